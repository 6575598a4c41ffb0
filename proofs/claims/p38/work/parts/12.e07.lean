set_option maxHeartbeats 40000000 in
set_option maxRecDepth 100000 in
theorem EGm_lies_89 : ∀ n : Nat, (∀ (y708 : Int32) (y709 : Int32) (y710 : Int32) (y711 : Int32) (y712 : Int32) (y713 : Int32) (y714 : Int32) (y715 : Int32) (y716 : Int32) (w : WM) (r : Int32) (w' : WM), Gm_lies_89 n 0 y708 y709 y710 y711 y712 y713 y714 y715 y716 w = some (r, w') → ∀ (P : Nat → ai_E) (T : ai_H), ai_ev D1 mm_lies 103 [some (.ref 89), some (.int y708), some (.int y709), some (.int y710), some (.int y711), some (.int y712), some (.int y713), some (.int y714), some (.int y715), some (.int y716)] [] (HM P w T) 0 0 (some (.int r), HM P w' T)) := by
  intro n
  induction n with
  | zero =>
    exact (fun _ _ _ _ _ _ _ _ _ _ _ _ h => by cases h)
  | succ n ih0 =>
    intro y708 y709 y710 y711 y712 y713 y714 y715 y716 w r w' h P T
    simp only [Gm_lies_89] at h
    refine ev_go 2 (pc' := 107) (L' := [some (.ref 89), some (.int y708), some (.int y709), some (.int y710), some (.int y711), some (.int y712), some (.int y713), some (.int y714), some (.int y715), some (.int y716)]) (st' := [.int 100, .int y716]) (h' := (HM P w T)) (cs' := 0) (sl' := 0) rfl ?_
    rcases ai_ifE h with ⟨hc, h⟩ | ⟨hc, h⟩
    · refine ev_ic_ge (t := 157) rfl rfl (fun _ => ?_) (fun c9 => absurd hc c9)
      refine ev_go 1 (pc' := 159) (L' := [some (.ref 89), some (.int y708), some (.int y709), some (.int y710), some (.int y711), some (.int y712), some (.int y713), some (.int y714), some (.int y715), some (.int y716)]) (st' := [.int y712]) (h' := (HM P w T)) (cs' := 0) (sl' := 0) rfl ?_
      rcases ai_ifE h with ⟨hc, h⟩ | ⟨hc, h⟩
      · refine ev_if_ne (t := 167) rfl rfl (fun c9 => absurd hc c9) (fun _ => ?_)
        refine ev_go 2 (pc' := 180) (L' := [some (.ref 89), some (.int y708), some (.int y709), some (.int y710), some (.int y711), some (.int y712), some (.int y713), some (.int y714), some (.int y715), some (.int y716)]) (st' := [.int y713]) (h' := (HM P w T)) (cs' := 0) (sl' := 0) rfl ?_
        obtain ⟨rfl, rfl⟩ := ai_smP h
        exact ev_end rfl
      · refine ev_if_ne (t := 167) rfl rfl (fun _ => ?_) (fun c9 => absurd c9 hc)
        refine ev_go 2 (pc' := 170) (L' := [some (.ref 89), some (.int y708), some (.int y709), some (.int y710), some (.int y711), some (.int y712), some (.int y713), some (.int y714), some (.int y715), some (.int y716)]) (st' := [.int 1, .int y712]) (h' := (HM P w T)) (cs' := 0) (sl' := 0) rfl ?_
        rcases ai_ifE h with ⟨hc, h⟩ | ⟨hc, h⟩
        · refine ev_ic_ne (t := 178) rfl rfl (fun c9 => absurd hc c9) (fun _ => ?_)
          refine ev_go 2 (pc' := 180) (L' := [some (.ref 89), some (.int y708), some (.int y709), some (.int y710), some (.int y711), some (.int y712), some (.int y713), some (.int y714), some (.int y715), some (.int y716)]) (st' := [.int y714]) (h' := (HM P w T)) (cs' := 0) (sl' := 0) rfl ?_
          obtain ⟨rfl, rfl⟩ := ai_smP h
          exact ev_end rfl
        · refine ev_ic_ne (t := 178) rfl rfl (fun _ => ?_) (fun c9 => absurd c9 hc)
          refine ev_go 1 (pc' := 180) (L' := [some (.ref 89), some (.int y708), some (.int y709), some (.int y710), some (.int y711), some (.int y712), some (.int y713), some (.int y714), some (.int y715), some (.int y716)]) (st' := [.int y715]) (h' := (HM P w T)) (cs' := 0) (sl' := 0) rfl ?_
          obtain ⟨rfl, rfl⟩ := ai_smP h
          exact ev_end rfl
    · refine ev_ic_ge (t := 157) rfl rfl (fun c9 => absurd c9 hc) (fun _ => ?_)
      refine ev_go 2 (pc' := 113) (L' := [some (.ref 89), some (.int y708), some (.int y709), some (.int y710), some (.int y711), some (.int y712), some (.int y713), some (.int y714), some (.int y715), some (.int y716)]) (st' := [.int y716, .ref 89]) (h' := (HM P w T)) (cs' := 0) (sl' := 0) rfl ?_
      refine ev_step rfl rfl rfl (PFM_8_180_89 rfl) ?_
      refine ev_go 2 (pc' := 118) (L' := [some (.ref 89), some (.int y708), some (.int y709), some (.int y710), some (.int y711), some (.int y712), some (.int y713), some (.int y714), some (.int y715), some (.int y716)]) (st' := [.int y709, .ref 89]) (h' := (HM P (u_m_weight w y716) T)) (cs' := 0) (sl' := 0) rfl ?_
      obtain ⟨c717, hq, h⟩ := ai_bdE h
      refine ev_call (M' := mm_comesDown) (L' := [some (.ref 89), some (.int y709), none, none, none]) (rest := []) (rv := none) (h' := (HM P c717 T)) rfl (Em_comesDown_89 n y709 (u_m_weight w y716) _ hq P T) ?_
      show ai_ev D1 mm_lies 121 [some (.ref 89), some (.int y708), some (.int y709), some (.int y710), some (.int y711), some (.int y712), some (.int y713), some (.int y714), some (.int y715), some (.int y716)] [] (HM P c717 T) 0 0 _
      refine ev_go 3 (pc' := 126) (L' := [some (.ref 89), some (.int y708), some (.int y709), some (.int y710), some (.int y711), some (.int y712), some (.int y713), some (.int y714), some (.int y715), some (.int y716)]) (st' := [.int y710, .int (a_m_restsIn c717)]) (h' := (HM P c717 T)) (cs' := 0) (sl' := 0) rfl ?_
      rcases ai_ifE h with ⟨hc, h⟩ | ⟨hc, h⟩
      · refine ev_ic_ne (t := 151) rfl rfl (fun c9 => absurd hc c9) (fun _ => ?_)
        refine ev_go 3 (pc' := 135) (L' := [some (.ref 89), some (.int y708), some (.int y709), some (.int y710), some (.int y711), some (.int y712), some (.int (y713 + 1)), some (.int y714), some (.int y715), some (.int y716)]) (st' := [.int (-1), .int y714]) (h' := (HM P c717 T)) (cs' := 0) (sl' := 0) rfl ?_
        rcases ai_ifE h with ⟨hc, h⟩ | ⟨hc, h⟩
        · refine ev_ic_ne (t := 143) rfl rfl (fun c9 => absurd hc c9) (fun _ => ?_)
          refine ev_go 7 (pc' := 103) (L' := [some (.ref 89), some (.int y708), some (.int y709), some (.int y710), some (.int y711), some (.int y712), some (.int (y713 + 1)), some (.int y716), some (.int y716), some (.int (y716 + 1))]) (st' := []) (h' := (HM P c717 T)) (cs' := 0) (sl' := 0) rfl ?_
          exact ih0 _ _ _ _ _ _ _ _ _ _ _ _ h P T
        · refine ev_ic_ne (t := 143) rfl rfl (fun _ => ?_) (fun c9 => absurd c9 hc)
          refine ev_go 6 (pc' := 103) (L' := [some (.ref 89), some (.int y708), some (.int y709), some (.int y710), some (.int y711), some (.int y712), some (.int (y713 + 1)), some (.int y714), some (.int y716), some (.int (y716 + 1))]) (st' := []) (h' := (HM P c717 T)) (cs' := 0) (sl' := 0) rfl ?_
          exact ih0 _ _ _ _ _ _ _ _ _ _ _ _ h P T
      · refine ev_ic_ne (t := 151) rfl rfl (fun _ => ?_) (fun c9 => absurd c9 hc)
        refine ev_go 2 (pc' := 103) (L' := [some (.ref 89), some (.int y708), some (.int y709), some (.int y710), some (.int y711), some (.int y712), some (.int y713), some (.int y714), some (.int y715), some (.int (y716 + 1))]) (st' := []) (h' := (HM P c717 T)) (cs' := 0) (sl' := 0) rfl ?_
        exact ih0 _ _ _ _ _ _ _ _ _ _ _ _ h P T
set_option maxHeartbeats 40000000 in
set_option maxRecDepth 100000 in
theorem Em_lies_89 (n : Nat) (x693 : Int32) (x694 : Int32) (x695 : Int32) (x696 : Int32) (x697 : Int32) (w : WM) (r : Int32) (w' : WM) (h : Fm_lies_89 n x693 x694 x695 x696 x697 w = some (r, w')) (P : Nat → ai_E) (T : ai_H) : ai_ev D1 mm_lies 0 [some (.ref 89), some (.int x693), some (.int x694), some (.int x695), some (.int x696), some (.int x697), none, none, none, none] [] (HM P w T) 0 0 (some (.int r), HM P w' T) := by
  unfold Fm_lies_89 at h
  have ih0 := EGm_lies_89 n
  refine ev_go 4 (pc' := 6) (L' := [some (.ref 89), some (.int x693), some (.int x694), some (.int x695), some (.int x696), some (.int x697), none, none, none, none]) (st' := [.long 9, .long 1, .long (x693).toInt64]) (h' := (HM P w T)) (cs' := 0) (sl' := 0) rfl ?_
  obtain ⟨c698, hq, h⟩ := ai_bdE h
  refine ev_call (M' := mm_in) (L' := [some (.long (x693).toInt64), none, some (.long 1), none, some (.long 9), none]) (rest := []) (rv := some (.int c698)) (h' := (HM P w T)) rfl (Em_in (x693).toInt64 1 9 _ hq (HM P w T)) ?_
  show ai_ev D1 mm_lies 9 [some (.ref 89), some (.int x693), some (.int x694), some (.int x695), some (.int x696), some (.int x697), none, none, none, none] [.int c698] (HM P w T) 0 0 _
  rcases ai_ifE h with ⟨hc, h⟩ | ⟨hc, h⟩
  · refine ev_if_eq (t := 58) rfl rfl (fun _ => ?_) (fun c9 => absurd hc c9)
    refine ev_go 2 (pc' := 61) (L' := [some (.ref 89), some (.int x693), some (.int x694), some (.int x695), some (.int x696), some (.int x697), none, none, none, none]) (st' := [.int (-10), .ref 89]) (h' := (HM P w T)) (cs' := 0) (sl' := 0) rfl ?_
    obtain ⟨c699, hq, h⟩ := ai_bdE h
    refine ev_call (M' := mm_badAs) (L' := [some (.ref 89), some (.int (-10))]) (rest := []) (rv := some (.int c699.1)) (h' := (HM P c699.2 T)) rfl (Em_badAs_89 (-10) w _ _ hq P T) ?_
    show ai_ev D1 mm_lies 64 [some (.ref 89), some (.int x693), some (.int x694), some (.int x695), some (.int x696), some (.int x697), none, none, none, none] [.int c699.1] (HM P c699.2 T) 0 0 _
    obtain ⟨rfl, rfl⟩ := ai_smP h
    exact ev_end rfl
  · refine ev_if_eq (t := 58) rfl rfl (fun c9 => absurd c9 hc) (fun _ => ?_)
    refine ev_go 2 (pc' := 14) (L' := [some (.ref 89), some (.int x693), some (.int x694), some (.int x695), some (.int x696), some (.int x697), none, none, none, none]) (st' := [.int x694, .ref 89]) (h' := (HM P w T)) (cs' := 0) (sl' := 0) rfl ?_
    obtain ⟨c700, hq, h⟩ := ai_bdE h
    refine ev_call (M' := mm_isCell) (L' := [some (.ref 89), some (.int x694)]) (rest := []) (rv := some (.int c700.1)) (h' := (HM P c700.2 T)) rfl (Em_isCell_89 x694 w _ _ hq P T) ?_
    show ai_ev D1 mm_lies 17 [some (.ref 89), some (.int x693), some (.int x694), some (.int x695), some (.int x696), some (.int x697), none, none, none, none] [.int c700.1] (HM P c700.2 T) 0 0 _
    rcases ai_ifE h with ⟨hc, h⟩ | ⟨hc, h⟩
    · refine ev_if_eq (t := 58) rfl rfl (fun _ => ?_) (fun c9 => absurd hc c9)
      refine ev_go 2 (pc' := 61) (L' := [some (.ref 89), some (.int x693), some (.int x694), some (.int x695), some (.int x696), some (.int x697), none, none, none, none]) (st' := [.int (-10), .ref 89]) (h' := (HM P c700.2 T)) (cs' := 0) (sl' := 0) rfl ?_
      obtain ⟨c701, hq, h⟩ := ai_bdE h
      refine ev_call (M' := mm_badAs) (L' := [some (.ref 89), some (.int (-10))]) (rest := []) (rv := some (.int c701.1)) (h' := (HM P c701.2 T)) rfl (Em_badAs_89 (-10) c700.2 _ _ hq P T) ?_
      show ai_ev D1 mm_lies 64 [some (.ref 89), some (.int x693), some (.int x694), some (.int x695), some (.int x696), some (.int x697), none, none, none, none] [.int c701.1] (HM P c701.2 T) 0 0 _
      obtain ⟨rfl, rfl⟩ := ai_smP h
      exact ev_end rfl
    · refine ev_if_eq (t := 58) rfl rfl (fun c9 => absurd c9 hc) (fun _ => ?_)
      refine ev_go 4 (pc' := 26) (L' := [some (.ref 89), some (.int x693), some (.int x694), some (.int x695), some (.int x696), some (.int x697), none, none, none, none]) (st' := [.long 4, .long 0, .long (x695).toInt64]) (h' := (HM P c700.2 T)) (cs' := 0) (sl' := 0) rfl ?_
      obtain ⟨c702, hq, h⟩ := ai_bdE h
      refine ev_call (M' := mm_in) (L' := [some (.long (x695).toInt64), none, some (.long 0), none, some (.long 4), none]) (rest := []) (rv := some (.int c702)) (h' := (HM P c700.2 T)) rfl (Em_in (x695).toInt64 0 4 _ hq (HM P c700.2 T)) ?_
      show ai_ev D1 mm_lies 29 [some (.ref 89), some (.int x693), some (.int x694), some (.int x695), some (.int x696), some (.int x697), none, none, none, none] [.int c702] (HM P c700.2 T) 0 0 _
      rcases ai_ifE h with ⟨hc, h⟩ | ⟨hc, h⟩
      · refine ev_if_eq (t := 58) rfl rfl (fun _ => ?_) (fun c9 => absurd hc c9)
        refine ev_go 2 (pc' := 61) (L' := [some (.ref 89), some (.int x693), some (.int x694), some (.int x695), some (.int x696), some (.int x697), none, none, none, none]) (st' := [.int (-10), .ref 89]) (h' := (HM P c700.2 T)) (cs' := 0) (sl' := 0) rfl ?_
        obtain ⟨c703, hq, h⟩ := ai_bdE h
        refine ev_call (M' := mm_badAs) (L' := [some (.ref 89), some (.int (-10))]) (rest := []) (rv := some (.int c703.1)) (h' := (HM P c703.2 T)) rfl (Em_badAs_89 (-10) c700.2 _ _ hq P T) ?_
        show ai_ev D1 mm_lies 64 [some (.ref 89), some (.int x693), some (.int x694), some (.int x695), some (.int x696), some (.int x697), none, none, none, none] [.int c703.1] (HM P c703.2 T) 0 0 _
        obtain ⟨rfl, rfl⟩ := ai_smP h
        exact ev_end rfl
      · refine ev_if_eq (t := 58) rfl rfl (fun c9 => absurd c9 hc) (fun _ => ?_)
        refine ev_go 4 (pc' := 39) (L' := [some (.ref 89), some (.int x693), some (.int x694), some (.int x695), some (.int x696), some (.int x697), none, none, none, none]) (st' := [.long 999, .long 0, .long (x696).toInt64]) (h' := (HM P c700.2 T)) (cs' := 0) (sl' := 0) rfl ?_
        obtain ⟨c704, hq, h⟩ := ai_bdE h
        refine ev_call (M' := mm_in) (L' := [some (.long (x696).toInt64), none, some (.long 0), none, some (.long 999), none]) (rest := []) (rv := some (.int c704)) (h' := (HM P c700.2 T)) rfl (Em_in (x696).toInt64 0 999 _ hq (HM P c700.2 T)) ?_
        show ai_ev D1 mm_lies 42 [some (.ref 89), some (.int x693), some (.int x694), some (.int x695), some (.int x696), some (.int x697), none, none, none, none] [.int c704] (HM P c700.2 T) 0 0 _
        rcases ai_ifE h with ⟨hc, h⟩ | ⟨hc, h⟩
        · refine ev_if_eq (t := 58) rfl rfl (fun _ => ?_) (fun c9 => absurd hc c9)
          refine ev_go 2 (pc' := 61) (L' := [some (.ref 89), some (.int x693), some (.int x694), some (.int x695), some (.int x696), some (.int x697), none, none, none, none]) (st' := [.int (-10), .ref 89]) (h' := (HM P c700.2 T)) (cs' := 0) (sl' := 0) rfl ?_
          obtain ⟨c705, hq, h⟩ := ai_bdE h
          refine ev_call (M' := mm_badAs) (L' := [some (.ref 89), some (.int (-10))]) (rest := []) (rv := some (.int c705.1)) (h' := (HM P c705.2 T)) rfl (Em_badAs_89 (-10) c700.2 _ _ hq P T) ?_
          show ai_ev D1 mm_lies 64 [some (.ref 89), some (.int x693), some (.int x694), some (.int x695), some (.int x696), some (.int x697), none, none, none, none] [.int c705.1] (HM P c705.2 T) 0 0 _
          obtain ⟨rfl, rfl⟩ := ai_smP h
          exact ev_end rfl
        · refine ev_if_eq (t := 58) rfl rfl (fun c9 => absurd c9 hc) (fun _ => ?_)
          refine ev_go 4 (pc' := 52) (L' := [some (.ref 89), some (.int x693), some (.int x694), some (.int x695), some (.int x696), some (.int x697), none, none, none, none]) (st' := [.long 2, .long 0, .long (x697).toInt64]) (h' := (HM P c700.2 T)) (cs' := 0) (sl' := 0) rfl ?_
          obtain ⟨c706, hq, h⟩ := ai_bdE h
          refine ev_call (M' := mm_in) (L' := [some (.long (x697).toInt64), none, some (.long 0), none, some (.long 2), none]) (rest := []) (rv := some (.int c706)) (h' := (HM P c700.2 T)) rfl (Em_in (x697).toInt64 0 2 _ hq (HM P c700.2 T)) ?_
          show ai_ev D1 mm_lies 55 [some (.ref 89), some (.int x693), some (.int x694), some (.int x695), some (.int x696), some (.int x697), none, none, none, none] [.int c706] (HM P c700.2 T) 0 0 _
          rcases ai_ifE h with ⟨hc, h⟩ | ⟨hc, h⟩
          · refine ev_if_ne (t := 65) rfl rfl (fun c9 => absurd hc c9) (fun _ => ?_)
            refine ev_go 2 (pc' := 61) (L' := [some (.ref 89), some (.int x693), some (.int x694), some (.int x695), some (.int x696), some (.int x697), none, none, none, none]) (st' := [.int (-10), .ref 89]) (h' := (HM P c700.2 T)) (cs' := 0) (sl' := 0) rfl ?_
            obtain ⟨c707, hq, h⟩ := ai_bdE h
            refine ev_call (M' := mm_badAs) (L' := [some (.ref 89), some (.int (-10))]) (rest := []) (rv := some (.int c707.1)) (h' := (HM P c707.2 T)) rfl (Em_badAs_89 (-10) c700.2 _ _ hq P T) ?_
            show ai_ev D1 mm_lies 64 [some (.ref 89), some (.int x693), some (.int x694), some (.int x695), some (.int x696), some (.int x697), none, none, none, none] [.int c707.1] (HM P c707.2 T) 0 0 _
            obtain ⟨rfl, rfl⟩ := ai_smP h
            exact ev_end rfl
          · refine ev_if_ne (t := 65) rfl rfl (fun _ => ?_) (fun c9 => absurd c9 hc)
            refine ev_go 2 (pc' := 67) (L' := [some (.ref 89), some (.int x693), some (.int x694), some (.int x695), some (.int x696), some (.int x697), none, none, none, none]) (st' := [.int 4, .ref 89]) (h' := (HM P c700.2 T)) (cs' := 0) (sl' := 0) rfl ?_
            refine ev_step rfl rfl rfl (PFM_8_177_89 rfl) ?_
            refine ev_go 2 (pc' := 72) (L' := [some (.ref 89), some (.int x693), some (.int x694), some (.int x695), some (.int x696), some (.int x697), none, none, none, none]) (st' := [.int x693, .ref 89]) (h' := (HM P (u_m_kind c700.2 4) T)) (cs' := 0) (sl' := 0) rfl ?_
            refine ev_step rfl rfl rfl (PFM_8_183_89 rfl) ?_
            refine ev_go 2 (pc' := 77) (L' := [some (.ref 89), some (.int x693), some (.int x694), some (.int x695), some (.int x696), some (.int x697), none, none, none, none]) (st' := [.int 0, .ref 89]) (h' := (HM P (u_m_volume (u_m_kind c700.2 4) x693) T)) (cs' := 0) (sl' := 0) rfl ?_
            refine ev_step rfl rfl rfl (PFM_8_186_89 rfl) ?_
            refine ev_go 2 (pc' := 83) (L' := [some (.ref 89), some (.int x693), some (.int x694), some (.int x695), some (.int x696), some (.int x697), none, none, none, none]) (st' := [.int x696, .ref 89]) (h' := (HM P (u_m_load (u_m_volume (u_m_kind c700.2 4) x693) 0) T)) (cs' := 0) (sl' := 0) rfl ?_
            refine ev_step rfl rfl rfl (PFM_8_189_89 rfl) ?_
            refine ev_go 2 (pc' := 88) (L' := [some (.ref 89), some (.int x693), some (.int x694), some (.int x695), some (.int x696), some (.int x697), none, none, none, none]) (st' := [.int 0, .ref 89]) (h' := (HM P (u_m_hour (u_m_load (u_m_volume (u_m_kind c700.2 4) x693) 0) x696) T)) (cs' := 0) (sl' := 0) rfl ?_
            refine ev_step rfl rfl rfl (PFM_8_192_89 rfl) ?_
            refine ev_go 8 (pc' := 103) (L' := [some (.ref 89), some (.int x693), some (.int x694), some (.int x695), some (.int x696), some (.int x697), some (.int 0), some (.int (-1)), some (.int (-1)), some (.int 1)]) (st' := []) (h' := (HM P (u_m_torn (u_m_hour (u_m_load (u_m_volume (u_m_kind c700.2 4) x693) 0) x696) 0) T)) (cs' := 0) (sl' := 0) rfl ?_
            exact ih0 _ _ _ _ _ _ _ _ _ _ _ _ h P T
set_option maxHeartbeats 40000000 in
set_option maxRecDepth 100000 in
theorem EGm_driftsTo_89 : ∀ n : Nat, (∀ (y732 : Int32) (y733 : Int32) (y734 : Int32) (w : WM) (r : Int32) (w' : WM), Gm_driftsTo_89 n 0 y732 y733 y734 0 0 w = some (r, w') → ∀ (P : Nat → ai_E) (T : ai_H) (o4 o5 : Option Value), ai_ev D1 mm_driftsTo 9 [some (.ref 89), some (.int y732), some (.int y733), some (.int y734), o4, o5] [] (HM P w T) 0 0 (some (.int r), HM P w' T)) ∧ (∀ (y737 : Int32) (y738 : Int32) (y739 : Int32) (y740 : Int32) (y741 : Int32) (w : WM) (r : Int32) (w' : WM), Gm_driftsTo_89 n 1 y737 y738 y739 y740 y741 w = some (r, w') → ∀ (P : Nat → ai_E) (T : ai_H), ai_ev D1 mm_driftsTo 44 [some (.ref 89), some (.int y737), some (.int y738), some (.int y739), some (.int y740), some (.int y741)] [] (HM P w T) 0 0 (some (.int r), HM P w' T)) := by
  intro n
  induction n with
  | zero =>
    exact ⟨(fun _ _ _ _ _ _ h => by cases h), (fun _ _ _ _ _ _ _ _ h => by cases h)⟩
  | succ n ih =>
    obtain ⟨ih0, ih1⟩ := ih
    refine ⟨?_, ?_⟩
    · intro y732 y733 y734 w r w' h P T o4 o5
      simp only [Gm_driftsTo_89] at h
      refine ev_go 2 (pc' := 11) (L' := [some (.ref 89), some (.int y732), some (.int y733), some (.int y734), o4, o5]) (st' := [.int 4, .int y734]) (h' := (HM P w T)) (cs' := 0) (sl' := 0) rfl ?_
      rcases ai_ifE h with ⟨hc, h⟩ | ⟨hc, h⟩
      · refine ev_ic_ge (t := 97) rfl rfl (fun _ => ?_) (fun c9 => absurd hc c9)
        refine ev_go 1 (pc' := 98) (L' := [some (.ref 89), some (.int y732), some (.int y733), some (.int y734), o4, o5]) (st' := [.int y733]) (h' := (HM P w T)) (cs' := 0) (sl' := 0) rfl ?_
        obtain ⟨rfl, rfl⟩ := ai_smP h
        exact ev_end rfl
      · refine ev_ic_ge (t := 97) rfl rfl (fun c9 => absurd c9 hc) (fun _ => ?_)
        refine ev_go 3 (pc' := 19) (L' := [some (.ref 89), some (.int y732), some (.int y733), some (.int y734), o4, o5]) (st' := [.int y734, .int (a_m_passes w)]) (h' := (HM P w T)) (cs' := 0) (sl' := 0) rfl ?_
        obtain ⟨c735, hq, h⟩ := ai_bdE h
        refine ev_call (M' := mm_has) (L' := [some (.int (a_m_passes w)), some (.int y734)]) (rest := []) (rv := some (.int c735)) (h' := (HM P w T)) rfl (Em_has (a_m_passes w) y734 _ hq (HM P w T)) ?_
        show ai_ev D1 mm_driftsTo 22 [some (.ref 89), some (.int y732), some (.int y733), some (.int y734), o4, o5] [.int c735] (HM P w T) 0 0 _
        rcases ai_ifE h with ⟨hc, h⟩ | ⟨hc, h⟩
        · refine ev_if_eq (t := 38) rfl rfl (fun _ => ?_) (fun c9 => absurd hc c9)
          refine ev_go 4 (pc' := 44) (L' := [some (.ref 89), some (.int y732), some (.int y733), some (.int y734), some (.int 0), some (.int 0)]) (st' := []) (h' := (HM P w T)) (cs' := 0) (sl' := 0) rfl ?_
          exact ih1 _ _ _ _ _ _ _ _ h P T
        · refine ev_if_eq (t := 38) rfl rfl (fun c9 => absurd c9 hc) (fun _ => ?_)
          refine ev_go 5 (pc' := 32) (L' := [some (.ref 89), some (.int y732), some (.int y733), some (.int y734), o4, o5]) (st' := [.int (a_m_hour w), .int y732, .int y734, .ref 89]) (h' := (HM P w T)) (cs' := 0) (sl' := 0) rfl ?_
          obtain ⟨c736, hq, h⟩ := ai_bdE h
          refine ev_call (M' := mm_thickIn) (L' := [some (.ref 89), some (.int y734), some (.int y732), some (.int (a_m_hour w)), none]) (rest := []) (rv := some (.int c736.1)) (h' := (HM P c736.2 T)) rfl (Em_thickIn_89 y734 y732 (a_m_hour w) w _ _ hq P T) ?_
          show ai_ev D1 mm_driftsTo 35 [some (.ref 89), some (.int y732), some (.int y733), some (.int y734), o4, o5] [.int c736.1] (HM P c736.2 T) 0 0 _
          refine ev_go 4 (pc' := 44) (L' := [some (.ref 89), some (.int y732), some (.int y733), some (.int y734), some (.int c736.1), some (.int 0)]) (st' := []) (h' := (HM P c736.2 T)) (cs' := 0) (sl' := 0) rfl ?_
          exact ih1 _ _ _ _ _ _ _ _ h P T
    · intro y737 y738 y739 y740 y741 w r w' h P T
      simp only [Gm_driftsTo_89] at h
      refine ev_go 2 (pc' := 48) (L' := [some (.ref 89), some (.int y737), some (.int y738), some (.int y739), some (.int y740), some (.int y741)]) (st' := [.int y740, .int y741]) (h' := (HM P w T)) (cs' := 0) (sl' := 0) rfl ?_
      rcases ai_ifE h with ⟨hc, h⟩ | ⟨hc, h⟩
      · refine ev_ic_ge (t := 91) rfl rfl (fun _ => ?_) (fun c9 => absurd hc c9)
        refine ev_go 2 (pc' := 9) (L' := [some (.ref 89), some (.int y737), some (.int y738), some (.int (y739 + 1)), some (.int y740), some (.int y741)]) (st' := []) (h' := (HM P w T)) (cs' := 0) (sl' := 0) rfl ?_
        exact ih0 _ _ _ _ _ _ h P T _ _
      · refine ev_ic_ge (t := 91) rfl rfl (fun c9 => absurd c9 hc) (fun _ => ?_)
        refine ev_go 7 (pc' := 61) (L' := [some (.ref 89), some (.int y737), some (.int y738), some (.int y739), some (.int y740), some (.int y741)]) (st' := [.int (12 + y739), .ref 90, .int y738, .ref 89]) (h' := (HM P w T)) (cs' := 0) (sl' := 0) rfl ?_
        obtain ⟨v742, hq, h⟩ := ai_bdE h
        refine ev_iald rfl rfl hq ?_
        refine ev_go 1 (pc' := 63) (L' := [some (.ref 89), some (.int y737), some (.int y738), some (.int y739), some (.int y740), some (.int y741)]) (st' := [.int (y738 + v742), .ref 89]) (h' := (HM P w T)) (cs' := 0) (sl' := 0) rfl ?_
        obtain ⟨c743, hq, h⟩ := ai_bdE h
        refine ev_call (M' := mm_isCell) (L' := [some (.ref 89), some (.int (y738 + v742))]) (rest := []) (rv := some (.int c743.1)) (h' := (HM P c743.2 T)) rfl (Em_isCell_89 (y738 + v742) w _ _ hq P T) ?_
        show ai_ev D1 mm_driftsTo 66 [some (.ref 89), some (.int y737), some (.int y738), some (.int y739), some (.int y740), some (.int y741)] [.int c743.1] (HM P c743.2 T) 0 0 _
        rcases ai_ifE h with ⟨hc, h⟩ | ⟨hc, h⟩
        · refine ev_if_eq (t := 83) rfl rfl (fun _ => ?_) (fun c9 => absurd hc c9)
          refine ev_go 4 (pc' := 44) (L' := [some (.ref 89), some (.int y737), some (.int y738), some (.int y739), some (.int y740), some (.int (y741 + 1))]) (st' := []) (h' := (HM P c743.2 T)) (cs' := 0) (sl' := 0) rfl ?_
          exact ih1 _ _ _ _ _ _ _ _ h P T
        · refine ev_if_eq (t := 83) rfl rfl (fun c9 => absurd c9 hc) (fun _ => ?_)
          refine ev_go 6 (pc' := 78) (L' := [some (.ref 89), some (.int y737), some (.int y738), some (.int y739), some (.int y740), some (.int y741)]) (st' := [.int (12 + y739), .ref 90, .int y738]) (h' := (HM P c743.2 T)) (cs' := 0) (sl' := 0) rfl ?_
          obtain ⟨v744, hq, h⟩ := ai_bdE h
          refine ev_iald rfl rfl hq ?_
          refine ev_go 5 (pc' := 44) (L' := [some (.ref 89), some (.int y737), some (.int (y738 + v744)), some (.int y739), some (.int y740), some (.int (y741 + 1))]) (st' := []) (h' := (HM P c743.2 T)) (cs' := 0) (sl' := 0) rfl ?_
          exact ih1 _ _ _ _ _ _ _ _ h P T
set_option maxHeartbeats 40000000 in
set_option maxRecDepth 100000 in
theorem Em_driftsTo_89 (n : Nat) (x730 : Int32) (w : WM) (r : Int32) (w' : WM) (h : Fm_driftsTo_89 n x730 w = some (r, w')) (P : Nat → ai_E) (T : ai_H) : ai_ev D1 mm_driftsTo 0 [some (.ref 89), some (.int x730), none, none, none, none] [] (HM P w T) 0 0 (some (.int r), HM P w' T) := by
  unfold Fm_driftsTo_89 at h
  obtain ⟨ih0, ih1⟩ := EGm_driftsTo_89 n
  refine ev_go 2 (pc' := 2) (L' := [some (.ref 89), some (.int x730), none, none, none, none]) (st' := [.int x730, .ref 89]) (h' := (HM P w T)) (cs' := 0) (sl' := 0) rfl ?_
  obtain ⟨c731, hq, h⟩ := ai_bdE h
  refine ev_call (M' := mm_comesDown) (L' := [some (.ref 89), some (.int x730), none, none, none]) (rest := []) (rv := none) (h' := (HM P c731 T)) rfl (Em_comesDown_89 n x730 w _ hq P T) ?_
  show ai_ev D1 mm_driftsTo 5 [some (.ref 89), some (.int x730), none, none, none, none] [] (HM P c731 T) 0 0 _
  refine ev_go 4 (pc' := 9) (L' := [some (.ref 89), some (.int x730), some (.int x730), some (.int 0), none, none]) (st' := []) (h' := (HM P c731 T)) (cs' := 0) (sl' := 0) rfl ?_
  exact ih0 _ _ _ _ _ _ h P T _ _
set_option maxHeartbeats 40000000 in
set_option maxRecDepth 100000 in
theorem EGm_wentIn_89 : ∀ n : Nat, (∀ (y725 : Int32) (y726 : Int32) (y727 : Int32) (y728 : Int32) (w : WM) (r : Int32) (w' : WM), Gm_wentIn_89 n 0 y725 y726 y727 y728 w = some (r, w') → ∀ (P : Nat → ai_E) (T : ai_H), ai_ev D1 mm_wentIn 31 [some (.ref 89), some (.int y725), some (.int y726), some (.int y727), some (.int y728)] [] (HM P w T) 0 0 (some (.int r), HM P w' T)) := by
  intro n
  induction n with
  | zero =>
    exact (fun _ _ _ _ _ _ _ h => by cases h)
  | succ n ih0 =>
    intro y725 y726 y727 y728 w r w' h P T
    simp only [Gm_wentIn_89] at h
    refine ev_go 4 (pc' := 38) (L' := [some (.ref 89), some (.int y725), some (.int y726), some (.int y727), some (.int y728)]) (st' := [.int 0, .ref 90, .int y728]) (h' := (HM P w T)) (cs' := 0) (sl' := 0) rfl ?_
    obtain ⟨v729, hq, h⟩ := ai_bdE h
    refine ev_iald rfl rfl hq ?_
    rcases ai_ifE h with ⟨hc, h⟩ | ⟨hc, h⟩
    · refine ev_ic_ge (t := 69) rfl rfl (fun _ => ?_) (fun c9 => absurd hc c9)
      refine ev_go 1 (pc' := 70) (L' := [some (.ref 89), some (.int y725), some (.int y726), some (.int y727), some (.int y728)]) (st' := [.int y727]) (h' := (HM P w T)) (cs' := 0) (sl' := 0) rfl ?_
      obtain ⟨rfl, rfl⟩ := ai_smP h
      exact ev_end rfl
    · refine ev_ic_ge (t := 69) rfl rfl (fun c9 => absurd c9 hc) (fun _ => ?_)
      refine ev_go 3 (pc' := 46) (L' := [some (.ref 89), some (.int y725), some (.int y726), some (.int y727), some (.int y728)]) (st' := [.int y728, .ref 89, .int y727]) (h' := (HM P w T)) (cs' := 0) (sl' := 0) rfl ?_
      obtain ⟨c745, hq, h⟩ := ai_bdE h
      refine ev_call (M' := mm_driftsTo) (L' := [some (.ref 89), some (.int y728), none, none, none, none]) (rest := [.int y727]) (rv := some (.int c745.1)) (h' := (HM P c745.2 T)) rfl (Em_driftsTo_89 n y728 w _ _ hq P T) ?_
      show ai_ev D1 mm_wentIn 49 [some (.ref 89), some (.int y725), some (.int y726), some (.int y727), some (.int y728)] [.int c745.1, .int y727] (HM P c745.2 T) 0 0 _
      refine ev_go 1 (pc' := 50) (L' := [some (.ref 89), some (.int y725), some (.int y726), some (.int y727), some (.int y728)]) (st' := [.int y726, .int c745.1, .int y727]) (h' := (HM P c745.2 T)) (cs' := 0) (sl' := 0) rfl ?_
      rcases ai_ifE h with ⟨hc, h⟩ | ⟨hc, h⟩
      · refine ev_ic_ne (t := 60) rfl rfl (fun c9 => absurd hc c9) (fun _ => ?_)
        refine ev_go 8 (pc' := 31) (L' := [some (.ref 89), some (.int y725), some (.int y726), some (.int (y727 ||| (1 <<< (y728 &&& 31)))), some (.int (y728 + 1))]) (st' := []) (h' := (HM P c745.2 T)) (cs' := 0) (sl' := 0) rfl ?_
        exact ih0 _ _ _ _ _ _ _ h P T
      · refine ev_ic_ne (t := 60) rfl rfl (fun _ => ?_) (fun c9 => absurd c9 hc)
        refine ev_go 5 (pc' := 31) (L' := [some (.ref 89), some (.int y725), some (.int y726), some (.int (y727 ||| 0)), some (.int (y728 + 1))]) (st' := []) (h' := (HM P c745.2 T)) (cs' := 0) (sl' := 0) rfl ?_
        exact ih0 _ _ _ _ _ _ _ h P T
set_option maxHeartbeats 40000000 in
set_option maxRecDepth 100000 in
theorem Em_wentIn_89 (n : Nat) (x718 : Int32) (x719 : Int32) (w : WM) (r : Int32) (w' : WM) (h : Fm_wentIn_89 n x718 x719 w = some (r, w')) (P : Nat → ai_E) (T : ai_H) : ai_ev D1 mm_wentIn 0 [some (.ref 89), some (.int x718), some (.int x719), none, none] [] (HM P w T) 0 0 (some (.int r), HM P w' T) := by
  unfold Fm_wentIn_89 at h
  have ih0 := EGm_wentIn_89 n
  refine ev_go 2 (pc' := 2) (L' := [some (.ref 89), some (.int x718), some (.int x719), none, none]) (st' := [.int x718, .ref 89]) (h' := (HM P w T)) (cs' := 0) (sl' := 0) rfl ?_
  obtain ⟨c720, hq, h⟩ := ai_bdE h
  refine ev_call (M' := mm_isThing) (L' := [some (.ref 89), some (.int x718)]) (rest := []) (rv := some (.int c720.1)) (h' := (HM P c720.2 T)) rfl (Em_isThing_89 x718 w _ _ hq P T) ?_
  show ai_ev D1 mm_wentIn 5 [some (.ref 89), some (.int x718), some (.int x719), none, none] [.int c720.1] (HM P c720.2 T) 0 0 _
  rcases ai_ifE h with ⟨hc, h⟩ | ⟨hc, h⟩
  · refine ev_if_eq (t := 16) rfl rfl (fun _ => ?_) (fun c9 => absurd hc c9)
    refine ev_go 1 (pc' := 17) (L' := [some (.ref 89), some (.int x718), some (.int x719), none, none]) (st' := [.ref 89]) (h' := (HM P c720.2 T)) (cs' := 0) (sl' := 0) rfl ?_
    obtain ⟨c721, hq, h⟩ := ai_bdE h
    refine ev_call (M' := mm_bad) (L' := [some (.ref 89)]) (rest := []) (rv := some (.int c721.1)) (h' := (HM P c721.2 T)) rfl (Em_bad_89 c720.2 _ _ hq P T) ?_
    show ai_ev D1 mm_wentIn 20 [some (.ref 89), some (.int x718), some (.int x719), none, none] [.int c721.1] (HM P c721.2 T) 0 0 _
    obtain ⟨rfl, rfl⟩ := ai_smP h
    exact ev_end rfl
  · refine ev_if_eq (t := 16) rfl rfl (fun c9 => absurd c9 hc) (fun _ => ?_)
    refine ev_go 2 (pc' := 10) (L' := [some (.ref 89), some (.int x718), some (.int x719), none, none]) (st' := [.int x719, .ref 89]) (h' := (HM P c720.2 T)) (cs' := 0) (sl' := 0) rfl ?_
    obtain ⟨c722, hq, h⟩ := ai_bdE h
    refine ev_call (M' := mm_isCell) (L' := [some (.ref 89), some (.int x719)]) (rest := []) (rv := some (.int c722.1)) (h' := (HM P c722.2 T)) rfl (Em_isCell_89 x719 c720.2 _ _ hq P T) ?_
    show ai_ev D1 mm_wentIn 13 [some (.ref 89), some (.int x718), some (.int x719), none, none] [.int c722.1] (HM P c722.2 T) 0 0 _
    rcases ai_ifE h with ⟨hc, h⟩ | ⟨hc, h⟩
    · refine ev_if_ne (t := 21) rfl rfl (fun c9 => absurd hc c9) (fun _ => ?_)
      refine ev_go 1 (pc' := 17) (L' := [some (.ref 89), some (.int x718), some (.int x719), none, none]) (st' := [.ref 89]) (h' := (HM P c722.2 T)) (cs' := 0) (sl' := 0) rfl ?_
      obtain ⟨c724, hq, h⟩ := ai_bdE h
      refine ev_call (M' := mm_bad) (L' := [some (.ref 89)]) (rest := []) (rv := some (.int c724.1)) (h' := (HM P c724.2 T)) rfl (Em_bad_89 c722.2 _ _ hq P T) ?_
      show ai_ev D1 mm_wentIn 20 [some (.ref 89), some (.int x718), some (.int x719), none, none] [.int c724.1] (HM P c724.2 T) 0 0 _
      obtain ⟨rfl, rfl⟩ := ai_smP h
      exact ev_end rfl
    · refine ev_if_ne (t := 21) rfl rfl (fun _ => ?_) (fun c9 => absurd c9 hc)
      refine ev_go 2 (pc' := 23) (L' := [some (.ref 89), some (.int x718), some (.int x719), none, none]) (st' := [.int x718, .ref 89]) (h' := (HM P c722.2 T)) (cs' := 0) (sl' := 0) rfl ?_
      obtain ⟨c723, hq, h⟩ := ai_bdE h
      refine ev_call (M' := mm_lay) (L' := [some (.ref 89), some (.int x718)]) (rest := []) (rv := none) (h' := (HM P c723 T)) rfl (Em_lay_89 x718 c722.2 _ hq P T) ?_
      show ai_ev D1 mm_wentIn 26 [some (.ref 89), some (.int x718), some (.int x719), none, none] [] (HM P c723 T) 0 0 _
      refine ev_go 4 (pc' := 31) (L' := [some (.ref 89), some (.int x718), some (.int x719), some (.int 0), some (.int 0)]) (st' := []) (h' := (HM P c723 T)) (cs' := 0) (sl' := 0) rfl ?_
      exact ih0 _ _ _ _ _ _ _ h P T
set_option maxHeartbeats 40000000 in
set_option maxRecDepth 100000 in
theorem EGm_nets_89 : ∀ n : Nat, (∀ (y756 : Int32) (y757 : Int32) (y758 : Int32) (y759 : Int32) (w : WM) (r : Int32) (w' : WM), Gm_nets_89 n 0 y756 y757 y758 y759 0 0 0 0 0 0 w = some (r, w') → ∀ (P : Nat → ai_E) (T : ai_H) (o5 o6 o7 o8 o9 o10 : Option Value), ai_ev D1 mm_nets 48 [some (.ref 89), some (.int y756), some (.int y757), some (.int y758), some (.int y759), o5, o6, o7, o8, o9, o10] [] (HM P w T) 0 0 (some (.int r), HM P w' T)) ∧ (∀ (y764 : Int32) (y765 : Int32) (y766 : Int32) (y767 : Int32) (y768 : Int32) (y769 : Int32) (w : WM) (r : Int32) (w' : WM), Gm_nets_89 n 1 y764 y765 y766 y767 y768 y769 0 0 0 0 w = some (r, w') → ∀ (P : Nat → ai_E) (T : ai_H) (o7 o8 o9 o10 : Option Value), ai_ev D1 mm_nets 104 [some (.ref 89), some (.int y764), some (.int y765), some (.int y766), some (.int y767), some (.int y768), some (.int y769), o7, o8, o9, o10] [] (HM P w T) 0 0 (some (.int r), HM P w' T)) ∧ (∀ (y770 : Int32) (y771 : Int32) (y772 : Int32) (y773 : Int32) (y774 : Int32) (y775 : Int32) (y776 : Int32) (y777 : Int32) (y778 : Int32) (y779 : Int32) (w : WM) (r : Int32) (w' : WM), Gm_nets_89 n 2 y770 y771 y772 y773 y774 y775 y776 y777 y778 y779 w = some (r, w') → ∀ (P : Nat → ai_E) (T : ai_H), ai_ev D1 mm_nets 143 [some (.ref 89), some (.int y770), some (.int y771), some (.int y772), some (.int y773), some (.int y774), some (.int y775), some (.int y776), some (.int y777), some (.int y778), some (.int y779)] [] (HM P w T) 0 0 (some (.int r), HM P w' T)) := by
  intro n
  induction n with
  | zero =>
    exact ⟨(fun _ _ _ _ _ _ _ h => by cases h), (fun _ _ _ _ _ _ _ _ _ h => by cases h), (fun _ _ _ _ _ _ _ _ _ _ _ _ _ h => by cases h)⟩
  | succ n ih =>
    obtain ⟨ih0, ih1, ih2⟩ := ih
    refine ⟨?_, ?_, ?_⟩
    · intro y756 y757 y758 y759 w r w' h P T o5 o6 o7 o8 o9 o10
      simp only [Gm_nets_89] at h
      refine ev_go 4 (pc' := 55) (L' := [some (.ref 89), some (.int y756), some (.int y757), some (.int y758), some (.int y759), o5, o6, o7, o8, o9, o10]) (st' := [.int 2, .ref 90, .int y759]) (h' := (HM P w T)) (cs' := 0) (sl' := 0) rfl ?_
      obtain ⟨v760, hq, h⟩ := ai_bdE h
      refine ev_iald rfl rfl hq ?_
      rcases ai_ifE h with ⟨hc, h⟩ | ⟨hc, h⟩
      · refine ev_ic_ge (t := 95) rfl rfl (fun _ => ?_) (fun c9 => absurd hc c9)
        refine ev_go 6 (pc' := 104) (L' := [some (.ref 89), some (.int y756), some (.int y757), some (.int y758), some (.int 0), some (.int (-1)), some (.int 0), o7, o8, o9, o10]) (st' := []) (h' := (HM P w T)) (cs' := 0) (sl' := 0) rfl ?_
        exact ih1 _ _ _ _ _ _ _ _ _ h P T _ _ _ _
      · refine ev_ic_ge (t := 95) rfl rfl (fun c9 => absurd c9 hc) (fun _ => ?_)
        refine ev_go 2 (pc' := 62) (L' := [some (.ref 89), some (.int y756), some (.int y757), some (.int y758), some (.int y759), o5, o6, o7, o8, o9, o10]) (st' := [.int y759, .int y757]) (h' := (HM P w T)) (cs' := 0) (sl' := 0) rfl ?_
        obtain ⟨c761, hq, h⟩ := ai_bdE h
        refine ev_call (M' := mm_has) (L' := [some (.int y757), some (.int y759)]) (rest := []) (rv := some (.int c761)) (h' := (HM P w T)) rfl (Em_has y757 y759 _ hq (HM P w T)) ?_
        show ai_ev D1 mm_nets 65 [some (.ref 89), some (.int y756), some (.int y757), some (.int y758), some (.int y759), o5, o6, o7, o8, o9, o10] [.int c761] (HM P w T) 0 0 _
        rcases ai_ifE h with ⟨hc, h⟩ | ⟨hc, h⟩
        · refine ev_if_eq (t := 89) rfl rfl (fun _ => ?_) (fun c9 => absurd hc c9)
          refine ev_go 2 (pc' := 48) (L' := [some (.ref 89), some (.int y756), some (.int y757), some (.int y758), some (.int (y759 + 1)), o5, o6, o7, o8, o9, o10]) (st' := []) (h' := (HM P w T)) (cs' := 0) (sl' := 0) rfl ?_
          exact ih0 _ _ _ _ _ _ _ h P T _ _ _ _ _ _
        · refine ev_if_eq (t := 89) rfl rfl (fun c9 => absurd c9 hc) (fun _ => ?_)
          refine ev_go 5 (pc' := 77) (L' := [some (.ref 89), some (.int y756), some (.int y757), some (.int y758), some (.int y759), o5, o6, o7, o8, o9, o10]) (st' := [.int (67 + y759), .ref 90]) (h' := (HM P w T)) (cs' := 0) (sl' := 0) rfl ?_
          obtain ⟨v762, hq, h⟩ := ai_bdE h
          refine ev_iald rfl rfl hq ?_
          refine ev_go 1 (pc' := 79) (L' := [some (.ref 89), some (.int y756), some (.int y757), some (.int y758), some (.int y759), o5, o6, o7, o8, o9, o10]) (st' := [.int 5, .int v762]) (h' := (HM P w T)) (cs' := 0) (sl' := 0) rfl ?_
          rcases ai_ifE h with ⟨hc, h⟩ | ⟨hc, h⟩
          · refine ev_ic_eq (t := 89) rfl rfl (fun _ => ?_) (fun c9 => absurd hc c9)
            refine ev_go 2 (pc' := 48) (L' := [some (.ref 89), some (.int y756), some (.int y757), some (.int y758), some (.int (y759 + 1)), o5, o6, o7, o8, o9, o10]) (st' := []) (h' := (HM P w T)) (cs' := 0) (sl' := 0) rfl ?_
            exact ih0 _ _ _ _ _ _ _ h P T _ _ _ _ _ _
          · refine ev_ic_eq (t := 89) rfl rfl (fun c9 => absurd c9 hc) (fun _ => ?_)
            refine ev_go 2 (pc' := 85) (L' := [some (.ref 89), some (.int y756), some (.int y757), some (.int y758), some (.int y759), o5, o6, o7, o8, o9, o10]) (st' := [.int (-10), .ref 89]) (h' := (HM P w T)) (cs' := 0) (sl' := 0) rfl ?_
            obtain ⟨c763, hq, h⟩ := ai_bdE h
            refine ev_call (M' := mm_badAs) (L' := [some (.ref 89), some (.int (-10))]) (rest := []) (rv := some (.int c763.1)) (h' := (HM P c763.2 T)) rfl (Em_badAs_89 (-10) w _ _ hq P T) ?_
            show ai_ev D1 mm_nets 88 [some (.ref 89), some (.int y756), some (.int y757), some (.int y758), some (.int y759), o5, o6, o7, o8, o9, o10] [.int c763.1] (HM P c763.2 T) 0 0 _
            obtain ⟨rfl, rfl⟩ := ai_smP h
            exact ev_end rfl
    · intro y764 y765 y766 y767 y768 y769 w r w' h P T o7 o8 o9 o10
      simp only [Gm_nets_89] at h
      refine ev_go 2 (pc' := 109) (L' := [some (.ref 89), some (.int y764), some (.int y765), some (.int y766), some (.int y767), some (.int y768), some (.int y769), o7, o8, o9, o10]) (st' := [.int 3721, .int y769]) (h' := (HM P w T)) (cs' := 0) (sl' := 0) rfl ?_
      rcases ai_ifE h with ⟨hc, h⟩ | ⟨hc, h⟩
      · refine ev_ic_ge (t := 266) rfl rfl (fun _ => ?_) (fun c9 => absurd hc c9)
        refine ev_go 1 (pc' := 267) (L' := [some (.ref 89), some (.int y764), some (.int y765), some (.int y766), some (.int y767), some (.int y768), some (.int y769), o7, o8, o9, o10]) (st' := [.int y766]) (h' := (HM P w T)) (cs' := 0) (sl' := 0) rfl ?_
        rcases ai_ifE h with ⟨hc, h⟩ | ⟨hc, h⟩
        · refine ev_if_ne (t := 275) rfl rfl (fun c9 => absurd hc c9) (fun _ => ?_)
          refine ev_go 2 (pc' := 277) (L' := [some (.ref 89), some (.int y764), some (.int y765), some (.int y766), some (.int y767), some (.int y768), some (.int y769), o7, o8, o9, o10]) (st' := [.int y767]) (h' := (HM P w T)) (cs' := 0) (sl' := 0) rfl ?_
          obtain ⟨rfl, rfl⟩ := ai_smP h
          exact ev_end rfl
        · refine ev_if_ne (t := 275) rfl rfl (fun _ => ?_) (fun c9 => absurd c9 hc)
          refine ev_go 1 (pc' := 277) (L' := [some (.ref 89), some (.int y764), some (.int y765), some (.int y766), some (.int y767), some (.int y768), some (.int y769), o7, o8, o9, o10]) (st' := [.int y768]) (h' := (HM P w T)) (cs' := 0) (sl' := 0) rfl ?_
          obtain ⟨rfl, rfl⟩ := ai_smP h
          exact ev_end rfl
      · refine ev_ic_ge (t := 266) rfl rfl (fun c9 => absurd c9 hc) (fun _ => ?_)
        refine ev_go 10 (pc' := 130) (L' := [some (.ref 89), some (.int y764), some (.int y765), some (.int y766), some (.int y767), some (.int y768), some (.int y769), some (.int (y769 / 61)), some (.int (y769 - y769 / 61 * 61)), o9, o10]) (st' := [.int (y769 - y769 / 61 * 61), .int (y769 / 61)]) (h' := (HM P w T)) (cs' := 0) (sl' := 0) rfl ?_
        rcases ai_ifE h with ⟨hc, h⟩ | ⟨hc, h⟩
        · refine ev_ic_gt (t := 137) rfl rfl (fun _ => ?_) (fun c9 => absurd hc c9)
          refine ev_go 4 (pc' := 143) (L' := [some (.ref 89), some (.int y764), some (.int y765), some (.int y766), some (.int y767), some (.int y768), some (.int y769), some (.int (y769 / 61)), some (.int (y769 - y769 / 61 * 61)), some (.int 0), some (.int 0)]) (st' := []) (h' := (HM P w T)) (cs' := 0) (sl' := 0) rfl ?_
          exact ih2 _ _ _ _ _ _ _ _ _ _ _ _ _ h P T
        · refine ev_ic_gt (t := 137) rfl rfl (fun c9 => absurd c9 hc) (fun _ => ?_)
          refine ev_go 5 (pc' := 143) (L' := [some (.ref 89), some (.int y764), some (.int y765), some (.int y766), some (.int y767), some (.int y768), some (.int y769), some (.int (y769 / 61)), some (.int (y769 - y769 / 61 * 61)), some (.int 1), some (.int 0)]) (st' := []) (h' := (HM P w T)) (cs' := 0) (sl' := 0) rfl ?_
          exact ih2 _ _ _ _ _ _ _ _ _ _ _ _ _ h P T
    · intro y770 y771 y772 y773 y774 y775 y776 y777 y778 y779 w r w' h P T
      simp only [Gm_nets_89] at h
      refine ev_go 4 (pc' := 150) (L' := [some (.ref 89), some (.int y770), some (.int y771), some (.int y772), some (.int y773), some (.int y774), some (.int y775), some (.int y776), some (.int y777), some (.int y778), some (.int y779)]) (st' := [.int 2, .ref 90, .int y779]) (h' := (HM P w T)) (cs' := 0) (sl' := 0) rfl ?_
      obtain ⟨v780, hq, h⟩ := ai_bdE h
      refine ev_iald rfl rfl hq ?_
      rcases ai_ifE h with ⟨hc, h⟩ | ⟨hc, h⟩
      · refine ev_ic_ge (t := 220) rfl rfl (fun _ => ?_) (fun c9 => absurd hc c9)
        refine ev_go 1 (pc' := 222) (L' := [some (.ref 89), some (.int y770), some (.int y771), some (.int y772), some (.int y773), some (.int y774), some (.int y775), some (.int y776), some (.int y777), some (.int y778), some (.int y779)]) (st' := [.int y778]) (h' := (HM P w T)) (cs' := 0) (sl' := 0) rfl ?_
        rcases ai_ifE h with ⟨hc, h⟩ | ⟨hc, h⟩
        · refine ev_if_eq (t := 241) rfl rfl (fun _ => ?_) (fun c9 => absurd hc c9)
          refine ev_go 4 (pc' := 249) (L' := [some (.ref 89), some (.int y770), some (.int y771), some (.int y772), some (.int y773), some (.int y774), some (.int y775), some (.int y776), some (.int y777), some (.int y778), some (.int y779)]) (st' := [.int y778, .int y773]) (h' := (HM P w T)) (cs' := 0) (sl' := 0) rfl ?_
          rcases ai_ifE h with ⟨hc, h⟩ | ⟨hc, h⟩
          · refine ev_if_eq (t := 256) rfl rfl (fun _ => ?_) (fun c9 => absurd hc c9)
            refine ev_go 5 (pc' := 104) (L' := [some (.ref 89), some (.int y770), some (.int y771), some (.int y772), some (.int (y773 + 0)), some (.int y774), some (.int (y775 + 1)), some (.int y776), some (.int y777), some (.int y778), some (.int y779)]) (st' := []) (h' := (HM P w T)) (cs' := 0) (sl' := 0) rfl ?_
            exact ih1 _ _ _ _ _ _ _ _ _ h P T _ _ _ _
          · refine ev_if_eq (t := 256) rfl rfl (fun c9 => absurd c9 hc) (fun _ => ?_)
            refine ev_go 6 (pc' := 104) (L' := [some (.ref 89), some (.int y770), some (.int y771), some (.int y772), some (.int (y773 + 1)), some (.int y774), some (.int (y775 + 1)), some (.int y776), some (.int y777), some (.int y778), some (.int y779)]) (st' := []) (h' := (HM P w T)) (cs' := 0) (sl' := 0) rfl ?_
            exact ih1 _ _ _ _ _ _ _ _ _ h P T _ _ _ _
        · refine ev_if_eq (t := 241) rfl rfl (fun c9 => absurd c9 hc) (fun _ => ?_)
          refine ev_go 1 (pc' := 227) (L' := [some (.ref 89), some (.int y770), some (.int y771), some (.int y772), some (.int y773), some (.int y774), some (.int y775), some (.int y776), some (.int y777), some (.int y778), some (.int y779)]) (st' := [.int y773]) (h' := (HM P w T)) (cs' := 0) (sl' := 0) rfl ?_
          rcases ai_ifE h with ⟨hc, h⟩ | ⟨hc, h⟩
          · refine ev_if_ne (t := 241) rfl rfl (fun c9 => absurd hc c9) (fun _ => ?_)
            refine ev_go 9 (pc' := 249) (L' := [some (.ref 89), some (.int y770), some (.int y771), some (.int y772), some (.int y773), some (.int ((100 * y776) + y777)), some (.int y775), some (.int y776), some (.int y777), some (.int y778), some (.int y779)]) (st' := [.int y778, .int y773]) (h' := (HM P w T)) (cs' := 0) (sl' := 0) rfl ?_
            rcases ai_ifE h with ⟨hc, h⟩ | ⟨hc, h⟩
            · refine ev_if_eq (t := 256) rfl rfl (fun _ => ?_) (fun c9 => absurd hc c9)
              refine ev_go 5 (pc' := 104) (L' := [some (.ref 89), some (.int y770), some (.int y771), some (.int y772), some (.int (y773 + 0)), some (.int ((100 * y776) + y777)), some (.int (y775 + 1)), some (.int y776), some (.int y777), some (.int y778), some (.int y779)]) (st' := []) (h' := (HM P w T)) (cs' := 0) (sl' := 0) rfl ?_
              exact ih1 _ _ _ _ _ _ _ _ _ h P T _ _ _ _
            · refine ev_if_eq (t := 256) rfl rfl (fun c9 => absurd c9 hc) (fun _ => ?_)
              refine ev_go 6 (pc' := 104) (L' := [some (.ref 89), some (.int y770), some (.int y771), some (.int y772), some (.int (y773 + 1)), some (.int ((100 * y776) + y777)), some (.int (y775 + 1)), some (.int y776), some (.int y777), some (.int y778), some (.int y779)]) (st' := []) (h' := (HM P w T)) (cs' := 0) (sl' := 0) rfl ?_
              exact ih1 _ _ _ _ _ _ _ _ _ h P T _ _ _ _
          · refine ev_if_ne (t := 241) rfl rfl (fun _ => ?_) (fun c9 => absurd c9 hc)
            refine ev_go 4 (pc' := 249) (L' := [some (.ref 89), some (.int y770), some (.int y771), some (.int y772), some (.int y773), some (.int y774), some (.int y775), some (.int y776), some (.int y777), some (.int y778), some (.int y779)]) (st' := [.int y778, .int y773]) (h' := (HM P w T)) (cs' := 0) (sl' := 0) rfl ?_
            rcases ai_ifE h with ⟨hc, h⟩ | ⟨hc, h⟩
            · refine ev_if_eq (t := 256) rfl rfl (fun _ => ?_) (fun c9 => absurd hc c9)
              refine ev_go 5 (pc' := 104) (L' := [some (.ref 89), some (.int y770), some (.int y771), some (.int y772), some (.int (y773 + 0)), some (.int y774), some (.int (y775 + 1)), some (.int y776), some (.int y777), some (.int y778), some (.int y779)]) (st' := []) (h' := (HM P w T)) (cs' := 0) (sl' := 0) rfl ?_
              exact ih1 _ _ _ _ _ _ _ _ _ h P T _ _ _ _
            · refine ev_if_eq (t := 256) rfl rfl (fun c9 => absurd c9 hc) (fun _ => ?_)
              refine ev_go 6 (pc' := 104) (L' := [some (.ref 89), some (.int y770), some (.int y771), some (.int y772), some (.int (y773 + 1)), some (.int y774), some (.int (y775 + 1)), some (.int y776), some (.int y777), some (.int y778), some (.int y779)]) (st' := []) (h' := (HM P w T)) (cs' := 0) (sl' := 0) rfl ?_
              exact ih1 _ _ _ _ _ _ _ _ _ h P T _ _ _ _
      · refine ev_ic_ge (t := 220) rfl rfl (fun c9 => absurd c9 hc) (fun _ => ?_)
        refine ev_go 1 (pc' := 156) (L' := [some (.ref 89), some (.int y770), some (.int y771), some (.int y772), some (.int y773), some (.int y774), some (.int y775), some (.int y776), some (.int y777), some (.int y778), some (.int y779)]) (st' := [.int y778]) (h' := (HM P w T)) (cs' := 0) (sl' := 0) rfl ?_
        rcases ai_ifE h with ⟨hc, h⟩ | ⟨hc, h⟩
        · refine ev_if_eq (t := 220) rfl rfl (fun _ => ?_) (fun c9 => absurd hc c9)
          refine ev_go 1 (pc' := 222) (L' := [some (.ref 89), some (.int y770), some (.int y771), some (.int y772), some (.int y773), some (.int y774), some (.int y775), some (.int y776), some (.int y777), some (.int y778), some (.int y779)]) (st' := [.int y778]) (h' := (HM P w T)) (cs' := 0) (sl' := 0) rfl ?_
          rcases ai_ifE h with ⟨hc, h⟩ | ⟨hc, h⟩
          · refine ev_if_eq (t := 241) rfl rfl (fun _ => ?_) (fun c9 => absurd hc c9)
            refine ev_go 4 (pc' := 249) (L' := [some (.ref 89), some (.int y770), some (.int y771), some (.int y772), some (.int y773), some (.int y774), some (.int y775), some (.int y776), some (.int y777), some (.int y778), some (.int y779)]) (st' := [.int y778, .int y773]) (h' := (HM P w T)) (cs' := 0) (sl' := 0) rfl ?_
            rcases ai_ifE h with ⟨hc, h⟩ | ⟨hc, h⟩
            · refine ev_if_eq (t := 256) rfl rfl (fun _ => ?_) (fun c9 => absurd hc c9)
              refine ev_go 5 (pc' := 104) (L' := [some (.ref 89), some (.int y770), some (.int y771), some (.int y772), some (.int (y773 + 0)), some (.int y774), some (.int (y775 + 1)), some (.int y776), some (.int y777), some (.int y778), some (.int y779)]) (st' := []) (h' := (HM P w T)) (cs' := 0) (sl' := 0) rfl ?_
              exact ih1 _ _ _ _ _ _ _ _ _ h P T _ _ _ _
            · refine ev_if_eq (t := 256) rfl rfl (fun c9 => absurd c9 hc) (fun _ => ?_)
              refine ev_go 6 (pc' := 104) (L' := [some (.ref 89), some (.int y770), some (.int y771), some (.int y772), some (.int (y773 + 1)), some (.int y774), some (.int (y775 + 1)), some (.int y776), some (.int y777), some (.int y778), some (.int y779)]) (st' := []) (h' := (HM P w T)) (cs' := 0) (sl' := 0) rfl ?_
              exact ih1 _ _ _ _ _ _ _ _ _ h P T _ _ _ _
          · refine ev_if_eq (t := 241) rfl rfl (fun c9 => absurd c9 hc) (fun _ => ?_)
            refine ev_go 1 (pc' := 227) (L' := [some (.ref 89), some (.int y770), some (.int y771), some (.int y772), some (.int y773), some (.int y774), some (.int y775), some (.int y776), some (.int y777), some (.int y778), some (.int y779)]) (st' := [.int y773]) (h' := (HM P w T)) (cs' := 0) (sl' := 0) rfl ?_
            rcases ai_ifE h with ⟨hc, h⟩ | ⟨hc, h⟩
            · refine ev_if_ne (t := 241) rfl rfl (fun c9 => absurd hc c9) (fun _ => ?_)
              refine ev_go 9 (pc' := 249) (L' := [some (.ref 89), some (.int y770), some (.int y771), some (.int y772), some (.int y773), some (.int ((100 * y776) + y777)), some (.int y775), some (.int y776), some (.int y777), some (.int y778), some (.int y779)]) (st' := [.int y778, .int y773]) (h' := (HM P w T)) (cs' := 0) (sl' := 0) rfl ?_
              rcases ai_ifE h with ⟨hc, h⟩ | ⟨hc, h⟩
              · refine ev_if_eq (t := 256) rfl rfl (fun _ => ?_) (fun c9 => absurd hc c9)
                refine ev_go 5 (pc' := 104) (L' := [some (.ref 89), some (.int y770), some (.int y771), some (.int y772), some (.int (y773 + 0)), some (.int ((100 * y776) + y777)), some (.int (y775 + 1)), some (.int y776), some (.int y777), some (.int y778), some (.int y779)]) (st' := []) (h' := (HM P w T)) (cs' := 0) (sl' := 0) rfl ?_
                exact ih1 _ _ _ _ _ _ _ _ _ h P T _ _ _ _
              · refine ev_if_eq (t := 256) rfl rfl (fun c9 => absurd c9 hc) (fun _ => ?_)
                refine ev_go 6 (pc' := 104) (L' := [some (.ref 89), some (.int y770), some (.int y771), some (.int y772), some (.int (y773 + 1)), some (.int ((100 * y776) + y777)), some (.int (y775 + 1)), some (.int y776), some (.int y777), some (.int y778), some (.int y779)]) (st' := []) (h' := (HM P w T)) (cs' := 0) (sl' := 0) rfl ?_
                exact ih1 _ _ _ _ _ _ _ _ _ h P T _ _ _ _
            · refine ev_if_ne (t := 241) rfl rfl (fun _ => ?_) (fun c9 => absurd c9 hc)
              refine ev_go 4 (pc' := 249) (L' := [some (.ref 89), some (.int y770), some (.int y771), some (.int y772), some (.int y773), some (.int y774), some (.int y775), some (.int y776), some (.int y777), some (.int y778), some (.int y779)]) (st' := [.int y778, .int y773]) (h' := (HM P w T)) (cs' := 0) (sl' := 0) rfl ?_
              rcases ai_ifE h with ⟨hc, h⟩ | ⟨hc, h⟩
              · refine ev_if_eq (t := 256) rfl rfl (fun _ => ?_) (fun c9 => absurd hc c9)
                refine ev_go 5 (pc' := 104) (L' := [some (.ref 89), some (.int y770), some (.int y771), some (.int y772), some (.int (y773 + 0)), some (.int y774), some (.int (y775 + 1)), some (.int y776), some (.int y777), some (.int y778), some (.int y779)]) (st' := []) (h' := (HM P w T)) (cs' := 0) (sl' := 0) rfl ?_
                exact ih1 _ _ _ _ _ _ _ _ _ h P T _ _ _ _
              · refine ev_if_eq (t := 256) rfl rfl (fun c9 => absurd c9 hc) (fun _ => ?_)
                refine ev_go 6 (pc' := 104) (L' := [some (.ref 89), some (.int y770), some (.int y771), some (.int y772), some (.int (y773 + 1)), some (.int y774), some (.int (y775 + 1)), some (.int y776), some (.int y777), some (.int y778), some (.int y779)]) (st' := []) (h' := (HM P w T)) (cs' := 0) (sl' := 0) rfl ?_
                exact ih1 _ _ _ _ _ _ _ _ _ h P T _ _ _ _
        · refine ev_if_eq (t := 220) rfl rfl (fun c9 => absurd c9 hc) (fun _ => ?_)
          refine ev_go 5 (pc' := 168) (L' := [some (.ref 89), some (.int y770), some (.int y771), some (.int y772), some (.int y773), some (.int y774), some (.int y775), some (.int y776), some (.int y777), some (.int y778), some (.int y779)]) (st' := [.int (67 + y779), .ref 90]) (h' := (HM P w T)) (cs' := 0) (sl' := 0) rfl ?_
          obtain ⟨v781, hq, h⟩ := ai_bdE h
          refine ev_iald rfl rfl hq ?_
          refine ev_go 1 (pc' := 170) (L' := [some (.ref 89), some (.int y770), some (.int y771), some (.int y772), some (.int y773), some (.int y774), some (.int y775), some (.int y776), some (.int y777), some (.int y778), some (.int y779)]) (st' := [.int 5, .int v781]) (h' := (HM P w T)) (cs' := 0) (sl' := 0) rfl ?_
          rcases ai_ifE h with ⟨hc, h⟩ | ⟨hc, h⟩
          · refine ev_ic_ne (t := 214) rfl rfl (fun c9 => absurd hc c9) (fun _ => ?_)
            refine ev_go 2 (pc' := 176) (L' := [some (.ref 89), some (.int y770), some (.int y771), some (.int y772), some (.int y773), some (.int y774), some (.int y775), some (.int y776), some (.int y777), some (.int y778), some (.int y779)]) (st' := [.int y779, .ref 89]) (h' := (HM P w T)) (cs' := 0) (sl' := 0) rfl ?_
            obtain ⟨c782, hq, h⟩ := ai_bdE h
            refine ev_call (M' := mm_lay) (L' := [some (.ref 89), some (.int y779)]) (rest := []) (rv := none) (h' := (HM P c782 T)) rfl (Em_lay_89 y779 w _ hq P T) ?_
            show ai_ev D1 mm_nets 179 [some (.ref 89), some (.int y770), some (.int y771), some (.int y772), some (.int y773), some (.int y774), some (.int y775), some (.int y776), some (.int y777), some (.int y778), some (.int y779)] [] (HM P c782 T) 0 0 _
            refine ev_go 2 (pc' := 181) (L' := [some (.ref 89), some (.int y770), some (.int y771), some (.int y772), some (.int y773), some (.int y774), some (.int y775), some (.int y776), some (.int y777), some (.int y778), some (.int y779)]) (st' := [.int y770, .ref 89]) (h' := (HM P c782 T)) (cs' := 0) (sl' := 0) rfl ?_
            obtain ⟨c783, hq, h⟩ := ai_bdE h
            refine ev_call (M' := mm_comesDown) (L' := [some (.ref 89), some (.int y770), none, none, none]) (rest := []) (rv := none) (h' := (HM P c783 T)) rfl (Em_comesDown_89 n y770 c782 _ hq P T) ?_
            show ai_ev D1 mm_nets 184 [some (.ref 89), some (.int y770), some (.int y771), some (.int y772), some (.int y773), some (.int y774), some (.int y775), some (.int y776), some (.int y777), some (.int y778), some (.int y779)] [] (HM P c783 T) 0 0 _
            refine ev_go 7 (pc' := 195) (L' := [some (.ref 89), some (.int y770), some (.int y771), some (.int y772), some (.int y773), some (.int y774), some (.int y775), some (.int y776), some (.int y777), some (.int y778), some (.int y779)]) (st' := [.long (y777).toInt64, .long (y776).toInt64, .long ((a_m_down c783)).toInt64]) (h' := (HM P c783 T)) (cs' := 0) (sl' := 0) rfl ?_
            obtain ⟨c784, hq, h⟩ := ai_bdE h
            refine ev_call (M' := mm_in) (L' := [some (.long ((a_m_down c783)).toInt64), none, some (.long (y776).toInt64), none, some (.long (y777).toInt64), none]) (rest := []) (rv := some (.int c784)) (h' := (HM P c783 T)) rfl (Em_in ((a_m_down c783)).toInt64 (y776).toInt64 (y777).toInt64 _ hq (HM P c783 T)) ?_
            show ai_ev D1 mm_nets 198 [some (.ref 89), some (.int y770), some (.int y771), some (.int y772), some (.int y773), some (.int y774), some (.int y775), some (.int y776), some (.int y777), some (.int y778), some (.int y779)] [.int c784] (HM P c783 T) 0 0 _
            refine ev_go 2 (pc' := 201) (L' := [some (.ref 89), some (.int y770), some (.int y771), some (.int y772), some (.int y773), some (.int y774), some (.int y775), some (.int y776), some (.int y777), some (.int y778), some (.int y779)]) (st' := [.int y779, .int y771, .int c784]) (h' := (HM P c783 T)) (cs' := 0) (sl' := 0) rfl ?_
            obtain ⟨c785, hq, h⟩ := ai_bdE h
            refine ev_call (M' := mm_has) (L' := [some (.int y771), some (.int y779)]) (rest := [.int c784]) (rv := some (.int c785)) (h' := (HM P c783 T)) rfl (Em_has y771 y779 _ hq (HM P c783 T)) ?_
            show ai_ev D1 mm_nets 204 [some (.ref 89), some (.int y770), some (.int y771), some (.int y772), some (.int y773), some (.int y774), some (.int y775), some (.int y776), some (.int y777), some (.int y778), some (.int y779)] [.int c785, .int c784] (HM P c783 T) 0 0 _
            rcases ai_ifE h with ⟨hc, h⟩ | ⟨hc, h⟩
            · refine ev_ic_ne (t := 211) rfl rfl (fun c9 => absurd hc c9) (fun _ => ?_)
              refine ev_go 5 (pc' := 143) (L' := [some (.ref 89), some (.int y770), some (.int y771), some (.int y772), some (.int y773), some (.int y774), some (.int y775), some (.int y776), some (.int y777), some (.int 1), some (.int (y779 + 1))]) (st' := []) (h' := (HM P c783 T)) (cs' := 0) (sl' := 0) rfl ?_
              exact ih2 _ _ _ _ _ _ _ _ _ _ _ _ _ h P T
            · refine ev_ic_ne (t := 211) rfl rfl (fun _ => ?_) (fun c9 => absurd c9 hc)
              refine ev_go 4 (pc' := 143) (L' := [some (.ref 89), some (.int y770), some (.int y771), some (.int y772), some (.int y773), some (.int y774), some (.int y775), some (.int y776), some (.int y777), some (.int 0), some (.int (y779 + 1))]) (st' := []) (h' := (HM P c783 T)) (cs' := 0) (sl' := 0) rfl ?_
              exact ih2 _ _ _ _ _ _ _ _ _ _ _ _ _ h P T
          · refine ev_ic_ne (t := 214) rfl rfl (fun _ => ?_) (fun c9 => absurd c9 hc)
            refine ev_go 2 (pc' := 143) (L' := [some (.ref 89), some (.int y770), some (.int y771), some (.int y772), some (.int y773), some (.int y774), some (.int y775), some (.int y776), some (.int y777), some (.int y778), some (.int (y779 + 1))]) (st' := []) (h' := (HM P w T)) (cs' := 0) (sl' := 0) rfl ?_
            exact ih2 _ _ _ _ _ _ _ _ _ _ _ _ _ h P T
set_option maxHeartbeats 40000000 in
set_option maxRecDepth 100000 in
theorem Em_nets_89 (n : Nat) (x746 : Int32) (x747 : Int32) (x748 : Int32) (w : WM) (r : Int32) (w' : WM) (h : Fm_nets_89 n x746 x747 x748 w = some (r, w')) (P : Nat → ai_E) (T : ai_H) : ai_ev D1 mm_nets 0 [some (.ref 89), some (.int x746), some (.int x747), some (.int x748), none, none, none, none, none, none, none] [] (HM P w T) 0 0 (some (.int r), HM P w' T) := by
  unfold Fm_nets_89 at h
  obtain ⟨ih0, ih1, ih2⟩ := EGm_nets_89 n
  refine ev_go 2 (pc' := 2) (L' := [some (.ref 89), some (.int x746), some (.int x747), some (.int x748), none, none, none, none, none, none, none]) (st' := [.int x746, .ref 89]) (h' := (HM P w T)) (cs' := 0) (sl' := 0) rfl ?_
  obtain ⟨c749, hq, h⟩ := ai_bdE h
  refine ev_call (M' := mm_isCell) (L' := [some (.ref 89), some (.int x746)]) (rest := []) (rv := some (.int c749.1)) (h' := (HM P c749.2 T)) rfl (Em_isCell_89 x746 w _ _ hq P T) ?_
  show ai_ev D1 mm_nets 5 [some (.ref 89), some (.int x746), some (.int x747), some (.int x748), none, none, none, none, none, none, none] [.int c749.1] (HM P c749.2 T) 0 0 _
  rcases ai_ifE h with ⟨hc, h⟩ | ⟨hc, h⟩
  · refine ev_if_eq (t := 38) rfl rfl (fun _ => ?_) (fun c9 => absurd hc c9)
    refine ev_go 2 (pc' := 41) (L' := [some (.ref 89), some (.int x746), some (.int x747), some (.int x748), none, none, none, none, none, none, none]) (st' := [.int (-10), .ref 89]) (h' := (HM P c749.2 T)) (cs' := 0) (sl' := 0) rfl ?_
    obtain ⟨c750, hq, h⟩ := ai_bdE h
    refine ev_call (M' := mm_badAs) (L' := [some (.ref 89), some (.int (-10))]) (rest := []) (rv := some (.int c750.1)) (h' := (HM P c750.2 T)) rfl (Em_badAs_89 (-10) c749.2 _ _ hq P T) ?_
    show ai_ev D1 mm_nets 44 [some (.ref 89), some (.int x746), some (.int x747), some (.int x748), none, none, none, none, none, none, none] [.int c750.1] (HM P c750.2 T) 0 0 _
    obtain ⟨rfl, rfl⟩ := ai_smP h
    exact ev_end rfl
  · refine ev_if_eq (t := 38) rfl rfl (fun c9 => absurd c9 hc) (fun _ => ?_)
    refine ev_go 7 (pc' := 17) (L' := [some (.ref 89), some (.int x746), some (.int x747), some (.int x748), none, none, none, none, none, none, none]) (st' := [.int 2, .ref 90, .int 1, .long 0, .long (x747).toInt64]) (h' := (HM P c749.2 T)) (cs' := 0) (sl' := 0) rfl ?_
    obtain ⟨v751, hq, h⟩ := ai_bdE h
    refine ev_iald rfl rfl hq ?_
    refine ev_go 4 (pc' := 22) (L' := [some (.ref 89), some (.int x746), some (.int x747), some (.int x748), none, none, none, none, none, none, none]) (st' := [.long (((1 <<< (v751 &&& 31)) - 1)).toInt64, .long 0, .long (x747).toInt64]) (h' := (HM P c749.2 T)) (cs' := 0) (sl' := 0) rfl ?_
    obtain ⟨c752, hq, h⟩ := ai_bdE h
    refine ev_call (M' := mm_in) (L' := [some (.long (x747).toInt64), none, some (.long 0), none, some (.long (((1 <<< (v751 &&& 31)) - 1)).toInt64), none]) (rest := []) (rv := some (.int c752)) (h' := (HM P c749.2 T)) rfl (Em_in (x747).toInt64 0 (((1 <<< (v751 &&& 31)) - 1)).toInt64 _ hq (HM P c749.2 T)) ?_
    show ai_ev D1 mm_nets 25 [some (.ref 89), some (.int x746), some (.int x747), some (.int x748), none, none, none, none, none, none, none] [.int c752] (HM P c749.2 T) 0 0 _
    rcases ai_ifE h with ⟨hc, h⟩ | ⟨hc, h⟩
    · refine ev_if_eq (t := 38) rfl rfl (fun _ => ?_) (fun c9 => absurd hc c9)
      refine ev_go 2 (pc' := 41) (L' := [some (.ref 89), some (.int x746), some (.int x747), some (.int x748), none, none, none, none, none, none, none]) (st' := [.int (-10), .ref 89]) (h' := (HM P c749.2 T)) (cs' := 0) (sl' := 0) rfl ?_
      obtain ⟨c753, hq, h⟩ := ai_bdE h
      refine ev_call (M' := mm_badAs) (L' := [some (.ref 89), some (.int (-10))]) (rest := []) (rv := some (.int c753.1)) (h' := (HM P c753.2 T)) rfl (Em_badAs_89 (-10) c749.2 _ _ hq P T) ?_
      show ai_ev D1 mm_nets 44 [some (.ref 89), some (.int x746), some (.int x747), some (.int x748), none, none, none, none, none, none, none] [.int c753.1] (HM P c753.2 T) 0 0 _
      obtain ⟨rfl, rfl⟩ := ai_smP h
      exact ev_end rfl
    · refine ev_if_eq (t := 38) rfl rfl (fun c9 => absurd c9 hc) (fun _ => ?_)
      refine ev_go 4 (pc' := 32) (L' := [some (.ref 89), some (.int x746), some (.int x747), some (.int x748), none, none, none, none, none, none, none]) (st' := [.long 1, .long 0, .long (x748).toInt64]) (h' := (HM P c749.2 T)) (cs' := 0) (sl' := 0) rfl ?_
      obtain ⟨c754, hq, h⟩ := ai_bdE h
      refine ev_call (M' := mm_in) (L' := [some (.long (x748).toInt64), none, some (.long 0), none, some (.long 1), none]) (rest := []) (rv := some (.int c754)) (h' := (HM P c749.2 T)) rfl (Em_in (x748).toInt64 0 1 _ hq (HM P c749.2 T)) ?_
      show ai_ev D1 mm_nets 35 [some (.ref 89), some (.int x746), some (.int x747), some (.int x748), none, none, none, none, none, none, none] [.int c754] (HM P c749.2 T) 0 0 _
      rcases ai_ifE h with ⟨hc, h⟩ | ⟨hc, h⟩
      · refine ev_if_ne (t := 45) rfl rfl (fun c9 => absurd hc c9) (fun _ => ?_)
        refine ev_go 2 (pc' := 41) (L' := [some (.ref 89), some (.int x746), some (.int x747), some (.int x748), none, none, none, none, none, none, none]) (st' := [.int (-10), .ref 89]) (h' := (HM P c749.2 T)) (cs' := 0) (sl' := 0) rfl ?_
        obtain ⟨c755, hq, h⟩ := ai_bdE h
        refine ev_call (M' := mm_badAs) (L' := [some (.ref 89), some (.int (-10))]) (rest := []) (rv := some (.int c755.1)) (h' := (HM P c755.2 T)) rfl (Em_badAs_89 (-10) c749.2 _ _ hq P T) ?_
        show ai_ev D1 mm_nets 44 [some (.ref 89), some (.int x746), some (.int x747), some (.int x748), none, none, none, none, none, none, none] [.int c755.1] (HM P c755.2 T) 0 0 _
        obtain ⟨rfl, rfl⟩ := ai_smP h
        exact ev_end rfl
      · refine ev_if_ne (t := 45) rfl rfl (fun _ => ?_) (fun c9 => absurd c9 hc)
        refine ev_go 2 (pc' := 48) (L' := [some (.ref 89), some (.int x746), some (.int x747), some (.int x748), some (.int 0), none, none, none, none, none, none]) (st' := []) (h' := (HM P c749.2 T)) (cs' := 0) (sl' := 0) rfl ?_
        exact ih0 _ _ _ _ _ _ _ h P T _ _ _ _ _ _
