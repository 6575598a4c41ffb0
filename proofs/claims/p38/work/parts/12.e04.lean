set_option maxHeartbeats 40000000 in
set_option maxRecDepth 100000 in
theorem Em_breaks_89 (x425 : Int32) (w : WM) (r : Int32) (w' : WM) (h : Fm_breaks_89 x425 w = some (r, w')) (P : Nat → ai_E) (T : ai_H) : ai_ev D1 mm_breaks 0 [some (.ref 89), some (.int x425), none] [] (HM P w T) 0 0 (some (.int r), HM P w' T) := by
  unfold Fm_breaks_89 at h
  refine ev_go 3 (pc' := 5) (L' := [some (.ref 89), some (.int x425), none]) (st' := [.int x425, .int (a_m_torn w)]) (h' := (HM P w T)) (cs' := 0) (sl' := 0) rfl ?_
  obtain ⟨c426, hq, h⟩ := ai_bdE h
  refine ev_call (M' := mm_has) (L' := [some (.int (a_m_torn w)), some (.int x425)]) (rest := []) (rv := some (.int c426)) (h' := (HM P w T)) rfl (Em_has (a_m_torn w) x425 _ hq (HM P w T)) ?_
  show ai_ev D1 mm_breaks 8 [some (.ref 89), some (.int x425), none] [.int c426] (HM P w T) 0 0 _
  rcases ai_ifE h with ⟨hc, h⟩ | ⟨hc, h⟩
  · refine ev_if_eq (t := 13) rfl rfl (fun _ => ?_) (fun c9 => absurd hc c9)
    refine ev_go 5 (pc' := 21) (L' := [some (.ref 89), some (.int x425), none]) (st' := [.int (64 + x425), .ref 90]) (h' := (HM P w T)) (cs' := 0) (sl' := 0) rfl ?_
    obtain ⟨v427, hq, h⟩ := ai_bdE h
    refine ev_iald rfl rfl hq ?_
    refine ev_go 4 (pc' := 28) (L' := [some (.ref 89), some (.int x425), some (.int v427)]) (st' := [.int 3, .int (a_m_kind w)]) (h' := (HM P w T)) (cs' := 0) (sl' := 0) rfl ?_
    rcases ai_ifE h with ⟨hc, h⟩ | ⟨hc, h⟩
    · refine ev_ic_eq (t := 64) rfl rfl (fun _ => ?_) (fun c9 => absurd hc c9)
      refine ev_go 2 (pc' := 69) (L' := [some (.ref 89), some (.int x425), some (.int v427)]) (st' := [.int 1]) (h' := (HM P w T)) (cs' := 0) (sl' := 0) rfl ?_
      obtain ⟨rfl, rfl⟩ := ai_smP h
      exact ev_end rfl
    · refine ev_ic_eq (t := 64) rfl rfl (fun c9 => absurd c9 hc) (fun _ => ?_)
      refine ev_go 3 (pc' := 36) (L' := [some (.ref 89), some (.int x425), some (.int v427)]) (st' := [.int 5, .int (a_m_kind w)]) (h' := (HM P w T)) (cs' := 0) (sl' := 0) rfl ?_
      rcases ai_ifE h with ⟨hc, h⟩ | ⟨hc, h⟩
      · refine ev_ic_eq (t := 68) rfl rfl (fun _ => ?_) (fun c9 => absurd hc c9)
        refine ev_go 1 (pc' := 69) (L' := [some (.ref 89), some (.int x425), some (.int v427)]) (st' := [.int 0]) (h' := (HM P w T)) (cs' := 0) (sl' := 0) rfl ?_
        obtain ⟨rfl, rfl⟩ := ai_smP h
        exact ev_end rfl
      · refine ev_ic_eq (t := 68) rfl rfl (fun c9 => absurd c9 hc) (fun _ => ?_)
        refine ev_go 4 (pc' := 45) (L' := [some (.ref 89), some (.int x425), some (.int v427)]) (st' := [.int 2, .int (a_m_kind w), .int v427]) (h' := (HM P w T)) (cs' := 0) (sl' := 0) rfl ?_
        rcases ai_ifE h with ⟨hc, h⟩ | ⟨hc, h⟩
        · refine ev_ic_ne (t := 57) rfl rfl (fun c9 => absurd hc c9) (fun _ => ?_)
          refine ev_go 1 (pc' := 49) (L' := [some (.ref 89), some (.int x425), some (.int v427)]) (st' := [.ref 89, .int v427]) (h' := (HM P w T)) (cs' := 0) (sl' := 0) rfl ?_
          obtain ⟨c429, hq, h⟩ := ai_bdE h
          refine ev_call (M' := mm_weighs) (L' := [some (.ref 89), none]) (rest := [.int v427]) (rv := some (.int c429.1)) (h' := (HM P c429.2 T)) rfl (Em_weighs_89 w _ _ hq P T) ?_
          show ai_ev D1 mm_breaks 52 [some (.ref 89), some (.int x425), some (.int v427)] [.int c429.1, .int v427] (HM P c429.2 T) 0 0 _
          refine ev_go 3 (pc' := 61) (L' := [some (.ref 89), some (.int x425), some (.int v427)]) (st' := [.int (c429.1 / 2), .int v427]) (h' := (HM P c429.2 T)) (cs' := 0) (sl' := 0) rfl ?_
          rcases ai_ifE h with ⟨hc, h⟩ | ⟨hc, h⟩
          · refine ev_ic_ge (t := 68) rfl rfl (fun _ => ?_) (fun c9 => absurd hc c9)
            refine ev_go 1 (pc' := 69) (L' := [some (.ref 89), some (.int x425), some (.int v427)]) (st' := [.int 0]) (h' := (HM P c429.2 T)) (cs' := 0) (sl' := 0) rfl ?_
            obtain ⟨rfl, rfl⟩ := ai_smP h
            exact ev_end rfl
          · refine ev_ic_ge (t := 68) rfl rfl (fun c9 => absurd c9 hc) (fun _ => ?_)
            refine ev_go 2 (pc' := 69) (L' := [some (.ref 89), some (.int x425), some (.int v427)]) (st' := [.int 1]) (h' := (HM P c429.2 T)) (cs' := 0) (sl' := 0) rfl ?_
            obtain ⟨rfl, rfl⟩ := ai_smP h
            exact ev_end rfl
        · refine ev_ic_ne (t := 57) rfl rfl (fun _ => ?_) (fun c9 => absurd c9 hc)
          refine ev_go 1 (pc' := 58) (L' := [some (.ref 89), some (.int x425), some (.int v427)]) (st' := [.ref 89, .int v427]) (h' := (HM P w T)) (cs' := 0) (sl' := 0) rfl ?_
          obtain ⟨c428, hq, h⟩ := ai_bdE h
          refine ev_call (M' := mm_weighs) (L' := [some (.ref 89), none]) (rest := [.int v427]) (rv := some (.int c428.1)) (h' := (HM P c428.2 T)) rfl (Em_weighs_89 w _ _ hq P T) ?_
          show ai_ev D1 mm_breaks 61 [some (.ref 89), some (.int x425), some (.int v427)] [.int c428.1, .int v427] (HM P c428.2 T) 0 0 _
          rcases ai_ifE h with ⟨hc, h⟩ | ⟨hc, h⟩
          · refine ev_ic_ge (t := 68) rfl rfl (fun _ => ?_) (fun c9 => absurd hc c9)
            refine ev_go 1 (pc' := 69) (L' := [some (.ref 89), some (.int x425), some (.int v427)]) (st' := [.int 0]) (h' := (HM P c428.2 T)) (cs' := 0) (sl' := 0) rfl ?_
            obtain ⟨rfl, rfl⟩ := ai_smP h
            exact ev_end rfl
          · refine ev_ic_ge (t := 68) rfl rfl (fun c9 => absurd c9 hc) (fun _ => ?_)
            refine ev_go 2 (pc' := 69) (L' := [some (.ref 89), some (.int x425), some (.int v427)]) (st' := [.int 1]) (h' := (HM P c428.2 T)) (cs' := 0) (sl' := 0) rfl ?_
            obtain ⟨rfl, rfl⟩ := ai_smP h
            exact ev_end rfl
  · refine ev_if_eq (t := 13) rfl rfl (fun c9 => absurd c9 hc) (fun _ => ?_)
    refine ev_go 1 (pc' := 12) (L' := [some (.ref 89), some (.int x425), none]) (st' := [.int 1]) (h' := (HM P w T)) (cs' := 0) (sl' := 0) rfl ?_
    obtain ⟨rfl, rfl⟩ := ai_smP h
    exact ev_end rfl
set_option maxHeartbeats 40000000 in
set_option maxRecDepth 100000 in
theorem EGm_comesDown_89 : ∀ n : Nat, (∀ (y401 : Int32) (y402 : Int32) (y403 : Int32) (w : WM) (w' : WM), Gm_comesDown_89 n 0 y401 y402 y403 w = some w' → ∀ (P : Nat → ai_E) (T : ai_H) (o4 : Option Value), ai_ev D1 mm_comesDown 29 [some (.ref 89), some (.int y401), some (.int y402), some (.int y403), o4] [] (HM P w T) 0 0 (none, HM P w' T)) := by
  intro n
  induction n with
  | zero =>
    exact (fun _ _ _ _ _ h => by cases h)
  | succ n ih0 =>
    intro y401 y402 y403 w w' h P T o4
    simp only [Gm_comesDown_89] at h
    refine ev_go 2 (pc' := 31) (L' := [some (.ref 89), some (.int y401), some (.int y402), some (.int y403), o4]) (st' := [.int 4, .int y403]) (h' := (HM P w T)) (cs' := 0) (sl' := 0) rfl ?_
    rcases ai_ifE h with ⟨hc, h⟩ | ⟨hc, h⟩
    · refine ev_ic_ge (t := 198) rfl rfl (fun _ => ?_) (fun c9 => absurd hc c9)
      obtain rfl := Option.some.inj h
      exact ev_end rfl
    · refine ev_ic_ge (t := 198) rfl rfl (fun c9 => absurd c9 hc) (fun _ => ?_)
      refine ev_go 3 (pc' := 39) (L' := [some (.ref 89), some (.int y401), some (.int y402), some (.int y403), o4]) (st' := [.int 4, .int (a_m_restsIn w)]) (h' := (HM P w T)) (cs' := 0) (sl' := 0) rfl ?_
      rcases ai_ifE h with ⟨hc, h⟩ | ⟨hc, h⟩
      · refine ev_ic_ne (t := 198) rfl rfl (fun c9 => absurd hc c9) (fun _ => ?_)
        refine ev_go 3 (pc' := 47) (L' := [some (.ref 89), some (.int y401), some (.int y402), some (.int y403), o4]) (st' := [.int (-1), .int (a_m_stops w)]) (h' := (HM P w T)) (cs' := 0) (sl' := 0) rfl ?_
        rcases ai_ifE h with ⟨hc, h⟩ | ⟨hc, h⟩
        · refine ev_ic_ne (t := 198) rfl rfl (fun c9 => absurd hc c9) (fun _ => ?_)
          refine ev_go 5 (pc' := 57) (L' := [some (.ref 89), some (.int y401), some (.int y402), some (.int y403), o4]) (st' := [.int (a_m_hour w), .int y401, .int y403, .ref 89]) (h' := (HM P w T)) (cs' := 0) (sl' := 0) rfl ?_
          obtain ⟨c404, hq, h⟩ := ai_bdE h
          refine ev_call (M' := mm_thickIn) (L' := [some (.ref 89), some (.int y403), some (.int y401), some (.int (a_m_hour w)), none]) (rest := []) (rv := some (.int c404.1)) (h' := (HM P c404.2 T)) rfl (Em_thickIn_89 y403 y401 (a_m_hour w) w _ _ hq P T) ?_
          show ai_ev D1 mm_comesDown 60 [some (.ref 89), some (.int y401), some (.int y402), some (.int y403), o4] [.int c404.1] (HM P c404.2 T) 0 0 _
          refine ev_go 2 (pc' := 64) (L' := [some (.ref 89), some (.int y401), some (.int y402), some (.int y403), some (.int c404.1)]) (st' := [.int c404.1]) (h' := (HM P c404.2 T)) (cs' := 0) (sl' := 0) rfl ?_
          rcases ai_ifE h with ⟨hc, h⟩ | ⟨hc, h⟩
          · refine ev_if_le (t := 97) rfl rfl (fun _ => ?_) (fun c9 => absurd hc c9)
            refine ev_go 1 (pc' := 99) (L' := [some (.ref 89), some (.int y401), some (.int y402), some (.int y403), some (.int c404.1)]) (st' := [.int c404.1]) (h' := (HM P c404.2 T)) (cs' := 0) (sl' := 0) rfl ?_
            rcases ai_ifE h with ⟨hc, h⟩ | ⟨hc, h⟩
            · refine ev_if_le (t := 192) rfl rfl (fun _ => ?_) (fun c9 => absurd hc c9)
              refine ev_go 2 (pc' := 29) (L' := [some (.ref 89), some (.int y401), some (.int y402), some (.int (y403 + 1)), some (.int c404.1)]) (st' := []) (h' := (HM P c404.2 T)) (cs' := 0) (sl' := 0) rfl ?_
              exact ih0 _ _ _ _ _ h P T _
            · refine ev_if_le (t := 192) rfl rfl (fun c9 => absurd c9 hc) (fun _ => ?_)
              refine ev_go 5 (pc' := 109) (L' := [some (.ref 89), some (.int y401), some (.int y402), some (.int y403), some (.int c404.1)]) (st' := [.int (-1), .int y402, .int (a_m_broken c404.2), .ref 89]) (h' := (HM P c404.2 T)) (cs' := 0) (sl' := 0) rfl ?_
              rcases ai_ifE h with ⟨hc, h⟩ | ⟨hc, h⟩
              · refine ev_ic_eq (t := 125) rfl rfl (fun _ => ?_) (fun c9 => absurd hc c9)
                refine ev_go 3 (pc' := 135) (L' := [some (.ref 89), some (.int y401), some (.int y402), some (.int y403), some (.int c404.1)]) (st' := [.int ((a_m_broken c404.2) ||| 0), .ref 89]) (h' := (HM P c404.2 T)) (cs' := 0) (sl' := 0) rfl ?_
                refine ev_step rfl rfl rfl (PFM_8_207_89 rfl) ?_
                refine ev_go 1 (pc' := 139) (L' := [some (.ref 89), some (.int y401), some (.int y402), some (.int y403), some (.int c404.1)]) (st' := [.ref 89]) (h' := (HM P (u_m_broken c404.2 ((a_m_broken c404.2) ||| 0)) T)) (cs' := 0) (sl' := 0) rfl ?_
                obtain ⟨c405, hq, h⟩ := ai_bdE h
                refine ev_call (M' := mm_weighs) (L' := [some (.ref 89), none]) (rest := []) (rv := some (.int c405.1)) (h' := (HM P c405.2 T)) rfl (Em_weighs_89 (u_m_broken c404.2 ((a_m_broken c404.2) ||| 0)) _ _ hq P T) ?_
                show ai_ev D1 mm_comesDown 142 [some (.ref 89), some (.int y401), some (.int y402), some (.int y403), some (.int c404.1)] [.int c405.1] (HM P c405.2 T) 0 0 _
                refine ev_go 1 (pc' := 143) (L' := [some (.ref 89), some (.int y401), some (.int y402), some (.int y403), some (.int c404.1)]) (st' := [.ref 89, .int c405.1]) (h' := (HM P c405.2 T)) (cs' := 0) (sl' := 0) rfl ?_
                obtain ⟨c406, hq, h⟩ := ai_bdE h
                refine ev_call (M' := mm_room) (L' := [some (.ref 89)]) (rest := [.int c405.1]) (rv := some (.int c406.1)) (h' := (HM P c406.2 T)) rfl (Em_room_89 c405.2 _ _ hq P T) ?_
                show ai_ev D1 mm_comesDown 146 [some (.ref 89), some (.int y401), some (.int y402), some (.int y403), some (.int c404.1)] [.int c406.1, .int c405.1] (HM P c406.2 T) 0 0 _
                refine ev_go 5 (pc' := 154) (L' := [some (.ref 89), some (.int y401), some (.int y402), some (.int y403), some (.int c404.1)]) (st' := [.int (8 + y403), .ref 90, .int c406.1, .int c405.1]) (h' := (HM P c406.2 T)) (cs' := 0) (sl' := 0) rfl ?_
                obtain ⟨v407, hq, h⟩ := ai_bdE h
                refine ev_iald rfl rfl hq ?_
                refine ev_go 1 (pc' := 156) (L' := [some (.ref 89), some (.int y401), some (.int y402), some (.int y403), some (.int c404.1)]) (st' := [.int (c406.1 * v407), .int c405.1]) (h' := (HM P c406.2 T)) (cs' := 0) (sl' := 0) rfl ?_
                rcases ai_ifE h with ⟨hc, h⟩ | ⟨hc, h⟩
                · refine ev_ic_gt (t := 167) rfl rfl (fun _ => ?_) (fun c9 => absurd hc c9)
                  refine ev_go 7 (pc' := 176) (L' := [some (.ref 89), some (.int y401), some (.int y402), some (.int y403), some (.int c404.1)]) (st' := [.int ((a_m_passes c406.2) ||| (1 <<< (y403 &&& 31))), .ref 89]) (h' := (HM P c406.2 T)) (cs' := 0) (sl' := 0) rfl ?_
                  refine ev_step rfl rfl rfl (PFM_8_210_89 rfl) ?_
                  refine ev_go 5 (pc' := 187) (L' := [some (.ref 89), some (.int y401), some (.int y402), some (.int y403), some (.int c404.1)]) (st' := [.int ((a_m_down c406.2) + c404.1), .ref 89]) (h' := (HM P (u_m_passes c406.2 ((a_m_passes c406.2) ||| (1 <<< (y403 &&& 31)))) T)) (cs' := 0) (sl' := 0) rfl ?_
                  refine ev_step rfl rfl rfl (PFM_8_204_89 rfl) ?_
                  refine ev_go 4 (pc' := 29) (L' := [some (.ref 89), some (.int y401), some (.int y403), some (.int (y403 + 1)), some (.int c404.1)]) (st' := []) (h' := (HM P (u_m_down (u_m_passes c406.2 ((a_m_passes c406.2) ||| (1 <<< (y403 &&& 31)))) ((a_m_down c406.2) + c404.1)) T)) (cs' := 0) (sl' := 0) rfl ?_
                  exact ih0 _ _ _ _ _ h P T _
                · refine ev_ic_gt (t := 167) rfl rfl (fun c9 => absurd c9 hc) (fun _ => ?_)
                  refine ev_go 2 (pc' := 161) (L' := [some (.ref 89), some (.int y401), some (.int y402), some (.int y403), some (.int c404.1)]) (st' := [.int y403, .ref 89]) (h' := (HM P c406.2 T)) (cs' := 0) (sl' := 0) rfl ?_
                  refine ev_step rfl rfl rfl (PFM_8_201_89 rfl) ?_
                  refine ev_go 3 (pc' := 29) (L' := [some (.ref 89), some (.int y401), some (.int y402), some (.int (y403 + 1)), some (.int c404.1)]) (st' := []) (h' := (HM P (u_m_restsIn c406.2 y403) T)) (cs' := 0) (sl' := 0) rfl ?_
                  exact ih0 _ _ _ _ _ h P T _
              · refine ev_ic_eq (t := 125) rfl rfl (fun c9 => absurd c9 hc) (fun _ => ?_)
                refine ev_go 5 (pc' := 119) (L' := [some (.ref 89), some (.int y401), some (.int y402), some (.int y403), some (.int c404.1)]) (st' := [.int (y403 - 1), .int (a_m_torn c404.2), .int (a_m_broken c404.2), .ref 89]) (h' := (HM P c404.2 T)) (cs' := 0) (sl' := 0) rfl ?_
                obtain ⟨c408, hq, h⟩ := ai_bdE h
                refine ev_call (M' := mm_has) (L' := [some (.int (a_m_torn c404.2)), some (.int (y403 - 1))]) (rest := [.int (a_m_broken c404.2), .ref 89]) (rv := some (.int c408)) (h' := (HM P c404.2 T)) rfl (Em_has (a_m_torn c404.2) (y403 - 1) _ hq (HM P c404.2 T)) ?_
                show ai_ev D1 mm_comesDown 122 [some (.ref 89), some (.int y401), some (.int y402), some (.int y403), some (.int c404.1)] [.int c408, .int (a_m_broken c404.2), .ref 89] (HM P c404.2 T) 0 0 _
                rcases ai_ifE h with ⟨hc, h⟩ | ⟨hc, h⟩
                · refine ev_if_eq (t := 129) rfl rfl (fun _ => ?_) (fun c9 => absurd hc c9)
                  refine ev_go 6 (pc' := 135) (L' := [some (.ref 89), some (.int y401), some (.int y402), some (.int y403), some (.int c404.1)]) (st' := [.int ((a_m_broken c404.2) ||| (1 <<< ((y403 - 1) &&& 31))), .ref 89]) (h' := (HM P c404.2 T)) (cs' := 0) (sl' := 0) rfl ?_
                  refine ev_step rfl rfl rfl (PFM_8_207_89 rfl) ?_
                  refine ev_go 1 (pc' := 139) (L' := [some (.ref 89), some (.int y401), some (.int y402), some (.int y403), some (.int c404.1)]) (st' := [.ref 89]) (h' := (HM P (u_m_broken c404.2 ((a_m_broken c404.2) ||| (1 <<< ((y403 - 1) &&& 31)))) T)) (cs' := 0) (sl' := 0) rfl ?_
                  obtain ⟨c409, hq, h⟩ := ai_bdE h
                  refine ev_call (M' := mm_weighs) (L' := [some (.ref 89), none]) (rest := []) (rv := some (.int c409.1)) (h' := (HM P c409.2 T)) rfl (Em_weighs_89 (u_m_broken c404.2 ((a_m_broken c404.2) ||| (1 <<< ((y403 - 1) &&& 31)))) _ _ hq P T) ?_
                  show ai_ev D1 mm_comesDown 142 [some (.ref 89), some (.int y401), some (.int y402), some (.int y403), some (.int c404.1)] [.int c409.1] (HM P c409.2 T) 0 0 _
                  refine ev_go 1 (pc' := 143) (L' := [some (.ref 89), some (.int y401), some (.int y402), some (.int y403), some (.int c404.1)]) (st' := [.ref 89, .int c409.1]) (h' := (HM P c409.2 T)) (cs' := 0) (sl' := 0) rfl ?_
                  obtain ⟨c410, hq, h⟩ := ai_bdE h
                  refine ev_call (M' := mm_room) (L' := [some (.ref 89)]) (rest := [.int c409.1]) (rv := some (.int c410.1)) (h' := (HM P c410.2 T)) rfl (Em_room_89 c409.2 _ _ hq P T) ?_
                  show ai_ev D1 mm_comesDown 146 [some (.ref 89), some (.int y401), some (.int y402), some (.int y403), some (.int c404.1)] [.int c410.1, .int c409.1] (HM P c410.2 T) 0 0 _
                  refine ev_go 5 (pc' := 154) (L' := [some (.ref 89), some (.int y401), some (.int y402), some (.int y403), some (.int c404.1)]) (st' := [.int (8 + y403), .ref 90, .int c410.1, .int c409.1]) (h' := (HM P c410.2 T)) (cs' := 0) (sl' := 0) rfl ?_
                  obtain ⟨v411, hq, h⟩ := ai_bdE h
                  refine ev_iald rfl rfl hq ?_
                  refine ev_go 1 (pc' := 156) (L' := [some (.ref 89), some (.int y401), some (.int y402), some (.int y403), some (.int c404.1)]) (st' := [.int (c410.1 * v411), .int c409.1]) (h' := (HM P c410.2 T)) (cs' := 0) (sl' := 0) rfl ?_
                  rcases ai_ifE h with ⟨hc, h⟩ | ⟨hc, h⟩
                  · refine ev_ic_gt (t := 167) rfl rfl (fun _ => ?_) (fun c9 => absurd hc c9)
                    refine ev_go 7 (pc' := 176) (L' := [some (.ref 89), some (.int y401), some (.int y402), some (.int y403), some (.int c404.1)]) (st' := [.int ((a_m_passes c410.2) ||| (1 <<< (y403 &&& 31))), .ref 89]) (h' := (HM P c410.2 T)) (cs' := 0) (sl' := 0) rfl ?_
                    refine ev_step rfl rfl rfl (PFM_8_210_89 rfl) ?_
                    refine ev_go 5 (pc' := 187) (L' := [some (.ref 89), some (.int y401), some (.int y402), some (.int y403), some (.int c404.1)]) (st' := [.int ((a_m_down c410.2) + c404.1), .ref 89]) (h' := (HM P (u_m_passes c410.2 ((a_m_passes c410.2) ||| (1 <<< (y403 &&& 31)))) T)) (cs' := 0) (sl' := 0) rfl ?_
                    refine ev_step rfl rfl rfl (PFM_8_204_89 rfl) ?_
                    refine ev_go 4 (pc' := 29) (L' := [some (.ref 89), some (.int y401), some (.int y403), some (.int (y403 + 1)), some (.int c404.1)]) (st' := []) (h' := (HM P (u_m_down (u_m_passes c410.2 ((a_m_passes c410.2) ||| (1 <<< (y403 &&& 31)))) ((a_m_down c410.2) + c404.1)) T)) (cs' := 0) (sl' := 0) rfl ?_
                    exact ih0 _ _ _ _ _ h P T _
                  · refine ev_ic_gt (t := 167) rfl rfl (fun c9 => absurd c9 hc) (fun _ => ?_)
                    refine ev_go 2 (pc' := 161) (L' := [some (.ref 89), some (.int y401), some (.int y402), some (.int y403), some (.int c404.1)]) (st' := [.int y403, .ref 89]) (h' := (HM P c410.2 T)) (cs' := 0) (sl' := 0) rfl ?_
                    refine ev_step rfl rfl rfl (PFM_8_201_89 rfl) ?_
                    refine ev_go 3 (pc' := 29) (L' := [some (.ref 89), some (.int y401), some (.int y402), some (.int (y403 + 1)), some (.int c404.1)]) (st' := []) (h' := (HM P (u_m_restsIn c410.2 y403) T)) (cs' := 0) (sl' := 0) rfl ?_
                    exact ih0 _ _ _ _ _ h P T _
                · refine ev_if_eq (t := 129) rfl rfl (fun c9 => absurd c9 hc) (fun _ => ?_)
                  refine ev_go 3 (pc' := 135) (L' := [some (.ref 89), some (.int y401), some (.int y402), some (.int y403), some (.int c404.1)]) (st' := [.int ((a_m_broken c404.2) ||| 0), .ref 89]) (h' := (HM P c404.2 T)) (cs' := 0) (sl' := 0) rfl ?_
                  refine ev_step rfl rfl rfl (PFM_8_207_89 rfl) ?_
                  refine ev_go 1 (pc' := 139) (L' := [some (.ref 89), some (.int y401), some (.int y402), some (.int y403), some (.int c404.1)]) (st' := [.ref 89]) (h' := (HM P (u_m_broken c404.2 ((a_m_broken c404.2) ||| 0)) T)) (cs' := 0) (sl' := 0) rfl ?_
                  obtain ⟨c412, hq, h⟩ := ai_bdE h
                  refine ev_call (M' := mm_weighs) (L' := [some (.ref 89), none]) (rest := []) (rv := some (.int c412.1)) (h' := (HM P c412.2 T)) rfl (Em_weighs_89 (u_m_broken c404.2 ((a_m_broken c404.2) ||| 0)) _ _ hq P T) ?_
                  show ai_ev D1 mm_comesDown 142 [some (.ref 89), some (.int y401), some (.int y402), some (.int y403), some (.int c404.1)] [.int c412.1] (HM P c412.2 T) 0 0 _
                  refine ev_go 1 (pc' := 143) (L' := [some (.ref 89), some (.int y401), some (.int y402), some (.int y403), some (.int c404.1)]) (st' := [.ref 89, .int c412.1]) (h' := (HM P c412.2 T)) (cs' := 0) (sl' := 0) rfl ?_
                  obtain ⟨c413, hq, h⟩ := ai_bdE h
                  refine ev_call (M' := mm_room) (L' := [some (.ref 89)]) (rest := [.int c412.1]) (rv := some (.int c413.1)) (h' := (HM P c413.2 T)) rfl (Em_room_89 c412.2 _ _ hq P T) ?_
                  show ai_ev D1 mm_comesDown 146 [some (.ref 89), some (.int y401), some (.int y402), some (.int y403), some (.int c404.1)] [.int c413.1, .int c412.1] (HM P c413.2 T) 0 0 _
                  refine ev_go 5 (pc' := 154) (L' := [some (.ref 89), some (.int y401), some (.int y402), some (.int y403), some (.int c404.1)]) (st' := [.int (8 + y403), .ref 90, .int c413.1, .int c412.1]) (h' := (HM P c413.2 T)) (cs' := 0) (sl' := 0) rfl ?_
                  obtain ⟨v414, hq, h⟩ := ai_bdE h
                  refine ev_iald rfl rfl hq ?_
                  refine ev_go 1 (pc' := 156) (L' := [some (.ref 89), some (.int y401), some (.int y402), some (.int y403), some (.int c404.1)]) (st' := [.int (c413.1 * v414), .int c412.1]) (h' := (HM P c413.2 T)) (cs' := 0) (sl' := 0) rfl ?_
                  rcases ai_ifE h with ⟨hc, h⟩ | ⟨hc, h⟩
                  · refine ev_ic_gt (t := 167) rfl rfl (fun _ => ?_) (fun c9 => absurd hc c9)
                    refine ev_go 7 (pc' := 176) (L' := [some (.ref 89), some (.int y401), some (.int y402), some (.int y403), some (.int c404.1)]) (st' := [.int ((a_m_passes c413.2) ||| (1 <<< (y403 &&& 31))), .ref 89]) (h' := (HM P c413.2 T)) (cs' := 0) (sl' := 0) rfl ?_
                    refine ev_step rfl rfl rfl (PFM_8_210_89 rfl) ?_
                    refine ev_go 5 (pc' := 187) (L' := [some (.ref 89), some (.int y401), some (.int y402), some (.int y403), some (.int c404.1)]) (st' := [.int ((a_m_down c413.2) + c404.1), .ref 89]) (h' := (HM P (u_m_passes c413.2 ((a_m_passes c413.2) ||| (1 <<< (y403 &&& 31)))) T)) (cs' := 0) (sl' := 0) rfl ?_
                    refine ev_step rfl rfl rfl (PFM_8_204_89 rfl) ?_
                    refine ev_go 4 (pc' := 29) (L' := [some (.ref 89), some (.int y401), some (.int y403), some (.int (y403 + 1)), some (.int c404.1)]) (st' := []) (h' := (HM P (u_m_down (u_m_passes c413.2 ((a_m_passes c413.2) ||| (1 <<< (y403 &&& 31)))) ((a_m_down c413.2) + c404.1)) T)) (cs' := 0) (sl' := 0) rfl ?_
                    exact ih0 _ _ _ _ _ h P T _
                  · refine ev_ic_gt (t := 167) rfl rfl (fun c9 => absurd c9 hc) (fun _ => ?_)
                    refine ev_go 2 (pc' := 161) (L' := [some (.ref 89), some (.int y401), some (.int y402), some (.int y403), some (.int c404.1)]) (st' := [.int y403, .ref 89]) (h' := (HM P c413.2 T)) (cs' := 0) (sl' := 0) rfl ?_
                    refine ev_step rfl rfl rfl (PFM_8_201_89 rfl) ?_
                    refine ev_go 3 (pc' := 29) (L' := [some (.ref 89), some (.int y401), some (.int y402), some (.int (y403 + 1)), some (.int c404.1)]) (st' := []) (h' := (HM P (u_m_restsIn c413.2 y403) T)) (cs' := 0) (sl' := 0) rfl ?_
                    exact ih0 _ _ _ _ _ h P T _
          · refine ev_if_le (t := 97) rfl rfl (fun c9 => absurd c9 hc) (fun _ => ?_)
            refine ev_go 2 (pc' := 69) (L' := [some (.ref 89), some (.int y401), some (.int y402), some (.int y403), some (.int c404.1)]) (st' := [.int (-1), .int y402]) (h' := (HM P c404.2 T)) (cs' := 0) (sl' := 0) rfl ?_
            rcases ai_ifE h with ⟨hc, h⟩ | ⟨hc, h⟩
            · refine ev_ic_eq (t := 97) rfl rfl (fun _ => ?_) (fun c9 => absurd hc c9)
              refine ev_go 1 (pc' := 99) (L' := [some (.ref 89), some (.int y401), some (.int y402), some (.int y403), some (.int c404.1)]) (st' := [.int c404.1]) (h' := (HM P c404.2 T)) (cs' := 0) (sl' := 0) rfl ?_
              rcases ai_ifE h with ⟨hc, h⟩ | ⟨hc, h⟩
              · refine ev_if_le (t := 192) rfl rfl (fun _ => ?_) (fun c9 => absurd hc c9)
                refine ev_go 2 (pc' := 29) (L' := [some (.ref 89), some (.int y401), some (.int y402), some (.int (y403 + 1)), some (.int c404.1)]) (st' := []) (h' := (HM P c404.2 T)) (cs' := 0) (sl' := 0) rfl ?_
                exact ih0 _ _ _ _ _ h P T _
              · refine ev_if_le (t := 192) rfl rfl (fun c9 => absurd c9 hc) (fun _ => ?_)
                refine ev_go 5 (pc' := 109) (L' := [some (.ref 89), some (.int y401), some (.int y402), some (.int y403), some (.int c404.1)]) (st' := [.int (-1), .int y402, .int (a_m_broken c404.2), .ref 89]) (h' := (HM P c404.2 T)) (cs' := 0) (sl' := 0) rfl ?_
                rcases ai_ifE h with ⟨hc, h⟩ | ⟨hc, h⟩
                · refine ev_ic_eq (t := 125) rfl rfl (fun _ => ?_) (fun c9 => absurd hc c9)
                  refine ev_go 3 (pc' := 135) (L' := [some (.ref 89), some (.int y401), some (.int y402), some (.int y403), some (.int c404.1)]) (st' := [.int ((a_m_broken c404.2) ||| 0), .ref 89]) (h' := (HM P c404.2 T)) (cs' := 0) (sl' := 0) rfl ?_
                  refine ev_step rfl rfl rfl (PFM_8_207_89 rfl) ?_
                  refine ev_go 1 (pc' := 139) (L' := [some (.ref 89), some (.int y401), some (.int y402), some (.int y403), some (.int c404.1)]) (st' := [.ref 89]) (h' := (HM P (u_m_broken c404.2 ((a_m_broken c404.2) ||| 0)) T)) (cs' := 0) (sl' := 0) rfl ?_
                  obtain ⟨c415, hq, h⟩ := ai_bdE h
                  refine ev_call (M' := mm_weighs) (L' := [some (.ref 89), none]) (rest := []) (rv := some (.int c415.1)) (h' := (HM P c415.2 T)) rfl (Em_weighs_89 (u_m_broken c404.2 ((a_m_broken c404.2) ||| 0)) _ _ hq P T) ?_
                  show ai_ev D1 mm_comesDown 142 [some (.ref 89), some (.int y401), some (.int y402), some (.int y403), some (.int c404.1)] [.int c415.1] (HM P c415.2 T) 0 0 _
                  refine ev_go 1 (pc' := 143) (L' := [some (.ref 89), some (.int y401), some (.int y402), some (.int y403), some (.int c404.1)]) (st' := [.ref 89, .int c415.1]) (h' := (HM P c415.2 T)) (cs' := 0) (sl' := 0) rfl ?_
                  obtain ⟨c416, hq, h⟩ := ai_bdE h
                  refine ev_call (M' := mm_room) (L' := [some (.ref 89)]) (rest := [.int c415.1]) (rv := some (.int c416.1)) (h' := (HM P c416.2 T)) rfl (Em_room_89 c415.2 _ _ hq P T) ?_
                  show ai_ev D1 mm_comesDown 146 [some (.ref 89), some (.int y401), some (.int y402), some (.int y403), some (.int c404.1)] [.int c416.1, .int c415.1] (HM P c416.2 T) 0 0 _
                  refine ev_go 5 (pc' := 154) (L' := [some (.ref 89), some (.int y401), some (.int y402), some (.int y403), some (.int c404.1)]) (st' := [.int (8 + y403), .ref 90, .int c416.1, .int c415.1]) (h' := (HM P c416.2 T)) (cs' := 0) (sl' := 0) rfl ?_
                  obtain ⟨v417, hq, h⟩ := ai_bdE h
                  refine ev_iald rfl rfl hq ?_
                  refine ev_go 1 (pc' := 156) (L' := [some (.ref 89), some (.int y401), some (.int y402), some (.int y403), some (.int c404.1)]) (st' := [.int (c416.1 * v417), .int c415.1]) (h' := (HM P c416.2 T)) (cs' := 0) (sl' := 0) rfl ?_
                  rcases ai_ifE h with ⟨hc, h⟩ | ⟨hc, h⟩
                  · refine ev_ic_gt (t := 167) rfl rfl (fun _ => ?_) (fun c9 => absurd hc c9)
                    refine ev_go 7 (pc' := 176) (L' := [some (.ref 89), some (.int y401), some (.int y402), some (.int y403), some (.int c404.1)]) (st' := [.int ((a_m_passes c416.2) ||| (1 <<< (y403 &&& 31))), .ref 89]) (h' := (HM P c416.2 T)) (cs' := 0) (sl' := 0) rfl ?_
                    refine ev_step rfl rfl rfl (PFM_8_210_89 rfl) ?_
                    refine ev_go 5 (pc' := 187) (L' := [some (.ref 89), some (.int y401), some (.int y402), some (.int y403), some (.int c404.1)]) (st' := [.int ((a_m_down c416.2) + c404.1), .ref 89]) (h' := (HM P (u_m_passes c416.2 ((a_m_passes c416.2) ||| (1 <<< (y403 &&& 31)))) T)) (cs' := 0) (sl' := 0) rfl ?_
                    refine ev_step rfl rfl rfl (PFM_8_204_89 rfl) ?_
                    refine ev_go 4 (pc' := 29) (L' := [some (.ref 89), some (.int y401), some (.int y403), some (.int (y403 + 1)), some (.int c404.1)]) (st' := []) (h' := (HM P (u_m_down (u_m_passes c416.2 ((a_m_passes c416.2) ||| (1 <<< (y403 &&& 31)))) ((a_m_down c416.2) + c404.1)) T)) (cs' := 0) (sl' := 0) rfl ?_
                    exact ih0 _ _ _ _ _ h P T _
                  · refine ev_ic_gt (t := 167) rfl rfl (fun c9 => absurd c9 hc) (fun _ => ?_)
                    refine ev_go 2 (pc' := 161) (L' := [some (.ref 89), some (.int y401), some (.int y402), some (.int y403), some (.int c404.1)]) (st' := [.int y403, .ref 89]) (h' := (HM P c416.2 T)) (cs' := 0) (sl' := 0) rfl ?_
                    refine ev_step rfl rfl rfl (PFM_8_201_89 rfl) ?_
                    refine ev_go 3 (pc' := 29) (L' := [some (.ref 89), some (.int y401), some (.int y402), some (.int (y403 + 1)), some (.int c404.1)]) (st' := []) (h' := (HM P (u_m_restsIn c416.2 y403) T)) (cs' := 0) (sl' := 0) rfl ?_
                    exact ih0 _ _ _ _ _ h P T _
                · refine ev_ic_eq (t := 125) rfl rfl (fun c9 => absurd c9 hc) (fun _ => ?_)
                  refine ev_go 5 (pc' := 119) (L' := [some (.ref 89), some (.int y401), some (.int y402), some (.int y403), some (.int c404.1)]) (st' := [.int (y403 - 1), .int (a_m_torn c404.2), .int (a_m_broken c404.2), .ref 89]) (h' := (HM P c404.2 T)) (cs' := 0) (sl' := 0) rfl ?_
                  obtain ⟨c418, hq, h⟩ := ai_bdE h
                  refine ev_call (M' := mm_has) (L' := [some (.int (a_m_torn c404.2)), some (.int (y403 - 1))]) (rest := [.int (a_m_broken c404.2), .ref 89]) (rv := some (.int c418)) (h' := (HM P c404.2 T)) rfl (Em_has (a_m_torn c404.2) (y403 - 1) _ hq (HM P c404.2 T)) ?_
                  show ai_ev D1 mm_comesDown 122 [some (.ref 89), some (.int y401), some (.int y402), some (.int y403), some (.int c404.1)] [.int c418, .int (a_m_broken c404.2), .ref 89] (HM P c404.2 T) 0 0 _
                  rcases ai_ifE h with ⟨hc, h⟩ | ⟨hc, h⟩
                  · refine ev_if_eq (t := 129) rfl rfl (fun _ => ?_) (fun c9 => absurd hc c9)
                    refine ev_go 6 (pc' := 135) (L' := [some (.ref 89), some (.int y401), some (.int y402), some (.int y403), some (.int c404.1)]) (st' := [.int ((a_m_broken c404.2) ||| (1 <<< ((y403 - 1) &&& 31))), .ref 89]) (h' := (HM P c404.2 T)) (cs' := 0) (sl' := 0) rfl ?_
                    refine ev_step rfl rfl rfl (PFM_8_207_89 rfl) ?_
                    refine ev_go 1 (pc' := 139) (L' := [some (.ref 89), some (.int y401), some (.int y402), some (.int y403), some (.int c404.1)]) (st' := [.ref 89]) (h' := (HM P (u_m_broken c404.2 ((a_m_broken c404.2) ||| (1 <<< ((y403 - 1) &&& 31)))) T)) (cs' := 0) (sl' := 0) rfl ?_
                    obtain ⟨c419, hq, h⟩ := ai_bdE h
                    refine ev_call (M' := mm_weighs) (L' := [some (.ref 89), none]) (rest := []) (rv := some (.int c419.1)) (h' := (HM P c419.2 T)) rfl (Em_weighs_89 (u_m_broken c404.2 ((a_m_broken c404.2) ||| (1 <<< ((y403 - 1) &&& 31)))) _ _ hq P T) ?_
                    show ai_ev D1 mm_comesDown 142 [some (.ref 89), some (.int y401), some (.int y402), some (.int y403), some (.int c404.1)] [.int c419.1] (HM P c419.2 T) 0 0 _
                    refine ev_go 1 (pc' := 143) (L' := [some (.ref 89), some (.int y401), some (.int y402), some (.int y403), some (.int c404.1)]) (st' := [.ref 89, .int c419.1]) (h' := (HM P c419.2 T)) (cs' := 0) (sl' := 0) rfl ?_
                    obtain ⟨c420, hq, h⟩ := ai_bdE h
                    refine ev_call (M' := mm_room) (L' := [some (.ref 89)]) (rest := [.int c419.1]) (rv := some (.int c420.1)) (h' := (HM P c420.2 T)) rfl (Em_room_89 c419.2 _ _ hq P T) ?_
                    show ai_ev D1 mm_comesDown 146 [some (.ref 89), some (.int y401), some (.int y402), some (.int y403), some (.int c404.1)] [.int c420.1, .int c419.1] (HM P c420.2 T) 0 0 _
                    refine ev_go 5 (pc' := 154) (L' := [some (.ref 89), some (.int y401), some (.int y402), some (.int y403), some (.int c404.1)]) (st' := [.int (8 + y403), .ref 90, .int c420.1, .int c419.1]) (h' := (HM P c420.2 T)) (cs' := 0) (sl' := 0) rfl ?_
                    obtain ⟨v421, hq, h⟩ := ai_bdE h
                    refine ev_iald rfl rfl hq ?_
                    refine ev_go 1 (pc' := 156) (L' := [some (.ref 89), some (.int y401), some (.int y402), some (.int y403), some (.int c404.1)]) (st' := [.int (c420.1 * v421), .int c419.1]) (h' := (HM P c420.2 T)) (cs' := 0) (sl' := 0) rfl ?_
                    rcases ai_ifE h with ⟨hc, h⟩ | ⟨hc, h⟩
                    · refine ev_ic_gt (t := 167) rfl rfl (fun _ => ?_) (fun c9 => absurd hc c9)
                      refine ev_go 7 (pc' := 176) (L' := [some (.ref 89), some (.int y401), some (.int y402), some (.int y403), some (.int c404.1)]) (st' := [.int ((a_m_passes c420.2) ||| (1 <<< (y403 &&& 31))), .ref 89]) (h' := (HM P c420.2 T)) (cs' := 0) (sl' := 0) rfl ?_
                      refine ev_step rfl rfl rfl (PFM_8_210_89 rfl) ?_
                      refine ev_go 5 (pc' := 187) (L' := [some (.ref 89), some (.int y401), some (.int y402), some (.int y403), some (.int c404.1)]) (st' := [.int ((a_m_down c420.2) + c404.1), .ref 89]) (h' := (HM P (u_m_passes c420.2 ((a_m_passes c420.2) ||| (1 <<< (y403 &&& 31)))) T)) (cs' := 0) (sl' := 0) rfl ?_
                      refine ev_step rfl rfl rfl (PFM_8_204_89 rfl) ?_
                      refine ev_go 4 (pc' := 29) (L' := [some (.ref 89), some (.int y401), some (.int y403), some (.int (y403 + 1)), some (.int c404.1)]) (st' := []) (h' := (HM P (u_m_down (u_m_passes c420.2 ((a_m_passes c420.2) ||| (1 <<< (y403 &&& 31)))) ((a_m_down c420.2) + c404.1)) T)) (cs' := 0) (sl' := 0) rfl ?_
                      exact ih0 _ _ _ _ _ h P T _
                    · refine ev_ic_gt (t := 167) rfl rfl (fun c9 => absurd c9 hc) (fun _ => ?_)
                      refine ev_go 2 (pc' := 161) (L' := [some (.ref 89), some (.int y401), some (.int y402), some (.int y403), some (.int c404.1)]) (st' := [.int y403, .ref 89]) (h' := (HM P c420.2 T)) (cs' := 0) (sl' := 0) rfl ?_
                      refine ev_step rfl rfl rfl (PFM_8_201_89 rfl) ?_
                      refine ev_go 3 (pc' := 29) (L' := [some (.ref 89), some (.int y401), some (.int y402), some (.int (y403 + 1)), some (.int c404.1)]) (st' := []) (h' := (HM P (u_m_restsIn c420.2 y403) T)) (cs' := 0) (sl' := 0) rfl ?_
                      exact ih0 _ _ _ _ _ h P T _
                  · refine ev_if_eq (t := 129) rfl rfl (fun c9 => absurd c9 hc) (fun _ => ?_)
                    refine ev_go 3 (pc' := 135) (L' := [some (.ref 89), some (.int y401), some (.int y402), some (.int y403), some (.int c404.1)]) (st' := [.int ((a_m_broken c404.2) ||| 0), .ref 89]) (h' := (HM P c404.2 T)) (cs' := 0) (sl' := 0) rfl ?_
                    refine ev_step rfl rfl rfl (PFM_8_207_89 rfl) ?_
                    refine ev_go 1 (pc' := 139) (L' := [some (.ref 89), some (.int y401), some (.int y402), some (.int y403), some (.int c404.1)]) (st' := [.ref 89]) (h' := (HM P (u_m_broken c404.2 ((a_m_broken c404.2) ||| 0)) T)) (cs' := 0) (sl' := 0) rfl ?_
                    obtain ⟨c422, hq, h⟩ := ai_bdE h
                    refine ev_call (M' := mm_weighs) (L' := [some (.ref 89), none]) (rest := []) (rv := some (.int c422.1)) (h' := (HM P c422.2 T)) rfl (Em_weighs_89 (u_m_broken c404.2 ((a_m_broken c404.2) ||| 0)) _ _ hq P T) ?_
                    show ai_ev D1 mm_comesDown 142 [some (.ref 89), some (.int y401), some (.int y402), some (.int y403), some (.int c404.1)] [.int c422.1] (HM P c422.2 T) 0 0 _
                    refine ev_go 1 (pc' := 143) (L' := [some (.ref 89), some (.int y401), some (.int y402), some (.int y403), some (.int c404.1)]) (st' := [.ref 89, .int c422.1]) (h' := (HM P c422.2 T)) (cs' := 0) (sl' := 0) rfl ?_
                    obtain ⟨c423, hq, h⟩ := ai_bdE h
                    refine ev_call (M' := mm_room) (L' := [some (.ref 89)]) (rest := [.int c422.1]) (rv := some (.int c423.1)) (h' := (HM P c423.2 T)) rfl (Em_room_89 c422.2 _ _ hq P T) ?_
                    show ai_ev D1 mm_comesDown 146 [some (.ref 89), some (.int y401), some (.int y402), some (.int y403), some (.int c404.1)] [.int c423.1, .int c422.1] (HM P c423.2 T) 0 0 _
                    refine ev_go 5 (pc' := 154) (L' := [some (.ref 89), some (.int y401), some (.int y402), some (.int y403), some (.int c404.1)]) (st' := [.int (8 + y403), .ref 90, .int c423.1, .int c422.1]) (h' := (HM P c423.2 T)) (cs' := 0) (sl' := 0) rfl ?_
                    obtain ⟨v424, hq, h⟩ := ai_bdE h
                    refine ev_iald rfl rfl hq ?_
                    refine ev_go 1 (pc' := 156) (L' := [some (.ref 89), some (.int y401), some (.int y402), some (.int y403), some (.int c404.1)]) (st' := [.int (c423.1 * v424), .int c422.1]) (h' := (HM P c423.2 T)) (cs' := 0) (sl' := 0) rfl ?_
                    rcases ai_ifE h with ⟨hc, h⟩ | ⟨hc, h⟩
                    · refine ev_ic_gt (t := 167) rfl rfl (fun _ => ?_) (fun c9 => absurd hc c9)
                      refine ev_go 7 (pc' := 176) (L' := [some (.ref 89), some (.int y401), some (.int y402), some (.int y403), some (.int c404.1)]) (st' := [.int ((a_m_passes c423.2) ||| (1 <<< (y403 &&& 31))), .ref 89]) (h' := (HM P c423.2 T)) (cs' := 0) (sl' := 0) rfl ?_
                      refine ev_step rfl rfl rfl (PFM_8_210_89 rfl) ?_
                      refine ev_go 5 (pc' := 187) (L' := [some (.ref 89), some (.int y401), some (.int y402), some (.int y403), some (.int c404.1)]) (st' := [.int ((a_m_down c423.2) + c404.1), .ref 89]) (h' := (HM P (u_m_passes c423.2 ((a_m_passes c423.2) ||| (1 <<< (y403 &&& 31)))) T)) (cs' := 0) (sl' := 0) rfl ?_
                      refine ev_step rfl rfl rfl (PFM_8_204_89 rfl) ?_
                      refine ev_go 4 (pc' := 29) (L' := [some (.ref 89), some (.int y401), some (.int y403), some (.int (y403 + 1)), some (.int c404.1)]) (st' := []) (h' := (HM P (u_m_down (u_m_passes c423.2 ((a_m_passes c423.2) ||| (1 <<< (y403 &&& 31)))) ((a_m_down c423.2) + c404.1)) T)) (cs' := 0) (sl' := 0) rfl ?_
                      exact ih0 _ _ _ _ _ h P T _
                    · refine ev_ic_gt (t := 167) rfl rfl (fun c9 => absurd c9 hc) (fun _ => ?_)
                      refine ev_go 2 (pc' := 161) (L' := [some (.ref 89), some (.int y401), some (.int y402), some (.int y403), some (.int c404.1)]) (st' := [.int y403, .ref 89]) (h' := (HM P c423.2 T)) (cs' := 0) (sl' := 0) rfl ?_
                      refine ev_step rfl rfl rfl (PFM_8_201_89 rfl) ?_
                      refine ev_go 3 (pc' := 29) (L' := [some (.ref 89), some (.int y401), some (.int y402), some (.int (y403 + 1)), some (.int c404.1)]) (st' := []) (h' := (HM P (u_m_restsIn c423.2 y403) T)) (cs' := 0) (sl' := 0) rfl ?_
                      exact ih0 _ _ _ _ _ h P T _
            · refine ev_ic_eq (t := 97) rfl rfl (fun c9 => absurd c9 hc) (fun _ => ?_)
              refine ev_go 4 (pc' := 76) (L' := [some (.ref 89), some (.int y401), some (.int y402), some (.int y403), some (.int c404.1)]) (st' := [.int (y403 - 1), .ref 89]) (h' := (HM P c404.2 T)) (cs' := 0) (sl' := 0) rfl ?_
              obtain ⟨c430, hq, h⟩ := ai_bdE h
              refine ev_call (M' := mm_breaks) (L' := [some (.ref 89), some (.int (y403 - 1)), none]) (rest := []) (rv := some (.int c430.1)) (h' := (HM P c430.2 T)) rfl (Em_breaks_89 (y403 - 1) c404.2 _ _ hq P T) ?_
              show ai_ev D1 mm_comesDown 79 [some (.ref 89), some (.int y401), some (.int y402), some (.int y403), some (.int c404.1)] [.int c430.1] (HM P c430.2 T) 0 0 _
              rcases ai_ifE h with ⟨hc, h⟩ | ⟨hc, h⟩
              · refine ev_if_ne (t := 97) rfl rfl (fun c9 => absurd hc c9) (fun _ => ?_)
                refine ev_go 4 (pc' := 86) (L' := [some (.ref 89), some (.int y401), some (.int y402), some (.int y403), some (.int c404.1)]) (st' := [.int (y403 - 1), .ref 89]) (h' := (HM P c430.2 T)) (cs' := 0) (sl' := 0) rfl ?_
                refine ev_step rfl rfl rfl (PFM_8_213_89 rfl) ?_
                refine ev_go 2 (pc' := 91) (L' := [some (.ref 89), some (.int y401), some (.int y402), some (.int y403), some (.int c404.1)]) (st' := [.int y402, .ref 89]) (h' := (HM P (u_m_stops c430.2 (y403 - 1)) T)) (cs' := 0) (sl' := 0) rfl ?_
                refine ev_step rfl rfl rfl (PFM_8_201_89 rfl) ?_
                refine ev_go 3 (pc' := 29) (L' := [some (.ref 89), some (.int y401), some (.int y402), some (.int (y403 + 1)), some (.int c404.1)]) (st' := []) (h' := (HM P (u_m_restsIn (u_m_stops c430.2 (y403 - 1)) y402) T)) (cs' := 0) (sl' := 0) rfl ?_
                exact ih0 _ _ _ _ _ h P T _
              · refine ev_if_ne (t := 97) rfl rfl (fun _ => ?_) (fun c9 => absurd c9 hc)
                refine ev_go 1 (pc' := 99) (L' := [some (.ref 89), some (.int y401), some (.int y402), some (.int y403), some (.int c404.1)]) (st' := [.int c404.1]) (h' := (HM P c430.2 T)) (cs' := 0) (sl' := 0) rfl ?_
                rcases ai_ifE h with ⟨hc, h⟩ | ⟨hc, h⟩
                · refine ev_if_le (t := 192) rfl rfl (fun _ => ?_) (fun c9 => absurd hc c9)
                  refine ev_go 2 (pc' := 29) (L' := [some (.ref 89), some (.int y401), some (.int y402), some (.int (y403 + 1)), some (.int c404.1)]) (st' := []) (h' := (HM P c430.2 T)) (cs' := 0) (sl' := 0) rfl ?_
                  exact ih0 _ _ _ _ _ h P T _
                · refine ev_if_le (t := 192) rfl rfl (fun c9 => absurd c9 hc) (fun _ => ?_)
                  refine ev_go 5 (pc' := 109) (L' := [some (.ref 89), some (.int y401), some (.int y402), some (.int y403), some (.int c404.1)]) (st' := [.int (-1), .int y402, .int (a_m_broken c430.2), .ref 89]) (h' := (HM P c430.2 T)) (cs' := 0) (sl' := 0) rfl ?_
                  rcases ai_ifE h with ⟨hc, h⟩ | ⟨hc, h⟩
                  · refine ev_ic_eq (t := 125) rfl rfl (fun _ => ?_) (fun c9 => absurd hc c9)
                    refine ev_go 3 (pc' := 135) (L' := [some (.ref 89), some (.int y401), some (.int y402), some (.int y403), some (.int c404.1)]) (st' := [.int ((a_m_broken c430.2) ||| 0), .ref 89]) (h' := (HM P c430.2 T)) (cs' := 0) (sl' := 0) rfl ?_
                    refine ev_step rfl rfl rfl (PFM_8_207_89 rfl) ?_
                    refine ev_go 1 (pc' := 139) (L' := [some (.ref 89), some (.int y401), some (.int y402), some (.int y403), some (.int c404.1)]) (st' := [.ref 89]) (h' := (HM P (u_m_broken c430.2 ((a_m_broken c430.2) ||| 0)) T)) (cs' := 0) (sl' := 0) rfl ?_
                    obtain ⟨c431, hq, h⟩ := ai_bdE h
                    refine ev_call (M' := mm_weighs) (L' := [some (.ref 89), none]) (rest := []) (rv := some (.int c431.1)) (h' := (HM P c431.2 T)) rfl (Em_weighs_89 (u_m_broken c430.2 ((a_m_broken c430.2) ||| 0)) _ _ hq P T) ?_
                    show ai_ev D1 mm_comesDown 142 [some (.ref 89), some (.int y401), some (.int y402), some (.int y403), some (.int c404.1)] [.int c431.1] (HM P c431.2 T) 0 0 _
                    refine ev_go 1 (pc' := 143) (L' := [some (.ref 89), some (.int y401), some (.int y402), some (.int y403), some (.int c404.1)]) (st' := [.ref 89, .int c431.1]) (h' := (HM P c431.2 T)) (cs' := 0) (sl' := 0) rfl ?_
                    obtain ⟨c432, hq, h⟩ := ai_bdE h
                    refine ev_call (M' := mm_room) (L' := [some (.ref 89)]) (rest := [.int c431.1]) (rv := some (.int c432.1)) (h' := (HM P c432.2 T)) rfl (Em_room_89 c431.2 _ _ hq P T) ?_
                    show ai_ev D1 mm_comesDown 146 [some (.ref 89), some (.int y401), some (.int y402), some (.int y403), some (.int c404.1)] [.int c432.1, .int c431.1] (HM P c432.2 T) 0 0 _
                    refine ev_go 5 (pc' := 154) (L' := [some (.ref 89), some (.int y401), some (.int y402), some (.int y403), some (.int c404.1)]) (st' := [.int (8 + y403), .ref 90, .int c432.1, .int c431.1]) (h' := (HM P c432.2 T)) (cs' := 0) (sl' := 0) rfl ?_
                    obtain ⟨v433, hq, h⟩ := ai_bdE h
                    refine ev_iald rfl rfl hq ?_
                    refine ev_go 1 (pc' := 156) (L' := [some (.ref 89), some (.int y401), some (.int y402), some (.int y403), some (.int c404.1)]) (st' := [.int (c432.1 * v433), .int c431.1]) (h' := (HM P c432.2 T)) (cs' := 0) (sl' := 0) rfl ?_
                    rcases ai_ifE h with ⟨hc, h⟩ | ⟨hc, h⟩
                    · refine ev_ic_gt (t := 167) rfl rfl (fun _ => ?_) (fun c9 => absurd hc c9)
                      refine ev_go 7 (pc' := 176) (L' := [some (.ref 89), some (.int y401), some (.int y402), some (.int y403), some (.int c404.1)]) (st' := [.int ((a_m_passes c432.2) ||| (1 <<< (y403 &&& 31))), .ref 89]) (h' := (HM P c432.2 T)) (cs' := 0) (sl' := 0) rfl ?_
                      refine ev_step rfl rfl rfl (PFM_8_210_89 rfl) ?_
                      refine ev_go 5 (pc' := 187) (L' := [some (.ref 89), some (.int y401), some (.int y402), some (.int y403), some (.int c404.1)]) (st' := [.int ((a_m_down c432.2) + c404.1), .ref 89]) (h' := (HM P (u_m_passes c432.2 ((a_m_passes c432.2) ||| (1 <<< (y403 &&& 31)))) T)) (cs' := 0) (sl' := 0) rfl ?_
                      refine ev_step rfl rfl rfl (PFM_8_204_89 rfl) ?_
                      refine ev_go 4 (pc' := 29) (L' := [some (.ref 89), some (.int y401), some (.int y403), some (.int (y403 + 1)), some (.int c404.1)]) (st' := []) (h' := (HM P (u_m_down (u_m_passes c432.2 ((a_m_passes c432.2) ||| (1 <<< (y403 &&& 31)))) ((a_m_down c432.2) + c404.1)) T)) (cs' := 0) (sl' := 0) rfl ?_
                      exact ih0 _ _ _ _ _ h P T _
                    · refine ev_ic_gt (t := 167) rfl rfl (fun c9 => absurd c9 hc) (fun _ => ?_)
                      refine ev_go 2 (pc' := 161) (L' := [some (.ref 89), some (.int y401), some (.int y402), some (.int y403), some (.int c404.1)]) (st' := [.int y403, .ref 89]) (h' := (HM P c432.2 T)) (cs' := 0) (sl' := 0) rfl ?_
                      refine ev_step rfl rfl rfl (PFM_8_201_89 rfl) ?_
                      refine ev_go 3 (pc' := 29) (L' := [some (.ref 89), some (.int y401), some (.int y402), some (.int (y403 + 1)), some (.int c404.1)]) (st' := []) (h' := (HM P (u_m_restsIn c432.2 y403) T)) (cs' := 0) (sl' := 0) rfl ?_
                      exact ih0 _ _ _ _ _ h P T _
                  · refine ev_ic_eq (t := 125) rfl rfl (fun c9 => absurd c9 hc) (fun _ => ?_)
                    refine ev_go 5 (pc' := 119) (L' := [some (.ref 89), some (.int y401), some (.int y402), some (.int y403), some (.int c404.1)]) (st' := [.int (y403 - 1), .int (a_m_torn c430.2), .int (a_m_broken c430.2), .ref 89]) (h' := (HM P c430.2 T)) (cs' := 0) (sl' := 0) rfl ?_
                    obtain ⟨c434, hq, h⟩ := ai_bdE h
                    refine ev_call (M' := mm_has) (L' := [some (.int (a_m_torn c430.2)), some (.int (y403 - 1))]) (rest := [.int (a_m_broken c430.2), .ref 89]) (rv := some (.int c434)) (h' := (HM P c430.2 T)) rfl (Em_has (a_m_torn c430.2) (y403 - 1) _ hq (HM P c430.2 T)) ?_
                    show ai_ev D1 mm_comesDown 122 [some (.ref 89), some (.int y401), some (.int y402), some (.int y403), some (.int c404.1)] [.int c434, .int (a_m_broken c430.2), .ref 89] (HM P c430.2 T) 0 0 _
                    rcases ai_ifE h with ⟨hc, h⟩ | ⟨hc, h⟩
                    · refine ev_if_eq (t := 129) rfl rfl (fun _ => ?_) (fun c9 => absurd hc c9)
                      refine ev_go 6 (pc' := 135) (L' := [some (.ref 89), some (.int y401), some (.int y402), some (.int y403), some (.int c404.1)]) (st' := [.int ((a_m_broken c430.2) ||| (1 <<< ((y403 - 1) &&& 31))), .ref 89]) (h' := (HM P c430.2 T)) (cs' := 0) (sl' := 0) rfl ?_
                      refine ev_step rfl rfl rfl (PFM_8_207_89 rfl) ?_
                      refine ev_go 1 (pc' := 139) (L' := [some (.ref 89), some (.int y401), some (.int y402), some (.int y403), some (.int c404.1)]) (st' := [.ref 89]) (h' := (HM P (u_m_broken c430.2 ((a_m_broken c430.2) ||| (1 <<< ((y403 - 1) &&& 31)))) T)) (cs' := 0) (sl' := 0) rfl ?_
                      obtain ⟨c435, hq, h⟩ := ai_bdE h
                      refine ev_call (M' := mm_weighs) (L' := [some (.ref 89), none]) (rest := []) (rv := some (.int c435.1)) (h' := (HM P c435.2 T)) rfl (Em_weighs_89 (u_m_broken c430.2 ((a_m_broken c430.2) ||| (1 <<< ((y403 - 1) &&& 31)))) _ _ hq P T) ?_
                      show ai_ev D1 mm_comesDown 142 [some (.ref 89), some (.int y401), some (.int y402), some (.int y403), some (.int c404.1)] [.int c435.1] (HM P c435.2 T) 0 0 _
                      refine ev_go 1 (pc' := 143) (L' := [some (.ref 89), some (.int y401), some (.int y402), some (.int y403), some (.int c404.1)]) (st' := [.ref 89, .int c435.1]) (h' := (HM P c435.2 T)) (cs' := 0) (sl' := 0) rfl ?_
                      obtain ⟨c436, hq, h⟩ := ai_bdE h
                      refine ev_call (M' := mm_room) (L' := [some (.ref 89)]) (rest := [.int c435.1]) (rv := some (.int c436.1)) (h' := (HM P c436.2 T)) rfl (Em_room_89 c435.2 _ _ hq P T) ?_
                      show ai_ev D1 mm_comesDown 146 [some (.ref 89), some (.int y401), some (.int y402), some (.int y403), some (.int c404.1)] [.int c436.1, .int c435.1] (HM P c436.2 T) 0 0 _
                      refine ev_go 5 (pc' := 154) (L' := [some (.ref 89), some (.int y401), some (.int y402), some (.int y403), some (.int c404.1)]) (st' := [.int (8 + y403), .ref 90, .int c436.1, .int c435.1]) (h' := (HM P c436.2 T)) (cs' := 0) (sl' := 0) rfl ?_
                      obtain ⟨v437, hq, h⟩ := ai_bdE h
                      refine ev_iald rfl rfl hq ?_
                      refine ev_go 1 (pc' := 156) (L' := [some (.ref 89), some (.int y401), some (.int y402), some (.int y403), some (.int c404.1)]) (st' := [.int (c436.1 * v437), .int c435.1]) (h' := (HM P c436.2 T)) (cs' := 0) (sl' := 0) rfl ?_
                      rcases ai_ifE h with ⟨hc, h⟩ | ⟨hc, h⟩
                      · refine ev_ic_gt (t := 167) rfl rfl (fun _ => ?_) (fun c9 => absurd hc c9)
                        refine ev_go 7 (pc' := 176) (L' := [some (.ref 89), some (.int y401), some (.int y402), some (.int y403), some (.int c404.1)]) (st' := [.int ((a_m_passes c436.2) ||| (1 <<< (y403 &&& 31))), .ref 89]) (h' := (HM P c436.2 T)) (cs' := 0) (sl' := 0) rfl ?_
                        refine ev_step rfl rfl rfl (PFM_8_210_89 rfl) ?_
                        refine ev_go 5 (pc' := 187) (L' := [some (.ref 89), some (.int y401), some (.int y402), some (.int y403), some (.int c404.1)]) (st' := [.int ((a_m_down c436.2) + c404.1), .ref 89]) (h' := (HM P (u_m_passes c436.2 ((a_m_passes c436.2) ||| (1 <<< (y403 &&& 31)))) T)) (cs' := 0) (sl' := 0) rfl ?_
                        refine ev_step rfl rfl rfl (PFM_8_204_89 rfl) ?_
                        refine ev_go 4 (pc' := 29) (L' := [some (.ref 89), some (.int y401), some (.int y403), some (.int (y403 + 1)), some (.int c404.1)]) (st' := []) (h' := (HM P (u_m_down (u_m_passes c436.2 ((a_m_passes c436.2) ||| (1 <<< (y403 &&& 31)))) ((a_m_down c436.2) + c404.1)) T)) (cs' := 0) (sl' := 0) rfl ?_
                        exact ih0 _ _ _ _ _ h P T _
                      · refine ev_ic_gt (t := 167) rfl rfl (fun c9 => absurd c9 hc) (fun _ => ?_)
                        refine ev_go 2 (pc' := 161) (L' := [some (.ref 89), some (.int y401), some (.int y402), some (.int y403), some (.int c404.1)]) (st' := [.int y403, .ref 89]) (h' := (HM P c436.2 T)) (cs' := 0) (sl' := 0) rfl ?_
                        refine ev_step rfl rfl rfl (PFM_8_201_89 rfl) ?_
                        refine ev_go 3 (pc' := 29) (L' := [some (.ref 89), some (.int y401), some (.int y402), some (.int (y403 + 1)), some (.int c404.1)]) (st' := []) (h' := (HM P (u_m_restsIn c436.2 y403) T)) (cs' := 0) (sl' := 0) rfl ?_
                        exact ih0 _ _ _ _ _ h P T _
                    · refine ev_if_eq (t := 129) rfl rfl (fun c9 => absurd c9 hc) (fun _ => ?_)
                      refine ev_go 3 (pc' := 135) (L' := [some (.ref 89), some (.int y401), some (.int y402), some (.int y403), some (.int c404.1)]) (st' := [.int ((a_m_broken c430.2) ||| 0), .ref 89]) (h' := (HM P c430.2 T)) (cs' := 0) (sl' := 0) rfl ?_
                      refine ev_step rfl rfl rfl (PFM_8_207_89 rfl) ?_
                      refine ev_go 1 (pc' := 139) (L' := [some (.ref 89), some (.int y401), some (.int y402), some (.int y403), some (.int c404.1)]) (st' := [.ref 89]) (h' := (HM P (u_m_broken c430.2 ((a_m_broken c430.2) ||| 0)) T)) (cs' := 0) (sl' := 0) rfl ?_
                      obtain ⟨c438, hq, h⟩ := ai_bdE h
                      refine ev_call (M' := mm_weighs) (L' := [some (.ref 89), none]) (rest := []) (rv := some (.int c438.1)) (h' := (HM P c438.2 T)) rfl (Em_weighs_89 (u_m_broken c430.2 ((a_m_broken c430.2) ||| 0)) _ _ hq P T) ?_
                      show ai_ev D1 mm_comesDown 142 [some (.ref 89), some (.int y401), some (.int y402), some (.int y403), some (.int c404.1)] [.int c438.1] (HM P c438.2 T) 0 0 _
                      refine ev_go 1 (pc' := 143) (L' := [some (.ref 89), some (.int y401), some (.int y402), some (.int y403), some (.int c404.1)]) (st' := [.ref 89, .int c438.1]) (h' := (HM P c438.2 T)) (cs' := 0) (sl' := 0) rfl ?_
                      obtain ⟨c439, hq, h⟩ := ai_bdE h
                      refine ev_call (M' := mm_room) (L' := [some (.ref 89)]) (rest := [.int c438.1]) (rv := some (.int c439.1)) (h' := (HM P c439.2 T)) rfl (Em_room_89 c438.2 _ _ hq P T) ?_
                      show ai_ev D1 mm_comesDown 146 [some (.ref 89), some (.int y401), some (.int y402), some (.int y403), some (.int c404.1)] [.int c439.1, .int c438.1] (HM P c439.2 T) 0 0 _
                      refine ev_go 5 (pc' := 154) (L' := [some (.ref 89), some (.int y401), some (.int y402), some (.int y403), some (.int c404.1)]) (st' := [.int (8 + y403), .ref 90, .int c439.1, .int c438.1]) (h' := (HM P c439.2 T)) (cs' := 0) (sl' := 0) rfl ?_
                      obtain ⟨v440, hq, h⟩ := ai_bdE h
                      refine ev_iald rfl rfl hq ?_
                      refine ev_go 1 (pc' := 156) (L' := [some (.ref 89), some (.int y401), some (.int y402), some (.int y403), some (.int c404.1)]) (st' := [.int (c439.1 * v440), .int c438.1]) (h' := (HM P c439.2 T)) (cs' := 0) (sl' := 0) rfl ?_
                      rcases ai_ifE h with ⟨hc, h⟩ | ⟨hc, h⟩
                      · refine ev_ic_gt (t := 167) rfl rfl (fun _ => ?_) (fun c9 => absurd hc c9)
                        refine ev_go 7 (pc' := 176) (L' := [some (.ref 89), some (.int y401), some (.int y402), some (.int y403), some (.int c404.1)]) (st' := [.int ((a_m_passes c439.2) ||| (1 <<< (y403 &&& 31))), .ref 89]) (h' := (HM P c439.2 T)) (cs' := 0) (sl' := 0) rfl ?_
                        refine ev_step rfl rfl rfl (PFM_8_210_89 rfl) ?_
                        refine ev_go 5 (pc' := 187) (L' := [some (.ref 89), some (.int y401), some (.int y402), some (.int y403), some (.int c404.1)]) (st' := [.int ((a_m_down c439.2) + c404.1), .ref 89]) (h' := (HM P (u_m_passes c439.2 ((a_m_passes c439.2) ||| (1 <<< (y403 &&& 31)))) T)) (cs' := 0) (sl' := 0) rfl ?_
                        refine ev_step rfl rfl rfl (PFM_8_204_89 rfl) ?_
                        refine ev_go 4 (pc' := 29) (L' := [some (.ref 89), some (.int y401), some (.int y403), some (.int (y403 + 1)), some (.int c404.1)]) (st' := []) (h' := (HM P (u_m_down (u_m_passes c439.2 ((a_m_passes c439.2) ||| (1 <<< (y403 &&& 31)))) ((a_m_down c439.2) + c404.1)) T)) (cs' := 0) (sl' := 0) rfl ?_
                        exact ih0 _ _ _ _ _ h P T _
                      · refine ev_ic_gt (t := 167) rfl rfl (fun c9 => absurd c9 hc) (fun _ => ?_)
                        refine ev_go 2 (pc' := 161) (L' := [some (.ref 89), some (.int y401), some (.int y402), some (.int y403), some (.int c404.1)]) (st' := [.int y403, .ref 89]) (h' := (HM P c439.2 T)) (cs' := 0) (sl' := 0) rfl ?_
                        refine ev_step rfl rfl rfl (PFM_8_201_89 rfl) ?_
                        refine ev_go 3 (pc' := 29) (L' := [some (.ref 89), some (.int y401), some (.int y402), some (.int (y403 + 1)), some (.int c404.1)]) (st' := []) (h' := (HM P (u_m_restsIn c439.2 y403) T)) (cs' := 0) (sl' := 0) rfl ?_
                        exact ih0 _ _ _ _ _ h P T _
        · refine ev_ic_ne (t := 198) rfl rfl (fun _ => ?_) (fun c9 => absurd c9 hc)
          obtain rfl := Option.some.inj h
          exact ev_end rfl
      · refine ev_ic_ne (t := 198) rfl rfl (fun _ => ?_) (fun c9 => absurd c9 hc)
        obtain rfl := Option.some.inj h
        exact ev_end rfl
set_option maxHeartbeats 40000000 in
set_option maxRecDepth 100000 in
theorem Em_comesDown_89 (n : Nat) (x400 : Int32) (w : WM) (w' : WM) (h : Fm_comesDown_89 n x400 w = some w') (P : Nat → ai_E) (T : ai_H) : ai_ev D1 mm_comesDown 0 [some (.ref 89), some (.int x400), none, none, none] [] (HM P w T) 0 0 (none, HM P w' T) := by
  unfold Fm_comesDown_89 at h
  have ih0 := EGm_comesDown_89 n
  refine ev_go 2 (pc' := 2) (L' := [some (.ref 89), some (.int x400), none, none, none]) (st' := [.int 4, .ref 89]) (h' := (HM P w T)) (cs' := 0) (sl' := 0) rfl ?_
  refine ev_step rfl rfl rfl (PFM_8_201_89 rfl) ?_
  refine ev_go 2 (pc' := 7) (L' := [some (.ref 89), some (.int x400), none, none, none]) (st' := [.int 0, .ref 89]) (h' := (HM P (u_m_restsIn w 4) T)) (cs' := 0) (sl' := 0) rfl ?_
  refine ev_step rfl rfl rfl (PFM_8_204_89 rfl) ?_
  refine ev_go 2 (pc' := 12) (L' := [some (.ref 89), some (.int x400), none, none, none]) (st' := [.int 0, .ref 89]) (h' := (HM P (u_m_down (u_m_restsIn w 4) 0) T)) (cs' := 0) (sl' := 0) rfl ?_
  refine ev_step rfl rfl rfl (PFM_8_207_89 rfl) ?_
  refine ev_go 2 (pc' := 17) (L' := [some (.ref 89), some (.int x400), none, none, none]) (st' := [.int 0, .ref 89]) (h' := (HM P (u_m_broken (u_m_down (u_m_restsIn w 4) 0) 0) T)) (cs' := 0) (sl' := 0) rfl ?_
  refine ev_step rfl rfl rfl (PFM_8_210_89 rfl) ?_
  refine ev_go 2 (pc' := 22) (L' := [some (.ref 89), some (.int x400), none, none, none]) (st' := [.int (-1), .ref 89]) (h' := (HM P (u_m_passes (u_m_broken (u_m_down (u_m_restsIn w 4) 0) 0) 0) T)) (cs' := 0) (sl' := 0) rfl ?_
  refine ev_step rfl rfl rfl (PFM_8_213_89 rfl) ?_
  refine ev_go 4 (pc' := 29) (L' := [some (.ref 89), some (.int x400), some (.int (-1)), some (.int 0), none]) (st' := []) (h' := (HM P (u_m_stops (u_m_passes (u_m_broken (u_m_down (u_m_restsIn w 4) 0) 0) 0) (-1)) T)) (cs' := 0) (sl' := 0) rfl ?_
  exact ih0 _ _ _ _ _ h P T _
set_option maxHeartbeats 40000000 in
set_option maxRecDepth 100000 in
theorem Em_rests_89 (n : Nat) (x391 : Int32) (x392 : Int32) (x393 : Int32) (w : WM) (r : Int32) (w' : WM) (h : Fm_rests_89 n x391 x392 x393 w = some (r, w')) (P : Nat → ai_E) (T : ai_H) : ai_ev D1 mm_rests 0 [some (.ref 89), some (.int x391), some (.int x392), some (.int x393)] [] (HM P w T) 0 0 (some (.int r), HM P w' T) := by
  unfold Fm_rests_89 at h
  refine ev_go 2 (pc' := 2) (L' := [some (.ref 89), some (.int x391), some (.int x392), some (.int x393)]) (st' := [.int x391, .ref 89]) (h' := (HM P w T)) (cs' := 0) (sl' := 0) rfl ?_
  obtain ⟨c394, hq, h⟩ := ai_bdE h
  refine ev_call (M' := mm_isThing) (L' := [some (.ref 89), some (.int x391)]) (rest := []) (rv := some (.int c394.1)) (h' := (HM P c394.2 T)) rfl (Em_isThing_89 x391 w _ _ hq P T) ?_
  show ai_ev D1 mm_rests 5 [some (.ref 89), some (.int x391), some (.int x392), some (.int x393)] [.int c394.1] (HM P c394.2 T) 0 0 _
  rcases ai_ifE h with ⟨hc, h⟩ | ⟨hc, h⟩
  · refine ev_if_eq (t := 28) rfl rfl (fun _ => ?_) (fun c9 => absurd hc c9)
    refine ev_go 1 (pc' := 29) (L' := [some (.ref 89), some (.int x391), some (.int x392), some (.int x393)]) (st' := [.ref 89]) (h' := (HM P c394.2 T)) (cs' := 0) (sl' := 0) rfl ?_
    obtain ⟨c395, hq, h⟩ := ai_bdE h
    refine ev_call (M' := mm_bad) (L' := [some (.ref 89)]) (rest := []) (rv := some (.int c395.1)) (h' := (HM P c395.2 T)) rfl (Em_bad_89 c394.2 _ _ hq P T) ?_
    show ai_ev D1 mm_rests 32 [some (.ref 89), some (.int x391), some (.int x392), some (.int x393)] [.int c395.1] (HM P c395.2 T) 0 0 _
    obtain ⟨rfl, rfl⟩ := ai_smP h
    exact ev_end rfl
  · refine ev_if_eq (t := 28) rfl rfl (fun c9 => absurd c9 hc) (fun _ => ?_)
    refine ev_go 2 (pc' := 10) (L' := [some (.ref 89), some (.int x391), some (.int x392), some (.int x393)]) (st' := [.int x392, .ref 89]) (h' := (HM P c394.2 T)) (cs' := 0) (sl' := 0) rfl ?_
    obtain ⟨c396, hq, h⟩ := ai_bdE h
    refine ev_call (M' := mm_isCell) (L' := [some (.ref 89), some (.int x392)]) (rest := []) (rv := some (.int c396.1)) (h' := (HM P c396.2 T)) rfl (Em_isCell_89 x392 c394.2 _ _ hq P T) ?_
    show ai_ev D1 mm_rests 13 [some (.ref 89), some (.int x391), some (.int x392), some (.int x393)] [.int c396.1] (HM P c396.2 T) 0 0 _
    rcases ai_ifE h with ⟨hc, h⟩ | ⟨hc, h⟩
    · refine ev_if_eq (t := 28) rfl rfl (fun _ => ?_) (fun c9 => absurd hc c9)
      refine ev_go 1 (pc' := 29) (L' := [some (.ref 89), some (.int x391), some (.int x392), some (.int x393)]) (st' := [.ref 89]) (h' := (HM P c396.2 T)) (cs' := 0) (sl' := 0) rfl ?_
      obtain ⟨c397, hq, h⟩ := ai_bdE h
      refine ev_call (M' := mm_bad) (L' := [some (.ref 89)]) (rest := []) (rv := some (.int c397.1)) (h' := (HM P c397.2 T)) rfl (Em_bad_89 c396.2 _ _ hq P T) ?_
      show ai_ev D1 mm_rests 32 [some (.ref 89), some (.int x391), some (.int x392), some (.int x393)] [.int c397.1] (HM P c397.2 T) 0 0 _
      obtain ⟨rfl, rfl⟩ := ai_smP h
      exact ev_end rfl
    · refine ev_if_eq (t := 28) rfl rfl (fun c9 => absurd c9 hc) (fun _ => ?_)
      refine ev_go 4 (pc' := 22) (L' := [some (.ref 89), some (.int x391), some (.int x392), some (.int x393)]) (st' := [.long 2, .long 0, .long (x393).toInt64]) (h' := (HM P c396.2 T)) (cs' := 0) (sl' := 0) rfl ?_
      obtain ⟨c398, hq, h⟩ := ai_bdE h
      refine ev_call (M' := mm_in) (L' := [some (.long (x393).toInt64), none, some (.long 0), none, some (.long 2), none]) (rest := []) (rv := some (.int c398)) (h' := (HM P c396.2 T)) rfl (Em_in (x393).toInt64 0 2 _ hq (HM P c396.2 T)) ?_
      show ai_ev D1 mm_rests 25 [some (.ref 89), some (.int x391), some (.int x392), some (.int x393)] [.int c398] (HM P c396.2 T) 0 0 _
      rcases ai_ifE h with ⟨hc, h⟩ | ⟨hc, h⟩
      · refine ev_if_ne (t := 33) rfl rfl (fun c9 => absurd hc c9) (fun _ => ?_)
        refine ev_go 1 (pc' := 29) (L' := [some (.ref 89), some (.int x391), some (.int x392), some (.int x393)]) (st' := [.ref 89]) (h' := (HM P c396.2 T)) (cs' := 0) (sl' := 0) rfl ?_
        obtain ⟨c442, hq, h⟩ := ai_bdE h
        refine ev_call (M' := mm_bad) (L' := [some (.ref 89)]) (rest := []) (rv := some (.int c442.1)) (h' := (HM P c442.2 T)) rfl (Em_bad_89 c396.2 _ _ hq P T) ?_
        show ai_ev D1 mm_rests 32 [some (.ref 89), some (.int x391), some (.int x392), some (.int x393)] [.int c442.1] (HM P c442.2 T) 0 0 _
        obtain ⟨rfl, rfl⟩ := ai_smP h
        exact ev_end rfl
      · refine ev_if_ne (t := 33) rfl rfl (fun _ => ?_) (fun c9 => absurd c9 hc)
        refine ev_go 2 (pc' := 35) (L' := [some (.ref 89), some (.int x391), some (.int x392), some (.int x393)]) (st' := [.int x391, .ref 89]) (h' := (HM P c396.2 T)) (cs' := 0) (sl' := 0) rfl ?_
        obtain ⟨c399, hq, h⟩ := ai_bdE h
        refine ev_call (M' := mm_lay) (L' := [some (.ref 89), some (.int x391)]) (rest := []) (rv := none) (h' := (HM P c399 T)) rfl (Em_lay_89 x391 c396.2 _ hq P T) ?_
        show ai_ev D1 mm_rests 38 [some (.ref 89), some (.int x391), some (.int x392), some (.int x393)] [] (HM P c399 T) 0 0 _
        refine ev_go 2 (pc' := 40) (L' := [some (.ref 89), some (.int x391), some (.int x392), some (.int x393)]) (st' := [.int x392, .ref 89]) (h' := (HM P c399 T)) (cs' := 0) (sl' := 0) rfl ?_
        obtain ⟨c441, hq, h⟩ := ai_bdE h
        refine ev_call (M' := mm_comesDown) (L' := [some (.ref 89), some (.int x392), none, none, none]) (rest := []) (rv := none) (h' := (HM P c441 T)) rfl (Em_comesDown_89 n x392 c399 _ hq P T) ?_
        show ai_ev D1 mm_rests 43 [some (.ref 89), some (.int x391), some (.int x392), some (.int x393)] [] (HM P c441 T) 0 0 _
        refine ev_go 1 (pc' := 44) (L' := [some (.ref 89), some (.int x391), some (.int x392), some (.int x393)]) (st' := [.int x393]) (h' := (HM P c441 T)) (cs' := 0) (sl' := 0) rfl ?_
        rcases ai_ifE h with ⟨hc, h⟩ | ⟨hc, h⟩
        · refine ev_if_ne (t := 54) rfl rfl (fun c9 => absurd hc c9) (fun _ => ?_)
          refine ev_go 3 (pc' := 70) (L' := [some (.ref 89), some (.int x391), some (.int x392), some (.int x393)]) (st' := [.int (a_m_restsIn c441)]) (h' := (HM P c441 T)) (cs' := 0) (sl' := 0) rfl ?_
          obtain ⟨rfl, rfl⟩ := ai_smP h
          exact ev_end rfl
        · refine ev_if_ne (t := 54) rfl rfl (fun _ => ?_) (fun c9 => absurd c9 hc)
          refine ev_go 2 (pc' := 56) (L' := [some (.ref 89), some (.int x391), some (.int x392), some (.int x393)]) (st' := [.int 1, .int x393]) (h' := (HM P c441 T)) (cs' := 0) (sl' := 0) rfl ?_
          rcases ai_ifE h with ⟨hc, h⟩ | ⟨hc, h⟩
          · refine ev_ic_ne (t := 66) rfl rfl (fun c9 => absurd hc c9) (fun _ => ?_)
            refine ev_go 3 (pc' := 70) (L' := [some (.ref 89), some (.int x391), some (.int x392), some (.int x393)]) (st' := [.int (a_m_down c441)]) (h' := (HM P c441 T)) (cs' := 0) (sl' := 0) rfl ?_
            obtain ⟨rfl, rfl⟩ := ai_smP h
            exact ev_end rfl
          · refine ev_ic_ne (t := 66) rfl rfl (fun _ => ?_) (fun c9 => absurd c9 hc)
            refine ev_go 2 (pc' := 70) (L' := [some (.ref 89), some (.int x391), some (.int x392), some (.int x393)]) (st' := [.int (a_m_broken c441)]) (h' := (HM P c441 T)) (cs' := 0) (sl' := 0) rfl ?_
            obtain ⟨rfl, rfl⟩ := ai_smP h
            exact ev_end rfl
