set_option maxHeartbeats 40000000 in
set_option maxRecDepth 100000 in
theorem Em_done_89 (n : Nat) (w : WM) (r : Int32) (w' : WM) (h : Fm_done_89 n w = some (r, w')) (P : Nat → ai_E) (T : ai_H) : ai_ev D1 mm_done 0 [some (.ref 89)] [] (HM P w T) 0 0 (some (.int r), HM P w' T) := by
  unfold Fm_done_89 at h
  refine ev_go 2 (pc' := 4) (L' := [some (.ref 89)]) (st' := [.int (a_m_word w)]) (h' := (HM P w T)) (cs' := 0) (sl' := 0) rfl ?_
  rcases ai_ifE h with ⟨hc, h⟩ | ⟨hs0, h⟩
  · refine ev_swi (k := 0) (t := 48) rfl hc (by decide) (by decide) rfl rfl ?_
    refine ev_go 5 (pc' := 57) (L' := [some (.ref 89)]) (st' := [.int 0, .ref 94, .int 447, .ref 89]) (h' := (HM P w T)) (cs' := 0) (sl' := 0) rfl ?_
    obtain ⟨v279, hq, h⟩ := ai_bdE h
    refine ev_iald rfl rfl hq ?_
    obtain ⟨c280, hq, h⟩ := ai_bdE h
    refine ev_call (M' := mm_seaTo) (L' := [some (.ref 89), some (.int 447), some (.int v279), none]) (rest := []) (rv := some (.int c280.1)) (h' := (HM P c280.2 T)) rfl (Em_seaTo_89 n 447 v279 w _ _ hq P T) ?_
    show ai_ev D1 mm_done 61 [some (.ref 89)] [.int c280.1] (HM P c280.2 T) 0 0 _
    obtain ⟨rfl, rfl⟩ := ai_smP h
    exact ev_end rfl
  rcases ai_ifE h with ⟨hc, h⟩ | ⟨hs1, h⟩
  · refine ev_swi (k := 1) (t := 62) rfl hc (by decide) (by decide) rfl rfl ?_
    refine ev_go 5 (pc' := 71) (L' := [some (.ref 89)]) (st' := [.int 0, .ref 94, .int 447, .ref 89]) (h' := (HM P w T)) (cs' := 0) (sl' := 0) rfl ?_
    obtain ⟨v281, hq, h⟩ := ai_bdE h
    refine ev_iald rfl rfl hq ?_
    refine ev_go 3 (pc' := 77) (L' := [some (.ref 89)]) (st' := [.int 1, .ref 94, .int v281, .int 447, .ref 89]) (h' := (HM P w T)) (cs' := 0) (sl' := 0) rfl ?_
    obtain ⟨v282, hq, h⟩ := ai_bdE h
    refine ev_iald rfl rfl hq ?_
    obtain ⟨c283, hq, h⟩ := ai_bdE h
    refine ev_call (M' := mm_waterTo) (L' := [some (.ref 89), some (.int 447), some (.int v281), some (.int v282), none]) (rest := []) (rv := some (.int c283.1)) (h' := (HM P c283.2 T)) rfl (Em_waterTo_89 447 v281 v282 w _ _ hq P T) ?_
    show ai_ev D1 mm_done 81 [some (.ref 89)] [.int c283.1] (HM P c283.2 T) 0 0 _
    obtain ⟨rfl, rfl⟩ := ai_smP h
    exact ev_end rfl
  rcases ai_ifE h with ⟨hc, h⟩ | ⟨hs2, h⟩
  · refine ev_swi (k := 2) (t := 82) rfl hc (by decide) (by decide) rfl rfl ?_
    refine ev_go 5 (pc' := 91) (L' := [some (.ref 89)]) (st' := [.int 0, .ref 94, .int 447, .ref 89]) (h' := (HM P w T)) (cs' := 0) (sl' := 0) rfl ?_
    obtain ⟨v284, hq, h⟩ := ai_bdE h
    refine ev_iald rfl rfl hq ?_
    refine ev_go 3 (pc' := 97) (L' := [some (.ref 89)]) (st' := [.int 1, .ref 94, .int v284, .int 447, .ref 89]) (h' := (HM P w T)) (cs' := 0) (sl' := 0) rfl ?_
    obtain ⟨v285, hq, h⟩ := ai_bdE h
    refine ev_iald rfl rfl hq ?_
    refine ev_go 3 (pc' := 103) (L' := [some (.ref 89)]) (st' := [.int 2, .ref 94, .int v285, .int v284, .int 447, .ref 89]) (h' := (HM P w T)) (cs' := 0) (sl' := 0) rfl ?_
    obtain ⟨v286, hq, h⟩ := ai_bdE h
    refine ev_iald rfl rfl hq ?_
    obtain ⟨c287, hq, h⟩ := ai_bdE h
    refine ev_call (M' := mm_thickTo) (L' := [some (.ref 89), some (.int 447), some (.int v284), some (.int v285), some (.int v286)]) (rest := []) (rv := some (.int c287.1)) (h' := (HM P c287.2 T)) rfl (Em_thickTo_89 447 v284 v285 v286 w _ _ hq P T) ?_
    show ai_ev D1 mm_done 107 [some (.ref 89)] [.int c287.1] (HM P c287.2 T) 0 0 _
    obtain ⟨rfl, rfl⟩ := ai_smP h
    exact ev_end rfl
  rcases ai_ifE h with ⟨hc, h⟩ | ⟨hs3, h⟩
  · refine ev_swi (k := 3) (t := 108) rfl hc (by decide) (by decide) rfl rfl ?_
    refine ev_go 5 (pc' := 117) (L' := [some (.ref 89)]) (st' := [.int 0, .ref 94, .int 447, .ref 89]) (h' := (HM P w T)) (cs' := 0) (sl' := 0) rfl ?_
    obtain ⟨v288, hq, h⟩ := ai_bdE h
    refine ev_iald rfl rfl hq ?_
    refine ev_go 3 (pc' := 123) (L' := [some (.ref 89)]) (st' := [.int 1, .ref 94, .int v288, .int 447, .ref 89]) (h' := (HM P w T)) (cs' := 0) (sl' := 0) rfl ?_
    obtain ⟨v289, hq, h⟩ := ai_bdE h
    refine ev_iald rfl rfl hq ?_
    obtain ⟨c290, hq, h⟩ := ai_bdE h
    refine ev_call (M' := mm_skinTo) (L' := [some (.ref 89), some (.int 447), some (.int v288), some (.int v289)]) (rest := []) (rv := some (.int c290.1)) (h' := (HM P c290.2 T)) rfl (Em_skinTo_89 447 v288 v289 w _ _ hq P T) ?_
    show ai_ev D1 mm_done 127 [some (.ref 89)] [.int c290.1] (HM P c290.2 T) 0 0 _
    obtain ⟨rfl, rfl⟩ := ai_smP h
    exact ev_end rfl
  rcases ai_ifE h with ⟨hc, h⟩ | ⟨hs4, h⟩
  · refine ev_swi (k := 4) (t := 128) rfl hc (by decide) (by decide) rfl rfl ?_
    refine ev_go 5 (pc' := 137) (L' := [some (.ref 89)]) (st' := [.int 0, .ref 94, .int 447, .ref 89]) (h' := (HM P w T)) (cs' := 0) (sl' := 0) rfl ?_
    obtain ⟨v291, hq, h⟩ := ai_bdE h
    refine ev_iald rfl rfl hq ?_
    refine ev_go 3 (pc' := 143) (L' := [some (.ref 89)]) (st' := [.int 1, .ref 94, .int v291, .int 447, .ref 89]) (h' := (HM P w T)) (cs' := 0) (sl' := 0) rfl ?_
    obtain ⟨v292, hq, h⟩ := ai_bdE h
    refine ev_iald rfl rfl hq ?_
    refine ev_go 3 (pc' := 149) (L' := [some (.ref 89)]) (st' := [.int 2, .ref 94, .int v292, .int v291, .int 447, .ref 89]) (h' := (HM P w T)) (cs' := 0) (sl' := 0) rfl ?_
    obtain ⟨v293, hq, h⟩ := ai_bdE h
    refine ev_iald rfl rfl hq ?_
    obtain ⟨c294, hq, h⟩ := ai_bdE h
    refine ev_call (M' := mm_thingTo) (L' := [some (.ref 89), some (.int 447), some (.int v291), some (.int v292), some (.int v293), none]) (rest := []) (rv := some (.int c294.1)) (h' := (HM P c294.2 T)) rfl (Em_thingTo_89 447 v291 v292 v293 w _ _ hq P T) ?_
    show ai_ev D1 mm_done 153 [some (.ref 89)] [.int c294.1] (HM P c294.2 T) 0 0 _
    obtain ⟨rfl, rfl⟩ := ai_smP h
    exact ev_end rfl
  rcases ai_ifE h with ⟨hc, h⟩ | ⟨hs5, h⟩
  · refine ev_swi (k := 5) (t := 154) rfl hc (by decide) (by decide) rfl rfl ?_
    refine ev_go 5 (pc' := 163) (L' := [some (.ref 89)]) (st' := [.int 0, .ref 94, .int 447, .ref 89]) (h' := (HM P w T)) (cs' := 0) (sl' := 0) rfl ?_
    obtain ⟨v295, hq, h⟩ := ai_bdE h
    refine ev_iald rfl rfl hq ?_
    refine ev_go 3 (pc' := 169) (L' := [some (.ref 89)]) (st' := [.int 1, .ref 94, .int v295, .int 447, .ref 89]) (h' := (HM P w T)) (cs' := 0) (sl' := 0) rfl ?_
    obtain ⟨v296, hq, h⟩ := ai_bdE h
    refine ev_iald rfl rfl hq ?_
    refine ev_go 3 (pc' := 175) (L' := [some (.ref 89)]) (st' := [.int 2, .ref 94, .int v296, .int v295, .int 447, .ref 89]) (h' := (HM P w T)) (cs' := 0) (sl' := 0) rfl ?_
    obtain ⟨v297, hq, h⟩ := ai_bdE h
    refine ev_iald rfl rfl hq ?_
    obtain ⟨c298, hq, h⟩ := ai_bdE h
    refine ev_call (M' := mm_liftTo) (L' := [some (.ref 89), some (.int 447), some (.int v295), some (.int v296), some (.int v297), none]) (rest := []) (rv := some (.int c298.1)) (h' := (HM P c298.2 T)) rfl (Em_liftTo_89 447 v295 v296 v297 w _ _ hq P T) ?_
    show ai_ev D1 mm_done 179 [some (.ref 89)] [.int c298.1] (HM P c298.2 T) 0 0 _
    obtain ⟨rfl, rfl⟩ := ai_smP h
    exact ev_end rfl
  rcases ai_ifE h with ⟨hc, h⟩ | ⟨hs6, h⟩
  · refine ev_swi (k := 6) (t := 180) rfl hc (by decide) (by decide) rfl rfl ?_
    refine ev_go 5 (pc' := 189) (L' := [some (.ref 89)]) (st' := [.int 0, .ref 94, .int 447, .ref 89]) (h' := (HM P w T)) (cs' := 0) (sl' := 0) rfl ?_
    obtain ⟨v299, hq, h⟩ := ai_bdE h
    refine ev_iald rfl rfl hq ?_
    obtain ⟨c300, hq, h⟩ := ai_bdE h
    refine ev_call (M' := mm_townTo) (L' := [some (.ref 89), some (.int 447), some (.int v299), none, none]) (rest := []) (rv := some (.int c300.1)) (h' := (HM P c300.2 T)) rfl (Em_townTo_89 n 447 v299 w _ _ hq P T) ?_
    show ai_ev D1 mm_done 193 [some (.ref 89)] [.int c300.1] (HM P c300.2 T) 0 0 _
    obtain ⟨rfl, rfl⟩ := ai_smP h
    exact ev_end rfl
  refine ev_swo (t := 194) (lo := 0) (n := 7) rfl (sw_out 0 7 (fun k hk => by match k, hk with | 0, _ => exact hs0 | 1, _ => exact hs1 | 2, _ => exact hs2 | 3, _ => exact hs3 | 4, _ => exact hs4 | 5, _ => exact hs5 | 6, _ => exact hs6 | k + 7, hk => exact absurd hk (by omega))) ⟨rfl, by decide⟩ rfl ?_
  refine ev_go 5 (pc' := 203) (L' := [some (.ref 89)]) (st' := [.int 0, .ref 94, .int 447, .ref 89]) (h' := (HM P w T)) (cs' := 0) (sl' := 0) rfl ?_
  obtain ⟨v301, hq, h⟩ := ai_bdE h
  refine ev_iald rfl rfl hq ?_
  refine ev_go 1 (pc' := 205) (L' := [some (.ref 89)]) (st' := [.int 1, .int v301, .int 447, .ref 89]) (h' := (HM P w T)) (cs' := 0) (sl' := 0) rfl ?_
  obtain ⟨c302, hq, h⟩ := ai_bdE h
  refine ev_call (M' := mm_damTo) (L' := [some (.ref 89), some (.int 447), some (.int v301), some (.int 1)]) (rest := []) (rv := some (.int c302.1)) (h' := (HM P c302.2 T)) rfl (Em_damTo_89 447 v301 1 w _ _ hq P T) ?_
  show ai_ev D1 mm_done 208 [some (.ref 89)] [.int c302.1] (HM P c302.2 T) 0 0 _
  obtain ⟨rfl, rfl⟩ := ai_smP h
  exact ev_end rfl
set_option maxHeartbeats 40000000 in
set_option maxRecDepth 100000 in
theorem EGm_copy_89 : ∀ n : Nat, (∀ (y308 : Int32) (y309 : Int32) (y310 : Int32) (w : WM) (w' : WM), Gm_copy_89 n 0 y308 y309 y310 w = some w' → ∀ (P : Nat → ai_E) (T : ai_H), ai_ev D1 mm_copy 2 [some (.ref 89), some (.int y308), some (.int y309), some (.int y310)] [] (HM P w T) 0 0 (none, HM P w' T)) := by
  intro n
  induction n with
  | zero =>
    exact (fun _ _ _ _ _ h => by cases h)
  | succ n ih0 =>
    intro y308 y309 y310 w w' h P T
    simp only [Gm_copy_89] at h
    refine ev_go 2 (pc' := 6) (L' := [some (.ref 89), some (.int y308), some (.int y309), some (.int y310)]) (st' := [.int 149, .int y310]) (h' := (HM P w T)) (cs' := 0) (sl' := 0) rfl ?_
    rcases ai_ifE h with ⟨hc, h⟩ | ⟨hc, h⟩
    · refine ev_ic_ge (t := 31) rfl rfl (fun _ => ?_) (fun c9 => absurd hc c9)
      obtain rfl := Option.some.inj h
      exact ev_end rfl
    · refine ev_ic_ge (t := 31) rfl rfl (fun c9 => absurd c9 hc) (fun _ => ?_)
      refine ev_go 10 (pc' := 23) (L' := [some (.ref 89), some (.int y308), some (.int y309), some (.int y310)]) (st' := [.int (y308 + y310), .ref 90, .int (y309 + y310), .ref 90]) (h' := (HM P w T)) (cs' := 0) (sl' := 0) rfl ?_
      obtain ⟨v311, hq, h⟩ := ai_bdE h
      refine ev_iald rfl rfl hq ?_
      obtain ⟨q312, hq, h⟩ := ai_bdE h
      refine ev_iast rfl rfl hq ?_
      rw [HMs_90]
      refine ev_go 2 (pc' := 2) (L' := [some (.ref 89), some (.int y308), some (.int y309), some (.int (y310 + 1))]) (st' := []) (h' := (HM P (u_m_w w q312) T)) (cs' := 0) (sl' := 0) rfl ?_
      exact ih0 _ _ _ _ _ h P T
set_option maxHeartbeats 40000000 in
set_option maxRecDepth 100000 in
theorem Em_copy_89 (n : Nat) (x306 : Int32) (x307 : Int32) (w : WM) (w' : WM) (h : Fm_copy_89 n x306 x307 w = some w') (P : Nat → ai_E) (T : ai_H) : ai_ev D1 mm_copy 0 [some (.ref 89), some (.int x306), some (.int x307), none] [] (HM P w T) 0 0 (none, HM P w' T) := by
  unfold Fm_copy_89 at h
  have ih0 := EGm_copy_89 n
  refine ev_go 2 (pc' := 2) (L' := [some (.ref 89), some (.int x306), some (.int x307), some (.int 0)]) (st' := []) (h' := (HM P w T)) (cs' := 0) (sl' := 0) rfl ?_
  exact ih0 _ _ _ _ _ h P T
set_option maxHeartbeats 40000000 in
set_option maxRecDepth 100000 in
theorem EGm_read_89 : ∀ n : Nat, (∀ (y228 : Int32) (y229 : Int32) (w : WM) (r : Int32) (w' : WM), Gm_read_89 n 0 y228 y229 w = some (r, w') → ∀ (P : Nat → ai_E) (T : ai_H), ai_ev D1 mm_read 13 [some (.ref 89), some (.int y228), some (.int y229)] [] (HM P w T) 0 0 (some (.int r), HM P w' T)) := by
  intro n
  induction n with
  | zero =>
    exact (fun _ _ _ _ _ h => by cases h)
  | succ n ih0 =>
    intro y228 y229 w r w' h P T
    simp only [Gm_read_89] at h
    refine ev_go 4 (pc' := 21) (L' := [some (.ref 89), some (.int y228), some (.int y229)]) (st' := [.int (a_m_texted w), .int (a_m_start w)]) (h' := (HM P w T)) (cs' := 0) (sl' := 0) rfl ?_
    rcases ai_ifE h with ⟨hc, h⟩ | ⟨hc, h⟩
    · refine ev_ic_lt (t := 28) rfl rfl (fun _ => ?_) (fun c9 => absurd hc c9)
      refine ev_go 2 (pc' := 30) (L' := [some (.ref 89), some (.int y228), some (.int y229)]) (st' := [.int y228, .ref 89]) (h' := (HM P w T)) (cs' := 0) (sl' := 0) rfl ?_
      obtain ⟨c277, hq, h⟩ := ai_bdE h
      refine ev_call (M' := mm_takesItem) (L' := [some (.ref 89), some (.int y228), none, none]) (rest := []) (rv := some (.int c277.1)) (h' := (HM P c277.2 T)) rfl (Em_takesItem_89 n y228 w _ _ hq P T) ?_
      show ai_ev D1 mm_read 33 [some (.ref 89), some (.int y228), some (.int y229)] [.int c277.1] (HM P c277.2 T) 0 0 _
      rcases ai_ifE h with ⟨hc, h⟩ | ⟨hc, h⟩
      · refine ev_if_ne (t := 44) rfl rfl (fun c9 => absurd hc c9) (fun _ => ?_)
        refine ev_go 4 (pc' := 43) (L' := [some (.ref 89), some (.int y228), some (.int y229)]) (st' := [.int ((-10) - (a_m_start c277.2))]) (h' := (HM P c277.2 T)) (cs' := 0) (sl' := 0) rfl ?_
        obtain ⟨rfl, rfl⟩ := ai_smP h
        exact ev_end rfl
      · refine ev_if_ne (t := 44) rfl rfl (fun _ => ?_) (fun c9 => absurd c9 hc)
        refine ev_go 2 (pc' := 46) (L' := [some (.ref 89), some (.int y228), some (.int y229)]) (st' := [.int (-1), .int y229]) (h' := (HM P c277.2 T)) (cs' := 0) (sl' := 0) rfl ?_
        rcases ai_ifE h with ⟨hc, h⟩ | ⟨hc, h⟩
        · refine ev_ic_ne (t := 61) rfl rfl (fun c9 => absurd hc c9) (fun _ => ?_)
          refine ev_go 1 (pc' := 50) (L' := [some (.ref 89), some (.int y228), some (.int y229)]) (st' := [.ref 89]) (h' := (HM P c277.2 T)) (cs' := 0) (sl' := 0) rfl ?_
          obtain ⟨c303, hq, h⟩ := ai_bdE h
          refine ev_call (M' := mm_done) (L' := [some (.ref 89)]) (rest := []) (rv := some (.int c303.1)) (h' := (HM P c303.2 T)) rfl (Em_done_89 n c277.2 _ _ hq P T) ?_
          show ai_ev D1 mm_read 53 [some (.ref 89), some (.int y228), some (.int y229)] [.int c303.1] (HM P c303.2 T) 0 0 _
          refine ev_go 1 (pc' := 54) (L' := [some (.ref 89), some (.int y228), some (.int y229)]) (st' := [.int (-1), .int c303.1]) (h' := (HM P c303.2 T)) (cs' := 0) (sl' := 0) rfl ?_
          rcases ai_ifE h with ⟨hc, h⟩ | ⟨hc, h⟩
          · refine ev_ic_ge (t := 61) rfl rfl (fun _ => ?_) (fun c9 => absurd hc c9)
            refine ev_go 4 (pc' := 67) (L' := [some (.ref 89), some (.int (y228 + 1)), some (.int y229)]) (st' := [.ref 89]) (h' := (HM P c303.2 T)) (cs' := 0) (sl' := 0) rfl ?_
            obtain ⟨c304, hq, h⟩ := ai_bdE h
            refine ev_call (M' := mm_token) (L' := [some (.ref 89)]) (rest := []) (rv := none) (h' := (HM P c304 T)) rfl (Em_token_89 n c303.2 _ hq P T) ?_
            show ai_ev D1 mm_read 70 [some (.ref 89), some (.int (y228 + 1)), some (.int y229)] [] (HM P c304 T) 0 0 _
            refine ev_go 1 (pc' := 13) (L' := [some (.ref 89), some (.int (y228 + 1)), some (.int y229)]) (st' := []) (h' := (HM P c304 T)) (cs' := 0) (sl' := 0) rfl ?_
            exact ih0 _ _ _ _ _ h P T
          · refine ev_ic_ge (t := 61) rfl rfl (fun c9 => absurd c9 hc) (fun _ => ?_)
            refine ev_go 5 (pc' := 67) (L' := [some (.ref 89), some (.int (y228 + 1)), some (.int y228)]) (st' := [.ref 89]) (h' := (HM P c303.2 T)) (cs' := 0) (sl' := 0) rfl ?_
            obtain ⟨c305, hq, h⟩ := ai_bdE h
            refine ev_call (M' := mm_token) (L' := [some (.ref 89)]) (rest := []) (rv := none) (h' := (HM P c305 T)) rfl (Em_token_89 n c303.2 _ hq P T) ?_
            show ai_ev D1 mm_read 70 [some (.ref 89), some (.int (y228 + 1)), some (.int y228)] [] (HM P c305 T) 0 0 _
            refine ev_go 1 (pc' := 13) (L' := [some (.ref 89), some (.int (y228 + 1)), some (.int y228)]) (st' := []) (h' := (HM P c305 T)) (cs' := 0) (sl' := 0) rfl ?_
            exact ih0 _ _ _ _ _ h P T
        · refine ev_ic_ne (t := 61) rfl rfl (fun _ => ?_) (fun c9 => absurd c9 hc)
          refine ev_go 4 (pc' := 67) (L' := [some (.ref 89), some (.int (y228 + 1)), some (.int y229)]) (st' := [.ref 89]) (h' := (HM P c277.2 T)) (cs' := 0) (sl' := 0) rfl ?_
          obtain ⟨c278, hq, h⟩ := ai_bdE h
          refine ev_call (M' := mm_token) (L' := [some (.ref 89)]) (rest := []) (rv := none) (h' := (HM P c278 T)) rfl (Em_token_89 n c277.2 _ hq P T) ?_
          show ai_ev D1 mm_read 70 [some (.ref 89), some (.int (y228 + 1)), some (.int y229)] [] (HM P c278 T) 0 0 _
          refine ev_go 1 (pc' := 13) (L' := [some (.ref 89), some (.int (y228 + 1)), some (.int y229)]) (st' := []) (h' := (HM P c278 T)) (cs' := 0) (sl' := 0) rfl ?_
          exact ih0 _ _ _ _ _ h P T
    · refine ev_ic_lt (t := 28) rfl rfl (fun c9 => absurd c9 hc) (fun _ => ?_)
      refine ev_go 1 (pc' := 25) (L' := [some (.ref 89), some (.int y228), some (.int y229)]) (st' := [.int y228]) (h' := (HM P w T)) (cs' := 0) (sl' := 0) rfl ?_
      rcases ai_ifE h with ⟨hc, h⟩ | ⟨hc, h⟩
      · refine ev_if_ne (t := 73) rfl rfl (fun c9 => absurd hc c9) (fun _ => ?_)
        refine ev_go 2 (pc' := 30) (L' := [some (.ref 89), some (.int y228), some (.int y229)]) (st' := [.int y228, .ref 89]) (h' := (HM P w T)) (cs' := 0) (sl' := 0) rfl ?_
        obtain ⟨c314, hq, h⟩ := ai_bdE h
        refine ev_call (M' := mm_takesItem) (L' := [some (.ref 89), some (.int y228), none, none]) (rest := []) (rv := some (.int c314.1)) (h' := (HM P c314.2 T)) rfl (Em_takesItem_89 n y228 w _ _ hq P T) ?_
        show ai_ev D1 mm_read 33 [some (.ref 89), some (.int y228), some (.int y229)] [.int c314.1] (HM P c314.2 T) 0 0 _
        rcases ai_ifE h with ⟨hc, h⟩ | ⟨hc, h⟩
        · refine ev_if_ne (t := 44) rfl rfl (fun c9 => absurd hc c9) (fun _ => ?_)
          refine ev_go 4 (pc' := 43) (L' := [some (.ref 89), some (.int y228), some (.int y229)]) (st' := [.int ((-10) - (a_m_start c314.2))]) (h' := (HM P c314.2 T)) (cs' := 0) (sl' := 0) rfl ?_
          obtain ⟨rfl, rfl⟩ := ai_smP h
          exact ev_end rfl
        · refine ev_if_ne (t := 44) rfl rfl (fun _ => ?_) (fun c9 => absurd c9 hc)
          refine ev_go 2 (pc' := 46) (L' := [some (.ref 89), some (.int y228), some (.int y229)]) (st' := [.int (-1), .int y229]) (h' := (HM P c314.2 T)) (cs' := 0) (sl' := 0) rfl ?_
          rcases ai_ifE h with ⟨hc, h⟩ | ⟨hc, h⟩
          · refine ev_ic_ne (t := 61) rfl rfl (fun c9 => absurd hc c9) (fun _ => ?_)
            refine ev_go 1 (pc' := 50) (L' := [some (.ref 89), some (.int y228), some (.int y229)]) (st' := [.ref 89]) (h' := (HM P c314.2 T)) (cs' := 0) (sl' := 0) rfl ?_
            obtain ⟨c316, hq, h⟩ := ai_bdE h
            refine ev_call (M' := mm_done) (L' := [some (.ref 89)]) (rest := []) (rv := some (.int c316.1)) (h' := (HM P c316.2 T)) rfl (Em_done_89 n c314.2 _ _ hq P T) ?_
            show ai_ev D1 mm_read 53 [some (.ref 89), some (.int y228), some (.int y229)] [.int c316.1] (HM P c316.2 T) 0 0 _
            refine ev_go 1 (pc' := 54) (L' := [some (.ref 89), some (.int y228), some (.int y229)]) (st' := [.int (-1), .int c316.1]) (h' := (HM P c316.2 T)) (cs' := 0) (sl' := 0) rfl ?_
            rcases ai_ifE h with ⟨hc, h⟩ | ⟨hc, h⟩
            · refine ev_ic_ge (t := 61) rfl rfl (fun _ => ?_) (fun c9 => absurd hc c9)
              refine ev_go 4 (pc' := 67) (L' := [some (.ref 89), some (.int (y228 + 1)), some (.int y229)]) (st' := [.ref 89]) (h' := (HM P c316.2 T)) (cs' := 0) (sl' := 0) rfl ?_
              obtain ⟨c317, hq, h⟩ := ai_bdE h
              refine ev_call (M' := mm_token) (L' := [some (.ref 89)]) (rest := []) (rv := none) (h' := (HM P c317 T)) rfl (Em_token_89 n c316.2 _ hq P T) ?_
              show ai_ev D1 mm_read 70 [some (.ref 89), some (.int (y228 + 1)), some (.int y229)] [] (HM P c317 T) 0 0 _
              refine ev_go 1 (pc' := 13) (L' := [some (.ref 89), some (.int (y228 + 1)), some (.int y229)]) (st' := []) (h' := (HM P c317 T)) (cs' := 0) (sl' := 0) rfl ?_
              exact ih0 _ _ _ _ _ h P T
            · refine ev_ic_ge (t := 61) rfl rfl (fun c9 => absurd c9 hc) (fun _ => ?_)
              refine ev_go 5 (pc' := 67) (L' := [some (.ref 89), some (.int (y228 + 1)), some (.int y228)]) (st' := [.ref 89]) (h' := (HM P c316.2 T)) (cs' := 0) (sl' := 0) rfl ?_
              obtain ⟨c318, hq, h⟩ := ai_bdE h
              refine ev_call (M' := mm_token) (L' := [some (.ref 89)]) (rest := []) (rv := none) (h' := (HM P c318 T)) rfl (Em_token_89 n c316.2 _ hq P T) ?_
              show ai_ev D1 mm_read 70 [some (.ref 89), some (.int (y228 + 1)), some (.int y228)] [] (HM P c318 T) 0 0 _
              refine ev_go 1 (pc' := 13) (L' := [some (.ref 89), some (.int (y228 + 1)), some (.int y228)]) (st' := []) (h' := (HM P c318 T)) (cs' := 0) (sl' := 0) rfl ?_
              exact ih0 _ _ _ _ _ h P T
          · refine ev_ic_ne (t := 61) rfl rfl (fun _ => ?_) (fun c9 => absurd c9 hc)
            refine ev_go 4 (pc' := 67) (L' := [some (.ref 89), some (.int (y228 + 1)), some (.int y229)]) (st' := [.ref 89]) (h' := (HM P c314.2 T)) (cs' := 0) (sl' := 0) rfl ?_
            obtain ⟨c315, hq, h⟩ := ai_bdE h
            refine ev_call (M' := mm_token) (L' := [some (.ref 89)]) (rest := []) (rv := none) (h' := (HM P c315 T)) rfl (Em_token_89 n c314.2 _ hq P T) ?_
            show ai_ev D1 mm_read 70 [some (.ref 89), some (.int (y228 + 1)), some (.int y229)] [] (HM P c315 T) 0 0 _
            refine ev_go 1 (pc' := 13) (L' := [some (.ref 89), some (.int (y228 + 1)), some (.int y229)]) (st' := []) (h' := (HM P c315 T)) (cs' := 0) (sl' := 0) rfl ?_
            exact ih0 _ _ _ _ _ h P T
      · refine ev_if_ne (t := 73) rfl rfl (fun _ => ?_) (fun c9 => absurd c9 hc)
        refine ev_go 2 (pc' := 75) (L' := [some (.ref 89), some (.int y228), some (.int y229)]) (st' := [.int (-1), .int y229]) (h' := (HM P w T)) (cs' := 0) (sl' := 0) rfl ?_
        rcases ai_ifE h with ⟨hc, h⟩ | ⟨hc, h⟩
        · refine ev_ic_eq (t := 84) rfl rfl (fun _ => ?_) (fun c9 => absurd hc c9)
          refine ev_go 3 (pc' := 89) (L' := [some (.ref 89), some (.int y228), some (.int y229)]) (st' := [.int 0, .int 447, .ref 89]) (h' := (HM P w T)) (cs' := 0) (sl' := 0) rfl ?_
          obtain ⟨c313, hq, h⟩ := ai_bdE h
          refine ev_call (M' := mm_copy) (L' := [some (.ref 89), some (.int 447), some (.int 0), none]) (rest := []) (rv := none) (h' := (HM P c313 T)) rfl (Em_copy_89 n 447 0 w _ hq P T) ?_
          show ai_ev D1 mm_read 92 [some (.ref 89), some (.int y228), some (.int y229)] [] (HM P c313 T) 0 0 _
          refine ev_go 1 (pc' := 93) (L' := [some (.ref 89), some (.int y228), some (.int y229)]) (st' := [.int y228]) (h' := (HM P c313 T)) (cs' := 0) (sl' := 0) rfl ?_
          obtain ⟨rfl, rfl⟩ := ai_smP h
          exact ev_end rfl
        · refine ev_ic_eq (t := 84) rfl rfl (fun c9 => absurd c9 hc) (fun _ => ?_)
          refine ev_go 3 (pc' := 83) (L' := [some (.ref 89), some (.int y228), some (.int y229)]) (st' := [.int ((-1000) - y229)]) (h' := (HM P w T)) (cs' := 0) (sl' := 0) rfl ?_
          obtain ⟨rfl, rfl⟩ := ai_smP h
          exact ev_end rfl
set_option maxHeartbeats 40000000 in
set_option maxRecDepth 100000 in
theorem Em_read_89 (n : Nat) (w : WM) (r : Int32) (w' : WM) (h : Fm_read_89 n w = some (r, w')) (P : Nat → ai_E) (T : ai_H) : ai_ev D1 mm_read 0 [some (.ref 89), none, none] [] (HM P w T) 0 0 (some (.int r), HM P w' T) := by
  unfold Fm_read_89 at h
  have ih0 := EGm_read_89 n
  refine ev_go 2 (pc' := 2) (L' := [some (.ref 89), none, none]) (st' := [.int 0, .ref 89]) (h' := (HM P w T)) (cs' := 0) (sl' := 0) rfl ?_
  refine ev_step rfl rfl rfl (PFM_8_128_89 rfl) ?_
  refine ev_go 5 (pc' := 10) (L' := [some (.ref 89), some (.int 0), some (.int (-1))]) (st' := [.ref 89]) (h' := (HM P (u_m_at w 0) T)) (cs' := 0) (sl' := 0) rfl ?_
  obtain ⟨c227, hq, h⟩ := ai_bdE h
  refine ev_call (M' := mm_token) (L' := [some (.ref 89)]) (rest := []) (rv := none) (h' := (HM P c227 T)) rfl (Em_token_89 n (u_m_at w 0) _ hq P T) ?_
  show ai_ev D1 mm_read 13 [some (.ref 89), some (.int 0), some (.int (-1))] [] (HM P c227 T) 0 0 _
  exact ih0 _ _ _ _ _ h P T
set_option maxHeartbeats 40000000 in
set_option maxRecDepth 100000 in
theorem EGm_hours_89 : ∀ n : Nat, (∀ (y333 : Int32) (y334 : Int32) (w : WM) (r : Int32) (w' : WM), Gm_hours_89 n 0 y333 y334 w = some (r, w') → ∀ (P : Nat → ai_E) (T : ai_H), ai_ev D1 mm_hours 52 [some (.ref 89), some (.int y333), some (.int y334)] [] (HM P w T) 0 0 (some (.int r), HM P w' T)) := by
  intro n
  induction n with
  | zero =>
    exact (fun _ _ _ _ _ h => by cases h)
  | succ n ih0 =>
    intro y333 y334 w r w' h P T
    simp only [Gm_hours_89] at h
    refine ev_go 2 (pc' := 55) (L' := [some (.ref 89), some (.int y333), some (.int y334)]) (st' := [.int 9, .int y334]) (h' := (HM P w T)) (cs' := 0) (sl' := 0) rfl ?_
    rcases ai_ifE h with ⟨hc, h⟩ | ⟨hc, h⟩
    · refine ev_ic_ge (t := 86) rfl rfl (fun _ => ?_) (fun c9 => absurd hc c9)
      refine ev_go 4 (pc' := 93) (L' := [some (.ref 89), some (.int y333), some (.int y334)]) (st' := [.int 7, .ref 90, .int 7, .ref 90]) (h' := (HM P w T)) (cs' := 0) (sl' := 0) rfl ?_
      obtain ⟨v335, hq, h⟩ := ai_bdE h
      refine ev_iald rfl rfl hq ?_
      refine ev_go 2 (pc' := 96) (L' := [some (.ref 89), some (.int y333), some (.int y334)]) (st' := [.int (v335 - 1), .int 7, .ref 90]) (h' := (HM P w T)) (cs' := 0) (sl' := 0) rfl ?_
      obtain ⟨q336, hq, h⟩ := ai_bdE h
      refine ev_iast rfl rfl hq ?_
      rw [HMs_90]
      refine ev_go 6 (pc' := 110) (L' := [some (.ref 89), some (.int y333), some (.int y334)]) (st' := [.int 7, .ref 90, .int 139, .ref 90]) (h' := (HM P (u_m_w w q336) T)) (cs' := 0) (sl' := 0) rfl ?_
      obtain ⟨v337, hq, h⟩ := ai_bdE h
      refine ev_iald rfl rfl hq ?_
      refine ev_go 4 (pc' := 117) (L' := [some (.ref 89), some (.int y333), some (.int y334)]) (st' := [.int 1, .ref 90, .int (139 + v337), .ref 90]) (h' := (HM P (u_m_w w q336) T)) (cs' := 0) (sl' := 0) rfl ?_
      obtain ⟨v338, hq, h⟩ := ai_bdE h
      refine ev_iald rfl rfl hq ?_
      obtain ⟨q339, hq, h⟩ := ai_bdE h
      refine ev_iast rfl rfl hq ?_
      rw [HMs_90]
      refine ev_go 4 (pc' := 126) (L' := [some (.ref 89), some (.int y333), some (.int y334)]) (st' := [.int 7, .ref 90, .int 7, .ref 90]) (h' := (HM P (u_m_w (u_m_w w q336) q339) T)) (cs' := 0) (sl' := 0) rfl ?_
      obtain ⟨v340, hq, h⟩ := ai_bdE h
      refine ev_iald rfl rfl hq ?_
      refine ev_go 2 (pc' := 129) (L' := [some (.ref 89), some (.int y333), some (.int y334)]) (st' := [.int (v340 + 1), .int 7, .ref 90]) (h' := (HM P (u_m_w (u_m_w w q336) q339) T)) (cs' := 0) (sl' := 0) rfl ?_
      obtain ⟨q341, hq, h⟩ := ai_bdE h
      refine ev_iast rfl rfl hq ?_
      rw [HMs_90]
      refine ev_go 4 (pc' := 136) (L' := [some (.ref 89), some (.int y333), some (.int y334)]) (st' := [.int 1, .ref 90, .int 1, .ref 90]) (h' := (HM P (u_m_w (u_m_w (u_m_w w q336) q339) q341) T)) (cs' := 0) (sl' := 0) rfl ?_
      obtain ⟨v342, hq, h⟩ := ai_bdE h
      refine ev_iald rfl rfl hq ?_
      refine ev_go 2 (pc' := 139) (L' := [some (.ref 89), some (.int y333), some (.int y334)]) (st' := [.int (v342 + y333), .int 1, .ref 90]) (h' := (HM P (u_m_w (u_m_w (u_m_w w q336) q339) q341) T)) (cs' := 0) (sl' := 0) rfl ?_
      obtain ⟨q343, hq, h⟩ := ai_bdE h
      refine ev_iast rfl rfl hq ?_
      rw [HMs_90]
      refine ev_go 3 (pc' := 145) (L' := [some (.ref 89), some (.int y333), some (.int y334)]) (st' := [.int 1, .ref 90]) (h' := (HM P (u_m_w (u_m_w (u_m_w (u_m_w w q336) q339) q341) q343) T)) (cs' := 0) (sl' := 0) rfl ?_
      obtain ⟨v344, hq, h⟩ := ai_bdE h
      refine ev_iald rfl rfl hq ?_
      obtain ⟨rfl, rfl⟩ := ai_smP h
      exact ev_end rfl
    · refine ev_ic_ge (t := 86) rfl rfl (fun c9 => absurd c9 hc) (fun _ => ?_)
      refine ev_go 12 (pc' := 78) (L' := [some (.ref 89), some (.int y333), some (.int y334)]) (st' := [.int ((139 + y334) + 1), .ref 90, .int (139 + y334), .ref 90]) (h' := (HM P w T)) (cs' := 0) (sl' := 0) rfl ?_
      obtain ⟨v345, hq, h⟩ := ai_bdE h
      refine ev_iald rfl rfl hq ?_
      obtain ⟨q346, hq, h⟩ := ai_bdE h
      refine ev_iast rfl rfl hq ?_
      rw [HMs_90]
      refine ev_go 2 (pc' := 52) (L' := [some (.ref 89), some (.int y333), some (.int (y334 + 1))]) (st' := []) (h' := (HM P (u_m_w w q346) T)) (cs' := 0) (sl' := 0) rfl ?_
      exact ih0 _ _ _ _ _ h P T
set_option maxHeartbeats 40000000 in
set_option maxRecDepth 100000 in
theorem Em_hours_89 (n : Nat) (x319 : Int32) (w : WM) (r : Int32) (w' : WM) (h : Fm_hours_89 n x319 w = some (r, w')) (P : Nat → ai_E) (T : ai_H) : ai_ev D1 mm_hours 0 [some (.ref 89), some (.int x319), none] [] (HM P w T) 0 0 (some (.int r), HM P w' T) := by
  unfold Fm_hours_89 at h
  have ih0 := EGm_hours_89 n
  refine ev_go 4 (pc' := 6) (L' := [some (.ref 89), some (.int x319), none]) (st' := [.long 99, .long 1, .long (x319).toInt64]) (h' := (HM P w T)) (cs' := 0) (sl' := 0) rfl ?_
  obtain ⟨c320, hq, h⟩ := ai_bdE h
  refine ev_call (M' := mm_in) (L' := [some (.long (x319).toInt64), none, some (.long 1), none, some (.long 99), none]) (rest := []) (rv := some (.int c320)) (h' := (HM P w T)) rfl (Em_in (x319).toInt64 1 99 _ hq (HM P w T)) ?_
  show ai_ev D1 mm_hours 9 [some (.ref 89), some (.int x319), none] [.int c320] (HM P w T) 0 0 _
  rcases ai_ifE h with ⟨hc, h⟩ | ⟨hc, h⟩
  · refine ev_if_ne (t := 17) rfl rfl (fun c9 => absurd hc c9) (fun _ => ?_)
    refine ev_go 1 (pc' := 13) (L' := [some (.ref 89), some (.int x319), none]) (st' := [.ref 89]) (h' := (HM P w T)) (cs' := 0) (sl' := 0) rfl ?_
    obtain ⟨c332, hq, h⟩ := ai_bdE h
    refine ev_call (M' := mm_bad) (L' := [some (.ref 89)]) (rest := []) (rv := some (.int c332.1)) (h' := (HM P c332.2 T)) rfl (Em_bad_89 w _ _ hq P T) ?_
    show ai_ev D1 mm_hours 16 [some (.ref 89), some (.int x319), none] [.int c332.1] (HM P c332.2 T) 0 0 _
    obtain ⟨rfl, rfl⟩ := ai_smP h
    exact ev_end rfl
  · refine ev_if_ne (t := 17) rfl rfl (fun _ => ?_) (fun c9 => absurd c9 hc)
    refine ev_go 3 (pc' := 22) (L' := [some (.ref 89), some (.int x319), none]) (st' := [.int 1, .ref 90]) (h' := (HM P w T)) (cs' := 0) (sl' := 0) rfl ?_
    obtain ⟨v321, hq, h⟩ := ai_bdE h
    refine ev_iald rfl rfl hq ?_
    refine ev_go 3 (pc' := 28) (L' := [some (.ref 89), some (.int x319), none]) (st' := [.int 999, .int (v321 + x319)]) (h' := (HM P w T)) (cs' := 0) (sl' := 0) rfl ?_
    rcases ai_ifE h with ⟨hc, h⟩ | ⟨hc, h⟩
    · refine ev_ic_le (t := 38) rfl rfl (fun _ => ?_) (fun c9 => absurd hc c9)
      refine ev_go 3 (pc' := 44) (L' := [some (.ref 89), some (.int x319), none]) (st' := [.int 7, .ref 90]) (h' := (HM P w T)) (cs' := 0) (sl' := 0) rfl ?_
      obtain ⟨v322, hq, h⟩ := ai_bdE h
      refine ev_iald rfl rfl hq ?_
      refine ev_go 1 (pc' := 47) (L' := [some (.ref 89), some (.int x319), none]) (st' := [.int 10, .int v322]) (h' := (HM P w T)) (cs' := 0) (sl' := 0) rfl ?_
      rcases ai_ifE h with ⟨hc, h⟩ | ⟨hc, h⟩
      · refine ev_ic_ne (t := 97) rfl rfl (fun c9 => absurd hc c9) (fun _ => ?_)
        refine ev_go 2 (pc' := 52) (L' := [some (.ref 89), some (.int x319), some (.int 0)]) (st' := []) (h' := (HM P w T)) (cs' := 0) (sl' := 0) rfl ?_
        exact ih0 _ _ _ _ _ h P T
      · refine ev_ic_ne (t := 97) rfl rfl (fun _ => ?_) (fun c9 => absurd c9 hc)
        refine ev_go 6 (pc' := 110) (L' := [some (.ref 89), some (.int x319), none]) (st' := [.int 7, .ref 90, .int 139, .ref 90]) (h' := (HM P w T)) (cs' := 0) (sl' := 0) rfl ?_
        obtain ⟨v323, hq, h⟩ := ai_bdE h
        refine ev_iald rfl rfl hq ?_
        refine ev_go 4 (pc' := 117) (L' := [some (.ref 89), some (.int x319), none]) (st' := [.int 1, .ref 90, .int (139 + v323), .ref 90]) (h' := (HM P w T)) (cs' := 0) (sl' := 0) rfl ?_
        obtain ⟨v324, hq, h⟩ := ai_bdE h
        refine ev_iald rfl rfl hq ?_
        obtain ⟨q325, hq, h⟩ := ai_bdE h
        refine ev_iast rfl rfl hq ?_
        rw [HMs_90]
        refine ev_go 4 (pc' := 126) (L' := [some (.ref 89), some (.int x319), none]) (st' := [.int 7, .ref 90, .int 7, .ref 90]) (h' := (HM P (u_m_w w q325) T)) (cs' := 0) (sl' := 0) rfl ?_
        obtain ⟨v326, hq, h⟩ := ai_bdE h
        refine ev_iald rfl rfl hq ?_
        refine ev_go 2 (pc' := 129) (L' := [some (.ref 89), some (.int x319), none]) (st' := [.int (v326 + 1), .int 7, .ref 90]) (h' := (HM P (u_m_w w q325) T)) (cs' := 0) (sl' := 0) rfl ?_
        obtain ⟨q327, hq, h⟩ := ai_bdE h
        refine ev_iast rfl rfl hq ?_
        rw [HMs_90]
        refine ev_go 4 (pc' := 136) (L' := [some (.ref 89), some (.int x319), none]) (st' := [.int 1, .ref 90, .int 1, .ref 90]) (h' := (HM P (u_m_w (u_m_w w q325) q327) T)) (cs' := 0) (sl' := 0) rfl ?_
        obtain ⟨v328, hq, h⟩ := ai_bdE h
        refine ev_iald rfl rfl hq ?_
        refine ev_go 2 (pc' := 139) (L' := [some (.ref 89), some (.int x319), none]) (st' := [.int (v328 + x319), .int 1, .ref 90]) (h' := (HM P (u_m_w (u_m_w w q325) q327) T)) (cs' := 0) (sl' := 0) rfl ?_
        obtain ⟨q329, hq, h⟩ := ai_bdE h
        refine ev_iast rfl rfl hq ?_
        rw [HMs_90]
        refine ev_go 3 (pc' := 145) (L' := [some (.ref 89), some (.int x319), none]) (st' := [.int 1, .ref 90]) (h' := (HM P (u_m_w (u_m_w (u_m_w w q325) q327) q329) T)) (cs' := 0) (sl' := 0) rfl ?_
        obtain ⟨v330, hq, h⟩ := ai_bdE h
        refine ev_iald rfl rfl hq ?_
        obtain ⟨rfl, rfl⟩ := ai_smP h
        exact ev_end rfl
    · refine ev_ic_le (t := 38) rfl rfl (fun c9 => absurd c9 hc) (fun _ => ?_)
      refine ev_go 2 (pc' := 34) (L' := [some (.ref 89), some (.int x319), none]) (st' := [.int (-3), .ref 89]) (h' := (HM P w T)) (cs' := 0) (sl' := 0) rfl ?_
      obtain ⟨c331, hq, h⟩ := ai_bdE h
      refine ev_call (M' := mm_met) (L' := [some (.ref 89), some (.int (-3))]) (rest := []) (rv := some (.int c331.1)) (h' := (HM P c331.2 T)) rfl (Em_met_89 (-3) w _ _ hq P T) ?_
      show ai_ev D1 mm_hours 37 [some (.ref 89), some (.int x319), none] [.int c331.1] (HM P c331.2 T) 0 0 _
      obtain ⟨rfl, rfl⟩ := ai_smP h
      exact ev_end rfl
set_option maxHeartbeats 40000000 in
set_option maxRecDepth 100000 in
theorem Em_undo_89 (w : WM) (r : Int32) (w' : WM) (h : Fm_undo_89 w = some (r, w')) (P : Nat → ai_E) (T : ai_H) : ai_ev D1 mm_undo 0 [some (.ref 89)] [] (HM P w T) 0 0 (some (.int r), HM P w' T) := by
  unfold Fm_undo_89 at h
  refine ev_go 3 (pc' := 6) (L' := [some (.ref 89)]) (st' := [.int 7, .ref 90]) (h' := (HM P w T)) (cs' := 0) (sl' := 0) rfl ?_
  obtain ⟨v347, hq, h⟩ := ai_bdE h
  refine ev_iald rfl rfl hq ?_
  rcases ai_ifE h with ⟨hc, h⟩ | ⟨hc, h⟩
  · refine ev_if_ne (t := 17) rfl rfl (fun c9 => absurd hc c9) (fun _ => ?_)
    refine ev_go 2 (pc' := 13) (L' := [some (.ref 89)]) (st' := [.int (-3), .ref 89]) (h' := (HM P w T)) (cs' := 0) (sl' := 0) rfl ?_
    obtain ⟨c353, hq, h⟩ := ai_bdE h
    refine ev_call (M' := mm_met) (L' := [some (.ref 89), some (.int (-3))]) (rest := []) (rv := some (.int c353.1)) (h' := (HM P c353.2 T)) rfl (Em_met_89 (-3) w _ _ hq P T) ?_
    show ai_ev D1 mm_undo 16 [some (.ref 89)] [.int c353.1] (HM P c353.2 T) 0 0 _
    obtain ⟨rfl, rfl⟩ := ai_smP h
    exact ev_end rfl
  · refine ev_if_ne (t := 17) rfl rfl (fun _ => ?_) (fun c9 => absurd c9 hc)
    refine ev_go 4 (pc' := 24) (L' := [some (.ref 89)]) (st' := [.int 7, .ref 90, .int 7, .ref 90]) (h' := (HM P w T)) (cs' := 0) (sl' := 0) rfl ?_
    obtain ⟨v348, hq, h⟩ := ai_bdE h
    refine ev_iald rfl rfl hq ?_
    refine ev_go 2 (pc' := 27) (L' := [some (.ref 89)]) (st' := [.int (v348 - 1), .int 7, .ref 90]) (h' := (HM P w T)) (cs' := 0) (sl' := 0) rfl ?_
    obtain ⟨q349, hq, h⟩ := ai_bdE h
    refine ev_iast rfl rfl hq ?_
    rw [HMs_90]
    refine ev_go 9 (pc' := 46) (L' := [some (.ref 89)]) (st' := [.int 7, .ref 90, .int 139, .ref 90, .int 1, .ref 90]) (h' := (HM P (u_m_w w q349) T)) (cs' := 0) (sl' := 0) rfl ?_
    obtain ⟨v350, hq, h⟩ := ai_bdE h
    refine ev_iald rfl rfl hq ?_
    refine ev_go 1 (pc' := 48) (L' := [some (.ref 89)]) (st' := [.int (139 + v350), .ref 90, .int 1, .ref 90]) (h' := (HM P (u_m_w w q349) T)) (cs' := 0) (sl' := 0) rfl ?_
    obtain ⟨v351, hq, h⟩ := ai_bdE h
    refine ev_iald rfl rfl hq ?_
    obtain ⟨q352, hq, h⟩ := ai_bdE h
    refine ev_iast rfl rfl hq ?_
    rw [HMs_90]
    refine ev_go 1 (pc' := 51) (L' := [some (.ref 89)]) (st' := [.int 1]) (h' := (HM P (u_m_w (u_m_w w q349) q352) T)) (cs' := 0) (sl' := 0) rfl ?_
    obtain ⟨rfl, rfl⟩ := ai_smP h
    exact ev_end rfl
set_option maxHeartbeats 40000000 in
set_option maxRecDepth 100000 in
theorem Em_lay_89 (x359 : Int32) (w : WM) (w' : WM) (h : Fm_lay_89 x359 w = some w') (P : Nat → ai_E) (T : ai_H) : ai_ev D1 mm_lay 0 [some (.ref 89), some (.int x359)] [] (HM P w T) 0 0 (none, HM P w' T) := by
  unfold Fm_lay_89 at h
  refine ev_go 6 (pc' := 9) (L' := [some (.ref 89), some (.int x359)]) (st' := [.int (67 + x359), .ref 90, .ref 89]) (h' := (HM P w T)) (cs' := 0) (sl' := 0) rfl ?_
  obtain ⟨v360, hq, h⟩ := ai_bdE h
  refine ev_iald rfl rfl hq ?_
  refine ev_step rfl rfl rfl (PFM_8_177_89 rfl) ?_
  refine ev_go 6 (pc' := 22) (L' := [some (.ref 89), some (.int x359)]) (st' := [.int (73 + x359), .ref 90, .ref 89]) (h' := (HM P (u_m_kind w v360) T)) (cs' := 0) (sl' := 0) rfl ?_
  obtain ⟨v361, hq, h⟩ := ai_bdE h
  refine ev_iald rfl rfl hq ?_
  refine ev_step rfl rfl rfl (PFM_8_180_89 rfl) ?_
  refine ev_go 6 (pc' := 35) (L' := [some (.ref 89), some (.int x359)]) (st' := [.int (79 + x359), .ref 90, .ref 89]) (h' := (HM P (u_m_weight (u_m_kind w v360) v361) T)) (cs' := 0) (sl' := 0) rfl ?_
  obtain ⟨v362, hq, h⟩ := ai_bdE h
  refine ev_iald rfl rfl hq ?_
  refine ev_step rfl rfl rfl (PFM_8_183_89 rfl) ?_
  refine ev_go 6 (pc' := 48) (L' := [some (.ref 89), some (.int x359)]) (st' := [.int (85 + x359), .ref 90, .ref 89]) (h' := (HM P (u_m_volume (u_m_weight (u_m_kind w v360) v361) v362) T)) (cs' := 0) (sl' := 0) rfl ?_
  obtain ⟨v363, hq, h⟩ := ai_bdE h
  refine ev_iald rfl rfl hq ?_
  refine ev_step rfl rfl rfl (PFM_8_186_89 rfl) ?_
  refine ev_go 4 (pc' := 58) (L' := [some (.ref 89), some (.int x359)]) (st' := [.int 1, .ref 90, .ref 89]) (h' := (HM P (u_m_load (u_m_volume (u_m_weight (u_m_kind w v360) v361) v362) v363) T)) (cs' := 0) (sl' := 0) rfl ?_
  obtain ⟨v364, hq, h⟩ := ai_bdE h
  refine ev_iald rfl rfl hq ?_
  refine ev_step rfl rfl rfl (PFM_8_189_89 rfl) ?_
  refine ev_go 2 (pc' := 64) (L' := [some (.ref 89), some (.int x359)]) (st' := [.int 0, .ref 89]) (h' := (HM P (u_m_hour (u_m_load (u_m_volume (u_m_weight (u_m_kind w v360) v361) v362) v363) v364) T)) (cs' := 0) (sl' := 0) rfl ?_
  refine ev_step rfl rfl rfl (PFM_8_192_89 rfl) ?_
  obtain rfl := Option.some.inj h
  exact ev_end rfl
set_option maxHeartbeats 40000000 in
set_option maxRecDepth 100000 in
theorem Em_lesser (x366 : Int32) (x367 : Int32) (r : Int32) (h : Fm_lesser x366 x367 = some r) (hh : ai_H) : ai_ev D1 mm_lesser 0 [some (.int x366), some (.int x367)] [] hh 0 0 (some (.int r), hh) := by
  unfold Fm_lesser at h
  refine ev_go 2 (pc' := 2) (L' := [some (.int x366), some (.int x367)]) (st' := [.int x367, .int x366]) (h' := hh) (cs' := 0) (sl' := 0) rfl ?_
  rcases ai_ifE h with ⟨hc, h⟩ | ⟨hc, h⟩
  · refine ev_ic_ge (t := 9) rfl rfl (fun _ => ?_) (fun c9 => absurd hc c9)
    refine ev_go 1 (pc' := 10) (L' := [some (.int x366), some (.int x367)]) (st' := [.int x367]) (h' := hh) (cs' := 0) (sl' := 0) rfl ?_
    obtain rfl := Option.some.inj h
    exact ev_end rfl
  · refine ev_ic_ge (t := 9) rfl rfl (fun c9 => absurd c9 hc) (fun _ => ?_)
    refine ev_go 2 (pc' := 10) (L' := [some (.int x366), some (.int x367)]) (st' := [.int x366]) (h' := hh) (cs' := 0) (sl' := 0) rfl ?_
    obtain rfl := Option.some.inj h
    exact ev_end rfl
set_option maxHeartbeats 40000000 in
set_option maxRecDepth 100000 in
theorem Em_room_89 (w : WM) (r : Int32) (w' : WM) (h : Fm_room_89 w = some (r, w')) (P : Nat → ai_E) (T : ai_H) : ai_ev D1 mm_room 0 [some (.ref 89)] [] (HM P w T) 0 0 (some (.int r), HM P w' T) := by
  unfold Fm_room_89 at h
  refine ev_go 5 (pc' := 9) (L' := [some (.ref 89)]) (st' := [.int 2, .int (a_m_kind w), .int (a_m_volume w)]) (h' := (HM P w T)) (cs' := 0) (sl' := 0) rfl ?_
  rcases ai_ifE h with ⟨hc, h⟩ | ⟨hc, h⟩
  · refine ev_ic_eq (t := 20) rfl rfl (fun _ => ?_) (fun c9 => absurd hc c9)
    refine ev_go 3 (pc' := 47) (L' := [some (.ref 89)]) (st' := [.int ((a_m_volume w) + 1)]) (h' := (HM P w T)) (cs' := 0) (sl' := 0) rfl ?_
    obtain ⟨rfl, rfl⟩ := ai_smP h
    exact ev_end rfl
  · refine ev_ic_eq (t := 20) rfl rfl (fun c9 => absurd c9 hc) (fun _ => ?_)
    refine ev_go 3 (pc' := 17) (L' := [some (.ref 89)]) (st' := [.int 3, .int (a_m_kind w), .int (a_m_volume w)]) (h' := (HM P w T)) (cs' := 0) (sl' := 0) rfl ?_
    rcases ai_ifE h with ⟨hc, h⟩ | ⟨hc, h⟩
    · refine ev_ic_ne (t := 24) rfl rfl (fun c9 => absurd hc c9) (fun _ => ?_)
      refine ev_go 3 (pc' := 47) (L' := [some (.ref 89)]) (st' := [.int ((a_m_volume w) + 1)]) (h' := (HM P w T)) (cs' := 0) (sl' := 0) rfl ?_
      obtain ⟨rfl, rfl⟩ := ai_smP h
      exact ev_end rfl
    · refine ev_ic_ne (t := 24) rfl rfl (fun _ => ?_) (fun c9 => absurd c9 hc)
      refine ev_go 3 (pc' := 29) (L' := [some (.ref 89)]) (st' := [.int 4, .int (a_m_kind w), .int (a_m_volume w)]) (h' := (HM P w T)) (cs' := 0) (sl' := 0) rfl ?_
      rcases ai_ifE h with ⟨hc, h⟩ | ⟨hc, h⟩
      · refine ev_ic_ne (t := 45) rfl rfl (fun c9 => absurd hc c9) (fun _ => ?_)
        refine ev_go 5 (pc' := 39) (L' := [some (.ref 89)]) (st' := [.int 5, .int ((a_m_hour w) / 4), .int (a_m_volume w)]) (h' := (HM P w T)) (cs' := 0) (sl' := 0) rfl ?_
        obtain ⟨c368, hq, h⟩ := ai_bdE h
        refine ev_call (M' := mm_lesser) (L' := [some (.int ((a_m_hour w) / 4)), some (.int 5)]) (rest := [.int (a_m_volume w)]) (rv := some (.int c368)) (h' := (HM P w T)) rfl (Em_lesser ((a_m_hour w) / 4) 5 _ hq (HM P w T)) ?_
        show ai_ev D1 mm_room 42 [some (.ref 89)] [.int c368, .int (a_m_volume w)] (HM P w T) 0 0 _
        refine ev_go 2 (pc' := 47) (L' := [some (.ref 89)]) (st' := [.int ((a_m_volume w) + c368)]) (h' := (HM P w T)) (cs' := 0) (sl' := 0) rfl ?_
        obtain ⟨rfl, rfl⟩ := ai_smP h
        exact ev_end rfl
      · refine ev_ic_ne (t := 45) rfl rfl (fun _ => ?_) (fun c9 => absurd c9 hc)
        refine ev_go 2 (pc' := 47) (L' := [some (.ref 89)]) (st' := [.int ((a_m_volume w) + 0)]) (h' := (HM P w T)) (cs' := 0) (sl' := 0) rfl ?_
        obtain ⟨rfl, rfl⟩ := ai_smP h
        exact ev_end rfl
set_option maxHeartbeats 40000000 in
set_option maxRecDepth 100000 in
theorem Em_weighs_89 (w : WM) (r : Int32) (w' : WM) (h : Fm_weighs_89 w = some (r, w')) (P : Nat → ai_E) (T : ai_H) : ai_ev D1 mm_weighs 0 [some (.ref 89), none] [] (HM P w T) 0 0 (some (.int r), HM P w' T) := by
  unfold Fm_weighs_89 at h
  refine ev_go 5 (pc' := 9) (L' := [some (.ref 89), none]) (st' := [.int 1, .int (a_m_kind w), .int (a_m_weight w)]) (h' := (HM P w T)) (cs' := 0) (sl' := 0) rfl ?_
  rcases ai_ifE h with ⟨hc, h⟩ | ⟨hc, h⟩
  · refine ev_ic_eq (t := 28) rfl rfl (fun _ => ?_) (fun c9 => absurd hc c9)
    refine ev_go 9 (pc' := 44) (L' := [some (.ref 89), some (.int ((a_m_weight w) + (a_m_load w)))]) (st' := [.int 3, .int (a_m_kind w), .int ((a_m_weight w) + (a_m_load w))]) (h' := (HM P w T)) (cs' := 0) (sl' := 0) rfl ?_
    rcases ai_ifE h with ⟨hc, h⟩ | ⟨hc, h⟩
    · refine ev_ic_ne (t := 61) rfl rfl (fun c9 => absurd hc c9) (fun _ => ?_)
      refine ev_go 4 (pc' := 54) (L' := [some (.ref 89), some (.int ((a_m_weight w) + (a_m_load w)))]) (st' := [.int 10, .int (a_m_hour w), .int 2, .int ((a_m_weight w) + (a_m_load w))]) (h' := (HM P w T)) (cs' := 0) (sl' := 0) rfl ?_
      obtain ⟨c370, hq, h⟩ := ai_bdE h
      refine ev_call (M' := mm_lesser) (L' := [some (.int (a_m_hour w)), some (.int 10)]) (rest := [.int 2, .int ((a_m_weight w) + (a_m_load w))]) (rv := some (.int c370)) (h' := (HM P w T)) rfl (Em_lesser (a_m_hour w) 10 _ hq (HM P w T)) ?_
      show ai_ev D1 mm_weighs 57 [some (.ref 89), some (.int ((a_m_weight w) + (a_m_load w)))] [.int c370, .int 2, .int ((a_m_weight w) + (a_m_load w))] (HM P w T) 0 0 _
      refine ev_go 3 (pc' := 63) (L' := [some (.ref 89), some (.int ((a_m_weight w) + (a_m_load w)))]) (st' := [.int (((a_m_weight w) + (a_m_load w)) + (2 * c370))]) (h' := (HM P w T)) (cs' := 0) (sl' := 0) rfl ?_
      obtain ⟨rfl, rfl⟩ := ai_smP h
      exact ev_end rfl
    · refine ev_ic_ne (t := 61) rfl rfl (fun _ => ?_) (fun c9 => absurd c9 hc)
      refine ev_go 2 (pc' := 63) (L' := [some (.ref 89), some (.int ((a_m_weight w) + (a_m_load w)))]) (st' := [.int (((a_m_weight w) + (a_m_load w)) + 0)]) (h' := (HM P w T)) (cs' := 0) (sl' := 0) rfl ?_
      obtain ⟨rfl, rfl⟩ := ai_smP h
      exact ev_end rfl
  · refine ev_ic_eq (t := 28) rfl rfl (fun c9 => absurd c9 hc) (fun _ => ?_)
    refine ev_go 3 (pc' := 17) (L' := [some (.ref 89), none]) (st' := [.int 2, .int (a_m_kind w), .int (a_m_weight w)]) (h' := (HM P w T)) (cs' := 0) (sl' := 0) rfl ?_
    rcases ai_ifE h with ⟨hc, h⟩ | ⟨hc, h⟩
    · refine ev_ic_eq (t := 28) rfl rfl (fun _ => ?_) (fun c9 => absurd hc c9)
      refine ev_go 9 (pc' := 44) (L' := [some (.ref 89), some (.int ((a_m_weight w) + (a_m_load w)))]) (st' := [.int 3, .int (a_m_kind w), .int ((a_m_weight w) + (a_m_load w))]) (h' := (HM P w T)) (cs' := 0) (sl' := 0) rfl ?_
      rcases ai_ifE h with ⟨hc, h⟩ | ⟨hc, h⟩
      · refine ev_ic_ne (t := 61) rfl rfl (fun c9 => absurd hc c9) (fun _ => ?_)
        refine ev_go 4 (pc' := 54) (L' := [some (.ref 89), some (.int ((a_m_weight w) + (a_m_load w)))]) (st' := [.int 10, .int (a_m_hour w), .int 2, .int ((a_m_weight w) + (a_m_load w))]) (h' := (HM P w T)) (cs' := 0) (sl' := 0) rfl ?_
        obtain ⟨c371, hq, h⟩ := ai_bdE h
        refine ev_call (M' := mm_lesser) (L' := [some (.int (a_m_hour w)), some (.int 10)]) (rest := [.int 2, .int ((a_m_weight w) + (a_m_load w))]) (rv := some (.int c371)) (h' := (HM P w T)) rfl (Em_lesser (a_m_hour w) 10 _ hq (HM P w T)) ?_
        show ai_ev D1 mm_weighs 57 [some (.ref 89), some (.int ((a_m_weight w) + (a_m_load w)))] [.int c371, .int 2, .int ((a_m_weight w) + (a_m_load w))] (HM P w T) 0 0 _
        refine ev_go 3 (pc' := 63) (L' := [some (.ref 89), some (.int ((a_m_weight w) + (a_m_load w)))]) (st' := [.int (((a_m_weight w) + (a_m_load w)) + (2 * c371))]) (h' := (HM P w T)) (cs' := 0) (sl' := 0) rfl ?_
        obtain ⟨rfl, rfl⟩ := ai_smP h
        exact ev_end rfl
      · refine ev_ic_ne (t := 61) rfl rfl (fun _ => ?_) (fun c9 => absurd c9 hc)
        refine ev_go 2 (pc' := 63) (L' := [some (.ref 89), some (.int ((a_m_weight w) + (a_m_load w)))]) (st' := [.int (((a_m_weight w) + (a_m_load w)) + 0)]) (h' := (HM P w T)) (cs' := 0) (sl' := 0) rfl ?_
        obtain ⟨rfl, rfl⟩ := ai_smP h
        exact ev_end rfl
    · refine ev_ic_eq (t := 28) rfl rfl (fun c9 => absurd c9 hc) (fun _ => ?_)
      refine ev_go 3 (pc' := 25) (L' := [some (.ref 89), none]) (st' := [.int 3, .int (a_m_kind w), .int (a_m_weight w)]) (h' := (HM P w T)) (cs' := 0) (sl' := 0) rfl ?_
      rcases ai_ifE h with ⟨hc, h⟩ | ⟨hc, h⟩
      · refine ev_ic_ne (t := 35) rfl rfl (fun c9 => absurd hc c9) (fun _ => ?_)
        refine ev_go 9 (pc' := 44) (L' := [some (.ref 89), some (.int ((a_m_weight w) + (a_m_load w)))]) (st' := [.int 3, .int (a_m_kind w), .int ((a_m_weight w) + (a_m_load w))]) (h' := (HM P w T)) (cs' := 0) (sl' := 0) rfl ?_
        rcases ai_ifE h with ⟨hc, h⟩ | ⟨hc, h⟩
        · refine ev_ic_ne (t := 61) rfl rfl (fun c9 => absurd hc c9) (fun _ => ?_)
          refine ev_go 4 (pc' := 54) (L' := [some (.ref 89), some (.int ((a_m_weight w) + (a_m_load w)))]) (st' := [.int 10, .int (a_m_hour w), .int 2, .int ((a_m_weight w) + (a_m_load w))]) (h' := (HM P w T)) (cs' := 0) (sl' := 0) rfl ?_
          obtain ⟨c373, hq, h⟩ := ai_bdE h
          refine ev_call (M' := mm_lesser) (L' := [some (.int (a_m_hour w)), some (.int 10)]) (rest := [.int 2, .int ((a_m_weight w) + (a_m_load w))]) (rv := some (.int c373)) (h' := (HM P w T)) rfl (Em_lesser (a_m_hour w) 10 _ hq (HM P w T)) ?_
          show ai_ev D1 mm_weighs 57 [some (.ref 89), some (.int ((a_m_weight w) + (a_m_load w)))] [.int c373, .int 2, .int ((a_m_weight w) + (a_m_load w))] (HM P w T) 0 0 _
          refine ev_go 3 (pc' := 63) (L' := [some (.ref 89), some (.int ((a_m_weight w) + (a_m_load w)))]) (st' := [.int (((a_m_weight w) + (a_m_load w)) + (2 * c373))]) (h' := (HM P w T)) (cs' := 0) (sl' := 0) rfl ?_
          obtain ⟨rfl, rfl⟩ := ai_smP h
          exact ev_end rfl
        · refine ev_ic_ne (t := 61) rfl rfl (fun _ => ?_) (fun c9 => absurd c9 hc)
          refine ev_go 2 (pc' := 63) (L' := [some (.ref 89), some (.int ((a_m_weight w) + (a_m_load w)))]) (st' := [.int (((a_m_weight w) + (a_m_load w)) + 0)]) (h' := (HM P w T)) (cs' := 0) (sl' := 0) rfl ?_
          obtain ⟨rfl, rfl⟩ := ai_smP h
          exact ev_end rfl
      · refine ev_ic_ne (t := 35) rfl rfl (fun _ => ?_) (fun c9 => absurd c9 hc)
        refine ev_go 7 (pc' := 44) (L' := [some (.ref 89), some (.int ((a_m_weight w) + 0))]) (st' := [.int 3, .int (a_m_kind w), .int ((a_m_weight w) + 0)]) (h' := (HM P w T)) (cs' := 0) (sl' := 0) rfl ?_
        rcases ai_ifE h with ⟨hc, h⟩ | ⟨hc, h⟩
        · refine ev_ic_ne (t := 61) rfl rfl (fun c9 => absurd hc c9) (fun _ => ?_)
          refine ev_go 4 (pc' := 54) (L' := [some (.ref 89), some (.int ((a_m_weight w) + 0))]) (st' := [.int 10, .int (a_m_hour w), .int 2, .int ((a_m_weight w) + 0)]) (h' := (HM P w T)) (cs' := 0) (sl' := 0) rfl ?_
          obtain ⟨c372, hq, h⟩ := ai_bdE h
          refine ev_call (M' := mm_lesser) (L' := [some (.int (a_m_hour w)), some (.int 10)]) (rest := [.int 2, .int ((a_m_weight w) + 0)]) (rv := some (.int c372)) (h' := (HM P w T)) rfl (Em_lesser (a_m_hour w) 10 _ hq (HM P w T)) ?_
          show ai_ev D1 mm_weighs 57 [some (.ref 89), some (.int ((a_m_weight w) + 0))] [.int c372, .int 2, .int ((a_m_weight w) + 0)] (HM P w T) 0 0 _
          refine ev_go 3 (pc' := 63) (L' := [some (.ref 89), some (.int ((a_m_weight w) + 0))]) (st' := [.int (((a_m_weight w) + 0) + (2 * c372))]) (h' := (HM P w T)) (cs' := 0) (sl' := 0) rfl ?_
          obtain ⟨rfl, rfl⟩ := ai_smP h
          exact ev_end rfl
        · refine ev_ic_ne (t := 61) rfl rfl (fun _ => ?_) (fun c9 => absurd c9 hc)
          refine ev_go 2 (pc' := 63) (L' := [some (.ref 89), some (.int ((a_m_weight w) + 0))]) (st' := [.int (((a_m_weight w) + 0) + 0)]) (h' := (HM P w T)) (cs' := 0) (sl' := 0) rfl ?_
          obtain ⟨rfl, rfl⟩ := ai_smP h
          exact ev_end rfl
set_option maxHeartbeats 40000000 in
set_option maxRecDepth 100000 in
theorem Em_of_89 (x354 : Int32) (x355 : Int32) (w : WM) (r : Int32) (w' : WM) (h : Fm_of_89 x354 x355 w = some (r, w')) (P : Nat → ai_E) (T : ai_H) : ai_ev D1 mm_of 0 [some (.ref 89), some (.int x354), some (.int x355)] [] (HM P w T) 0 0 (some (.int r), HM P w' T) := by
  unfold Fm_of_89 at h
  refine ev_go 2 (pc' := 2) (L' := [some (.ref 89), some (.int x354), some (.int x355)]) (st' := [.int x354, .ref 89]) (h' := (HM P w T)) (cs' := 0) (sl' := 0) rfl ?_
  obtain ⟨c356, hq, h⟩ := ai_bdE h
  refine ev_call (M' := mm_isThing) (L' := [some (.ref 89), some (.int x354)]) (rest := []) (rv := some (.int c356.1)) (h' := (HM P c356.2 T)) rfl (Em_isThing_89 x354 w _ _ hq P T) ?_
  show ai_ev D1 mm_of 5 [some (.ref 89), some (.int x354), some (.int x355)] [.int c356.1] (HM P c356.2 T) 0 0 _
  rcases ai_ifE h with ⟨hc, h⟩ | ⟨hc, h⟩
  · refine ev_if_eq (t := 20) rfl rfl (fun _ => ?_) (fun c9 => absurd hc c9)
    refine ev_go 1 (pc' := 21) (L' := [some (.ref 89), some (.int x354), some (.int x355)]) (st' := [.ref 89]) (h' := (HM P c356.2 T)) (cs' := 0) (sl' := 0) rfl ?_
    obtain ⟨c357, hq, h⟩ := ai_bdE h
    refine ev_call (M' := mm_bad) (L' := [some (.ref 89)]) (rest := []) (rv := some (.int c357.1)) (h' := (HM P c357.2 T)) rfl (Em_bad_89 c356.2 _ _ hq P T) ?_
    show ai_ev D1 mm_of 24 [some (.ref 89), some (.int x354), some (.int x355)] [.int c357.1] (HM P c357.2 T) 0 0 _
    obtain ⟨rfl, rfl⟩ := ai_smP h
    exact ev_end rfl
  · refine ev_if_eq (t := 20) rfl rfl (fun c9 => absurd c9 hc) (fun _ => ?_)
    refine ev_go 4 (pc' := 14) (L' := [some (.ref 89), some (.int x354), some (.int x355)]) (st' := [.long 2, .long 0, .long (x355).toInt64]) (h' := (HM P c356.2 T)) (cs' := 0) (sl' := 0) rfl ?_
    obtain ⟨c358, hq, h⟩ := ai_bdE h
    refine ev_call (M' := mm_in) (L' := [some (.long (x355).toInt64), none, some (.long 0), none, some (.long 2), none]) (rest := []) (rv := some (.int c358)) (h' := (HM P c356.2 T)) rfl (Em_in (x355).toInt64 0 2 _ hq (HM P c356.2 T)) ?_
    show ai_ev D1 mm_of 17 [some (.ref 89), some (.int x354), some (.int x355)] [.int c358] (HM P c356.2 T) 0 0 _
    rcases ai_ifE h with ⟨hc, h⟩ | ⟨hc, h⟩
    · refine ev_if_ne (t := 25) rfl rfl (fun c9 => absurd hc c9) (fun _ => ?_)
      refine ev_go 1 (pc' := 21) (L' := [some (.ref 89), some (.int x354), some (.int x355)]) (st' := [.ref 89]) (h' := (HM P c356.2 T)) (cs' := 0) (sl' := 0) rfl ?_
      obtain ⟨c375, hq, h⟩ := ai_bdE h
      refine ev_call (M' := mm_bad) (L' := [some (.ref 89)]) (rest := []) (rv := some (.int c375.1)) (h' := (HM P c375.2 T)) rfl (Em_bad_89 c356.2 _ _ hq P T) ?_
      show ai_ev D1 mm_of 24 [some (.ref 89), some (.int x354), some (.int x355)] [.int c375.1] (HM P c375.2 T) 0 0 _
      obtain ⟨rfl, rfl⟩ := ai_smP h
      exact ev_end rfl
    · refine ev_if_ne (t := 25) rfl rfl (fun _ => ?_) (fun c9 => absurd c9 hc)
      refine ev_go 2 (pc' := 27) (L' := [some (.ref 89), some (.int x354), some (.int x355)]) (st' := [.int x354, .ref 89]) (h' := (HM P c356.2 T)) (cs' := 0) (sl' := 0) rfl ?_
      obtain ⟨c365, hq, h⟩ := ai_bdE h
      refine ev_call (M' := mm_lay) (L' := [some (.ref 89), some (.int x354)]) (rest := []) (rv := none) (h' := (HM P c365 T)) rfl (Em_lay_89 x354 c356.2 _ hq P T) ?_
      show ai_ev D1 mm_of 30 [some (.ref 89), some (.int x354), some (.int x355)] [] (HM P c365 T) 0 0 _
      refine ev_go 1 (pc' := 31) (L' := [some (.ref 89), some (.int x354), some (.int x355)]) (st' := [.int x355]) (h' := (HM P c365 T)) (cs' := 0) (sl' := 0) rfl ?_
      rcases ai_ifE h with ⟨hc, h⟩ | ⟨hc, h⟩
      · refine ev_if_ne (t := 41) rfl rfl (fun c9 => absurd hc c9) (fun _ => ?_)
        refine ev_go 3 (pc' := 57) (L' := [some (.ref 89), some (.int x354), some (.int x355)]) (st' := [.int (a_m_kind c365)]) (h' := (HM P c365 T)) (cs' := 0) (sl' := 0) rfl ?_
        obtain ⟨rfl, rfl⟩ := ai_smP h
        exact ev_end rfl
      · refine ev_if_ne (t := 41) rfl rfl (fun _ => ?_) (fun c9 => absurd c9 hc)
        refine ev_go 2 (pc' := 43) (L' := [some (.ref 89), some (.int x354), some (.int x355)]) (st' := [.int 1, .int x355]) (h' := (HM P c365 T)) (cs' := 0) (sl' := 0) rfl ?_
        rcases ai_ifE h with ⟨hc, h⟩ | ⟨hc, h⟩
        · refine ev_ic_ne (t := 53) rfl rfl (fun c9 => absurd hc c9) (fun _ => ?_)
          refine ev_go 1 (pc' := 47) (L' := [some (.ref 89), some (.int x354), some (.int x355)]) (st' := [.ref 89]) (h' := (HM P c365 T)) (cs' := 0) (sl' := 0) rfl ?_
          obtain ⟨c374, hq, h⟩ := ai_bdE h
          refine ev_call (M' := mm_weighs) (L' := [some (.ref 89), none]) (rest := []) (rv := some (.int c374.1)) (h' := (HM P c374.2 T)) rfl (Em_weighs_89 c365 _ _ hq P T) ?_
          show ai_ev D1 mm_of 50 [some (.ref 89), some (.int x354), some (.int x355)] [.int c374.1] (HM P c374.2 T) 0 0 _
          refine ev_go 1 (pc' := 57) (L' := [some (.ref 89), some (.int x354), some (.int x355)]) (st' := [.int c374.1]) (h' := (HM P c374.2 T)) (cs' := 0) (sl' := 0) rfl ?_
          obtain ⟨rfl, rfl⟩ := ai_smP h
          exact ev_end rfl
        · refine ev_ic_ne (t := 53) rfl rfl (fun _ => ?_) (fun c9 => absurd c9 hc)
          refine ev_go 1 (pc' := 54) (L' := [some (.ref 89), some (.int x354), some (.int x355)]) (st' := [.ref 89]) (h' := (HM P c365 T)) (cs' := 0) (sl' := 0) rfl ?_
          obtain ⟨c369, hq, h⟩ := ai_bdE h
          refine ev_call (M' := mm_room) (L' := [some (.ref 89)]) (rest := []) (rv := some (.int c369.1)) (h' := (HM P c369.2 T)) rfl (Em_room_89 c365 _ _ hq P T) ?_
          show ai_ev D1 mm_of 57 [some (.ref 89), some (.int x354), some (.int x355)] [.int c369.1] (HM P c369.2 T) 0 0 _
          obtain ⟨rfl, rfl⟩ := ai_smP h
          exact ev_end rfl
set_option maxHeartbeats 40000000 in
set_option maxRecDepth 100000 in
theorem Em_isCell_89 (x380 : Int32) (w : WM) (r : Int32) (w' : WM) (h : Fm_isCell_89 x380 w = some (r, w')) (P : Nat → ai_E) (T : ai_H) : ai_ev D1 mm_isCell 0 [some (.ref 89), some (.int x380)] [] (HM P w T) 0 0 (some (.int r), HM P w' T) := by
  unfold Fm_isCell_89 at h
  refine ev_go 3 (pc' := 3) (L' := [some (.ref 89), some (.int x380)]) (st' := [.int x380, .int 0, .ref 89]) (h' := (HM P w T)) (cs' := 0) (sl' := 0) rfl ?_
  obtain ⟨c381, hq, h⟩ := ai_bdE h
  refine ev_call (M' := mm_isCellOf) (L' := [some (.ref 89), some (.int 0), some (.int x380)]) (rest := []) (rv := some (.int c381.1)) (h' := (HM P c381.2 T)) rfl (Em_isCellOf_89 0 x380 w _ _ hq P T) ?_
  show ai_ev D1 mm_isCell 6 [some (.ref 89), some (.int x380)] [.int c381.1] (HM P c381.2 T) 0 0 _
  obtain ⟨hv, h⟩ := ai_ifS h
  obtain ⟨rfl, rfl⟩ := ai_smP h
  exact ev_zend rfl rfl rfl hv
set_option maxHeartbeats 40000000 in
set_option maxRecDepth 100000 in
theorem Em_thickIn_89 (x385 : Int32) (x386 : Int32) (x387 : Int32) (w : WM) (r : Int32) (w' : WM) (h : Fm_thickIn_89 x385 x386 x387 w = some (r, w')) (P : Nat → ai_E) (T : ai_H) : ai_ev D1 mm_thickIn 0 [some (.ref 89), some (.int x385), some (.int x386), some (.int x387), none] [] (HM P w T) 0 0 (some (.int r), HM P w' T) := by
  unfold Fm_thickIn_89 at h
  refine ev_go 9 (pc' := 13) (L' := [some (.ref 89), some (.int x385), some (.int x386), some (.int x387), none]) (st' := [.int ((40 + (6 * x385)) + x386), .ref 90]) (h' := (HM P w T)) (cs' := 0) (sl' := 0) rfl ?_
  obtain ⟨v388, hq, h⟩ := ai_bdE h
  refine ev_iald rfl rfl hq ?_
  refine ev_go 11 (pc' := 30) (L' := [some (.ref 89), some (.int x385), some (.int x386), some (.int x387), none]) (st' := [.int ((16 + (6 * x385)) + (x387 - x387 / 6 * 6)), .ref 90, .int v388]) (h' := (HM P w T)) (cs' := 0) (sl' := 0) rfl ?_
  obtain ⟨v389, hq, h⟩ := ai_bdE h
  refine ev_iald rfl rfl hq ?_
  refine ev_go 3 (pc' := 36) (L' := [some (.ref 89), some (.int x385), some (.int x386), some (.int x387), some (.int (v388 + v389))]) (st' := [.int (v388 + v389)]) (h' := (HM P w T)) (cs' := 0) (sl' := 0) rfl ?_
  rcases ai_ifE h with ⟨hc, h⟩ | ⟨hc, h⟩
  · refine ev_if_ge (t := 43) rfl rfl (fun _ => ?_) (fun c9 => absurd hc c9)
    refine ev_go 1 (pc' := 45) (L' := [some (.ref 89), some (.int x385), some (.int x386), some (.int x387), some (.int (v388 + v389))]) (st' := [.int (v388 + v389)]) (h' := (HM P w T)) (cs' := 0) (sl' := 0) rfl ?_
    obtain ⟨rfl, rfl⟩ := ai_smP h
    exact ev_end rfl
  · refine ev_if_ge (t := 43) rfl rfl (fun c9 => absurd c9 hc) (fun _ => ?_)
    refine ev_go 2 (pc' := 45) (L' := [some (.ref 89), some (.int x385), some (.int x386), some (.int x387), some (.int (v388 + v389))]) (st' := [.int 0]) (h' := (HM P w T)) (cs' := 0) (sl' := 0) rfl ?_
    obtain ⟨rfl, rfl⟩ := ai_smP h
    exact ev_end rfl
set_option maxHeartbeats 40000000 in
set_option maxRecDepth 100000 in
theorem Em_deep_89 (x376 : Int32) (x377 : Int32) (w : WM) (r : Int32) (w' : WM) (h : Fm_deep_89 x376 x377 w = some (r, w')) (P : Nat → ai_E) (T : ai_H) : ai_ev D1 mm_deep 0 [some (.ref 89), some (.int x376), some (.int x377)] [] (HM P w T) 0 0 (some (.int r), HM P w' T) := by
  unfold Fm_deep_89 at h
  refine ev_go 1 (pc' := 1) (L' := [some (.ref 89), some (.int x376), some (.int x377)]) (st' := [.int x376]) (h' := (HM P w T)) (cs' := 0) (sl' := 0) rfl ?_
  obtain ⟨c378, hq, h⟩ := ai_bdE h
  refine ev_call (M' := mm_isLayer) (L' := [some (.int x376)]) (rest := []) (rv := some (.int c378)) (h' := (HM P w T)) rfl (Em_isLayer x376 _ hq (HM P w T)) ?_
  show ai_ev D1 mm_deep 4 [some (.ref 89), some (.int x376), some (.int x377)] [.int c378] (HM P w T) 0 0 _
  rcases ai_ifE h with ⟨hc, h⟩ | ⟨hc, h⟩
  · refine ev_if_eq (t := 30) rfl rfl (fun _ => ?_) (fun c9 => absurd hc c9)
    refine ev_go 1 (pc' := 31) (L' := [some (.ref 89), some (.int x376), some (.int x377)]) (st' := [.ref 89]) (h' := (HM P w T)) (cs' := 0) (sl' := 0) rfl ?_
    obtain ⟨c379, hq, h⟩ := ai_bdE h
    refine ev_call (M' := mm_bad) (L' := [some (.ref 89)]) (rest := []) (rv := some (.int c379.1)) (h' := (HM P c379.2 T)) rfl (Em_bad_89 w _ _ hq P T) ?_
    show ai_ev D1 mm_deep 34 [some (.ref 89), some (.int x376), some (.int x377)] [.int c379.1] (HM P c379.2 T) 0 0 _
    obtain ⟨rfl, rfl⟩ := ai_smP h
    exact ev_end rfl
  · refine ev_if_eq (t := 30) rfl rfl (fun c9 => absurd c9 hc) (fun _ => ?_)
    refine ev_go 2 (pc' := 9) (L' := [some (.ref 89), some (.int x376), some (.int x377)]) (st' := [.int x377, .ref 89]) (h' := (HM P w T)) (cs' := 0) (sl' := 0) rfl ?_
    obtain ⟨c382, hq, h⟩ := ai_bdE h
    refine ev_call (M' := mm_isCell) (L' := [some (.ref 89), some (.int x377)]) (rest := []) (rv := some (.int c382.1)) (h' := (HM P c382.2 T)) rfl (Em_isCell_89 x377 w _ _ hq P T) ?_
    show ai_ev D1 mm_deep 12 [some (.ref 89), some (.int x376), some (.int x377)] [.int c382.1] (HM P c382.2 T) 0 0 _
    rcases ai_ifE h with ⟨hc, h⟩ | ⟨hc, h⟩
    · refine ev_if_eq (t := 30) rfl rfl (fun _ => ?_) (fun c9 => absurd hc c9)
      refine ev_go 1 (pc' := 31) (L' := [some (.ref 89), some (.int x376), some (.int x377)]) (st' := [.ref 89]) (h' := (HM P c382.2 T)) (cs' := 0) (sl' := 0) rfl ?_
      obtain ⟨c383, hq, h⟩ := ai_bdE h
      refine ev_call (M' := mm_bad) (L' := [some (.ref 89)]) (rest := []) (rv := some (.int c383.1)) (h' := (HM P c383.2 T)) rfl (Em_bad_89 c382.2 _ _ hq P T) ?_
      show ai_ev D1 mm_deep 34 [some (.ref 89), some (.int x376), some (.int x377)] [.int c383.1] (HM P c383.2 T) 0 0 _
      obtain ⟨rfl, rfl⟩ := ai_smP h
      exact ev_end rfl
    · refine ev_if_eq (t := 30) rfl rfl (fun c9 => absurd c9 hc) (fun _ => ?_)
      refine ev_go 6 (pc' := 23) (L' := [some (.ref 89), some (.int x376), some (.int x377)]) (st' := [.int 1, .ref 90, .int x377, .int x376, .ref 89]) (h' := (HM P c382.2 T)) (cs' := 0) (sl' := 0) rfl ?_
      obtain ⟨v384, hq, h⟩ := ai_bdE h
      refine ev_iald rfl rfl hq ?_
      obtain ⟨c390, hq, h⟩ := ai_bdE h
      refine ev_call (M' := mm_thickIn) (L' := [some (.ref 89), some (.int x376), some (.int x377), some (.int v384), none]) (rest := []) (rv := some (.int c390.1)) (h' := (HM P c390.2 T)) rfl (Em_thickIn_89 x376 x377 v384 c382.2 _ _ hq P T) ?_
      show ai_ev D1 mm_deep 27 [some (.ref 89), some (.int x376), some (.int x377)] [.int c390.1] (HM P c390.2 T) 0 0 _
      refine ev_go 1 (pc' := 34) (L' := [some (.ref 89), some (.int x376), some (.int x377)]) (st' := [.int c390.1]) (h' := (HM P c390.2 T)) (cs' := 0) (sl' := 0) rfl ?_
      obtain ⟨rfl, rfl⟩ := ai_smP h
      exact ev_end rfl
