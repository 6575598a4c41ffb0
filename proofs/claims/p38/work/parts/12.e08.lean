set_option maxHeartbeats 40000000 in
set_option maxRecDepth 100000 in
theorem Em_tapped_89 (x814 : Int32) (x815 : Int32) (x816 : Int32) (r : Int32) (h : Fm_tapped_89 x814 x815 x816 = some r) (hh : ai_H) : ai_ev D1 mm_tapped 0 [some (.ref 89), some (.int x814), some (.int x815), some (.int x816)] [] hh 0 0 (some (.int r), hh) := by
  unfold Fm_tapped_89 at h
  refine ev_go 6 (pc' := 6) (L' := [some (.ref 89), some (.int x814), some (.int x815), some (.int x816)]) (st' := [.int x816, .int (x814 + x815), .int 2, .int x814]) (h' := hh) (cs' := 0) (sl' := 0) rfl ?_
  rcases ai_ifE h with ⟨hc, h⟩ | ⟨hc, h⟩
  · refine ev_ic_le (t := 17) rfl rfl (fun _ => ?_) (fun c9 => absurd hc c9)
    refine ev_go 3 (pc' := 20) (L' := [some (.ref 89), some (.int x814), some (.int x815), some (.int x816)]) (st' := [.int (x814 - 0)]) (h' := hh) (cs' := 0) (sl' := 0) rfl ?_
    obtain rfl := Option.some.inj h
    exact ev_end rfl
  · refine ev_ic_le (t := 17) rfl rfl (fun c9 => absurd c9 hc) (fun _ => ?_)
    refine ev_go 8 (pc' := 20) (L' := [some (.ref 89), some (.int x814), some (.int x815), some (.int x816)]) (st' := [.int (x814 - (2 * ((x814 + x815) - x816)))]) (h' := hh) (cs' := 0) (sl' := 0) rfl ?_
    obtain rfl := Option.some.inj h
    exact ev_end rfl
set_option maxHeartbeats 40000000 in
set_option maxRecDepth 100000 in
theorem EGm_tap_89 : ∀ n : Nat, (∀ (y789 : Int32) (y790 : Int32) (y791 : Int32) (w : WM) (r : Int32) (w' : WM), Gm_tap_89 n 0 y789 y790 y791 0 0 0 0 0 w = some (r, w') → ∀ (P : Nat → ai_E) (T : ai_H) (o4 o5 o6 o7 o8 : Option Value), ai_ev D1 mm_tap 21 [some (.ref 89), some (.int y789), some (.int y790), some (.int y791), o4, o5, o6, o7, o8] [] (HM P w T) 0 0 (some (.int r), HM P w' T)) ∧ (∀ (y795 : Int32) (y796 : Int32) (y797 : Int32) (y798 : Int32) (y799 : Int32) (w : WM) (r : Int32) (w' : WM), Gm_tap_89 n 1 y795 y796 y797 y798 y799 0 0 0 w = some (r, w') → ∀ (P : Nat → ai_E) (T : ai_H) (o6 o7 o8 : Option Value), ai_ev D1 mm_tap 60 [some (.ref 89), some (.int y795), some (.int y796), some (.int y797), some (.int y798), some (.int y799), o6, o7, o8] [] (HM P w T) 0 0 (some (.int r), HM P w' T)) ∧ (∀ (y800 : Int32) (y801 : Int32) (y802 : Int32) (y803 : Int32) (y804 : Int32) (y805 : Int32) (w : WM) (r : Int32) (w' : WM), Gm_tap_89 n 2 y800 y801 y802 y803 y804 y805 0 0 w = some (r, w') → ∀ (P : Nat → ai_E) (T : ai_H) (o7 o8 : Option Value), ai_ev D1 mm_tap 70 [some (.ref 89), some (.int y800), some (.int y801), some (.int y802), some (.int y803), some (.int y804), some (.int y805), o7, o8] [] (HM P w T) 0 0 (some (.int r), HM P w' T)) ∧ (∀ (y806 : Int32) (y807 : Int32) (y808 : Int32) (y809 : Int32) (y810 : Int32) (y811 : Int32) (y812 : Int32) (y813 : Int32) (w : WM) (r : Int32) (w' : WM), Gm_tap_89 n 3 y806 y807 y808 y809 y810 y811 y812 y813 w = some (r, w') → ∀ (P : Nat → ai_E) (T : ai_H), ai_ev D1 mm_tap 83 [some (.ref 89), some (.int y806), some (.int y807), some (.int y808), some (.int y809), some (.int y810), some (.int y811), some (.int y812), some (.int y813)] [] (HM P w T) 0 0 (some (.int r), HM P w' T)) := by
  intro n
  induction n with
  | zero =>
    exact ⟨(fun _ _ _ _ _ _ h => by cases h), (fun _ _ _ _ _ _ _ _ h => by cases h), (fun _ _ _ _ _ _ _ _ _ h => by cases h), (fun _ _ _ _ _ _ _ _ _ _ _ h => by cases h)⟩
  | succ n ih =>
    obtain ⟨ih0, ih1, ih2, ih3⟩ := ih
    refine ⟨?_, ?_, ?_, ?_⟩
    · intro y789 y790 y791 w r w' h P T o4 o5 o6 o7 o8
      simp only [Gm_tap_89] at h
      refine ev_go 4 (pc' := 27) (L' := [some (.ref 89), some (.int y789), some (.int y790), some (.int y791), o4, o5, o6, o7, o8]) (st' := [.int 0, .ref 90, .int y791]) (h' := (HM P w T)) (cs' := 0) (sl' := 0) rfl ?_
      obtain ⟨v792, hq, h⟩ := ai_bdE h
      refine ev_iald rfl rfl hq ?_
      rcases ai_ifE h with ⟨hc, h⟩ | ⟨hc, h⟩
      · refine ev_ic_ge (t := 52) rfl rfl (fun _ => ?_) (fun c9 => absurd hc c9)
        refine ev_go 6 (pc' := 60) (L' := [some (.ref 89), some (.int y789), some (.int y790), some (.int 0), some (.int (-1)), some (.int 0), o6, o7, o8]) (st' := []) (h' := (HM P w T)) (cs' := 0) (sl' := 0) rfl ?_
        exact ih1 _ _ _ _ _ _ _ _ h P T _ _ _
      · refine ev_ic_ge (t := 52) rfl rfl (fun c9 => absurd c9 hc) (fun _ => ?_)
        refine ev_go 7 (pc' := 40) (L' := [some (.ref 89), some (.int y789), some (.int y790), some (.int y791), o4, o5, o6, o7, o8]) (st' := [.int 1, .ref 90, .int y791, .int 0, .ref 89, .int y790]) (h' := (HM P w T)) (cs' := 0) (sl' := 0) rfl ?_
        obtain ⟨v793, hq, h⟩ := ai_bdE h
        refine ev_iald rfl rfl hq ?_
        obtain ⟨c794, hq, h⟩ := ai_bdE h
        refine ev_call (M' := mm_thickIn) (L' := [some (.ref 89), some (.int 0), some (.int y791), some (.int v793), none]) (rest := [.int y790]) (rv := some (.int c794.1)) (h' := (HM P c794.2 T)) rfl (Em_thickIn_89 0 y791 v793 w _ _ hq P T) ?_
        show ai_ev D1 mm_tap 44 [some (.ref 89), some (.int y789), some (.int y790), some (.int y791), o4, o5, o6, o7, o8] [.int c794.1, .int y790] (HM P c794.2 T) 0 0 _
        refine ev_go 4 (pc' := 21) (L' := [some (.ref 89), some (.int y789), some (.int (y790 + c794.1)), some (.int (y791 + 1)), o4, o5, o6, o7, o8]) (st' := []) (h' := (HM P c794.2 T)) (cs' := 0) (sl' := 0) rfl ?_
        exact ih0 _ _ _ _ _ _ h P T _ _ _ _ _
    · intro y795 y796 y797 y798 y799 w r w' h P T o6 o7 o8
      simp only [Gm_tap_89] at h
      refine ev_go 2 (pc' := 64) (L' := [some (.ref 89), some (.int y795), some (.int y796), some (.int y797), some (.int y798), some (.int y799), o6, o7, o8]) (st' := [.int 10, .int y799]) (h' := (HM P w T)) (cs' := 0) (sl' := 0) rfl ?_
      rcases ai_ifE h with ⟨hc, h⟩ | ⟨hc, h⟩
      · refine ev_ic_ge (t := 199) rfl rfl (fun _ => ?_) (fun c9 => absurd hc c9)
        refine ev_go 1 (pc' := 200) (L' := [some (.ref 89), some (.int y795), some (.int y796), some (.int y797), some (.int y798), some (.int y799), o6, o7, o8]) (st' := [.int y795]) (h' := (HM P w T)) (cs' := 0) (sl' := 0) rfl ?_
        rcases ai_ifE h with ⟨hc, h⟩ | ⟨hc, h⟩
        · refine ev_if_ne (t := 207) rfl rfl (fun c9 => absurd hc c9) (fun _ => ?_)
          refine ev_go 2 (pc' := 209) (L' := [some (.ref 89), some (.int y795), some (.int y796), some (.int y797), some (.int y798), some (.int y799), o6, o7, o8]) (st' := [.int y797]) (h' := (HM P w T)) (cs' := 0) (sl' := 0) rfl ?_
          obtain ⟨rfl, rfl⟩ := ai_smP h
          exact ev_end rfl
        · refine ev_if_ne (t := 207) rfl rfl (fun _ => ?_) (fun c9 => absurd c9 hc)
          refine ev_go 1 (pc' := 209) (L' := [some (.ref 89), some (.int y795), some (.int y796), some (.int y797), some (.int y798), some (.int y799), o6, o7, o8]) (st' := [.int y798]) (h' := (HM P w T)) (cs' := 0) (sl' := 0) rfl ?_
          obtain ⟨rfl, rfl⟩ := ai_smP h
          exact ev_end rfl
      · refine ev_ic_ge (t := 199) rfl rfl (fun c9 => absurd c9 hc) (fun _ => ?_)
        refine ev_go 2 (pc' := 70) (L' := [some (.ref 89), some (.int y795), some (.int y796), some (.int y797), some (.int y798), some (.int y799), some (.int 0), o7, o8]) (st' := []) (h' := (HM P w T)) (cs' := 0) (sl' := 0) rfl ?_
        exact ih2 _ _ _ _ _ _ _ _ _ h P T _ _
    · intro y800 y801 y802 y803 y804 y805 w r w' h P T o7 o8
      simp only [Gm_tap_89] at h
      refine ev_go 2 (pc' := 74) (L' := [some (.ref 89), some (.int y800), some (.int y801), some (.int y802), some (.int y803), some (.int y804), some (.int y805), o7, o8]) (st' := [.int 10, .int y805]) (h' := (HM P w T)) (cs' := 0) (sl' := 0) rfl ?_
      rcases ai_ifE h with ⟨hc, h⟩ | ⟨hc, h⟩
      · refine ev_ic_ge (t := 193) rfl rfl (fun _ => ?_) (fun c9 => absurd hc c9)
        refine ev_go 2 (pc' := 60) (L' := [some (.ref 89), some (.int y800), some (.int y801), some (.int y802), some (.int y803), some (.int (y804 + 1)), some (.int y805), o7, o8]) (st' := []) (h' := (HM P w T)) (cs' := 0) (sl' := 0) rfl ?_
        exact ih1 _ _ _ _ _ _ _ _ h P T _ _ _
      · refine ev_ic_ge (t := 193) rfl rfl (fun c9 => absurd c9 hc) (fun _ => ?_)
        refine ev_go 4 (pc' := 83) (L' := [some (.ref 89), some (.int y800), some (.int y801), some (.int y802), some (.int y803), some (.int y804), some (.int y805), some (.int 1), some (.int 0)]) (st' := []) (h' := (HM P w T)) (cs' := 0) (sl' := 0) rfl ?_
        exact ih3 _ _ _ _ _ _ _ _ _ _ _ h P T
    · intro y806 y807 y808 y809 y810 y811 y812 y813 w r w' h P T
      simp only [Gm_tap_89] at h
      refine ev_go 2 (pc' := 87) (L' := [some (.ref 89), some (.int y806), some (.int y807), some (.int y808), some (.int y809), some (.int y810), some (.int y811), some (.int y812), some (.int y813)]) (st' := [.int 10, .int y813]) (h' := (HM P w T)) (cs' := 0) (sl' := 0) rfl ?_
      rcases ai_ifE h with ⟨hc, h⟩ | ⟨hc, h⟩
      · refine ev_ic_ge (t := 150) rfl rfl (fun _ => ?_) (fun c9 => absurd hc c9)
        refine ev_go 1 (pc' := 152) (L' := [some (.ref 89), some (.int y806), some (.int y807), some (.int y808), some (.int y809), some (.int y810), some (.int y811), some (.int y812), some (.int y813)]) (st' := [.int y812]) (h' := (HM P w T)) (cs' := 0) (sl' := 0) rfl ?_
        rcases ai_ifE h with ⟨hc, h⟩ | ⟨hc, h⟩
        · refine ev_if_eq (t := 170) rfl rfl (fun _ => ?_) (fun c9 => absurd hc c9)
          refine ev_go 4 (pc' := 177) (L' := [some (.ref 89), some (.int y806), some (.int y807), some (.int y808), some (.int y809), some (.int y810), some (.int y811), some (.int y812), some (.int y813)]) (st' := [.int y812, .int y808]) (h' := (HM P w T)) (cs' := 0) (sl' := 0) rfl ?_
          rcases ai_ifE h with ⟨hc, h⟩ | ⟨hc, h⟩
          · refine ev_if_eq (t := 184) rfl rfl (fun _ => ?_) (fun c9 => absurd hc c9)
            refine ev_go 5 (pc' := 70) (L' := [some (.ref 89), some (.int y806), some (.int y807), some (.int (y808 + 0)), some (.int y809), some (.int y810), some (.int (y811 + 1)), some (.int y812), some (.int y813)]) (st' := []) (h' := (HM P w T)) (cs' := 0) (sl' := 0) rfl ?_
            exact ih2 _ _ _ _ _ _ _ _ _ h P T _ _
          · refine ev_if_eq (t := 184) rfl rfl (fun c9 => absurd c9 hc) (fun _ => ?_)
            refine ev_go 6 (pc' := 70) (L' := [some (.ref 89), some (.int y806), some (.int y807), some (.int (y808 + 1)), some (.int y809), some (.int y810), some (.int (y811 + 1)), some (.int y812), some (.int y813)]) (st' := []) (h' := (HM P w T)) (cs' := 0) (sl' := 0) rfl ?_
            exact ih2 _ _ _ _ _ _ _ _ _ h P T _ _
        · refine ev_if_eq (t := 170) rfl rfl (fun c9 => absurd c9 hc) (fun _ => ?_)
          refine ev_go 1 (pc' := 156) (L' := [some (.ref 89), some (.int y806), some (.int y807), some (.int y808), some (.int y809), some (.int y810), some (.int y811), some (.int y812), some (.int y813)]) (st' := [.int y808]) (h' := (HM P w T)) (cs' := 0) (sl' := 0) rfl ?_
          rcases ai_ifE h with ⟨hc, h⟩ | ⟨hc, h⟩
          · refine ev_if_ne (t := 170) rfl rfl (fun c9 => absurd hc c9) (fun _ => ?_)
            refine ev_go 9 (pc' := 177) (L' := [some (.ref 89), some (.int y806), some (.int y807), some (.int y808), some (.int ((10 * y810) + y811)), some (.int y810), some (.int y811), some (.int y812), some (.int y813)]) (st' := [.int y812, .int y808]) (h' := (HM P w T)) (cs' := 0) (sl' := 0) rfl ?_
            rcases ai_ifE h with ⟨hc, h⟩ | ⟨hc, h⟩
            · refine ev_if_eq (t := 184) rfl rfl (fun _ => ?_) (fun c9 => absurd hc c9)
              refine ev_go 5 (pc' := 70) (L' := [some (.ref 89), some (.int y806), some (.int y807), some (.int (y808 + 0)), some (.int ((10 * y810) + y811)), some (.int y810), some (.int (y811 + 1)), some (.int y812), some (.int y813)]) (st' := []) (h' := (HM P w T)) (cs' := 0) (sl' := 0) rfl ?_
              exact ih2 _ _ _ _ _ _ _ _ _ h P T _ _
            · refine ev_if_eq (t := 184) rfl rfl (fun c9 => absurd c9 hc) (fun _ => ?_)
              refine ev_go 6 (pc' := 70) (L' := [some (.ref 89), some (.int y806), some (.int y807), some (.int (y808 + 1)), some (.int ((10 * y810) + y811)), some (.int y810), some (.int (y811 + 1)), some (.int y812), some (.int y813)]) (st' := []) (h' := (HM P w T)) (cs' := 0) (sl' := 0) rfl ?_
              exact ih2 _ _ _ _ _ _ _ _ _ h P T _ _
          · refine ev_if_ne (t := 170) rfl rfl (fun _ => ?_) (fun c9 => absurd c9 hc)
            refine ev_go 4 (pc' := 177) (L' := [some (.ref 89), some (.int y806), some (.int y807), some (.int y808), some (.int y809), some (.int y810), some (.int y811), some (.int y812), some (.int y813)]) (st' := [.int y812, .int y808]) (h' := (HM P w T)) (cs' := 0) (sl' := 0) rfl ?_
            rcases ai_ifE h with ⟨hc, h⟩ | ⟨hc, h⟩
            · refine ev_if_eq (t := 184) rfl rfl (fun _ => ?_) (fun c9 => absurd hc c9)
              refine ev_go 5 (pc' := 70) (L' := [some (.ref 89), some (.int y806), some (.int y807), some (.int (y808 + 0)), some (.int y809), some (.int y810), some (.int (y811 + 1)), some (.int y812), some (.int y813)]) (st' := []) (h' := (HM P w T)) (cs' := 0) (sl' := 0) rfl ?_
              exact ih2 _ _ _ _ _ _ _ _ _ h P T _ _
            · refine ev_if_eq (t := 184) rfl rfl (fun c9 => absurd c9 hc) (fun _ => ?_)
              refine ev_go 6 (pc' := 70) (L' := [some (.ref 89), some (.int y806), some (.int y807), some (.int (y808 + 1)), some (.int y809), some (.int y810), some (.int (y811 + 1)), some (.int y812), some (.int y813)]) (st' := []) (h' := (HM P w T)) (cs' := 0) (sl' := 0) rfl ?_
              exact ih2 _ _ _ _ _ _ _ _ _ h P T _ _
      · refine ev_ic_ge (t := 150) rfl rfl (fun c9 => absurd c9 hc) (fun _ => ?_)
        refine ev_go 1 (pc' := 92) (L' := [some (.ref 89), some (.int y806), some (.int y807), some (.int y808), some (.int y809), some (.int y810), some (.int y811), some (.int y812), some (.int y813)]) (st' := [.int y812]) (h' := (HM P w T)) (cs' := 0) (sl' := 0) rfl ?_
        rcases ai_ifE h with ⟨hc, h⟩ | ⟨hc, h⟩
        · refine ev_if_eq (t := 141) rfl rfl (fun _ => ?_) (fun c9 => absurd hc c9)
          refine ev_go 4 (pc' := 83) (L' := [some (.ref 89), some (.int y806), some (.int y807), some (.int y808), some (.int y809), some (.int y810), some (.int y811), some (.int 0), some (.int (y813 + 1))]) (st' := []) (h' := (HM P w T)) (cs' := 0) (sl' := 0) rfl ?_
          exact ih3 _ _ _ _ _ _ _ _ _ _ _ h P T
        · refine ev_if_eq (t := 141) rfl rfl (fun c9 => absurd c9 hc) (fun _ => ?_)
          refine ev_go 4 (pc' := 101) (L' := [some (.ref 89), some (.int y806), some (.int y807), some (.int y808), some (.int y809), some (.int y810), some (.int y811), some (.int y812), some (.int y813)]) (st' := [.int y807, .int y811, .int y813, .ref 89]) (h' := (HM P w T)) (cs' := 0) (sl' := 0) rfl ?_
          obtain ⟨c817, hq, h⟩ := ai_bdE h
          refine ev_call (M' := mm_tapped) (L' := [some (.ref 89), some (.int y813), some (.int y811), some (.int y807)]) (rest := []) (rv := some (.int c817)) (h' := (HM P w T)) rfl (Em_tapped_89 y813 y811 y807 _ hq (HM P w T)) ?_
          show ai_ev D1 mm_tap 104 [some (.ref 89), some (.int y806), some (.int y807), some (.int y808), some (.int y809), some (.int y810), some (.int y811), some (.int y812), some (.int y813)] [.int c817] (HM P w T) 0 0 _
          refine ev_go 4 (pc' := 110) (L' := [some (.ref 89), some (.int y806), some (.int y807), some (.int y808), some (.int y809), some (.int y810), some (.int y811), some (.int y812), some (.int y813)]) (st' := [.int y807, .int y811, .int y810, .ref 89, .int c817]) (h' := (HM P w T)) (cs' := 0) (sl' := 0) rfl ?_
          obtain ⟨c818, hq, h⟩ := ai_bdE h
          refine ev_call (M' := mm_tapped) (L' := [some (.ref 89), some (.int y810), some (.int y811), some (.int y807)]) (rest := [.int c817]) (rv := some (.int c818)) (h' := (HM P w T)) rfl (Em_tapped_89 y810 y811 y807 _ hq (HM P w T)) ?_
          show ai_ev D1 mm_tap 113 [some (.ref 89), some (.int y806), some (.int y807), some (.int y808), some (.int y809), some (.int y810), some (.int y811), some (.int y812), some (.int y813)] [.int c818, .int c817] (HM P w T) 0 0 _
          rcases ai_ifE h with ⟨hc, h⟩ | ⟨hc, h⟩
          · refine ev_ic_gt (t := 141) rfl rfl (fun _ => ?_) (fun c9 => absurd hc c9)
            refine ev_go 4 (pc' := 83) (L' := [some (.ref 89), some (.int y806), some (.int y807), some (.int y808), some (.int y809), some (.int y810), some (.int y811), some (.int 0), some (.int (y813 + 1))]) (st' := []) (h' := (HM P w T)) (cs' := 0) (sl' := 0) rfl ?_
            exact ih3 _ _ _ _ _ _ _ _ _ _ _ h P T
          · refine ev_ic_gt (t := 141) rfl rfl (fun c9 => absurd c9 hc) (fun _ => ?_)
            refine ev_go 4 (pc' := 122) (L' := [some (.ref 89), some (.int y806), some (.int y807), some (.int y808), some (.int y809), some (.int y810), some (.int y811), some (.int y812), some (.int y813)]) (st' := [.int y807, .int y810, .int y813, .ref 89]) (h' := (HM P w T)) (cs' := 0) (sl' := 0) rfl ?_
            obtain ⟨c819, hq, h⟩ := ai_bdE h
            refine ev_call (M' := mm_tapped) (L' := [some (.ref 89), some (.int y813), some (.int y810), some (.int y807)]) (rest := []) (rv := some (.int c819)) (h' := (HM P w T)) rfl (Em_tapped_89 y813 y810 y807 _ hq (HM P w T)) ?_
            show ai_ev D1 mm_tap 125 [some (.ref 89), some (.int y806), some (.int y807), some (.int y808), some (.int y809), some (.int y810), some (.int y811), some (.int y812), some (.int y813)] [.int c819] (HM P w T) 0 0 _
            refine ev_go 4 (pc' := 131) (L' := [some (.ref 89), some (.int y806), some (.int y807), some (.int y808), some (.int y809), some (.int y810), some (.int y811), some (.int y812), some (.int y813)]) (st' := [.int y807, .int y810, .int y811, .ref 89, .int c819]) (h' := (HM P w T)) (cs' := 0) (sl' := 0) rfl ?_
            obtain ⟨c820, hq, h⟩ := ai_bdE h
            refine ev_call (M' := mm_tapped) (L' := [some (.ref 89), some (.int y811), some (.int y810), some (.int y807)]) (rest := [.int c819]) (rv := some (.int c820)) (h' := (HM P w T)) rfl (Em_tapped_89 y811 y810 y807 _ hq (HM P w T)) ?_
            show ai_ev D1 mm_tap 134 [some (.ref 89), some (.int y806), some (.int y807), some (.int y808), some (.int y809), some (.int y810), some (.int y811), some (.int y812), some (.int y813)] [.int c820, .int c819] (HM P w T) 0 0 _
            rcases ai_ifE h with ⟨hc, h⟩ | ⟨hc, h⟩
            · refine ev_ic_gt (t := 141) rfl rfl (fun _ => ?_) (fun c9 => absurd hc c9)
              refine ev_go 4 (pc' := 83) (L' := [some (.ref 89), some (.int y806), some (.int y807), some (.int y808), some (.int y809), some (.int y810), some (.int y811), some (.int 0), some (.int (y813 + 1))]) (st' := []) (h' := (HM P w T)) (cs' := 0) (sl' := 0) rfl ?_
              exact ih3 _ _ _ _ _ _ _ _ _ _ _ h P T
            · refine ev_ic_gt (t := 141) rfl rfl (fun c9 => absurd c9 hc) (fun _ => ?_)
              refine ev_go 5 (pc' := 83) (L' := [some (.ref 89), some (.int y806), some (.int y807), some (.int y808), some (.int y809), some (.int y810), some (.int y811), some (.int 1), some (.int (y813 + 1))]) (st' := []) (h' := (HM P w T)) (cs' := 0) (sl' := 0) rfl ?_
              exact ih3 _ _ _ _ _ _ _ _ _ _ _ h P T
set_option maxHeartbeats 40000000 in
set_option maxRecDepth 100000 in
theorem Em_tap_89 (n : Nat) (x786 : Int32) (w : WM) (r : Int32) (w' : WM) (h : Fm_tap_89 n x786 w = some (r, w')) (P : Nat → ai_E) (T : ai_H) : ai_ev D1 mm_tap 0 [some (.ref 89), some (.int x786), none, none, none, none, none, none, none] [] (HM P w T) 0 0 (some (.int r), HM P w' T) := by
  unfold Fm_tap_89 at h
  obtain ⟨ih0, ih1, ih2, ih3⟩ := EGm_tap_89 n
  refine ev_go 4 (pc' := 4) (L' := [some (.ref 89), some (.int x786), none, none, none, none, none, none, none]) (st' := [.long 1, .long 0, .long (x786).toInt64]) (h' := (HM P w T)) (cs' := 0) (sl' := 0) rfl ?_
  obtain ⟨c787, hq, h⟩ := ai_bdE h
  refine ev_call (M' := mm_in) (L' := [some (.long (x786).toInt64), none, some (.long 0), none, some (.long 1), none]) (rest := []) (rv := some (.int c787)) (h' := (HM P w T)) rfl (Em_in (x786).toInt64 0 1 _ hq (HM P w T)) ?_
  show ai_ev D1 mm_tap 7 [some (.ref 89), some (.int x786), none, none, none, none, none, none, none] [.int c787] (HM P w T) 0 0 _
  rcases ai_ifE h with ⟨hc, h⟩ | ⟨hc, h⟩
  · refine ev_if_ne (t := 17) rfl rfl (fun c9 => absurd hc c9) (fun _ => ?_)
    refine ev_go 2 (pc' := 13) (L' := [some (.ref 89), some (.int x786), none, none, none, none, none, none, none]) (st' := [.int (-10), .ref 89]) (h' := (HM P w T)) (cs' := 0) (sl' := 0) rfl ?_
    obtain ⟨c788, hq, h⟩ := ai_bdE h
    refine ev_call (M' := mm_badAs) (L' := [some (.ref 89), some (.int (-10))]) (rest := []) (rv := some (.int c788.1)) (h' := (HM P c788.2 T)) rfl (Em_badAs_89 (-10) w _ _ hq P T) ?_
    show ai_ev D1 mm_tap 16 [some (.ref 89), some (.int x786), none, none, none, none, none, none, none] [.int c788.1] (HM P c788.2 T) 0 0 _
    obtain ⟨rfl, rfl⟩ := ai_smP h
    exact ev_end rfl
  · refine ev_if_ne (t := 17) rfl rfl (fun _ => ?_) (fun c9 => absurd c9 hc)
    refine ev_go 4 (pc' := 21) (L' := [some (.ref 89), some (.int x786), some (.int 0), some (.int 0), none, none, none, none, none]) (st' := []) (h' := (HM P w T)) (cs' := 0) (sl' := 0) rfl ?_
    exact ih0 _ _ _ _ _ _ h P T _ _ _ _ _
set_option maxHeartbeats 40000000 in
set_option maxRecDepth 100000 in
theorem EGm_fits_89 : ∀ n : Nat, (∀ (y833 : Int32) (y834 : Int32) (y835 : Int32) (y836 : Int32) (w : WM) (r : Int32) (w' : WM), Gm_fits_89 n 0 y833 y834 y835 y836 w = some (r, w') → ∀ (P : Nat → ai_E) (T : ai_H), ai_ev D1 mm_fits 5 [some (.ref 89), some (.int y833), some (.int y834), some (.int y835), some (.int y836)] [] (HM P w T) 0 0 (some (.int r), HM P w' T)) := by
  intro n
  induction n with
  | zero =>
    exact (fun _ _ _ _ _ _ _ h => by cases h)
  | succ n ih0 =>
    intro y833 y834 y835 y836 w r w' h P T
    simp only [Gm_fits_89] at h
    refine ev_go 4 (pc' := 13) (L' := [some (.ref 89), some (.int y833), some (.int y834), some (.int y835), some (.int y836)]) (st' := [.int 6, .ref 90, .int y836]) (h' := (HM P w T)) (cs' := 0) (sl' := 0) rfl ?_
    obtain ⟨v837, hq, h⟩ := ai_bdE h
    refine ev_iald rfl rfl hq ?_
    rcases ai_ifE h with ⟨hc, h⟩ | ⟨hc, h⟩
    · refine ev_ic_ge (t := 85) rfl rfl (fun _ => ?_) (fun c9 => absurd hc c9)
      refine ev_go 1 (pc' := 86) (L' := [some (.ref 89), some (.int y833), some (.int y834), some (.int y835), some (.int y836)]) (st' := [.int y835]) (h' := (HM P w T)) (cs' := 0) (sl' := 0) rfl ?_
      obtain ⟨hv, h⟩ := ai_ifS h
      obtain ⟨rfl, rfl⟩ := ai_smP h
      exact ev_zend rfl rfl rfl hv
    · refine ev_ic_ge (t := 85) rfl rfl (fun c9 => absurd c9 hc) (fun _ => ?_)
      refine ev_go 1 (pc' := 18) (L' := [some (.ref 89), some (.int y833), some (.int y834), some (.int y835), some (.int y836)]) (st' := [.int y835]) (h' := (HM P w T)) (cs' := 0) (sl' := 0) rfl ?_
      rcases ai_ifE h with ⟨hc, h⟩ | ⟨hc, h⟩
      · refine ev_if_eq (t := 77) rfl rfl (fun _ => ?_) (fun c9 => absurd hc c9)
        refine ev_go 4 (pc' := 5) (L' := [some (.ref 89), some (.int y833), some (.int y834), some (.int 0), some (.int (y836 + 1))]) (st' := []) (h' := (HM P w T)) (cs' := 0) (sl' := 0) rfl ?_
        exact ih0 _ _ _ _ _ _ _ h P T
      · refine ev_if_eq (t := 77) rfl rfl (fun c9 => absurd c9 hc) (fun _ => ?_)
        refine ev_go 10 (pc' := 38) (L' := [some (.ref 89), some (.int y833), some (.int y834), some (.int y835), some (.int y836)]) (st' := [.int (127 + y836), .ref 90, .int 8, .ref 90, .int y834, .int y833]) (h' := (HM P w T)) (cs' := 0) (sl' := 0) rfl ?_
        obtain ⟨v838, hq, h⟩ := ai_bdE h
        refine ev_iald rfl rfl hq ?_
        refine ev_go 1 (pc' := 40) (L' := [some (.ref 89), some (.int y833), some (.int y834), some (.int y835), some (.int y836)]) (st' := [.int (8 + v838), .ref 90, .int y834, .int y833]) (h' := (HM P w T)) (cs' := 0) (sl' := 0) rfl ?_
        obtain ⟨v839, hq, h⟩ := ai_bdE h
        refine ev_iald rfl rfl hq ?_
        refine ev_go 1 (pc' := 42) (L' := [some (.ref 89), some (.int y833), some (.int y834), some (.int y835), some (.int y836)]) (st' := [.int (y834 * v839), .int y833]) (h' := (HM P w T)) (cs' := 0) (sl' := 0) rfl ?_
        rcases ai_ifE h with ⟨hc, h⟩ | ⟨hc, h⟩
        · refine ev_ic_gt (t := 49) rfl rfl (fun _ => ?_) (fun c9 => absurd hc c9)
          refine ev_go 6 (pc' := 60) (L' := [some (.ref 89), some (.int y833), some (.int y834), some (.int y835), some (.int y836)]) (st' := [.int (133 + y836), .ref 90, .int 0]) (h' := (HM P w T)) (cs' := 0) (sl' := 0) rfl ?_
          obtain ⟨v840, hq, h⟩ := ai_bdE h
          refine ev_iald rfl rfl hq ?_
          refine ev_go 1 (pc' := 62) (L' := [some (.ref 89), some (.int y833), some (.int y834), some (.int y835), some (.int y836)]) (st' := [.int 1, .int v840, .int 0]) (h' := (HM P w T)) (cs' := 0) (sl' := 0) rfl ?_
          rcases ai_ifE h with ⟨hc, h⟩ | ⟨hc, h⟩
          · refine ev_ic_ne (t := 69) rfl rfl (fun c9 => absurd hc c9) (fun _ => ?_)
            refine ev_go 7 (pc' := 5) (L' := [some (.ref 89), some (.int y833), some (.int y834), some (.int 0), some (.int (y836 + 1))]) (st' := []) (h' := (HM P w T)) (cs' := 0) (sl' := 0) rfl ?_
            exact ih0 _ _ _ _ _ _ _ h P T
          · refine ev_ic_ne (t := 69) rfl rfl (fun _ => ?_) (fun c9 => absurd c9 hc)
            refine ev_go 7 (pc' := 5) (L' := [some (.ref 89), some (.int y833), some (.int y834), some (.int 1), some (.int (y836 + 1))]) (st' := []) (h' := (HM P w T)) (cs' := 0) (sl' := 0) rfl ?_
            exact ih0 _ _ _ _ _ _ _ h P T
        · refine ev_ic_gt (t := 49) rfl rfl (fun c9 => absurd c9 hc) (fun _ => ?_)
          refine ev_go 7 (pc' := 60) (L' := [some (.ref 89), some (.int y833), some (.int y834), some (.int y835), some (.int y836)]) (st' := [.int (133 + y836), .ref 90, .int 1]) (h' := (HM P w T)) (cs' := 0) (sl' := 0) rfl ?_
          obtain ⟨v841, hq, h⟩ := ai_bdE h
          refine ev_iald rfl rfl hq ?_
          refine ev_go 1 (pc' := 62) (L' := [some (.ref 89), some (.int y833), some (.int y834), some (.int y835), some (.int y836)]) (st' := [.int 1, .int v841, .int 1]) (h' := (HM P w T)) (cs' := 0) (sl' := 0) rfl ?_
          rcases ai_ifE h with ⟨hc, h⟩ | ⟨hc, h⟩
          · refine ev_ic_ne (t := 69) rfl rfl (fun c9 => absurd hc c9) (fun _ => ?_)
            refine ev_go 8 (pc' := 5) (L' := [some (.ref 89), some (.int y833), some (.int y834), some (.int 1), some (.int (y836 + 1))]) (st' := []) (h' := (HM P w T)) (cs' := 0) (sl' := 0) rfl ?_
            exact ih0 _ _ _ _ _ _ _ h P T
          · refine ev_ic_ne (t := 69) rfl rfl (fun _ => ?_) (fun c9 => absurd c9 hc)
            refine ev_go 6 (pc' := 5) (L' := [some (.ref 89), some (.int y833), some (.int y834), some (.int 0), some (.int (y836 + 1))]) (st' := []) (h' := (HM P w T)) (cs' := 0) (sl' := 0) rfl ?_
            exact ih0 _ _ _ _ _ _ _ h P T
set_option maxHeartbeats 40000000 in
set_option maxRecDepth 100000 in
theorem Em_fits_89 (n : Nat) (x831 : Int32) (x832 : Int32) (w : WM) (r : Int32) (w' : WM) (h : Fm_fits_89 n x831 x832 w = some (r, w')) (P : Nat → ai_E) (T : ai_H) : ai_ev D1 mm_fits 0 [some (.ref 89), some (.int x831), some (.int x832), none, none] [] (HM P w T) 0 0 (some (.int r), HM P w' T) := by
  unfold Fm_fits_89 at h
  have ih0 := EGm_fits_89 n
  refine ev_go 4 (pc' := 5) (L' := [some (.ref 89), some (.int x831), some (.int x832), some (.int 1), some (.int 0)]) (st' := []) (h' := (HM P w T)) (cs' := 0) (sl' := 0) rfl ?_
  exact ih0 _ _ _ _ _ _ _ h P T
set_option maxHeartbeats 40000000 in
set_option maxRecDepth 100000 in
theorem EGm_known_89 : ∀ n : Nat, (∀ (y827 : Int32) (y828 : Int32) (y829 : Int32) (y830 : Int32) (w : WM) (r : Int32) (w' : WM), Gm_known_89 n 0 y827 y828 y829 y830 0 0 0 0 w = some (r, w') → ∀ (P : Nat → ai_E) (T : ai_H) (o5 o6 o7 o8 : Option Value), ai_ev D1 mm_known 34 [some (.ref 89), some (.int y827), some (.int y828), some (.int y829), some (.int y830), o5, o6, o7, o8] [] (HM P w T) 0 0 (some (.int r), HM P w' T)) ∧ (∀ (y843 : Int32) (y844 : Int32) (y845 : Int32) (y846 : Int32) (y847 : Int32) (y848 : Int32) (w : WM) (r : Int32) (w' : WM), Gm_known_89 n 1 y843 y844 y845 y846 y847 y848 0 0 w = some (r, w') → ∀ (P : Nat → ai_E) (T : ai_H) (o7 o8 : Option Value), ai_ev D1 mm_known 75 [some (.ref 89), some (.int y843), some (.int y844), some (.int y845), some (.int y846), some (.int y847), some (.int y848), o7, o8] [] (HM P w T) 0 0 (some (.int r), HM P w' T)) ∧ (∀ (y849 : Int32) (y850 : Int32) (y851 : Int32) (y852 : Int32) (y853 : Int32) (y854 : Int32) (y855 : Int32) (y856 : Int32) (w : WM) (r : Int32) (w' : WM), Gm_known_89 n 2 y849 y850 y851 y852 y853 y854 y855 y856 w = some (r, w') → ∀ (P : Nat → ai_E) (T : ai_H), ai_ev D1 mm_known 91 [some (.ref 89), some (.int y849), some (.int y850), some (.int y851), some (.int y852), some (.int y853), some (.int y854), some (.int y855), some (.int y856)] [] (HM P w T) 0 0 (some (.int r), HM P w' T)) := by
  intro n
  induction n with
  | zero =>
    exact ⟨(fun _ _ _ _ _ _ _ h => by cases h), (fun _ _ _ _ _ _ _ _ _ h => by cases h), (fun _ _ _ _ _ _ _ _ _ _ _ h => by cases h)⟩
  | succ n ih =>
    obtain ⟨ih0, ih1, ih2⟩ := ih
    refine ⟨?_, ?_, ?_⟩
    · intro y827 y828 y829 y830 w r w' h P T o5 o6 o7 o8
      simp only [Gm_known_89] at h
      refine ev_go 2 (pc' := 38) (L' := [some (.ref 89), some (.int y827), some (.int y828), some (.int y829), some (.int y830), o5, o6, o7, o8]) (st' := [.int 100, .int y830]) (h' := (HM P w T)) (cs' := 0) (sl' := 0) rfl ?_
      rcases ai_ifE h with ⟨hc, h⟩ | ⟨hc, h⟩
      · refine ev_ic_ge (t := 65) rfl rfl (fun _ => ?_) (fun c9 => absurd hc c9)
        refine ev_go 6 (pc' := 75) (L' := [some (.ref 89), some (.int y827), some (.int y828), some (.int y829), some (.int (-1)), some (.int 1000000), some (.int 0), o7, o8]) (st' := []) (h' := (HM P w T)) (cs' := 0) (sl' := 0) rfl ?_
        exact ih1 _ _ _ _ _ _ _ _ _ h P T _ _
      · refine ev_ic_ge (t := 65) rfl rfl (fun c9 => absurd c9 hc) (fun _ => ?_)
        refine ev_go 4 (pc' := 46) (L' := [some (.ref 89), some (.int y827), some (.int y828), some (.int y829), some (.int y830), o5, o6, o7, o8]) (st' := [.int y827, .int y830, .ref 89, .int y829]) (h' := (HM P w T)) (cs' := 0) (sl' := 0) rfl ?_
        obtain ⟨c842, hq, h⟩ := ai_bdE h
        refine ev_call (M' := mm_fits) (L' := [some (.ref 89), some (.int y830), some (.int y827), none, none]) (rest := [.int y829]) (rv := some (.int c842.1)) (h' := (HM P c842.2 T)) rfl (Em_fits_89 n y830 y827 w _ _ hq P T) ?_
        show ai_ev D1 mm_known 49 [some (.ref 89), some (.int y827), some (.int y828), some (.int y829), some (.int y830), o5, o6, o7, o8] [.int c842.1, .int y829] (HM P c842.2 T) 0 0 _
        rcases ai_ifE h with ⟨hc, h⟩ | ⟨hc, h⟩
        · refine ev_if_eq (t := 56) rfl rfl (fun _ => ?_) (fun c9 => absurd hc c9)
          refine ev_go 5 (pc' := 34) (L' := [some (.ref 89), some (.int y827), some (.int y828), some (.int (y829 + 0)), some (.int (y830 + 1)), o5, o6, o7, o8]) (st' := []) (h' := (HM P c842.2 T)) (cs' := 0) (sl' := 0) rfl ?_
          exact ih0 _ _ _ _ _ _ _ h P T _ _ _ _
        · refine ev_if_eq (t := 56) rfl rfl (fun c9 => absurd c9 hc) (fun _ => ?_)
          refine ev_go 6 (pc' := 34) (L' := [some (.ref 89), some (.int y827), some (.int y828), some (.int (y829 + 1)), some (.int (y830 + 1)), o5, o6, o7, o8]) (st' := []) (h' := (HM P c842.2 T)) (cs' := 0) (sl' := 0) rfl ?_
          exact ih0 _ _ _ _ _ _ _ h P T _ _ _ _
    · intro y843 y844 y845 y846 y847 y848 w r w' h P T o7 o8
      simp only [Gm_known_89] at h
      refine ev_go 2 (pc' := 78) (L' := [some (.ref 89), some (.int y843), some (.int y844), some (.int y845), some (.int y846), some (.int y847), some (.int y848), o7, o8]) (st' := [.int 4, .int y848]) (h' := (HM P w T)) (cs' := 0) (sl' := 0) rfl ?_
      rcases ai_ifE h with ⟨hc, h⟩ | ⟨hc, h⟩
      · refine ev_ic_ge (t := 199) rfl rfl (fun _ => ?_) (fun c9 => absurd hc c9)
        refine ev_go 1 (pc' := 200) (L' := [some (.ref 89), some (.int y843), some (.int y844), some (.int y845), some (.int y846), some (.int y847), some (.int y848), o7, o8]) (st' := [.int y844]) (h' := (HM P w T)) (cs' := 0) (sl' := 0) rfl ?_
        rcases ai_ifE h with ⟨hc, h⟩ | ⟨hc, h⟩
        · refine ev_if_ne (t := 207) rfl rfl (fun c9 => absurd hc c9) (fun _ => ?_)
          refine ev_go 2 (pc' := 209) (L' := [some (.ref 89), some (.int y843), some (.int y844), some (.int y845), some (.int y846), some (.int y847), some (.int y848), o7, o8]) (st' := [.int y845]) (h' := (HM P w T)) (cs' := 0) (sl' := 0) rfl ?_
          obtain ⟨rfl, rfl⟩ := ai_smP h
          exact ev_end rfl
        · refine ev_if_ne (t := 207) rfl rfl (fun _ => ?_) (fun c9 => absurd c9 hc)
          refine ev_go 1 (pc' := 209) (L' := [some (.ref 89), some (.int y843), some (.int y844), some (.int y845), some (.int y846), some (.int y847), some (.int y848), o7, o8]) (st' := [.int y846]) (h' := (HM P w T)) (cs' := 0) (sl' := 0) rfl ?_
          obtain ⟨rfl, rfl⟩ := ai_smP h
          exact ev_end rfl
      · refine ev_ic_ge (t := 199) rfl rfl (fun c9 => absurd c9 hc) (fun _ => ?_)
        refine ev_go 1 (pc' := 82) (L' := [some (.ref 89), some (.int y843), some (.int y844), some (.int y845), some (.int y846), some (.int y847), some (.int y848), o7, o8]) (st' := [.int y845]) (h' := (HM P w T)) (cs' := 0) (sl' := 0) rfl ?_
        rcases ai_ifE h with ⟨hc, h⟩ | ⟨hc, h⟩
        · refine ev_if_le (t := 199) rfl rfl (fun _ => ?_) (fun c9 => absurd hc c9)
          refine ev_go 1 (pc' := 200) (L' := [some (.ref 89), some (.int y843), some (.int y844), some (.int y845), some (.int y846), some (.int y847), some (.int y848), o7, o8]) (st' := [.int y844]) (h' := (HM P w T)) (cs' := 0) (sl' := 0) rfl ?_
          rcases ai_ifE h with ⟨hc, h⟩ | ⟨hc, h⟩
          · refine ev_if_ne (t := 207) rfl rfl (fun c9 => absurd hc c9) (fun _ => ?_)
            refine ev_go 2 (pc' := 209) (L' := [some (.ref 89), some (.int y843), some (.int y844), some (.int y845), some (.int y846), some (.int y847), some (.int y848), o7, o8]) (st' := [.int y845]) (h' := (HM P w T)) (cs' := 0) (sl' := 0) rfl ?_
            obtain ⟨rfl, rfl⟩ := ai_smP h
            exact ev_end rfl
          · refine ev_if_ne (t := 207) rfl rfl (fun _ => ?_) (fun c9 => absurd c9 hc)
            refine ev_go 1 (pc' := 209) (L' := [some (.ref 89), some (.int y843), some (.int y844), some (.int y845), some (.int y846), some (.int y847), some (.int y848), o7, o8]) (st' := [.int y846]) (h' := (HM P w T)) (cs' := 0) (sl' := 0) rfl ?_
            obtain ⟨rfl, rfl⟩ := ai_smP h
            exact ev_end rfl
        · refine ev_if_le (t := 199) rfl rfl (fun c9 => absurd c9 hc) (fun _ => ?_)
          refine ev_go 4 (pc' := 91) (L' := [some (.ref 89), some (.int y843), some (.int y844), some (.int y845), some (.int y846), some (.int y847), some (.int y848), some (.int 0), some (.int 1)]) (st' := []) (h' := (HM P w T)) (cs' := 0) (sl' := 0) rfl ?_
          exact ih2 _ _ _ _ _ _ _ _ _ _ _ h P T
    · intro y849 y850 y851 y852 y853 y854 y855 y856 w r w' h P T
      simp only [Gm_known_89] at h
      refine ev_go 2 (pc' := 95) (L' := [some (.ref 89), some (.int y849), some (.int y850), some (.int y851), some (.int y852), some (.int y853), some (.int y854), some (.int y855), some (.int y856)]) (st' := [.int 100, .int y856]) (h' := (HM P w T)) (cs' := 0) (sl' := 0) rfl ?_
      rcases ai_ifE h with ⟨hc, h⟩ | ⟨hc, h⟩
      · refine ev_ic_ge (t := 141) rfl rfl (fun _ => ?_) (fun c9 => absurd hc c9)
        refine ev_go 4 (pc' := 147) (L' := [some (.ref 89), some (.int y849), some (.int y850), some (.int y851), some (.int y852), some (.int y853), some (.int y854), some (.int y855), some (.int y856)]) (st' := [.int (y851 - y855), .int y855]) (h' := (HM P w T)) (cs' := 0) (sl' := 0) rfl ?_
        rcases ai_ifE h with ⟨hc, h⟩ | ⟨hc, h⟩
        · refine ev_ic_le (t := 155) rfl rfl (fun _ => ?_) (fun c9 => absurd hc c9)
          refine ev_go 6 (pc' := 165) (L' := [some (.ref 89), some (.int y849), some (.int y850), some (.int y851), some (.int y852), some (.int y853), some (.int y854), some (.int y855), some (.int (y851 - y855))]) (st' := [.int y853, .int (y851 - y855)]) (h' := (HM P w T)) (cs' := 0) (sl' := 0) rfl ?_
          rcases ai_ifE h with ⟨hc, h⟩ | ⟨hc, h⟩
          · refine ev_ic_ge (t := 173) rfl rfl (fun _ => ?_) (fun c9 => absurd hc c9)
            refine ev_go 4 (pc' := 181) (L' := [some (.ref 89), some (.int y849), some (.int y850), some (.int y851), some (.int y852), some (.int y853), some (.int y854), some (.int y855), some (.int (y851 - y855))]) (st' := [.int y853, .int (y851 - y855)]) (h' := (HM P w T)) (cs' := 0) (sl' := 0) rfl ?_
            rcases ai_ifE h with ⟨hc, h⟩ | ⟨hc, h⟩
            · refine ev_ic_ge (t := 189) rfl rfl (fun _ => ?_) (fun c9 => absurd hc c9)
              refine ev_go 4 (pc' := 75) (L' := [some (.ref 89), some (.int y849), some (.int y850), some (.int y851), some (.int y852), some (.int y853), some (.int (y854 + 1)), some (.int y855), some (.int (y851 - y855))]) (st' := []) (h' := (HM P w T)) (cs' := 0) (sl' := 0) rfl ?_
              exact ih1 _ _ _ _ _ _ _ _ _ h P T _ _
            · refine ev_ic_ge (t := 189) rfl rfl (fun c9 => absurd c9 hc) (fun _ => ?_)
              refine ev_go 5 (pc' := 75) (L' := [some (.ref 89), some (.int y849), some (.int y850), some (.int y851), some (.int y852), some (.int (y851 - y855)), some (.int (y854 + 1)), some (.int y855), some (.int (y851 - y855))]) (st' := []) (h' := (HM P w T)) (cs' := 0) (sl' := 0) rfl ?_
              exact ih1 _ _ _ _ _ _ _ _ _ h P T _ _
          · refine ev_ic_ge (t := 173) rfl rfl (fun c9 => absurd c9 hc) (fun _ => ?_)
            refine ev_go 5 (pc' := 181) (L' := [some (.ref 89), some (.int y849), some (.int y850), some (.int y851), some (.int y854), some (.int y853), some (.int y854), some (.int y855), some (.int (y851 - y855))]) (st' := [.int y853, .int (y851 - y855)]) (h' := (HM P w T)) (cs' := 0) (sl' := 0) rfl ?_
            rcases ai_ifE h with ⟨hc, h⟩ | ⟨hc, h⟩
            · refine ev_ic_ge (t := 189) rfl rfl (fun _ => ?_) (fun c9 => absurd hc c9)
              refine ev_go 4 (pc' := 75) (L' := [some (.ref 89), some (.int y849), some (.int y850), some (.int y851), some (.int y854), some (.int y853), some (.int (y854 + 1)), some (.int y855), some (.int (y851 - y855))]) (st' := []) (h' := (HM P w T)) (cs' := 0) (sl' := 0) rfl ?_
              exact ih1 _ _ _ _ _ _ _ _ _ h P T _ _
            · refine ev_ic_ge (t := 189) rfl rfl (fun c9 => absurd c9 hc) (fun _ => ?_)
              refine ev_go 5 (pc' := 75) (L' := [some (.ref 89), some (.int y849), some (.int y850), some (.int y851), some (.int y854), some (.int (y851 - y855)), some (.int (y854 + 1)), some (.int y855), some (.int (y851 - y855))]) (st' := []) (h' := (HM P w T)) (cs' := 0) (sl' := 0) rfl ?_
              exact ih1 _ _ _ _ _ _ _ _ _ h P T _ _
        · refine ev_ic_le (t := 155) rfl rfl (fun c9 => absurd c9 hc) (fun _ => ?_)
          refine ev_go 5 (pc' := 165) (L' := [some (.ref 89), some (.int y849), some (.int y850), some (.int y851), some (.int y852), some (.int y853), some (.int y854), some (.int y855), some (.int y855)]) (st' := [.int y853, .int y855]) (h' := (HM P w T)) (cs' := 0) (sl' := 0) rfl ?_
          rcases ai_ifE h with ⟨hc, h⟩ | ⟨hc, h⟩
          · refine ev_ic_ge (t := 173) rfl rfl (fun _ => ?_) (fun c9 => absurd hc c9)
            refine ev_go 4 (pc' := 181) (L' := [some (.ref 89), some (.int y849), some (.int y850), some (.int y851), some (.int y852), some (.int y853), some (.int y854), some (.int y855), some (.int y855)]) (st' := [.int y853, .int y855]) (h' := (HM P w T)) (cs' := 0) (sl' := 0) rfl ?_
            rcases ai_ifE h with ⟨hc, h⟩ | ⟨hc, h⟩
            · refine ev_ic_ge (t := 189) rfl rfl (fun _ => ?_) (fun c9 => absurd hc c9)
              refine ev_go 4 (pc' := 75) (L' := [some (.ref 89), some (.int y849), some (.int y850), some (.int y851), some (.int y852), some (.int y853), some (.int (y854 + 1)), some (.int y855), some (.int y855)]) (st' := []) (h' := (HM P w T)) (cs' := 0) (sl' := 0) rfl ?_
              exact ih1 _ _ _ _ _ _ _ _ _ h P T _ _
            · refine ev_ic_ge (t := 189) rfl rfl (fun c9 => absurd c9 hc) (fun _ => ?_)
              refine ev_go 5 (pc' := 75) (L' := [some (.ref 89), some (.int y849), some (.int y850), some (.int y851), some (.int y852), some (.int y855), some (.int (y854 + 1)), some (.int y855), some (.int y855)]) (st' := []) (h' := (HM P w T)) (cs' := 0) (sl' := 0) rfl ?_
              exact ih1 _ _ _ _ _ _ _ _ _ h P T _ _
          · refine ev_ic_ge (t := 173) rfl rfl (fun c9 => absurd c9 hc) (fun _ => ?_)
            refine ev_go 5 (pc' := 181) (L' := [some (.ref 89), some (.int y849), some (.int y850), some (.int y851), some (.int y854), some (.int y853), some (.int y854), some (.int y855), some (.int y855)]) (st' := [.int y853, .int y855]) (h' := (HM P w T)) (cs' := 0) (sl' := 0) rfl ?_
            rcases ai_ifE h with ⟨hc, h⟩ | ⟨hc, h⟩
            · refine ev_ic_ge (t := 189) rfl rfl (fun _ => ?_) (fun c9 => absurd hc c9)
              refine ev_go 4 (pc' := 75) (L' := [some (.ref 89), some (.int y849), some (.int y850), some (.int y851), some (.int y854), some (.int y853), some (.int (y854 + 1)), some (.int y855), some (.int y855)]) (st' := []) (h' := (HM P w T)) (cs' := 0) (sl' := 0) rfl ?_
              exact ih1 _ _ _ _ _ _ _ _ _ h P T _ _
            · refine ev_ic_ge (t := 189) rfl rfl (fun c9 => absurd c9 hc) (fun _ => ?_)
              refine ev_go 5 (pc' := 75) (L' := [some (.ref 89), some (.int y849), some (.int y850), some (.int y851), some (.int y854), some (.int y855), some (.int (y854 + 1)), some (.int y855), some (.int y855)]) (st' := []) (h' := (HM P w T)) (cs' := 0) (sl' := 0) rfl ?_
              exact ih1 _ _ _ _ _ _ _ _ _ h P T _ _
      · refine ev_ic_ge (t := 141) rfl rfl (fun c9 => absurd c9 hc) (fun _ => ?_)
        refine ev_go 4 (pc' := 104) (L' := [some (.ref 89), some (.int y849), some (.int y850), some (.int y851), some (.int y852), some (.int y853), some (.int y854), some (.int y855), some (.int y856)]) (st' := [.int y849, .int y856, .ref 89, .int y855]) (h' := (HM P w T)) (cs' := 0) (sl' := 0) rfl ?_
        obtain ⟨c857, hq, h⟩ := ai_bdE h
        refine ev_call (M' := mm_fits) (L' := [some (.ref 89), some (.int y856), some (.int y849), none, none]) (rest := [.int y855]) (rv := some (.int c857.1)) (h' := (HM P c857.2 T)) rfl (Em_fits_89 n y856 y849 w _ _ hq P T) ?_
        show ai_ev D1 mm_known 107 [some (.ref 89), some (.int y849), some (.int y850), some (.int y851), some (.int y852), some (.int y853), some (.int y854), some (.int y855), some (.int y856)] [.int c857.1, .int y855] (HM P c857.2 T) 0 0 _
        rcases ai_ifE h with ⟨hc, h⟩ | ⟨hc, h⟩
        · refine ev_if_eq (t := 131) rfl rfl (fun _ => ?_) (fun c9 => absurd hc c9)
          refine ev_go 5 (pc' := 91) (L' := [some (.ref 89), some (.int y849), some (.int y850), some (.int y851), some (.int y852), some (.int y853), some (.int y854), some (.int (y855 + 0)), some (.int (y856 + 1))]) (st' := []) (h' := (HM P c857.2 T)) (cs' := 0) (sl' := 0) rfl ?_
          exact ih2 _ _ _ _ _ _ _ _ _ _ _ h P T
        · refine ev_if_eq (t := 131) rfl rfl (fun c9 => absurd c9 hc) (fun _ => ?_)
          refine ev_go 7 (pc' := 122) (L' := [some (.ref 89), some (.int y849), some (.int y850), some (.int y851), some (.int y852), some (.int y853), some (.int y854), some (.int y855), some (.int y856)]) (st' := [.int (8 + y854), .ref 90, .int y849, .int y856, .int y855]) (h' := (HM P c857.2 T)) (cs' := 0) (sl' := 0) rfl ?_
          obtain ⟨v858, hq, h⟩ := ai_bdE h
          refine ev_iald rfl rfl hq ?_
          refine ev_go 1 (pc' := 124) (L' := [some (.ref 89), some (.int y849), some (.int y850), some (.int y851), some (.int y852), some (.int y853), some (.int y854), some (.int y855), some (.int y856)]) (st' := [.int (y849 * v858), .int y856, .int y855]) (h' := (HM P c857.2 T)) (cs' := 0) (sl' := 0) rfl ?_
          rcases ai_ifE h with ⟨hc, h⟩ | ⟨hc, h⟩
          · refine ev_ic_gt (t := 131) rfl rfl (fun _ => ?_) (fun c9 => absurd hc c9)
            refine ev_go 5 (pc' := 91) (L' := [some (.ref 89), some (.int y849), some (.int y850), some (.int y851), some (.int y852), some (.int y853), some (.int y854), some (.int (y855 + 0)), some (.int (y856 + 1))]) (st' := []) (h' := (HM P c857.2 T)) (cs' := 0) (sl' := 0) rfl ?_
            exact ih2 _ _ _ _ _ _ _ _ _ _ _ h P T
          · refine ev_ic_gt (t := 131) rfl rfl (fun c9 => absurd c9 hc) (fun _ => ?_)
            refine ev_go 6 (pc' := 91) (L' := [some (.ref 89), some (.int y849), some (.int y850), some (.int y851), some (.int y852), some (.int y853), some (.int y854), some (.int (y855 + 1)), some (.int (y856 + 1))]) (st' := []) (h' := (HM P c857.2 T)) (cs' := 0) (sl' := 0) rfl ?_
            exact ih2 _ _ _ _ _ _ _ _ _ _ _ h P T
set_option maxHeartbeats 40000000 in
set_option maxRecDepth 100000 in
theorem Em_known_89 (n : Nat) (x821 : Int32) (x822 : Int32) (w : WM) (r : Int32) (w' : WM) (h : Fm_known_89 n x821 x822 w = some (r, w')) (P : Nat → ai_E) (T : ai_H) : ai_ev D1 mm_known 0 [some (.ref 89), some (.int x821), some (.int x822), none, none, none, none, none, none] [] (HM P w T) 0 0 (some (.int r), HM P w' T) := by
  unfold Fm_known_89 at h
  obtain ⟨ih0, ih1, ih2⟩ := EGm_known_89 n
  refine ev_go 4 (pc' := 6) (L' := [some (.ref 89), some (.int x821), some (.int x822), none, none, none, none, none, none]) (st' := [.long 9, .long 1, .long (x821).toInt64]) (h' := (HM P w T)) (cs' := 0) (sl' := 0) rfl ?_
  obtain ⟨c823, hq, h⟩ := ai_bdE h
  refine ev_call (M' := mm_in) (L' := [some (.long (x821).toInt64), none, some (.long 1), none, some (.long 9), none]) (rest := []) (rv := some (.int c823)) (h' := (HM P w T)) rfl (Em_in (x821).toInt64 1 9 _ hq (HM P w T)) ?_
  show ai_ev D1 mm_known 9 [some (.ref 89), some (.int x821), some (.int x822), none, none, none, none, none, none] [.int c823] (HM P w T) 0 0 _
  rcases ai_ifE h with ⟨hc, h⟩ | ⟨hc, h⟩
  · refine ev_if_eq (t := 22) rfl rfl (fun _ => ?_) (fun c9 => absurd hc c9)
    refine ev_go 2 (pc' := 25) (L' := [some (.ref 89), some (.int x821), some (.int x822), none, none, none, none, none, none]) (st' := [.int (-10), .ref 89]) (h' := (HM P w T)) (cs' := 0) (sl' := 0) rfl ?_
    obtain ⟨c824, hq, h⟩ := ai_bdE h
    refine ev_call (M' := mm_badAs) (L' := [some (.ref 89), some (.int (-10))]) (rest := []) (rv := some (.int c824.1)) (h' := (HM P c824.2 T)) rfl (Em_badAs_89 (-10) w _ _ hq P T) ?_
    show ai_ev D1 mm_known 28 [some (.ref 89), some (.int x821), some (.int x822), none, none, none, none, none, none] [.int c824.1] (HM P c824.2 T) 0 0 _
    obtain ⟨rfl, rfl⟩ := ai_smP h
    exact ev_end rfl
  · refine ev_if_eq (t := 22) rfl rfl (fun c9 => absurd c9 hc) (fun _ => ?_)
    refine ev_go 4 (pc' := 16) (L' := [some (.ref 89), some (.int x821), some (.int x822), none, none, none, none, none, none]) (st' := [.long 1, .long 0, .long (x822).toInt64]) (h' := (HM P w T)) (cs' := 0) (sl' := 0) rfl ?_
    obtain ⟨c825, hq, h⟩ := ai_bdE h
    refine ev_call (M' := mm_in) (L' := [some (.long (x822).toInt64), none, some (.long 0), none, some (.long 1), none]) (rest := []) (rv := some (.int c825)) (h' := (HM P w T)) rfl (Em_in (x822).toInt64 0 1 _ hq (HM P w T)) ?_
    show ai_ev D1 mm_known 19 [some (.ref 89), some (.int x821), some (.int x822), none, none, none, none, none, none] [.int c825] (HM P w T) 0 0 _
    rcases ai_ifE h with ⟨hc, h⟩ | ⟨hc, h⟩
    · refine ev_if_ne (t := 29) rfl rfl (fun c9 => absurd hc c9) (fun _ => ?_)
      refine ev_go 2 (pc' := 25) (L' := [some (.ref 89), some (.int x821), some (.int x822), none, none, none, none, none, none]) (st' := [.int (-10), .ref 89]) (h' := (HM P w T)) (cs' := 0) (sl' := 0) rfl ?_
      obtain ⟨c826, hq, h⟩ := ai_bdE h
      refine ev_call (M' := mm_badAs) (L' := [some (.ref 89), some (.int (-10))]) (rest := []) (rv := some (.int c826.1)) (h' := (HM P c826.2 T)) rfl (Em_badAs_89 (-10) w _ _ hq P T) ?_
      show ai_ev D1 mm_known 28 [some (.ref 89), some (.int x821), some (.int x822), none, none, none, none, none, none] [.int c826.1] (HM P c826.2 T) 0 0 _
      obtain ⟨rfl, rfl⟩ := ai_smP h
      exact ev_end rfl
    · refine ev_if_ne (t := 29) rfl rfl (fun _ => ?_) (fun c9 => absurd c9 hc)
      refine ev_go 4 (pc' := 34) (L' := [some (.ref 89), some (.int x821), some (.int x822), some (.int 0), some (.int 1), none, none, none, none]) (st' := []) (h' := (HM P w T)) (cs' := 0) (sl' := 0) rfl ?_
      exact ih0 _ _ _ _ _ _ _ h P T _ _ _ _
set_option maxHeartbeats 40000000 in
set_option maxRecDepth 100000 in
theorem EGm_tells_89 : ∀ n : Nat, (∀ (y891 : Int64) (y892 : Int64) (y893 : Int64) (y894 : Int64) (w : WM) (w' : WM), Gm_tells_89 n 0 y891 y892 y893 y894 w = some w' → ∀ (P : Nat → ai_E) (T : ai_H) (o9 o10 : Option Value), ai_ev D1 mm_tells 6 [some (.ref 89), some (.long y891), none, some (.long y892), none, some (.long y893), none, some (.long y894), none, o9, o10] [] (HM P w T) 0 0 (none, HM P w' T)) := by
  intro n
  induction n with
  | zero =>
    exact (fun _ _ _ _ _ _ h => by cases h)
  | succ n ih0 =>
    intro y891 y892 y893 y894 w w' h P T o9 o10
    simp only [Gm_tells_89] at h
    refine ev_go 3 (pc' := 10) (L' := [some (.ref 89), some (.long y891), none, some (.long y892), none, some (.long y893), none, some (.long y894), none, o9, o10]) (st' := [.int (lg_cmp y894 0)]) (h' := (HM P w T)) (cs' := 0) (sl' := 0) rfl ?_
    rcases ai_ifE h with ⟨hc, h⟩ | ⟨hc, h⟩
    · refine ev_if_eq (t := 31) rfl rfl (fun _ => ?_) (fun c9 => absurd hc c9)
      refine ev_go 3 (pc' := 35) (L' := [some (.ref 89), some (.long y891), none, some (.long y892), none, some (.long y893), none, some (.long y894), none, o9, o10]) (st' := [.long y893, .long y891, .ref 89]) (h' := (HM P w T)) (cs' := 0) (sl' := 0) rfl ?_
      obtain ⟨hc, h⟩ := ai_ifN h
      refine ev_ldiv rfl hc ?_
      refine ev_step rfl rfl rfl (PFM_8_282_89 rfl) ?_
      refine ev_go 3 (pc' := 43) (L' := [some (.ref 89), some (.long y891), none, some (.long y892), none, some (.long y893), none, some (.long y894), none, o9, o10]) (st' := [.long y893, .long y892, .ref 89]) (h' := (HM P (u_m_above w (y891 / y893)) T)) (cs' := 0) (sl' := 0) rfl ?_
      obtain ⟨hc, h⟩ := ai_ifN h
      refine ev_ldiv rfl hc ?_
      refine ev_step rfl rfl rfl (PFM_8_23_89 rfl) ?_
      obtain rfl := Option.some.inj h
      exact ev_end rfl
    · refine ev_if_eq (t := 31) rfl rfl (fun c9 => absurd c9 hc) (fun _ => ?_)
      refine ev_go 2 (pc' := 17) (L' := [some (.ref 89), some (.long y891), none, some (.long y892), none, some (.long y893), none, some (.long y894), none, o9, o10]) (st' := [.long y894, .long y893]) (h' := (HM P w T)) (cs' := 0) (sl' := 0) rfl ?_
      obtain ⟨hc, h⟩ := ai_ifN h
      refine ev_lrem rfl hc ?_
      refine ev_go 6 (pc' := 6) (L' := [some (.ref 89), some (.long y891), none, some (.long y892), none, some (.long y894), none, some (.long (y893 - y893 / y894 * y894)), none, some (.long (y893 - y893 / y894 * y894)), none]) (st' := []) (h' := (HM P w T)) (cs' := 0) (sl' := 0) rfl ?_
      exact ih0 _ _ _ _ _ _ h P T _ _
set_option maxHeartbeats 40000000 in
set_option maxRecDepth 100000 in
theorem Em_tells_89 (n : Nat) (x889 : Int64) (x890 : Int64) (w : WM) (w' : WM) (h : Fm_tells_89 n x889 x890 w = some w') (P : Nat → ai_E) (T : ai_H) : ai_ev D1 mm_tells 0 [some (.ref 89), some (.long x889), none, some (.long x890), none, none, none, none, none, none, none] [] (HM P w T) 0 0 (none, HM P w' T) := by
  unfold Fm_tells_89 at h
  have ih0 := EGm_tells_89 n
  refine ev_go 4 (pc' := 6) (L' := [some (.ref 89), some (.long x889), none, some (.long x890), none, some (.long x889), none, some (.long x890), none, none, none]) (st' := []) (h' := (HM P w T)) (cs' := 0) (sl' := 0) rfl ?_
  exact ih0 _ _ _ _ _ _ h P T _ _
set_option maxHeartbeats 40000000 in
set_option maxRecDepth 100000 in
theorem EGm_storm_89 : ∀ n : Nat, (∀ (y871 : Int32) (y872 : Int32) (y873 : Int32) (y874 : Int32) (y875 : Int64) (y876 : Int64) (y877 : Int32) (w : WM) (r : Int32) (w' : WM), Gm_storm_89 n 0 y871 y872 y873 y874 y877 0 0 y875 y876 0 0 w = some (r, w') → ∀ (P : Nat → ai_E) (T : ai_H) (o10 o11 o12 o13 o14 o15 : Option Value), ai_ev D1 mm_storm 55 [some (.ref 89), some (.int y871), some (.int y872), some (.int y873), some (.int y874), some (.long y875), none, some (.long y876), none, some (.int y877), o10, o11, o12, o13, o14, o15] [] (HM P w T) 0 0 (some (.int r), HM P w' T)) ∧ (∀ (y880 : Int32) (y881 : Int32) (y882 : Int32) (y883 : Int32) (y884 : Int64) (y885 : Int64) (y886 : Int32) (y887 : Int64) (y888 : Int32) (w : WM) (r : Int32) (w' : WM), Gm_storm_89 n 1 y880 y881 y882 y883 y886 y888 0 y884 y885 y887 0 w = some (r, w') → ∀ (P : Nat → ai_E) (T : ai_H) (o13 o14 o15 : Option Value), ai_ev D1 mm_storm 108 [some (.ref 89), some (.int y880), some (.int y881), some (.int y882), some (.int y883), some (.long y884), none, some (.long y885), none, some (.int y886), some (.long y887), none, some (.int y888), o13, o14, o15] [] (HM P w T) 0 0 (some (.int r), HM P w' T)) ∧ (∀ (y896 : Int32) (y897 : Int32) (y898 : Int32) (y899 : Int32) (y900 : Int64) (y901 : Int64) (y902 : Int32) (y903 : Int64) (y904 : Int32) (y905 : Int64) (y906 : Int32) (w : WM) (r : Int32) (w' : WM), Gm_storm_89 n 2 y896 y897 y898 y899 y902 y904 y906 y900 y901 y903 y905 w = some (r, w') → ∀ (P : Nat → ai_E) (T : ai_H), ai_ev D1 mm_storm 121 [some (.ref 89), some (.int y896), some (.int y897), some (.int y898), some (.int y899), some (.long y900), none, some (.long y901), none, some (.int y902), some (.long y903), none, some (.int y904), some (.long y905), none, some (.int y906)] [] (HM P w T) 0 0 (some (.int r), HM P w' T)) := by
  intro n
  induction n with
  | zero =>
    exact ⟨(fun _ _ _ _ _ _ _ _ _ _ h => by cases h), (fun _ _ _ _ _ _ _ _ _ _ _ _ h => by cases h), (fun _ _ _ _ _ _ _ _ _ _ _ _ _ _ h => by cases h)⟩
  | succ n ih =>
    obtain ⟨ih0, ih1, ih2⟩ := ih
    refine ⟨?_, ?_, ?_⟩
    · intro y871 y872 y873 y874 y875 y876 y877 w r w' h P T o10 o11 o12 o13 o14 o15
      simp only [Gm_storm_89] at h
      refine ev_go 2 (pc' := 58) (L' := [some (.ref 89), some (.int y871), some (.int y872), some (.int y873), some (.int y874), some (.long y875), none, some (.long y876), none, some (.int y877), o10, o11, o12, o13, o14, o15]) (st' := [.int y873, .int y877]) (h' := (HM P w T)) (cs' := 0) (sl' := 0) rfl ?_
      rcases ai_ifE h with ⟨hc, h⟩ | ⟨hc, h⟩
      · refine ev_ic_ge (t := 86) rfl rfl (fun _ => ?_) (fun c9 => absurd hc c9)
        refine ev_go 2 (pc' := 88) (L' := [some (.ref 89), some (.int y871), some (.int y872), some (.int y873), some (.int y874), some (.long y875), none, some (.long y876), none, some (.int y877), o10, o11, o12, o13, o14, o15]) (st' := [.int y871, .ref 89]) (h' := (HM P w T)) (cs' := 0) (sl' := 0) rfl ?_
        obtain ⟨c878, hq, h⟩ := ai_bdE h
        refine ev_call (M' := mm_lay) (L' := [some (.ref 89), some (.int y871)]) (rest := []) (rv := none) (h' := (HM P c878 T)) rfl (Em_lay_89 y871 w _ hq P T) ?_
        show ai_ev D1 mm_storm 91 [some (.ref 89), some (.int y871), some (.int y872), some (.int y873), some (.int y874), some (.long y875), none, some (.long y876), none, some (.int y877), o10, o11, o12, o13, o14, o15] [] (HM P c878 T) 0 0 _
        refine ev_go 2 (pc' := 93) (L' := [some (.ref 89), some (.int y871), some (.int y872), some (.int y873), some (.int y874), some (.long y875), none, some (.long y876), none, some (.int y877), o10, o11, o12, o13, o14, o15]) (st' := [.int y872, .ref 89]) (h' := (HM P c878 T)) (cs' := 0) (sl' := 0) rfl ?_
        obtain ⟨c879, hq, h⟩ := ai_bdE h
        refine ev_call (M' := mm_comesDown) (L' := [some (.ref 89), some (.int y872), none, none, none]) (rest := []) (rv := none) (h' := (HM P c879 T)) rfl (Em_comesDown_89 n y872 c878 _ hq P T) ?_
        show ai_ev D1 mm_storm 96 [some (.ref 89), some (.int y871), some (.int y872), some (.int y873), some (.int y874), some (.long y875), none, some (.long y876), none, some (.int y877), o10, o11, o12, o13, o14, o15] [] (HM P c879 T) 0 0 _
        refine ev_go 7 (pc' := 108) (L' := [some (.ref 89), some (.int y871), some (.int y872), some (.int y873), some (.int y874), some (.long y875), none, some (.long y876), none, some (.int (a_m_restsIn c879)), some (.long 0), none, some (.int 0), o13, o14, o15]) (st' := []) (h' := (HM P c879 T)) (cs' := 0) (sl' := 0) rfl ?_
        exact ih1 _ _ _ _ _ _ _ _ _ _ _ _ h P T _ _ _
      · refine ev_ic_ge (t := 86) rfl rfl (fun c9 => absurd c9 hc) (fun _ => ?_)
        refine ev_go 13 (pc' := 55) (L' := [some (.ref 89), some (.int y871), some (.int y872), some (.int y873), some (.int y874), some (.long (y875 * 10)), none, some (.long (y876 * ((10 - y874)).toInt64)), none, some (.int (y877 + 1)), o10, o11, o12, o13, o14, o15]) (st' := []) (h' := (HM P w T)) (cs' := 0) (sl' := 0) rfl ?_
        exact ih0 _ _ _ _ _ _ _ _ _ _ h P T _ _ _ _ _ _
    · intro y880 y881 y882 y883 y884 y885 y886 y887 y888 w r w' h P T o13 o14 o15
      simp only [Gm_storm_89] at h
      refine ev_go 2 (pc' := 112) (L' := [some (.ref 89), some (.int y880), some (.int y881), some (.int y882), some (.int y883), some (.long y884), none, some (.long y885), none, some (.int y886), some (.long y887), none, some (.int y888), o13, o14, o15]) (st' := [.int 8, .int y888]) (h' := (HM P w T)) (cs' := 0) (sl' := 0) rfl ?_
      rcases ai_ifE h with ⟨hc, h⟩ | ⟨hc, h⟩
      · refine ev_ic_ge (t := 195) rfl rfl (fun _ => ?_) (fun c9 => absurd hc c9)
        refine ev_go 2 (pc' := 197) (L' := [some (.ref 89), some (.int y880), some (.int y881), some (.int y882), some (.int y883), some (.long y884), none, some (.long y885), none, some (.int y886), some (.long y887), none, some (.int y888), o13, o14, o15]) (st' := [.int 0, .ref 89]) (h' := (HM P w T)) (cs' := 0) (sl' := 0) rfl ?_
        refine ev_step rfl rfl rfl (PFM_8_192_89 rfl) ?_
        refine ev_go 7 (pc' := 211) (L' := [some (.ref 89), some (.int y880), some (.int y881), some (.int y882), some (.int y883), some (.long y884), none, some (.long y885), none, some (.int y886), some (.long y887), none, some (.int y888), o13, o14, o15]) (st' := [.long ((y884 * y884) * y884), .long y887, .ref 89]) (h' := (HM P (u_m_torn w 0) T)) (cs' := 0) (sl' := 0) rfl ?_
        obtain ⟨c895, hq, h⟩ := ai_bdE h
        refine ev_call (M' := mm_tells) (L' := [some (.ref 89), some (.long y887), none, some (.long ((y884 * y884) * y884)), none, none, none, none, none, none, none]) (rest := []) (rv := none) (h' := (HM P c895 T)) rfl (Em_tells_89 n y887 ((y884 * y884) * y884) (u_m_torn w 0) _ hq P T) ?_
        show ai_ev D1 mm_storm 214 [some (.ref 89), some (.int y880), some (.int y881), some (.int y882), some (.int y883), some (.long y884), none, some (.long y885), none, some (.int y886), some (.long y887), none, some (.int y888), o13, o14, o15] [] (HM P c895 T) 0 0 _
        refine ev_go 1 (pc' := 215) (L' := [some (.ref 89), some (.int y880), some (.int y881), some (.int y882), some (.int y883), some (.long y884), none, some (.long y885), none, some (.int y886), some (.long y887), none, some (.int y888), o13, o14, o15]) (st' := [.int 1]) (h' := (HM P c895 T)) (cs' := 0) (sl' := 0) rfl ?_
        obtain ⟨rfl, rfl⟩ := ai_smP h
        exact ev_end rfl
      · refine ev_ic_ge (t := 195) rfl rfl (fun c9 => absurd c9 hc) (fun _ => ?_)
        refine ev_go 4 (pc' := 121) (L' := [some (.ref 89), some (.int y880), some (.int y881), some (.int y882), some (.int y883), some (.long y884), none, some (.long y885), none, some (.int y886), some (.long y887), none, some (.int y888), some (.long 1), none, some (.int 0)]) (st' := []) (h' := (HM P w T)) (cs' := 0) (sl' := 0) rfl ?_
        exact ih2 _ _ _ _ _ _ _ _ _ _ _ _ _ _ h P T
    · intro y896 y897 y898 y899 y900 y901 y902 y903 y904 y905 y906 w r w' h P T
      simp only [Gm_storm_89] at h
      refine ev_go 2 (pc' := 124) (L' := [some (.ref 89), some (.int y896), some (.int y897), some (.int y898), some (.int y899), some (.long y900), none, some (.long y901), none, some (.int y902), some (.long y903), none, some (.int y904), some (.long y905), none, some (.int y906)]) (st' := [.int 3, .int y906]) (h' := (HM P w T)) (cs' := 0) (sl' := 0) rfl ?_
      rcases ai_ifE h with ⟨hc, h⟩ | ⟨hc, h⟩
      · refine ev_ic_ge (t := 158) rfl rfl (fun _ => ?_) (fun c9 => absurd hc c9)
        refine ev_go 2 (pc' := 161) (L' := [some (.ref 89), some (.int y896), some (.int y897), some (.int y898), some (.int y899), some (.long y900), none, some (.long y901), none, some (.int y902), some (.long y903), none, some (.int y904), some (.long y905), none, some (.int y906)]) (st' := [.int y904, .ref 89]) (h' := (HM P w T)) (cs' := 0) (sl' := 0) rfl ?_
        refine ev_step rfl rfl rfl (PFM_8_192_89 rfl) ?_
        refine ev_go 2 (pc' := 166) (L' := [some (.ref 89), some (.int y896), some (.int y897), some (.int y898), some (.int y899), some (.long y900), none, some (.long y901), none, some (.int y902), some (.long y903), none, some (.int y904), some (.long y905), none, some (.int y906)]) (st' := [.int y897, .ref 89]) (h' := (HM P (u_m_torn w y904) T)) (cs' := 0) (sl' := 0) rfl ?_
        obtain ⟨c907, hq, h⟩ := ai_bdE h
        refine ev_call (M' := mm_comesDown) (L' := [some (.ref 89), some (.int y897), none, none, none]) (rest := []) (rv := none) (h' := (HM P c907 T)) rfl (Em_comesDown_89 n y897 (u_m_torn w y904) _ hq P T) ?_
        show ai_ev D1 mm_storm 169 [some (.ref 89), some (.int y896), some (.int y897), some (.int y898), some (.int y899), some (.long y900), none, some (.long y901), none, some (.int y902), some (.long y903), none, some (.int y904), some (.long y905), none, some (.int y906)] [] (HM P c907 T) 0 0 _
        refine ev_go 4 (pc' := 177) (L' := [some (.ref 89), some (.int y896), some (.int y897), some (.int y898), some (.int y899), some (.long y900), none, some (.long y901), none, some (.int y902), some (.long y903), none, some (.int y904), some (.long y905), none, some (.int y906)]) (st' := [.int y902, .int (a_m_restsIn c907), .long y903]) (h' := (HM P c907 T)) (cs' := 0) (sl' := 0) rfl ?_
        rcases ai_ifE h with ⟨hc, h⟩ | ⟨hc, h⟩
        · refine ev_ic_le (t := 185) rfl rfl (fun _ => ?_) (fun c9 => absurd hc c9)
          refine ev_go 5 (pc' := 108) (L' := [some (.ref 89), some (.int y896), some (.int y897), some (.int y898), some (.int y899), some (.long y900), none, some (.long y901), none, some (.int y902), some (.long (y903 + 0)), none, some (.int (y904 + 1)), some (.long y905), none, some (.int y906)]) (st' := []) (h' := (HM P c907 T)) (cs' := 0) (sl' := 0) rfl ?_
          exact ih1 _ _ _ _ _ _ _ _ _ _ _ _ h P T _ _ _
        · refine ev_ic_le (t := 185) rfl rfl (fun c9 => absurd c9 hc) (fun _ => ?_)
          refine ev_go 6 (pc' := 108) (L' := [some (.ref 89), some (.int y896), some (.int y897), some (.int y898), some (.int y899), some (.long y900), none, some (.long y901), none, some (.int y902), some (.long (y903 + y905)), none, some (.int (y904 + 1)), some (.long y905), none, some (.int y906)]) (st' := []) (h' := (HM P c907 T)) (cs' := 0) (sl' := 0) rfl ?_
          exact ih1 _ _ _ _ _ _ _ _ _ _ _ _ h P T _ _ _
      · refine ev_ic_ge (t := 158) rfl rfl (fun c9 => absurd c9 hc) (fun _ => ?_)
        refine ev_go 3 (pc' := 133) (L' := [some (.ref 89), some (.int y896), some (.int y897), some (.int y898), some (.int y899), some (.long y900), none, some (.long y901), none, some (.int y902), some (.long y903), none, some (.int y904), some (.long y905), none, some (.int y906)]) (st' := [.int y906, .int y904, .long y905]) (h' := (HM P w T)) (cs' := 0) (sl' := 0) rfl ?_
        obtain ⟨c908, hq, h⟩ := ai_bdE h
        refine ev_call (M' := mm_has) (L' := [some (.int y904), some (.int y906)]) (rest := [.long y905]) (rv := some (.int c908)) (h' := (HM P w T)) rfl (Em_has y904 y906 _ hq (HM P w T)) ?_
        show ai_ev D1 mm_storm 136 [some (.ref 89), some (.int y896), some (.int y897), some (.int y898), some (.int y899), some (.long y900), none, some (.long y901), none, some (.int y902), some (.long y903), none, some (.int y904), some (.long y905), none, some (.int y906)] [.int c908, .long y905] (HM P w T) 0 0 _
        rcases ai_ifE h with ⟨hc, h⟩ | ⟨hc, h⟩
        · refine ev_if_eq (t := 147) rfl rfl (fun _ => ?_) (fun c9 => absurd hc c9)
          refine ev_go 5 (pc' := 121) (L' := [some (.ref 89), some (.int y896), some (.int y897), some (.int y898), some (.int y899), some (.long y900), none, some (.long y901), none, some (.int y902), some (.long y903), none, some (.int y904), some (.long (y905 * y901)), none, some (.int (y906 + 1))]) (st' := []) (h' := (HM P w T)) (cs' := 0) (sl' := 0) rfl ?_
          exact ih2 _ _ _ _ _ _ _ _ _ _ _ _ _ _ h P T
        · refine ev_if_eq (t := 147) rfl rfl (fun c9 => absurd c9 hc) (fun _ => ?_)
          refine ev_go 8 (pc' := 121) (L' := [some (.ref 89), some (.int y896), some (.int y897), some (.int y898), some (.int y899), some (.long y900), none, some (.long y901), none, some (.int y902), some (.long y903), none, some (.int y904), some (.long (y905 * (y900 - y901))), none, some (.int (y906 + 1))]) (st' := []) (h' := (HM P w T)) (cs' := 0) (sl' := 0) rfl ?_
          exact ih2 _ _ _ _ _ _ _ _ _ _ _ _ _ _ h P T
set_option maxHeartbeats 40000000 in
set_option maxRecDepth 100000 in
theorem Em_storm_89 (n : Nat) (x859 : Int32) (x860 : Int32) (x861 : Int32) (x862 : Int32) (w : WM) (r : Int32) (w' : WM) (h : Fm_storm_89 n x859 x860 x861 x862 w = some (r, w')) (P : Nat → ai_E) (T : ai_H) : ai_ev D1 mm_storm 0 [some (.ref 89), some (.int x859), some (.int x860), some (.int x861), some (.int x862), none, none, none, none, none, none, none, none, none, none, none] [] (HM P w T) 0 0 (some (.int r), HM P w' T) := by
  unfold Fm_storm_89 at h
  obtain ⟨ih0, ih1, ih2⟩ := EGm_storm_89 n
  refine ev_go 2 (pc' := 2) (L' := [some (.ref 89), some (.int x859), some (.int x860), some (.int x861), some (.int x862), none, none, none, none, none, none, none, none, none, none, none]) (st' := [.int x859, .ref 89]) (h' := (HM P w T)) (cs' := 0) (sl' := 0) rfl ?_
  obtain ⟨c863, hq, h⟩ := ai_bdE h
  refine ev_call (M' := mm_isThing) (L' := [some (.ref 89), some (.int x859)]) (rest := []) (rv := some (.int c863.1)) (h' := (HM P c863.2 T)) rfl (Em_isThing_89 x859 w _ _ hq P T) ?_
  show ai_ev D1 mm_storm 5 [some (.ref 89), some (.int x859), some (.int x860), some (.int x861), some (.int x862), none, none, none, none, none, none, none, none, none, none, none] [.int c863.1] (HM P c863.2 T) 0 0 _
  rcases ai_ifE h with ⟨hc, h⟩ | ⟨hc, h⟩
  · refine ev_if_eq (t := 41) rfl rfl (fun _ => ?_) (fun c9 => absurd hc c9)
    refine ev_go 1 (pc' := 42) (L' := [some (.ref 89), some (.int x859), some (.int x860), some (.int x861), some (.int x862), none, none, none, none, none, none, none, none, none, none, none]) (st' := [.ref 89]) (h' := (HM P c863.2 T)) (cs' := 0) (sl' := 0) rfl ?_
    obtain ⟨c864, hq, h⟩ := ai_bdE h
    refine ev_call (M' := mm_bad) (L' := [some (.ref 89)]) (rest := []) (rv := some (.int c864.1)) (h' := (HM P c864.2 T)) rfl (Em_bad_89 c863.2 _ _ hq P T) ?_
    show ai_ev D1 mm_storm 45 [some (.ref 89), some (.int x859), some (.int x860), some (.int x861), some (.int x862), none, none, none, none, none, none, none, none, none, none, none] [.int c864.1] (HM P c864.2 T) 0 0 _
    obtain ⟨rfl, rfl⟩ := ai_smP h
    exact ev_end rfl
  · refine ev_if_eq (t := 41) rfl rfl (fun c9 => absurd c9 hc) (fun _ => ?_)
    refine ev_go 2 (pc' := 10) (L' := [some (.ref 89), some (.int x859), some (.int x860), some (.int x861), some (.int x862), none, none, none, none, none, none, none, none, none, none, none]) (st' := [.int x860, .ref 89]) (h' := (HM P c863.2 T)) (cs' := 0) (sl' := 0) rfl ?_
    obtain ⟨c865, hq, h⟩ := ai_bdE h
    refine ev_call (M' := mm_isCell) (L' := [some (.ref 89), some (.int x860)]) (rest := []) (rv := some (.int c865.1)) (h' := (HM P c865.2 T)) rfl (Em_isCell_89 x860 c863.2 _ _ hq P T) ?_
    show ai_ev D1 mm_storm 13 [some (.ref 89), some (.int x859), some (.int x860), some (.int x861), some (.int x862), none, none, none, none, none, none, none, none, none, none, none] [.int c865.1] (HM P c865.2 T) 0 0 _
    rcases ai_ifE h with ⟨hc, h⟩ | ⟨hc, h⟩
    · refine ev_if_eq (t := 41) rfl rfl (fun _ => ?_) (fun c9 => absurd hc c9)
      refine ev_go 1 (pc' := 42) (L' := [some (.ref 89), some (.int x859), some (.int x860), some (.int x861), some (.int x862), none, none, none, none, none, none, none, none, none, none, none]) (st' := [.ref 89]) (h' := (HM P c865.2 T)) (cs' := 0) (sl' := 0) rfl ?_
      obtain ⟨c866, hq, h⟩ := ai_bdE h
      refine ev_call (M' := mm_bad) (L' := [some (.ref 89)]) (rest := []) (rv := some (.int c866.1)) (h' := (HM P c866.2 T)) rfl (Em_bad_89 c865.2 _ _ hq P T) ?_
      show ai_ev D1 mm_storm 45 [some (.ref 89), some (.int x859), some (.int x860), some (.int x861), some (.int x862), none, none, none, none, none, none, none, none, none, none, none] [.int c866.1] (HM P c866.2 T) 0 0 _
      obtain ⟨rfl, rfl⟩ := ai_smP h
      exact ev_end rfl
    · refine ev_if_eq (t := 41) rfl rfl (fun c9 => absurd c9 hc) (fun _ => ?_)
      refine ev_go 4 (pc' := 22) (L' := [some (.ref 89), some (.int x859), some (.int x860), some (.int x861), some (.int x862), none, none, none, none, none, none, none, none, none, none, none]) (st' := [.long 5, .long 0, .long (x861).toInt64]) (h' := (HM P c865.2 T)) (cs' := 0) (sl' := 0) rfl ?_
      obtain ⟨c867, hq, h⟩ := ai_bdE h
      refine ev_call (M' := mm_in) (L' := [some (.long (x861).toInt64), none, some (.long 0), none, some (.long 5), none]) (rest := []) (rv := some (.int c867)) (h' := (HM P c865.2 T)) rfl (Em_in (x861).toInt64 0 5 _ hq (HM P c865.2 T)) ?_
      show ai_ev D1 mm_storm 25 [some (.ref 89), some (.int x859), some (.int x860), some (.int x861), some (.int x862), none, none, none, none, none, none, none, none, none, none, none] [.int c867] (HM P c865.2 T) 0 0 _
      rcases ai_ifE h with ⟨hc, h⟩ | ⟨hc, h⟩
      · refine ev_if_eq (t := 41) rfl rfl (fun _ => ?_) (fun c9 => absurd hc c9)
        refine ev_go 1 (pc' := 42) (L' := [some (.ref 89), some (.int x859), some (.int x860), some (.int x861), some (.int x862), none, none, none, none, none, none, none, none, none, none, none]) (st' := [.ref 89]) (h' := (HM P c865.2 T)) (cs' := 0) (sl' := 0) rfl ?_
        obtain ⟨c868, hq, h⟩ := ai_bdE h
        refine ev_call (M' := mm_bad) (L' := [some (.ref 89)]) (rest := []) (rv := some (.int c868.1)) (h' := (HM P c868.2 T)) rfl (Em_bad_89 c865.2 _ _ hq P T) ?_
        show ai_ev D1 mm_storm 45 [some (.ref 89), some (.int x859), some (.int x860), some (.int x861), some (.int x862), none, none, none, none, none, none, none, none, none, none, none] [.int c868.1] (HM P c868.2 T) 0 0 _
        obtain ⟨rfl, rfl⟩ := ai_smP h
        exact ev_end rfl
      · refine ev_if_eq (t := 41) rfl rfl (fun c9 => absurd c9 hc) (fun _ => ?_)
        refine ev_go 4 (pc' := 35) (L' := [some (.ref 89), some (.int x859), some (.int x860), some (.int x861), some (.int x862), none, none, none, none, none, none, none, none, none, none, none]) (st' := [.long 10, .long 0, .long (x862).toInt64]) (h' := (HM P c865.2 T)) (cs' := 0) (sl' := 0) rfl ?_
        obtain ⟨c869, hq, h⟩ := ai_bdE h
        refine ev_call (M' := mm_in) (L' := [some (.long (x862).toInt64), none, some (.long 0), none, some (.long 10), none]) (rest := []) (rv := some (.int c869)) (h' := (HM P c865.2 T)) rfl (Em_in (x862).toInt64 0 10 _ hq (HM P c865.2 T)) ?_
        show ai_ev D1 mm_storm 38 [some (.ref 89), some (.int x859), some (.int x860), some (.int x861), some (.int x862), none, none, none, none, none, none, none, none, none, none, none] [.int c869] (HM P c865.2 T) 0 0 _
        rcases ai_ifE h with ⟨hc, h⟩ | ⟨hc, h⟩
        · refine ev_if_ne (t := 46) rfl rfl (fun c9 => absurd hc c9) (fun _ => ?_)
          refine ev_go 1 (pc' := 42) (L' := [some (.ref 89), some (.int x859), some (.int x860), some (.int x861), some (.int x862), none, none, none, none, none, none, none, none, none, none, none]) (st' := [.ref 89]) (h' := (HM P c865.2 T)) (cs' := 0) (sl' := 0) rfl ?_
          obtain ⟨c870, hq, h⟩ := ai_bdE h
          refine ev_call (M' := mm_bad) (L' := [some (.ref 89)]) (rest := []) (rv := some (.int c870.1)) (h' := (HM P c870.2 T)) rfl (Em_bad_89 c865.2 _ _ hq P T) ?_
          show ai_ev D1 mm_storm 45 [some (.ref 89), some (.int x859), some (.int x860), some (.int x861), some (.int x862), none, none, none, none, none, none, none, none, none, none, none] [.int c870.1] (HM P c870.2 T) 0 0 _
          obtain ⟨rfl, rfl⟩ := ai_smP h
          exact ev_end rfl
        · refine ev_if_ne (t := 46) rfl rfl (fun _ => ?_) (fun c9 => absurd c9 hc)
          refine ev_go 6 (pc' := 55) (L' := [some (.ref 89), some (.int x859), some (.int x860), some (.int x861), some (.int x862), some (.long 1), none, some (.long 1), none, some (.int 0), none, none, none, none, none, none]) (st' := []) (h' := (HM P c865.2 T)) (cs' := 0) (sl' := 0) rfl ?_
          exact ih0 _ _ _ _ _ _ _ _ _ _ h P T _ _ _ _ _ _
