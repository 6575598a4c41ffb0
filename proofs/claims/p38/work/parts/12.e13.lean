set_option maxHeartbeats 40000000 in
set_option maxRecDepth 100000 in
theorem EGtxt_tell_78_20 : ∀ n : Nat, (∀ (y1173 : Int32) (w : WX) (r : Int32) (w' : WX), Gtxt_tell_78_20 n 0 y1173 w = some (r, w') → ∀ (T : ai_H) (o3 o4 o5 : Option Value), ai_ev D1 mtxt_tell 37 [some (.ref 78), some (.ref 20), some (.int y1173), o3, o4, o5] [] (HX w T) 0 0 (some (.int r), HX w' T)) := by
  intro n
  induction n with
  | zero =>
    exact (fun _ _ _ _ h => by cases h)
  | succ n ih0 =>
    intro y1173 w r w' h T o3 o4 o5
    simp only [Gtxt_tell_78_20] at h
    refine ev_go 2 (pc' := 41) (L' := [some (.ref 78), some (.ref 20), some (.int y1173), o3, o4, o5]) (st' := [.int 150, .int y1173]) (h' := (HX w T)) (cs' := 0) (sl' := 0) rfl ?_
    rcases ai_ifE h with ⟨hc, h⟩ | ⟨hc, h⟩
    · refine ev_ic_ge (t := 205) rfl rfl (fun _ => ?_) (fun c9 => absurd hc c9)
      refine ev_go 1 (pc' := 206) (L' := [some (.ref 78), some (.ref 20), some (.int y1173), o3, o4, o5]) (st' := [.int (-1)]) (h' := (HX w T)) (cs' := 0) (sl' := 0) rfl ?_
      obtain ⟨rfl, rfl⟩ := ai_smP h
      exact ev_end rfl
    · refine ev_ic_ge (t := 205) rfl rfl (fun c9 => absurd c9 hc) (fun _ => ?_)
      refine ev_go 4 (pc' := 52) (L' := [some (.ref 78), some (.ref 20), some (.int y1173), o3, o4, o5]) (st' := [.int (a_text_length w), .int (a_text_at w)]) (h' := (HX w T)) (cs' := 0) (sl' := 0) rfl ?_
      rcases ai_ifE h with ⟨hc, h⟩ | ⟨hc, h⟩
      · refine ev_ic_ge (t := 205) rfl rfl (fun _ => ?_) (fun c9 => absurd hc c9)
        refine ev_go 1 (pc' := 206) (L' := [some (.ref 78), some (.ref 20), some (.int y1173), o3, o4, o5]) (st' := [.int (-1)]) (h' := (HX w T)) (cs' := 0) (sl' := 0) rfl ?_
        obtain ⟨rfl, rfl⟩ := ai_smP h
        exact ev_end rfl
      · refine ev_ic_ge (t := 205) rfl rfl (fun c9 => absurd c9 hc) (fun _ => ?_)
        refine ev_go 4 (pc' := 61) (L' := [some (.ref 78), some (.ref 20), some (.int y1173), some (.int (a_text_at w)), o4, o5]) (st' := [.ref 78]) (h' := (HX w T)) (cs' := 0) (sl' := 0) rfl ?_
        obtain ⟨c1191, hq, h⟩ := ai_bdE h
        refine ev_call (M' := mtxt_takeWord) (L' := [some (.ref 78), none, none]) (rest := []) (rv := some (.int c1191.1)) (h' := (HX c1191.2 T)) rfl (Etxt_takeWord_78 n w _ _ hq T) ?_
        show ai_ev D1 mtxt_tell 64 [some (.ref 78), some (.ref 20), some (.int y1173), some (.int (a_text_at w)), o4, o5] [.int c1191.1] (HX c1191.2 T) 0 0 _
        refine ev_go 3 (pc' := 69) (L' := [some (.ref 78), some (.ref 20), some (.int y1173), some (.int (a_text_at w)), some (.int c1191.1), o5]) (st' := [.int (-1), .int c1191.1]) (h' := (HX c1191.2 T)) (cs' := 0) (sl' := 0) rfl ?_
        rcases ai_ifE h with ⟨hc, h⟩ | ⟨hc, h⟩
        · refine ev_ic_eq (t := 97) rfl rfl (fun _ => ?_) (fun c9 => absurd hc c9)
          refine ev_go 1 (pc' := 98) (L' := [some (.ref 78), some (.ref 20), some (.int y1173), some (.int (a_text_at w)), some (.int c1191.1), o5]) (st' := [.int (a_text_at w)]) (h' := (HX c1191.2 T)) (cs' := 0) (sl' := 0) rfl ?_
          obtain ⟨rfl, rfl⟩ := ai_smP h
          exact ev_end rfl
        · refine ev_ic_eq (t := 97) rfl rfl (fun c9 => absurd c9 hc) (fun _ => ?_)
          refine ev_go 1 (pc' := 74) (L' := [some (.ref 78), some (.ref 20), some (.int y1173), some (.int (a_text_at w)), some (.int c1191.1), o5]) (st' := [.int c1191.1]) (h' := (HX c1191.2 T)) (cs' := 0) (sl' := 0) rfl ?_
          rcases ai_ifE h with ⟨hc, h⟩ | ⟨hc, h⟩
          · refine ev_if_ne (t := 81) rfl rfl (fun c9 => absurd hc c9) (fun _ => ?_)
            refine ev_go 4 (pc' := 86) (L' := [some (.ref 78), some (.ref 20), some (.int y1173), some (.int (a_text_at w)), some (.int c1191.1), o5]) (st' := [.int (a_text_items c1191.2), .int 1]) (h' := (HX c1191.2 T)) (cs' := 0) (sl' := 0) rfl ?_
            rcases ai_ifE h with ⟨hc, h⟩ | ⟨hc, h⟩
            · refine ev_if_ne (t := 93) rfl rfl (fun c9 => absurd hc c9) (fun _ => ?_)
              refine ev_go 5 (pc' := 102) (L' := [some (.ref 78), some (.ref 20), some (.int y1173), some (.int (a_text_at w)), some (.int c1191.1), o5]) (st' := [.int c1191.1, .ref 78]) (h' := (HX c1191.2 T)) (cs' := 0) (sl' := 0) rfl ?_
              obtain ⟨c1336, hq, h⟩ := ai_bdE h
              refine ev_call (M' := mtxt_numbersBehind) (L' := [some (.int c1191.1)]) (rest := [.ref 78]) (rv := some (.int c1336)) (h' := (HX c1191.2 T)) rfl (Etxt_numbersBehind c1191.1 _ hq (HX c1191.2 T)) ?_
              show ai_ev D1 mtxt_tell 105 [some (.ref 78), some (.ref 20), some (.int y1173), some (.int (a_text_at w)), some (.int c1191.1), o5] [.int c1336, .ref 78] (HX c1191.2 T) 0 0 _
              obtain ⟨c1337, hq, h⟩ := ai_bdE h
              refine ev_call (M' := mtxt_takeNumbers) (L' := [some (.ref 78), some (.int c1336), none]) (rest := []) (rv := some (.int c1337.1)) (h' := (HX c1337.2 T)) rfl (Etxt_takeNumbers_78 n c1336 c1191.2 _ _ hq T) ?_
              show ai_ev D1 mtxt_tell 108 [some (.ref 78), some (.ref 20), some (.int y1173), some (.int (a_text_at w)), some (.int c1191.1), o5] [.int c1337.1] (HX c1337.2 T) 0 0 _
              refine ev_go 3 (pc' := 113) (L' := [some (.ref 78), some (.ref 20), some (.int y1173), some (.int (a_text_at w)), some (.int c1191.1), some (.int c1337.1)]) (st' := [.int (-1), .int c1337.1]) (h' := (HX c1337.2 T)) (cs' := 0) (sl' := 0) rfl ?_
              rcases ai_ifE h with ⟨hc, h⟩ | ⟨hc, h⟩
              · refine ev_ic_eq (t := 119) rfl rfl (fun _ => ?_) (fun c9 => absurd hc c9)
                refine ev_go 4 (pc' := 127) (L' := [some (.ref 78), some (.ref 20), some (.int y1173), some (.int (a_text_at w)), some (.int c1191.1), some (.int c1337.1)]) (st' := [.int (a_text_length c1337.2), .int (a_text_at c1337.2)]) (h' := (HX c1337.2 T)) (cs' := 0) (sl' := 0) rfl ?_
                rcases ai_ifE h with ⟨hc, h⟩ | ⟨hc, h⟩
                · refine ev_ic_ge (t := 144) rfl rfl (fun _ => ?_) (fun c9 => absurd hc c9)
                  refine ev_go 2 (pc' := 148) (L' := [some (.ref 78), some (.ref 20), some (.int y1173), some (.int (a_text_at w)), some (.int c1191.1), some (.int c1337.1)]) (st' := [.int (a_text_at c1337.2)]) (h' := (HX c1337.2 T)) (cs' := 0) (sl' := 0) rfl ?_
                  obtain ⟨rfl, rfl⟩ := ai_smP h
                  exact ev_end rfl
                · refine ev_ic_ge (t := 144) rfl rfl (fun c9 => absurd c9 hc) (fun _ => ?_)
                  refine ev_go 4 (pc' := 138) (L' := [some (.ref 78), some (.ref 20), some (.int y1173), some (.int (a_text_at w)), some (.int c1191.1), some (.int c1337.1)]) (st' := [.int (a_text_at c1337.2), .ref 79]) (h' := (HX c1337.2 T)) (cs' := 0) (sl' := 0) rfl ?_
                  obtain ⟨v1338, hq, h⟩ := ai_bdE h
                  refine ev_iald rfl rfl hq ?_
                  refine ev_go 1 (pc' := 141) (L' := [some (.ref 78), some (.ref 20), some (.int y1173), some (.int (a_text_at w)), some (.int c1191.1), some (.int c1337.1)]) (st' := [.int 59, .int v1338]) (h' := (HX c1337.2 T)) (cs' := 0) (sl' := 0) rfl ?_
                  rcases ai_ifE h with ⟨hc, h⟩ | ⟨hc, h⟩
                  · refine ev_ic_eq (t := 149) rfl rfl (fun _ => ?_) (fun c9 => absurd hc c9)
                    refine ev_go 5 (pc' := 156) (L' := [some (.ref 78), some (.ref 20), some (.int y1173), some (.int (a_text_at w)), some (.int c1191.1), some (.int c1337.1)]) (st' := [.int ((a_text_at c1337.2) + 1), .ref 78]) (h' := (HX c1337.2 T)) (cs' := 0) (sl' := 0) rfl ?_
                    refine ev_step rfl rfl rfl (PFX_4_28_78 rfl) ?_
                    refine ev_go 3 (pc' := 164) (L' := [some (.ref 78), some (.ref 20), some (.int y1173), some (.int (a_text_at w)), some (.int c1191.1), some (.int c1337.1)]) (st' := [.int (-1), .int (a_text_refusedItem c1337.2)]) (h' := (HX (u_text_at c1337.2 ((a_text_at c1337.2) + 1)) T)) (cs' := 0) (sl' := 0) rfl ?_
                    rcases ai_ifE h with ⟨hc, h⟩ | ⟨hc, h⟩
                    · refine ev_ic_ne (t := 185) rfl rfl (fun c9 => absurd hc c9) (fun _ => ?_)
                      refine ev_go 3 (pc' := 171) (L' := [some (.ref 78), some (.ref 20), some (.int y1173), some (.int (a_text_at w)), some (.int c1191.1), some (.int c1337.1)]) (st' := [.int c1191.1, .ref 20, .ref 78]) (h' := (HX (u_text_at c1337.2 ((a_text_at c1337.2) + 1)) T)) (cs' := 0) (sl' := 0) rfl ?_
                      obtain ⟨c1340, hq, h⟩ := ai_bdE h
                      refine ev_call (M' := mtxt_tellItem) (L' := [some (.ref 78), some (.ref 20), some (.int c1191.1)]) (rest := []) (rv := some (.int c1340.1)) (h' := (HX c1340.2 T)) rfl (Etxt_tellItem_78_20 n c1191.1 (u_text_at c1337.2 ((a_text_at c1337.2) + 1)) _ _ hq T) ?_
                      show ai_ev D1 mtxt_tell 174 [some (.ref 78), some (.ref 20), some (.int y1173), some (.int (a_text_at w)), some (.int c1191.1), some (.int c1337.1)] [.int c1340.1] (HX c1340.2 T) 0 0 _
                      rcases ai_ifE h with ⟨hc, h⟩ | ⟨hc, h⟩
                      · refine ev_if_ge (t := 185) rfl rfl (fun _ => ?_) (fun c9 => absurd hc c9)
                        refine ev_go 5 (pc' := 192) (L' := [some (.ref 78), some (.ref 20), some (.int y1173), some (.int (a_text_at w)), some (.int c1191.1), some (.int c1337.1)]) (st' := [.int ((a_text_items c1340.2) + 1), .ref 78]) (h' := (HX c1340.2 T)) (cs' := 0) (sl' := 0) rfl ?_
                        refine ev_step rfl rfl rfl (PFX_4_15_78 rfl) ?_
                        refine ev_go 1 (pc' := 196) (L' := [some (.ref 78), some (.ref 20), some (.int y1173), some (.int (a_text_at w)), some (.int c1191.1), some (.int c1337.1)]) (st' := [.ref 78]) (h' := (HX (u_text_items c1340.2 ((a_text_items c1340.2) + 1)) T)) (cs' := 0) (sl' := 0) rfl ?_
                        obtain ⟨c1341, hq, h⟩ := ai_bdE h
                        refine ev_call (M' := mtxt_skipBlanks) (L' := [some (.ref 78)]) (rest := []) (rv := none) (h' := (HX c1341 T)) rfl (Etxt_skipBlanks_78 n (u_text_items c1340.2 ((a_text_items c1340.2) + 1)) _ hq T) ?_
                        show ai_ev D1 mtxt_tell 199 [some (.ref 78), some (.ref 20), some (.int y1173), some (.int (a_text_at w)), some (.int c1191.1), some (.int c1337.1)] [] (HX c1341 T) 0 0 _
                        refine ev_go 2 (pc' := 37) (L' := [some (.ref 78), some (.ref 20), some (.int (y1173 + 1)), some (.int (a_text_at w)), some (.int c1191.1), some (.int c1337.1)]) (st' := []) (h' := (HX c1341 T)) (cs' := 0) (sl' := 0) rfl ?_
                        exact ih0 _ _ _ _ h T _ _ _
                      · refine ev_if_ge (t := 185) rfl rfl (fun c9 => absurd c9 hc) (fun _ => ?_)
                        refine ev_go 3 (pc' := 182) (L' := [some (.ref 78), some (.ref 20), some (.int y1173), some (.int (a_text_at w)), some (.int c1191.1), some (.int c1337.1)]) (st' := [.int (a_text_items c1340.2), .ref 78]) (h' := (HX c1340.2 T)) (cs' := 0) (sl' := 0) rfl ?_
                        refine ev_step rfl rfl rfl (PFX_4_18_78 rfl) ?_
                        refine ev_go 5 (pc' := 192) (L' := [some (.ref 78), some (.ref 20), some (.int y1173), some (.int (a_text_at w)), some (.int c1191.1), some (.int c1337.1)]) (st' := [.int ((a_text_items c1340.2) + 1), .ref 78]) (h' := (HX (u_text_refusedItem c1340.2 (a_text_items c1340.2)) T)) (cs' := 0) (sl' := 0) rfl ?_
                        refine ev_step rfl rfl rfl (PFX_4_15_78 rfl) ?_
                        refine ev_go 1 (pc' := 196) (L' := [some (.ref 78), some (.ref 20), some (.int y1173), some (.int (a_text_at w)), some (.int c1191.1), some (.int c1337.1)]) (st' := [.ref 78]) (h' := (HX (u_text_items (u_text_refusedItem c1340.2 (a_text_items c1340.2)) ((a_text_items c1340.2) + 1)) T)) (cs' := 0) (sl' := 0) rfl ?_
                        obtain ⟨c1342, hq, h⟩ := ai_bdE h
                        refine ev_call (M' := mtxt_skipBlanks) (L' := [some (.ref 78)]) (rest := []) (rv := none) (h' := (HX c1342 T)) rfl (Etxt_skipBlanks_78 n (u_text_items (u_text_refusedItem c1340.2 (a_text_items c1340.2)) ((a_text_items c1340.2) + 1)) _ hq T) ?_
                        show ai_ev D1 mtxt_tell 199 [some (.ref 78), some (.ref 20), some (.int y1173), some (.int (a_text_at w)), some (.int c1191.1), some (.int c1337.1)] [] (HX c1342 T) 0 0 _
                        refine ev_go 2 (pc' := 37) (L' := [some (.ref 78), some (.ref 20), some (.int (y1173 + 1)), some (.int (a_text_at w)), some (.int c1191.1), some (.int c1337.1)]) (st' := []) (h' := (HX c1342 T)) (cs' := 0) (sl' := 0) rfl ?_
                        exact ih0 _ _ _ _ h T _ _ _
                    · refine ev_ic_ne (t := 185) rfl rfl (fun _ => ?_) (fun c9 => absurd c9 hc)
                      refine ev_go 5 (pc' := 192) (L' := [some (.ref 78), some (.ref 20), some (.int y1173), some (.int (a_text_at w)), some (.int c1191.1), some (.int c1337.1)]) (st' := [.int ((a_text_items c1337.2) + 1), .ref 78]) (h' := (HX (u_text_at c1337.2 ((a_text_at c1337.2) + 1)) T)) (cs' := 0) (sl' := 0) rfl ?_
                      refine ev_step rfl rfl rfl (PFX_4_15_78 rfl) ?_
                      refine ev_go 1 (pc' := 196) (L' := [some (.ref 78), some (.ref 20), some (.int y1173), some (.int (a_text_at w)), some (.int c1191.1), some (.int c1337.1)]) (st' := [.ref 78]) (h' := (HX (u_text_items (u_text_at c1337.2 ((a_text_at c1337.2) + 1)) ((a_text_items c1337.2) + 1)) T)) (cs' := 0) (sl' := 0) rfl ?_
                      obtain ⟨c1339, hq, h⟩ := ai_bdE h
                      refine ev_call (M' := mtxt_skipBlanks) (L' := [some (.ref 78)]) (rest := []) (rv := none) (h' := (HX c1339 T)) rfl (Etxt_skipBlanks_78 n (u_text_items (u_text_at c1337.2 ((a_text_at c1337.2) + 1)) ((a_text_items c1337.2) + 1)) _ hq T) ?_
                      show ai_ev D1 mtxt_tell 199 [some (.ref 78), some (.ref 20), some (.int y1173), some (.int (a_text_at w)), some (.int c1191.1), some (.int c1337.1)] [] (HX c1339 T) 0 0 _
                      refine ev_go 2 (pc' := 37) (L' := [some (.ref 78), some (.ref 20), some (.int (y1173 + 1)), some (.int (a_text_at w)), some (.int c1191.1), some (.int c1337.1)]) (st' := []) (h' := (HX c1339 T)) (cs' := 0) (sl' := 0) rfl ?_
                      exact ih0 _ _ _ _ h T _ _ _
                  · refine ev_ic_eq (t := 149) rfl rfl (fun c9 => absurd c9 hc) (fun _ => ?_)
                    refine ev_go 2 (pc' := 148) (L' := [some (.ref 78), some (.ref 20), some (.int y1173), some (.int (a_text_at w)), some (.int c1191.1), some (.int c1337.1)]) (st' := [.int (a_text_at c1337.2)]) (h' := (HX c1337.2 T)) (cs' := 0) (sl' := 0) rfl ?_
                    obtain ⟨rfl, rfl⟩ := ai_smP h
                    exact ev_end rfl
              · refine ev_ic_eq (t := 119) rfl rfl (fun c9 => absurd c9 hc) (fun _ => ?_)
                refine ev_go 1 (pc' := 118) (L' := [some (.ref 78), some (.ref 20), some (.int y1173), some (.int (a_text_at w)), some (.int c1191.1), some (.int c1337.1)]) (st' := [.int c1337.1]) (h' := (HX c1337.2 T)) (cs' := 0) (sl' := 0) rfl ?_
                obtain ⟨rfl, rfl⟩ := ai_smP h
                exact ev_end rfl
            · refine ev_if_ne (t := 93) rfl rfl (fun _ => ?_) (fun c9 => absurd c9 hc)
              refine ev_go 3 (pc' := 98) (L' := [some (.ref 78), some (.ref 20), some (.int y1173), some (.int (a_text_at w)), some (.int c1191.1), o5]) (st' := [.int (a_text_at w)]) (h' := (HX c1191.2 T)) (cs' := 0) (sl' := 0) rfl ?_
              obtain ⟨rfl, rfl⟩ := ai_smP h
              exact ev_end rfl
          · refine ev_if_ne (t := 81) rfl rfl (fun _ => ?_) (fun c9 => absurd c9 hc)
            refine ev_go 3 (pc' := 86) (L' := [some (.ref 78), some (.ref 20), some (.int y1173), some (.int (a_text_at w)), some (.int c1191.1), o5]) (st' := [.int (a_text_items c1191.2), .int 0]) (h' := (HX c1191.2 T)) (cs' := 0) (sl' := 0) rfl ?_
            rcases ai_ifE h with ⟨hc, h⟩ | ⟨hc, h⟩
            · refine ev_if_ne (t := 93) rfl rfl (fun c9 => absurd hc c9) (fun _ => ?_)
              refine ev_go 4 (pc' := 98) (L' := [some (.ref 78), some (.ref 20), some (.int y1173), some (.int (a_text_at w)), some (.int c1191.1), o5]) (st' := [.int (a_text_at w)]) (h' := (HX c1191.2 T)) (cs' := 0) (sl' := 0) rfl ?_
              obtain ⟨rfl, rfl⟩ := ai_smP h
              exact ev_end rfl
            · refine ev_if_ne (t := 93) rfl rfl (fun _ => ?_) (fun c9 => absurd c9 hc)
              refine ev_go 4 (pc' := 102) (L' := [some (.ref 78), some (.ref 20), some (.int y1173), some (.int (a_text_at w)), some (.int c1191.1), o5]) (st' := [.int c1191.1, .ref 78]) (h' := (HX c1191.2 T)) (cs' := 0) (sl' := 0) rfl ?_
              obtain ⟨c1193, hq, h⟩ := ai_bdE h
              refine ev_call (M' := mtxt_numbersBehind) (L' := [some (.int c1191.1)]) (rest := [.ref 78]) (rv := some (.int c1193)) (h' := (HX c1191.2 T)) rfl (Etxt_numbersBehind c1191.1 _ hq (HX c1191.2 T)) ?_
              show ai_ev D1 mtxt_tell 105 [some (.ref 78), some (.ref 20), some (.int y1173), some (.int (a_text_at w)), some (.int c1191.1), o5] [.int c1193, .ref 78] (HX c1191.2 T) 0 0 _
              obtain ⟨c1211, hq, h⟩ := ai_bdE h
              refine ev_call (M' := mtxt_takeNumbers) (L' := [some (.ref 78), some (.int c1193), none]) (rest := []) (rv := some (.int c1211.1)) (h' := (HX c1211.2 T)) rfl (Etxt_takeNumbers_78 n c1193 c1191.2 _ _ hq T) ?_
              show ai_ev D1 mtxt_tell 108 [some (.ref 78), some (.ref 20), some (.int y1173), some (.int (a_text_at w)), some (.int c1191.1), o5] [.int c1211.1] (HX c1211.2 T) 0 0 _
              refine ev_go 3 (pc' := 113) (L' := [some (.ref 78), some (.ref 20), some (.int y1173), some (.int (a_text_at w)), some (.int c1191.1), some (.int c1211.1)]) (st' := [.int (-1), .int c1211.1]) (h' := (HX c1211.2 T)) (cs' := 0) (sl' := 0) rfl ?_
              rcases ai_ifE h with ⟨hc, h⟩ | ⟨hc, h⟩
              · refine ev_ic_eq (t := 119) rfl rfl (fun _ => ?_) (fun c9 => absurd hc c9)
                refine ev_go 4 (pc' := 127) (L' := [some (.ref 78), some (.ref 20), some (.int y1173), some (.int (a_text_at w)), some (.int c1191.1), some (.int c1211.1)]) (st' := [.int (a_text_length c1211.2), .int (a_text_at c1211.2)]) (h' := (HX c1211.2 T)) (cs' := 0) (sl' := 0) rfl ?_
                rcases ai_ifE h with ⟨hc, h⟩ | ⟨hc, h⟩
                · refine ev_ic_ge (t := 144) rfl rfl (fun _ => ?_) (fun c9 => absurd hc c9)
                  refine ev_go 2 (pc' := 148) (L' := [some (.ref 78), some (.ref 20), some (.int y1173), some (.int (a_text_at w)), some (.int c1191.1), some (.int c1211.1)]) (st' := [.int (a_text_at c1211.2)]) (h' := (HX c1211.2 T)) (cs' := 0) (sl' := 0) rfl ?_
                  obtain ⟨rfl, rfl⟩ := ai_smP h
                  exact ev_end rfl
                · refine ev_ic_ge (t := 144) rfl rfl (fun c9 => absurd c9 hc) (fun _ => ?_)
                  refine ev_go 4 (pc' := 138) (L' := [some (.ref 78), some (.ref 20), some (.int y1173), some (.int (a_text_at w)), some (.int c1191.1), some (.int c1211.1)]) (st' := [.int (a_text_at c1211.2), .ref 79]) (h' := (HX c1211.2 T)) (cs' := 0) (sl' := 0) rfl ?_
                  obtain ⟨v1212, hq, h⟩ := ai_bdE h
                  refine ev_iald rfl rfl hq ?_
                  refine ev_go 1 (pc' := 141) (L' := [some (.ref 78), some (.ref 20), some (.int y1173), some (.int (a_text_at w)), some (.int c1191.1), some (.int c1211.1)]) (st' := [.int 59, .int v1212]) (h' := (HX c1211.2 T)) (cs' := 0) (sl' := 0) rfl ?_
                  rcases ai_ifE h with ⟨hc, h⟩ | ⟨hc, h⟩
                  · refine ev_ic_eq (t := 149) rfl rfl (fun _ => ?_) (fun c9 => absurd hc c9)
                    refine ev_go 5 (pc' := 156) (L' := [some (.ref 78), some (.ref 20), some (.int y1173), some (.int (a_text_at w)), some (.int c1191.1), some (.int c1211.1)]) (st' := [.int ((a_text_at c1211.2) + 1), .ref 78]) (h' := (HX c1211.2 T)) (cs' := 0) (sl' := 0) rfl ?_
                    refine ev_step rfl rfl rfl (PFX_4_28_78 rfl) ?_
                    refine ev_go 3 (pc' := 164) (L' := [some (.ref 78), some (.ref 20), some (.int y1173), some (.int (a_text_at w)), some (.int c1191.1), some (.int c1211.1)]) (st' := [.int (-1), .int (a_text_refusedItem c1211.2)]) (h' := (HX (u_text_at c1211.2 ((a_text_at c1211.2) + 1)) T)) (cs' := 0) (sl' := 0) rfl ?_
                    rcases ai_ifE h with ⟨hc, h⟩ | ⟨hc, h⟩
                    · refine ev_ic_ne (t := 185) rfl rfl (fun c9 => absurd hc c9) (fun _ => ?_)
                      refine ev_go 3 (pc' := 171) (L' := [some (.ref 78), some (.ref 20), some (.int y1173), some (.int (a_text_at w)), some (.int c1191.1), some (.int c1211.1)]) (st' := [.int c1191.1, .ref 20, .ref 78]) (h' := (HX (u_text_at c1211.2 ((a_text_at c1211.2) + 1)) T)) (cs' := 0) (sl' := 0) rfl ?_
                      obtain ⟨c1333, hq, h⟩ := ai_bdE h
                      refine ev_call (M' := mtxt_tellItem) (L' := [some (.ref 78), some (.ref 20), some (.int c1191.1)]) (rest := []) (rv := some (.int c1333.1)) (h' := (HX c1333.2 T)) rfl (Etxt_tellItem_78_20 n c1191.1 (u_text_at c1211.2 ((a_text_at c1211.2) + 1)) _ _ hq T) ?_
                      show ai_ev D1 mtxt_tell 174 [some (.ref 78), some (.ref 20), some (.int y1173), some (.int (a_text_at w)), some (.int c1191.1), some (.int c1211.1)] [.int c1333.1] (HX c1333.2 T) 0 0 _
                      rcases ai_ifE h with ⟨hc, h⟩ | ⟨hc, h⟩
                      · refine ev_if_ge (t := 185) rfl rfl (fun _ => ?_) (fun c9 => absurd hc c9)
                        refine ev_go 5 (pc' := 192) (L' := [some (.ref 78), some (.ref 20), some (.int y1173), some (.int (a_text_at w)), some (.int c1191.1), some (.int c1211.1)]) (st' := [.int ((a_text_items c1333.2) + 1), .ref 78]) (h' := (HX c1333.2 T)) (cs' := 0) (sl' := 0) rfl ?_
                        refine ev_step rfl rfl rfl (PFX_4_15_78 rfl) ?_
                        refine ev_go 1 (pc' := 196) (L' := [some (.ref 78), some (.ref 20), some (.int y1173), some (.int (a_text_at w)), some (.int c1191.1), some (.int c1211.1)]) (st' := [.ref 78]) (h' := (HX (u_text_items c1333.2 ((a_text_items c1333.2) + 1)) T)) (cs' := 0) (sl' := 0) rfl ?_
                        obtain ⟨c1334, hq, h⟩ := ai_bdE h
                        refine ev_call (M' := mtxt_skipBlanks) (L' := [some (.ref 78)]) (rest := []) (rv := none) (h' := (HX c1334 T)) rfl (Etxt_skipBlanks_78 n (u_text_items c1333.2 ((a_text_items c1333.2) + 1)) _ hq T) ?_
                        show ai_ev D1 mtxt_tell 199 [some (.ref 78), some (.ref 20), some (.int y1173), some (.int (a_text_at w)), some (.int c1191.1), some (.int c1211.1)] [] (HX c1334 T) 0 0 _
                        refine ev_go 2 (pc' := 37) (L' := [some (.ref 78), some (.ref 20), some (.int (y1173 + 1)), some (.int (a_text_at w)), some (.int c1191.1), some (.int c1211.1)]) (st' := []) (h' := (HX c1334 T)) (cs' := 0) (sl' := 0) rfl ?_
                        exact ih0 _ _ _ _ h T _ _ _
                      · refine ev_if_ge (t := 185) rfl rfl (fun c9 => absurd c9 hc) (fun _ => ?_)
                        refine ev_go 3 (pc' := 182) (L' := [some (.ref 78), some (.ref 20), some (.int y1173), some (.int (a_text_at w)), some (.int c1191.1), some (.int c1211.1)]) (st' := [.int (a_text_items c1333.2), .ref 78]) (h' := (HX c1333.2 T)) (cs' := 0) (sl' := 0) rfl ?_
                        refine ev_step rfl rfl rfl (PFX_4_18_78 rfl) ?_
                        refine ev_go 5 (pc' := 192) (L' := [some (.ref 78), some (.ref 20), some (.int y1173), some (.int (a_text_at w)), some (.int c1191.1), some (.int c1211.1)]) (st' := [.int ((a_text_items c1333.2) + 1), .ref 78]) (h' := (HX (u_text_refusedItem c1333.2 (a_text_items c1333.2)) T)) (cs' := 0) (sl' := 0) rfl ?_
                        refine ev_step rfl rfl rfl (PFX_4_15_78 rfl) ?_
                        refine ev_go 1 (pc' := 196) (L' := [some (.ref 78), some (.ref 20), some (.int y1173), some (.int (a_text_at w)), some (.int c1191.1), some (.int c1211.1)]) (st' := [.ref 78]) (h' := (HX (u_text_items (u_text_refusedItem c1333.2 (a_text_items c1333.2)) ((a_text_items c1333.2) + 1)) T)) (cs' := 0) (sl' := 0) rfl ?_
                        obtain ⟨c1335, hq, h⟩ := ai_bdE h
                        refine ev_call (M' := mtxt_skipBlanks) (L' := [some (.ref 78)]) (rest := []) (rv := none) (h' := (HX c1335 T)) rfl (Etxt_skipBlanks_78 n (u_text_items (u_text_refusedItem c1333.2 (a_text_items c1333.2)) ((a_text_items c1333.2) + 1)) _ hq T) ?_
                        show ai_ev D1 mtxt_tell 199 [some (.ref 78), some (.ref 20), some (.int y1173), some (.int (a_text_at w)), some (.int c1191.1), some (.int c1211.1)] [] (HX c1335 T) 0 0 _
                        refine ev_go 2 (pc' := 37) (L' := [some (.ref 78), some (.ref 20), some (.int (y1173 + 1)), some (.int (a_text_at w)), some (.int c1191.1), some (.int c1211.1)]) (st' := []) (h' := (HX c1335 T)) (cs' := 0) (sl' := 0) rfl ?_
                        exact ih0 _ _ _ _ h T _ _ _
                    · refine ev_ic_ne (t := 185) rfl rfl (fun _ => ?_) (fun c9 => absurd c9 hc)
                      refine ev_go 5 (pc' := 192) (L' := [some (.ref 78), some (.ref 20), some (.int y1173), some (.int (a_text_at w)), some (.int c1191.1), some (.int c1211.1)]) (st' := [.int ((a_text_items c1211.2) + 1), .ref 78]) (h' := (HX (u_text_at c1211.2 ((a_text_at c1211.2) + 1)) T)) (cs' := 0) (sl' := 0) rfl ?_
                      refine ev_step rfl rfl rfl (PFX_4_15_78 rfl) ?_
                      refine ev_go 1 (pc' := 196) (L' := [some (.ref 78), some (.ref 20), some (.int y1173), some (.int (a_text_at w)), some (.int c1191.1), some (.int c1211.1)]) (st' := [.ref 78]) (h' := (HX (u_text_items (u_text_at c1211.2 ((a_text_at c1211.2) + 1)) ((a_text_items c1211.2) + 1)) T)) (cs' := 0) (sl' := 0) rfl ?_
                      obtain ⟨c1213, hq, h⟩ := ai_bdE h
                      refine ev_call (M' := mtxt_skipBlanks) (L' := [some (.ref 78)]) (rest := []) (rv := none) (h' := (HX c1213 T)) rfl (Etxt_skipBlanks_78 n (u_text_items (u_text_at c1211.2 ((a_text_at c1211.2) + 1)) ((a_text_items c1211.2) + 1)) _ hq T) ?_
                      show ai_ev D1 mtxt_tell 199 [some (.ref 78), some (.ref 20), some (.int y1173), some (.int (a_text_at w)), some (.int c1191.1), some (.int c1211.1)] [] (HX c1213 T) 0 0 _
                      refine ev_go 2 (pc' := 37) (L' := [some (.ref 78), some (.ref 20), some (.int (y1173 + 1)), some (.int (a_text_at w)), some (.int c1191.1), some (.int c1211.1)]) (st' := []) (h' := (HX c1213 T)) (cs' := 0) (sl' := 0) rfl ?_
                      exact ih0 _ _ _ _ h T _ _ _
                  · refine ev_ic_eq (t := 149) rfl rfl (fun c9 => absurd c9 hc) (fun _ => ?_)
                    refine ev_go 2 (pc' := 148) (L' := [some (.ref 78), some (.ref 20), some (.int y1173), some (.int (a_text_at w)), some (.int c1191.1), some (.int c1211.1)]) (st' := [.int (a_text_at c1211.2)]) (h' := (HX c1211.2 T)) (cs' := 0) (sl' := 0) rfl ?_
                    obtain ⟨rfl, rfl⟩ := ai_smP h
                    exact ev_end rfl
              · refine ev_ic_eq (t := 119) rfl rfl (fun c9 => absurd c9 hc) (fun _ => ?_)
                refine ev_go 1 (pc' := 118) (L' := [some (.ref 78), some (.ref 20), some (.int y1173), some (.int (a_text_at w)), some (.int c1191.1), some (.int c1211.1)]) (st' := [.int c1211.1]) (h' := (HX c1211.2 T)) (cs' := 0) (sl' := 0) rfl ?_
                obtain ⟨rfl, rfl⟩ := ai_smP h
                exact ev_end rfl
set_option maxHeartbeats 40000000 in
set_option maxRecDepth 100000 in
theorem Etxt_tell_78_20 (n : Nat) (w : WX) (r : Int32) (w' : WX) (h : Ftxt_tell_78_20 n w = some (r, w')) (T : ai_H) : ai_ev D1 mtxt_tell 0 [some (.ref 78), some (.ref 20), none, none, none, none] [] (HX w T) 0 0 (some (.int r), HX w' T) := by
  unfold Ftxt_tell_78_20 at h
  have ih0 := EGtxt_tell_78_20 n
  refine ev_go 2 (pc' := 2) (L' := [some (.ref 78), some (.ref 20), none, none, none, none]) (st' := [.int 0, .ref 78]) (h' := (HX w T)) (cs' := 0) (sl' := 0) rfl ?_
  refine ev_step rfl rfl rfl (PFX_4_28_78 rfl) ?_
  refine ev_go 2 (pc' := 7) (L' := [some (.ref 78), some (.ref 20), none, none, none, none]) (st' := [.int 0, .ref 78]) (h' := (HX (u_text_at w 0) T)) (cs' := 0) (sl' := 0) rfl ?_
  refine ev_step rfl rfl rfl (PFX_4_15_78 rfl) ?_
  refine ev_go 2 (pc' := 12) (L' := [some (.ref 78), some (.ref 20), none, none, none, none]) (st' := [.int (-1), .ref 78]) (h' := (HX (u_text_items (u_text_at w 0) 0) T)) (cs' := 0) (sl' := 0) rfl ?_
  refine ev_step rfl rfl rfl (PFX_4_18_78 rfl) ?_
  refine ev_go 1 (pc' := 16) (L' := [some (.ref 78), some (.ref 20), none, none, none, none]) (st' := [.ref 78]) (h' := (HX (u_text_refusedItem (u_text_items (u_text_at w 0) 0) (-1)) T)) (cs' := 0) (sl' := 0) rfl ?_
  obtain ⟨c1172, hq, h⟩ := ai_bdE h
  refine ev_call (M' := mtxt_skipBlanks) (L' := [some (.ref 78)]) (rest := []) (rv := none) (h' := (HX c1172 T)) rfl (Etxt_skipBlanks_78 n (u_text_refusedItem (u_text_items (u_text_at w 0) 0) (-1)) _ hq T) ?_
  show ai_ev D1 mtxt_tell 19 [some (.ref 78), some (.ref 20), none, none, none, none] [] (HX c1172 T) 0 0 _
  refine ev_go 4 (pc' := 27) (L' := [some (.ref 78), some (.ref 20), none, none, none, none]) (st' := [.int (a_text_length c1172), .int (a_text_at c1172)]) (h' := (HX c1172 T)) (cs' := 0) (sl' := 0) rfl ?_
  rcases ai_ifE h with ⟨hc, h⟩ | ⟨hc, h⟩
  · refine ev_ic_lt (t := 35) rfl rfl (fun _ => ?_) (fun c9 => absurd hc c9)
    refine ev_go 2 (pc' := 37) (L' := [some (.ref 78), some (.ref 20), some (.int 0), none, none, none]) (st' := []) (h' := (HX c1172 T)) (cs' := 0) (sl' := 0) rfl ?_
    exact ih0 _ _ _ _ h T _ _ _
  · refine ev_ic_lt (t := 35) rfl rfl (fun c9 => absurd c9 hc) (fun _ => ?_)
    refine ev_go 2 (pc' := 34) (L' := [some (.ref 78), some (.ref 20), none, none, none, none]) (st' := [.int (a_text_length c1172)]) (h' := (HX c1172 T)) (cs' := 0) (sl' := 0) rfl ?_
    obtain ⟨rfl, rfl⟩ := ai_smP h
    exact ev_end rfl
set_option maxHeartbeats 40000000 in
set_option maxRecDepth 100000 in
theorem Ethg_copyFrom_7_26 (w : WX) (w' : WX) (h : Fthg_copyFrom_7_26 w = some w') (T : ai_H) : ai_ev D1 mthg_copyFrom 0 [some (.ref 7), some (.ref 26)] [] (HX w T) 0 0 (none, HX w' T) := by
  unfold Fthg_copyFrom_7_26 at h
  refine ev_go 3 (pc' := 5) (L' := [some (.ref 7), some (.ref 26)]) (st' := [.int (a_s2things_count w), .ref 7]) (h' := (HX w T)) (cs' := 0) (sl' := 0) rfl ?_
  refine ev_step rfl rfl rfl (PFX_5_9_7 rfl) ?_
  refine ev_go 7 (pc' := 20) (L' := [some (.ref 7), some (.ref 26)]) (st' := [.int 6, .int 0, .ref 8, .int 0, .ref 27]) (h' := (HX (u_s1things_count w (a_s2things_count w)) T)) (cs' := 0) (sl' := 0) rfl ?_
  obtain ⟨q1349, hq, h⟩ := ai_bdE h
  refine ev_cpy rfl rfl rfl rfl rfl rfl hq ?_
  rw [HXs_8]
  refine ev_go 7 (pc' := 35) (L' := [some (.ref 7), some (.ref 26)]) (st' := [.int 6, .int 0, .ref 9, .int 0, .ref 28]) (h' := (HX (u_s1things_kinds (u_s1things_count w (a_s2things_count w)) q1349) T)) (cs' := 0) (sl' := 0) rfl ?_
  obtain ⟨q1350, hq, h⟩ := ai_bdE h
  refine ev_cpy rfl rfl rfl rfl rfl rfl hq ?_
  rw [HXs_9]
  refine ev_go 7 (pc' := 50) (L' := [some (.ref 7), some (.ref 26)]) (st' := [.int 6, .int 0, .ref 10, .int 0, .ref 29]) (h' := (HX (u_s1things_weights (u_s1things_kinds (u_s1things_count w (a_s2things_count w)) q1349) q1350) T)) (cs' := 0) (sl' := 0) rfl ?_
  obtain ⟨q1351, hq, h⟩ := ai_bdE h
  refine ev_cpy rfl rfl rfl rfl rfl rfl hq ?_
  rw [HXs_10]
  refine ev_go 7 (pc' := 65) (L' := [some (.ref 7), some (.ref 26)]) (st' := [.int 6, .int 0, .ref 11, .int 0, .ref 30]) (h' := (HX (u_s1things_volumes (u_s1things_weights (u_s1things_kinds (u_s1things_count w (a_s2things_count w)) q1349) q1350) q1351) T)) (cs' := 0) (sl' := 0) rfl ?_
  obtain ⟨q1352, hq, h⟩ := ai_bdE h
  refine ev_cpy rfl rfl rfl rfl rfl rfl hq ?_
  rw [HXs_11]
  obtain rfl := Option.some.inj h
  exact ev_end rfl
set_option maxHeartbeats 40000000 in
set_option maxRecDepth 100000 in
theorem Elift_copyFrom_12_31 (w : WX) (w' : WX) (h : Flift_copyFrom_12_31 w = some w') (T : ai_H) : ai_ev D1 mlift_copyFrom 0 [some (.ref 12), some (.ref 31)] [] (HX w T) 0 0 (none, HX w' T) := by
  unfold Flift_copyFrom_12_31 at h
  refine ev_go 3 (pc' := 5) (L' := [some (.ref 12), some (.ref 31)]) (st' := [.int (a_s2lifts_count w), .ref 12]) (h' := (HX w T)) (cs' := 0) (sl' := 0) rfl ?_
  refine ev_step rfl rfl rfl (PFX_1_9_12 rfl) ?_
  refine ev_go 7 (pc' := 20) (L' := [some (.ref 12), some (.ref 31)]) (st' := [.int 10, .int 0, .ref 13, .int 0, .ref 32]) (h' := (HX (u_s1lifts_count w (a_s2lifts_count w)) T)) (cs' := 0) (sl' := 0) rfl ?_
  obtain ⟨q1354, hq, h⟩ := ai_bdE h
  refine ev_cpy rfl rfl rfl rfl rfl rfl hq ?_
  rw [HXs_13]
  refine ev_go 7 (pc' := 35) (L' := [some (.ref 12), some (.ref 31)]) (st' := [.int 10, .int 0, .ref 14, .int 0, .ref 33]) (h' := (HX (u_s1lifts_froms (u_s1lifts_count w (a_s2lifts_count w)) q1354) T)) (cs' := 0) (sl' := 0) rfl ?_
  obtain ⟨q1355, hq, h⟩ := ai_bdE h
  refine ev_cpy rfl rfl rfl rfl rfl rfl hq ?_
  rw [HXs_14]
  refine ev_go 7 (pc' := 50) (L' := [some (.ref 12), some (.ref 31)]) (st' := [.int 10, .int 0, .ref 15, .int 0, .ref 34]) (h' := (HX (u_s1lifts_tos (u_s1lifts_froms (u_s1lifts_count w (a_s2lifts_count w)) q1354) q1355) T)) (cs' := 0) (sl' := 0) rfl ?_
  obtain ⟨q1356, hq, h⟩ := ai_bdE h
  refine ev_cpy rfl rfl rfl rfl rfl rfl hq ?_
  rw [HXs_15]
  obtain rfl := Option.some.inj h
  exact ev_end rfl
set_option maxHeartbeats 40000000 in
set_option maxRecDepth 100000 in
theorem Esea_copyFrom_1_20 (w : WX) (w' : WX) (h : Fsea_copyFrom_1_20 w = some w') (T : ai_H) : ai_ev D1 msea_copyFrom 0 [some (.ref 1), some (.ref 20)] [] (HX w T) 0 0 (none, HX w' T) := by
  unfold Fsea_copyFrom_1_20 at h
  refine ev_go 3 (pc' := 5) (L' := [some (.ref 1), some (.ref 20)]) (st' := [.int (a_s2_cells w), .ref 1]) (h' := (HX w T)) (cs' := 0) (sl' := 0) rfl ?_
  refine ev_step rfl rfl rfl (PFX_2_9_1 rfl) ?_
  refine ev_go 3 (pc' := 13) (L' := [some (.ref 1), some (.ref 20)]) (st' := [.int (a_s2_hour w), .ref 1]) (h' := (HX (u_s1_cells w (a_s2_cells w)) T)) (cs' := 0) (sl' := 0) rfl ?_
  refine ev_step rfl rfl rfl (PFX_2_15_1 rfl) ?_
  refine ev_go 3 (pc' := 21) (L' := [some (.ref 1), some (.ref 20)]) (st' := [.int (a_s2_dams w), .ref 1]) (h' := (HX (u_s1_hour (u_s1_cells w (a_s2_cells w)) (a_s2_hour w)) T)) (cs' := 0) (sl' := 0) rfl ?_
  refine ev_step rfl rfl rfl (PFX_2_18_1 rfl) ?_
  refine ev_go 7 (pc' := 35) (L' := [some (.ref 1), some (.ref 20)]) (st' := [.int 4, .int 0, .ref 2, .int 0, .ref 21]) (h' := (HX (u_s1_dams (u_s1_hour (u_s1_cells w (a_s2_cells w)) (a_s2_hour w)) (a_s2_dams w)) T)) (cs' := 0) (sl' := 0) rfl ?_
  obtain ⟨q1344, hq, h⟩ := ai_bdE h
  refine ev_cpy rfl rfl rfl rfl rfl rfl hq ?_
  rw [HXs_2]
  refine ev_go 7 (pc' := 49) (L' := [some (.ref 1), some (.ref 20)]) (st' := [.int 4, .int 0, .ref 3, .int 0, .ref 22]) (h' := (HX (u_s1_densities (u_s1_dams (u_s1_hour (u_s1_cells w (a_s2_cells w)) (a_s2_hour w)) (a_s2_dams w)) q1344) T)) (cs' := 0) (sl' := 0) rfl ?_
  obtain ⟨q1345, hq, h⟩ := ai_bdE h
  refine ev_cpy rfl rfl rfl rfl rfl rfl hq ?_
  rw [HXs_3]
  refine ev_go 7 (pc' := 64) (L' := [some (.ref 1), some (.ref 20)]) (st' := [.int 24, .int 0, .ref 4, .int 0, .ref 23]) (h' := (HX (u_s1_currents (u_s1_densities (u_s1_dams (u_s1_hour (u_s1_cells w (a_s2_cells w)) (a_s2_hour w)) (a_s2_dams w)) q1344) q1345) T)) (cs' := 0) (sl' := 0) rfl ?_
  obtain ⟨q1346, hq, h⟩ := ai_bdE h
  refine ev_cpy rfl rfl rfl rfl rfl rfl hq ?_
  rw [HXs_4]
  refine ev_go 7 (pc' := 79) (L' := [some (.ref 1), some (.ref 20)]) (st' := [.int 24, .int 0, .ref 5, .int 0, .ref 24]) (h' := (HX (u_s1_tides (u_s1_currents (u_s1_densities (u_s1_dams (u_s1_hour (u_s1_cells w (a_s2_cells w)) (a_s2_hour w)) (a_s2_dams w)) q1344) q1345) q1346) T)) (cs' := 0) (sl' := 0) rfl ?_
  obtain ⟨q1347, hq, h⟩ := ai_bdE h
  refine ev_cpy rfl rfl rfl rfl rfl rfl hq ?_
  rw [HXs_5]
  refine ev_go 7 (pc' := 93) (L' := [some (.ref 1), some (.ref 20)]) (st' := [.int 3, .int 0, .ref 6, .int 0, .ref 25]) (h' := (HX (u_s1_thicks (u_s1_tides (u_s1_currents (u_s1_densities (u_s1_dams (u_s1_hour (u_s1_cells w (a_s2_cells w)) (a_s2_hour w)) (a_s2_dams w)) q1344) q1345) q1346) q1347) T)) (cs' := 0) (sl' := 0) rfl ?_
  obtain ⟨q1348, hq, h⟩ := ai_bdE h
  refine ev_cpy rfl rfl rfl rfl rfl rfl hq ?_
  rw [HXs_6]
  refine ev_go 4 (pc' := 104) (L' := [some (.ref 1), some (.ref 20)]) (st' := [.ref 26, .ref 7]) (h' := (HX (u_s1_skins (u_s1_thicks (u_s1_tides (u_s1_currents (u_s1_densities (u_s1_dams (u_s1_hour (u_s1_cells w (a_s2_cells w)) (a_s2_hour w)) (a_s2_dams w)) q1344) q1345) q1346) q1347) q1348) T)) (cs' := 0) (sl' := 0) rfl ?_
  obtain ⟨c1353, hq, h⟩ := ai_bdE h
  refine ev_call (M' := mthg_copyFrom) (L' := [some (.ref 7), some (.ref 26)]) (rest := []) (rv := none) (h' := (HX c1353 T)) rfl (Ethg_copyFrom_7_26 (u_s1_skins (u_s1_thicks (u_s1_tides (u_s1_currents (u_s1_densities (u_s1_dams (u_s1_hour (u_s1_cells w (a_s2_cells w)) (a_s2_hour w)) (a_s2_dams w)) q1344) q1345) q1346) q1347) q1348) _ hq T) ?_
  show ai_ev D1 msea_copyFrom 107 [some (.ref 1), some (.ref 20)] [] (HX c1353 T) 0 0 _
  refine ev_go 4 (pc' := 115) (L' := [some (.ref 1), some (.ref 20)]) (st' := [.ref 31, .ref 12]) (h' := (HX c1353 T)) (cs' := 0) (sl' := 0) rfl ?_
  obtain ⟨c1357, hq, h⟩ := ai_bdE h
  refine ev_call (M' := mlift_copyFrom) (L' := [some (.ref 12), some (.ref 31)]) (rest := []) (rv := none) (h' := (HX c1357 T)) rfl (Elift_copyFrom_12_31 c1353 _ hq T) ?_
  show ai_ev D1 msea_copyFrom 118 [some (.ref 1), some (.ref 20)] [] (HX c1357 T) 0 0 _
  refine ev_go 3 (pc' := 123) (L' := [some (.ref 1), some (.ref 20)]) (st' := [.int (a_s2_towns c1357), .ref 1]) (h' := (HX c1357 T)) (cs' := 0) (sl' := 0) rfl ?_
  refine ev_step rfl rfl rfl (PFX_2_51_1 rfl) ?_
  refine ev_go 7 (pc' := 138) (L' := [some (.ref 1), some (.ref 20)]) (st' := [.int 6, .int 0, .ref 16, .int 0, .ref 35]) (h' := (HX (u_s1_towns c1357 (a_s2_towns c1357)) T)) (cs' := 0) (sl' := 0) rfl ?_
  obtain ⟨q1358, hq, h⟩ := ai_bdE h
  refine ev_cpy rfl rfl rfl rfl rfl rfl hq ?_
  rw [HXs_16]
  refine ev_go 3 (pc' := 146) (L' := [some (.ref 1), some (.ref 20)]) (st' := [.int (a_s2_drops c1357), .ref 1]) (h' := (HX (u_s1_townPlaces (u_s1_towns c1357 (a_s2_towns c1357)) q1358) T)) (cs' := 0) (sl' := 0) rfl ?_
  refine ev_step rfl rfl rfl (PFX_2_57_1 rfl) ?_
  refine ev_go 7 (pc' := 161) (L' := [some (.ref 1), some (.ref 20)]) (st' := [.int 6, .int 0, .ref 17, .int 0, .ref 36]) (h' := (HX (u_s1_drops (u_s1_townPlaces (u_s1_towns c1357 (a_s2_towns c1357)) q1358) (a_s2_drops c1357)) T)) (cs' := 0) (sl' := 0) rfl ?_
  obtain ⟨q1359, hq, h⟩ := ai_bdE h
  refine ev_cpy rfl rfl rfl rfl rfl rfl hq ?_
  rw [HXs_17]
  refine ev_go 7 (pc' := 176) (L' := [some (.ref 1), some (.ref 20)]) (st' := [.int 6, .int 0, .ref 18, .int 0, .ref 37]) (h' := (HX (u_s1_dropLayers (u_s1_drops (u_s1_townPlaces (u_s1_towns c1357 (a_s2_towns c1357)) q1358) (a_s2_drops c1357)) q1359) T)) (cs' := 0) (sl' := 0) rfl ?_
  obtain ⟨q1360, hq, h⟩ := ai_bdE h
  refine ev_cpy rfl rfl rfl rfl rfl rfl hq ?_
  rw [HXs_18]
  refine ev_go 3 (pc' := 184) (L' := [some (.ref 1), some (.ref 20)]) (st' := [.int (a_s2_undos c1357), .ref 1]) (h' := (HX (u_s1_dropFloats (u_s1_dropLayers (u_s1_drops (u_s1_townPlaces (u_s1_towns c1357 (a_s2_towns c1357)) q1358) (a_s2_drops c1357)) q1359) q1360) T)) (cs' := 0) (sl' := 0) rfl ?_
  refine ev_step rfl rfl rfl (PFX_2_66_1 rfl) ?_
  refine ev_go 7 (pc' := 199) (L' := [some (.ref 1), some (.ref 20)]) (st' := [.int 10, .int 0, .ref 19, .int 0, .ref 38]) (h' := (HX (u_s1_undos (u_s1_dropFloats (u_s1_dropLayers (u_s1_drops (u_s1_townPlaces (u_s1_towns c1357 (a_s2_towns c1357)) q1358) (a_s2_drops c1357)) q1359) q1360) (a_s2_undos c1357)) T)) (cs' := 0) (sl' := 0) rfl ?_
  obtain ⟨q1361, hq, h⟩ := ai_bdE h
  refine ev_cpy rfl rfl rfl rfl rfl rfl hq ?_
  rw [HXs_19]
  obtain rfl := Option.some.inj h
  exact ev_end rfl
set_option maxHeartbeats 40000000 in
set_option maxRecDepth 100000 in
theorem Ef_read_0 (n : Nat) (w : WX) (r : Int32) (w' : WX) (h : Ff_read_0 n w = some (r, w')) (T : ai_H) : ai_ev D1 mf_read 0 [some (.ref 0), none] [] (HX w T) 0 0 (some (.int r), HX w' T) := by
  unfold Ff_read_0 at h
  refine ev_go 4 (pc' := 8) (L' := [some (.ref 0), none]) (st' := [.ref 20, .ref 78]) (h' := (HX w T)) (cs' := 0) (sl' := 0) rfl ?_
  obtain ⟨c1343, hq, h⟩ := ai_bdE h
  refine ev_call (M' := mtxt_tell) (L' := [some (.ref 78), some (.ref 20), none, none, none, none]) (rest := []) (rv := some (.int c1343.1)) (h' := (HX c1343.2 T)) rfl (Etxt_tell_78_20 n w _ _ hq T) ?_
  show ai_ev D1 mf_read 11 [some (.ref 0), none] [.int c1343.1] (HX c1343.2 T) 0 0 _
  refine ev_go 3 (pc' := 14) (L' := [some (.ref 0), some (.int c1343.1)]) (st' := [.int (-1), .int c1343.1]) (h' := (HX c1343.2 T)) (cs' := 0) (sl' := 0) rfl ?_
  rcases ai_ifE h with ⟨hc, h⟩ | ⟨hc, h⟩
  · refine ev_ic_eq (t := 22) rfl rfl (fun _ => ?_) (fun c9 => absurd hc c9)
    refine ev_go 4 (pc' := 30) (L' := [some (.ref 0), some (.int c1343.1)]) (st' := [.int (-1), .int (a_text_refusedItem c1343.2)]) (h' := (HX c1343.2 T)) (cs' := 0) (sl' := 0) rfl ?_
    rcases ai_ifE h with ⟨hc, h⟩ | ⟨hc, h⟩
    · refine ev_ic_eq (t := 45) rfl rfl (fun _ => ?_) (fun c9 => absurd hc c9)
      refine ev_go 4 (pc' := 53) (L' := [some (.ref 0), some (.int c1343.1)]) (st' := [.ref 20, .ref 1]) (h' := (HX c1343.2 T)) (cs' := 0) (sl' := 0) rfl ?_
      obtain ⟨c1362, hq, h⟩ := ai_bdE h
      refine ev_call (M' := msea_copyFrom) (L' := [some (.ref 1), some (.ref 20)]) (rest := []) (rv := none) (h' := (HX c1362 T)) rfl (Esea_copyFrom_1_20 c1343.2 _ hq T) ?_
      show ai_ev D1 mf_read 56 [some (.ref 0), some (.int c1343.1)] [] (HX c1362 T) 0 0 _
      refine ev_go 3 (pc' := 63) (L' := [some (.ref 0), some (.int c1343.1)]) (st' := [.int (a_text_items c1362)]) (h' := (HX c1362 T)) (cs' := 0) (sl' := 0) rfl ?_
      obtain ⟨rfl, rfl⟩ := ai_smP h
      exact ev_end rfl
    · refine ev_ic_eq (t := 45) rfl rfl (fun c9 => absurd c9 hc) (fun _ => ?_)
      refine ev_go 5 (pc' := 44) (L' := [some (.ref 0), some (.int c1343.1)]) (st' := [.int ((-1000) - (a_text_refusedItem c1343.2))]) (h' := (HX c1343.2 T)) (cs' := 0) (sl' := 0) rfl ?_
      obtain ⟨rfl, rfl⟩ := ai_smP h
      exact ev_end rfl
  · refine ev_ic_eq (t := 22) rfl rfl (fun c9 => absurd c9 hc) (fun _ => ?_)
    refine ev_go 3 (pc' := 21) (L' := [some (.ref 0), some (.int c1343.1)]) (st' := [.int ((-10) - c1343.1)]) (h' := (HX c1343.2 T)) (cs' := 0) (sl' := 0) rfl ?_
    obtain ⟨rfl, rfl⟩ := ai_smP h
    exact ev_end rfl
set_option maxHeartbeats 40000000 in
set_option maxRecDepth 100000 in
theorem Esea_goOn_1 (x1364 : Int32) (w : WX) (r : Int32) (w' : WX) (h : Fsea_goOn_1 x1364 w = some (r, w')) (T : ai_H) : ai_ev D1 msea_goOn 0 [some (.ref 1), some (.int x1364)] [] (HX w T) 0 0 (some (.int r), HX w' T) := by
  unfold Fsea_goOn_1 at h
  refine ev_go 3 (pc' := 4) (L' := [some (.ref 1), some (.int x1364)]) (st' := [.int 99, .int 1, .int x1364]) (h' := (HX w T)) (cs' := 0) (sl' := 0) rfl ?_
  obtain ⟨c1365, hq, h⟩ := ai_bdE h
  refine ev_call (M' := mf_within) (L' := [some (.int x1364), some (.int 1), some (.int 99)]) (rest := []) (rv := some (.int c1365)) (h' := (HX w T)) rfl (Ef_within x1364 1 99 _ hq (HX w T)) ?_
  show ai_ev D1 msea_goOn 7 [some (.ref 1), some (.int x1364)] [.int c1365] (HX w T) 0 0 _
  rcases ai_ifE h with ⟨hc, h⟩ | ⟨hc, h⟩
  · refine ev_if_ne (t := 13) rfl rfl (fun c9 => absurd hc c9) (fun _ => ?_)
    refine ev_go 1 (pc' := 12) (L' := [some (.ref 1), some (.int x1364)]) (st' := [.int (-2)]) (h' := (HX w T)) (cs' := 0) (sl' := 0) rfl ?_
    obtain ⟨rfl, rfl⟩ := ai_smP h
    exact ev_end rfl
  · refine ev_if_ne (t := 13) rfl rfl (fun _ => ?_) (fun c9 => absurd c9 hc)
    refine ev_go 5 (pc' := 22) (L' := [some (.ref 1), some (.int x1364)]) (st' := [.int 999, .int ((a_s1_hour w) + x1364)]) (h' := (HX w T)) (cs' := 0) (sl' := 0) rfl ?_
    rcases ai_ifE h with ⟨hc, h⟩ | ⟨hc, h⟩
    · refine ev_ic_le (t := 28) rfl rfl (fun _ => ?_) (fun c9 => absurd hc c9)
      refine ev_go 3 (pc' := 34) (L' := [some (.ref 1), some (.int x1364)]) (st' := [.int 10, .int (a_s1_undos w)]) (h' := (HX w T)) (cs' := 0) (sl' := 0) rfl ?_
      rcases ai_ifE h with ⟨hc, h⟩ | ⟨hc, h⟩
      · refine ev_ic_lt (t := 58) rfl rfl (fun _ => ?_) (fun c9 => absurd hc c9)
        refine ev_go 6 (pc' := 70) (L' := [some (.ref 1), some (.int x1364)]) (st' := [.int (a_s1_hour w), .int (a_s1_undos w), .ref 19]) (h' := (HX w T)) (cs' := 0) (sl' := 0) rfl ?_
        obtain ⟨q1366, hq, h⟩ := ai_bdE h
        refine ev_iast rfl rfl hq ?_
        rw [HXs_19]
        refine ev_go 5 (pc' := 78) (L' := [some (.ref 1), some (.int x1364)]) (st' := [.int ((a_s1_undos w) + 1), .ref 1]) (h' := (HX (u_s1_hoursBefore w q1366) T)) (cs' := 0) (sl' := 0) rfl ?_
        refine ev_step rfl rfl rfl (PFX_2_66_1 rfl) ?_
        refine ev_go 5 (pc' := 88) (L' := [some (.ref 1), some (.int x1364)]) (st' := [.int ((a_s1_hour w) + x1364), .ref 1]) (h' := (HX (u_s1_undos (u_s1_hoursBefore w q1366) ((a_s1_undos w) + 1)) T)) (cs' := 0) (sl' := 0) rfl ?_
        refine ev_step rfl rfl rfl (PFX_2_15_1 rfl) ?_
        refine ev_go 2 (pc' := 95) (L' := [some (.ref 1), some (.int x1364)]) (st' := [.int ((a_s1_hour w) + x1364)]) (h' := (HX (u_s1_hour (u_s1_undos (u_s1_hoursBefore w q1366) ((a_s1_undos w) + 1)) ((a_s1_hour w) + x1364)) T)) (cs' := 0) (sl' := 0) rfl ?_
        obtain ⟨rfl, rfl⟩ := ai_smP h
        exact ev_end rfl
      · refine ev_ic_lt (t := 58) rfl rfl (fun c9 => absurd c9 hc) (fun _ => ?_)
        refine ev_go 7 (pc' := 49) (L' := [some (.ref 1), some (.int x1364)]) (st' := [.int 9, .int 0, .ref 19, .int 1, .ref 19]) (h' := (HX w T)) (cs' := 0) (sl' := 0) rfl ?_
        obtain ⟨q1367, hq, h⟩ := ai_bdE h
        refine ev_cpy rfl rfl rfl rfl rfl rfl hq ?_
        rw [HXs_19]
        refine ev_go 2 (pc' := 55) (L' := [some (.ref 1), some (.int x1364)]) (st' := [.int 9, .ref 1]) (h' := (HX (u_s1_hoursBefore w q1367) T)) (cs' := 0) (sl' := 0) rfl ?_
        refine ev_step rfl rfl rfl (PFX_2_66_1 rfl) ?_
        refine ev_go 6 (pc' := 70) (L' := [some (.ref 1), some (.int x1364)]) (st' := [.int (a_s1_hour w), .int 9, .ref 19]) (h' := (HX (u_s1_undos (u_s1_hoursBefore w q1367) 9) T)) (cs' := 0) (sl' := 0) rfl ?_
        obtain ⟨q1368, hq, h⟩ := ai_bdE h
        refine ev_iast rfl rfl hq ?_
        rw [HXs_19]
        refine ev_go 5 (pc' := 78) (L' := [some (.ref 1), some (.int x1364)]) (st' := [.int 10, .ref 1]) (h' := (HX (u_s1_hoursBefore (u_s1_undos (u_s1_hoursBefore w q1367) 9) q1368) T)) (cs' := 0) (sl' := 0) rfl ?_
        refine ev_step rfl rfl rfl (PFX_2_66_1 rfl) ?_
        refine ev_go 5 (pc' := 88) (L' := [some (.ref 1), some (.int x1364)]) (st' := [.int ((a_s1_hour w) + x1364), .ref 1]) (h' := (HX (u_s1_undos (u_s1_hoursBefore (u_s1_undos (u_s1_hoursBefore w q1367) 9) q1368) 10) T)) (cs' := 0) (sl' := 0) rfl ?_
        refine ev_step rfl rfl rfl (PFX_2_15_1 rfl) ?_
        refine ev_go 2 (pc' := 95) (L' := [some (.ref 1), some (.int x1364)]) (st' := [.int ((a_s1_hour w) + x1364)]) (h' := (HX (u_s1_hour (u_s1_undos (u_s1_hoursBefore (u_s1_undos (u_s1_hoursBefore w q1367) 9) q1368) 10) ((a_s1_hour w) + x1364)) T)) (cs' := 0) (sl' := 0) rfl ?_
        obtain ⟨rfl, rfl⟩ := ai_smP h
        exact ev_end rfl
    · refine ev_ic_le (t := 28) rfl rfl (fun c9 => absurd c9 hc) (fun _ => ?_)
      refine ev_go 1 (pc' := 27) (L' := [some (.ref 1), some (.int x1364)]) (st' := [.int (-3)]) (h' := (HX w T)) (cs' := 0) (sl' := 0) rfl ?_
      obtain ⟨rfl, rfl⟩ := ai_smP h
      exact ev_end rfl
set_option maxHeartbeats 40000000 in
set_option maxRecDepth 100000 in
theorem Ef_hours_0 (x1363 : Int32) (w : WX) (r : Int32) (w' : WX) (h : Ff_hours_0 x1363 w = some (r, w')) (T : ai_H) : ai_ev D1 mf_hours 0 [some (.ref 0), some (.int x1363)] [] (HX w T) 0 0 (some (.int r), HX w' T) := by
  unfold Ff_hours_0 at h
  refine ev_go 4 (pc' := 6) (L' := [some (.ref 0), some (.int x1363)]) (st' := [.int x1363, .ref 1, .ref 0]) (h' := (HX w T)) (cs' := 0) (sl' := 0) rfl ?_
  obtain ⟨c1369, hq, h⟩ := ai_bdE h
  refine ev_call (M' := msea_goOn) (L' := [some (.ref 1), some (.int x1363)]) (rest := [.ref 0]) (rv := some (.int c1369.1)) (h' := (HX c1369.2 T)) rfl (Esea_goOn_1 x1363 w _ _ hq T) ?_
  show ai_ev D1 mf_hours 9 [some (.ref 0), some (.int x1363)] [.int c1369.1, .ref 0] (HX c1369.2 T) 0 0 _
  obtain ⟨c1370, hq, h⟩ := ai_bdE h
  refine ev_call (M' := mf_counted) (L' := [some (.ref 0), some (.int c1369.1)]) (rest := []) (rv := some (.int c1370.1)) (h' := (HX c1370.2 T)) rfl (Ef_counted_0 c1369.1 c1369.2 _ _ hq T) ?_
  show ai_ev D1 mf_hours 12 [some (.ref 0), some (.int x1363)] [.int c1370.1] (HX c1370.2 T) 0 0 _
  obtain ⟨rfl, rfl⟩ := ai_smP h
  exact ev_end rfl
set_option maxHeartbeats 40000000 in
set_option maxRecDepth 100000 in
theorem Esea_goBack_1 (w : WX) (r : Int32) (w' : WX) (h : Fsea_goBack_1 w = some (r, w')) (T : ai_H) : ai_ev D1 msea_goBack 0 [some (.ref 1)] [] (HX w T) 0 0 (some (.int r), HX w' T) := by
  unfold Fsea_goBack_1 at h
  refine ev_go 2 (pc' := 4) (L' := [some (.ref 1)]) (st' := [.int (a_s1_undos w)]) (h' := (HX w T)) (cs' := 0) (sl' := 0) rfl ?_
  rcases ai_ifE h with ⟨hc, h⟩ | ⟨hc, h⟩
  · refine ev_if_gt (t := 10) rfl rfl (fun _ => ?_) (fun c9 => absurd hc c9)
    refine ev_go 5 (pc' := 17) (L' := [some (.ref 1)]) (st' := [.int ((a_s1_undos w) - 1), .ref 1]) (h' := (HX w T)) (cs' := 0) (sl' := 0) rfl ?_
    refine ev_step rfl rfl rfl (PFX_2_66_1 rfl) ?_
    refine ev_go 5 (pc' := 29) (L' := [some (.ref 1)]) (st' := [.int ((a_s1_undos w) - 1), .ref 19, .ref 1]) (h' := (HX (u_s1_undos w ((a_s1_undos w) - 1)) T)) (cs' := 0) (sl' := 0) rfl ?_
    obtain ⟨v1371, hq, h⟩ := ai_bdE h
    refine ev_iald rfl rfl hq ?_
    refine ev_step rfl rfl rfl (PFX_2_15_1 rfl) ?_
    refine ev_go 1 (pc' := 34) (L' := [some (.ref 1)]) (st' := [.int 1]) (h' := (HX (u_s1_hour (u_s1_undos w ((a_s1_undos w) - 1)) v1371) T)) (cs' := 0) (sl' := 0) rfl ?_
    obtain ⟨rfl, rfl⟩ := ai_smP h
    exact ev_end rfl
  · refine ev_if_gt (t := 10) rfl rfl (fun c9 => absurd c9 hc) (fun _ => ?_)
    refine ev_go 1 (pc' := 9) (L' := [some (.ref 1)]) (st' := [.int (-3)]) (h' := (HX w T)) (cs' := 0) (sl' := 0) rfl ?_
    obtain ⟨rfl, rfl⟩ := ai_smP h
    exact ev_end rfl
set_option maxHeartbeats 40000000 in
set_option maxRecDepth 100000 in
theorem Ef_undo_0 (w : WX) (r : Int32) (w' : WX) (h : Ff_undo_0 w = some (r, w')) (T : ai_H) : ai_ev D1 mf_undo 0 [some (.ref 0)] [] (HX w T) 0 0 (some (.int r), HX w' T) := by
  unfold Ff_undo_0 at h
  refine ev_go 3 (pc' := 5) (L' := [some (.ref 0)]) (st' := [.ref 1, .ref 0]) (h' := (HX w T)) (cs' := 0) (sl' := 0) rfl ?_
  obtain ⟨c1372, hq, h⟩ := ai_bdE h
  refine ev_call (M' := msea_goBack) (L' := [some (.ref 1)]) (rest := [.ref 0]) (rv := some (.int c1372.1)) (h' := (HX c1372.2 T)) rfl (Esea_goBack_1 w _ _ hq T) ?_
  show ai_ev D1 mf_undo 8 [some (.ref 0)] [.int c1372.1, .ref 0] (HX c1372.2 T) 0 0 _
  obtain ⟨c1373, hq, h⟩ := ai_bdE h
  refine ev_call (M' := mf_counted) (L' := [some (.ref 0), some (.int c1372.1)]) (rest := []) (rv := some (.int c1373.1)) (h' := (HX c1373.2 T)) rfl (Ef_counted_0 c1372.1 c1372.2 _ _ hq T) ?_
  show ai_ev D1 mf_undo 11 [some (.ref 0)] [.int c1373.1] (HX c1373.2 T) 0 0 _
  obtain ⟨rfl, rfl⟩ := ai_smP h
  exact ev_end rfl
set_option maxHeartbeats 40000000 in
set_option maxRecDepth 100000 in
theorem Efall_weightOf (x1392 : Int32) (x1393 : Int32) (x1394 : Int32) (x1395 : Int32) (r : Int32) (h : Ffall_weightOf x1392 x1393 x1394 x1395 = some r) (hh : ai_H) : ai_ev D1 mfall_weightOf 0 [some (.int x1392), some (.int x1393), some (.int x1394), some (.int x1395)] [] hh 0 0 (some (.int r), hh) := by
  unfold Ffall_weightOf at h
  refine ev_go 1 (pc' := 1) (L' := [some (.int x1392), some (.int x1393), some (.int x1394), some (.int x1395)]) (st' := [.int x1392]) (h' := hh) (cs' := 0) (sl' := 0) rfl ?_
  rcases ai_ifE h with ⟨hc, h⟩ | ⟨hs1, h⟩
  · refine ev_swi (k := 1) (t := 28) rfl hc (by decide) (by decide) rfl rfl ?_
    refine ev_go 3 (pc' := 31) (L' := [some (.int x1392), some (.int x1393), some (.int x1394), some (.int x1395)]) (st' := [.int (x1393 + x1394)]) (h' := hh) (cs' := 0) (sl' := 0) rfl ?_
    obtain rfl := Option.some.inj h
    exact ev_end rfl
  rcases ai_ifE h with ⟨hc, h⟩ | ⟨hs2, h⟩
  · refine ev_swi (k := 2) (t := 28) rfl hc (by decide) (by decide) rfl rfl ?_
    refine ev_go 3 (pc' := 31) (L' := [some (.int x1392), some (.int x1393), some (.int x1394), some (.int x1395)]) (st' := [.int (x1393 + x1394)]) (h' := hh) (cs' := 0) (sl' := 0) rfl ?_
    obtain rfl := Option.some.inj h
    exact ev_end rfl
  rcases ai_ifE h with ⟨hc, h⟩ | ⟨hs3, h⟩
  · refine ev_swi (k := 3) (t := 32) rfl hc (by decide) (by decide) rfl rfl ?_
    refine ev_go 9 (pc' := 44) (L' := [some (.int x1392), some (.int x1393), some (.int x1394), some (.int x1395)]) (st' := [.int ((x1393 + x1394) + (2 * (if 10 < x1395 then 10 else x1395)))]) (h' := hh) (cs' := 0) (sl' := 0) rfl ?_
    obtain rfl := Option.some.inj h
    exact ev_end rfl
  refine ev_swo (t := 45) (lo := 1) (n := 3) rfl (sw_out 1 3 (fun k hk => by match k, hk with | 0, _ => exact hs1 | 1, _ => exact hs2 | 2, _ => exact hs3 | k + 3, hk => exact absurd hk (by omega))) ⟨rfl, by decide⟩ rfl ?_
  refine ev_go 1 (pc' := 46) (L' := [some (.int x1392), some (.int x1393), some (.int x1394), some (.int x1395)]) (st' := [.int x1393]) (h' := hh) (cs' := 0) (sl' := 0) rfl ?_
  obtain rfl := Option.some.inj h
  exact ev_end rfl
set_option maxHeartbeats 40000000 in
set_option maxRecDepth 100000 in
theorem Efall_roomOf (x1397 : Int32) (x1398 : Int32) (x1399 : Int32) (r : Int32) (h : Ffall_roomOf x1397 x1398 x1399 = some r) (hh : ai_H) : ai_ev D1 mfall_roomOf 0 [some (.int x1397), some (.int x1398), some (.int x1399)] [] hh 0 0 (some (.int r), hh) := by
  unfold Ffall_roomOf at h
  refine ev_go 1 (pc' := 1) (L' := [some (.int x1397), some (.int x1398), some (.int x1399)]) (st' := [.int x1397]) (h' := hh) (cs' := 0) (sl' := 0) rfl ?_
  rcases ai_ifE h with ⟨hc, h⟩ | ⟨hs2, h⟩
  · refine ev_swi (k := 2) (t := 28) rfl hc (by decide) (by decide) rfl rfl ?_
    refine ev_go 3 (pc' := 31) (L' := [some (.int x1397), some (.int x1398), some (.int x1399)]) (st' := [.int (x1398 + 1)]) (h' := hh) (cs' := 0) (sl' := 0) rfl ?_
    obtain rfl := Option.some.inj h
    exact ev_end rfl
  rcases ai_ifE h with ⟨hc, h⟩ | ⟨hs3, h⟩
  · refine ev_swi (k := 3) (t := 28) rfl hc (by decide) (by decide) rfl rfl ?_
    refine ev_go 3 (pc' := 31) (L' := [some (.int x1397), some (.int x1398), some (.int x1399)]) (st' := [.int (x1398 + 1)]) (h' := hh) (cs' := 0) (sl' := 0) rfl ?_
    obtain rfl := Option.some.inj h
    exact ev_end rfl
  rcases ai_ifE h with ⟨hc, h⟩ | ⟨hs4, h⟩
  · refine ev_swi (k := 4) (t := 32) rfl hc (by decide) (by decide) rfl rfl ?_
    refine ev_go 7 (pc' := 41) (L' := [some (.int x1397), some (.int x1398), some (.int x1399)]) (st' := [.int (x1398 + (if 5 < (x1399 / 4) then 5 else (x1399 / 4)))]) (h' := hh) (cs' := 0) (sl' := 0) rfl ?_
    obtain rfl := Option.some.inj h
    exact ev_end rfl
  refine ev_swo (t := 42) (lo := 2) (n := 3) rfl (sw_out 2 3 (fun k hk => by match k, hk with | 0, _ => exact hs2 | 1, _ => exact hs3 | 2, _ => exact hs4 | k + 3, hk => exact absurd hk (by omega))) ⟨rfl, by decide⟩ rfl ?_
  refine ev_go 1 (pc' := 43) (L' := [some (.int x1397), some (.int x1398), some (.int x1399)]) (st' := [.int x1398]) (h' := hh) (cs' := 0) (sl' := 0) rfl ?_
  obtain rfl := Option.some.inj h
  exact ev_end rfl
set_option maxHeartbeats 40000000 in
set_option maxRecDepth 100000 in
theorem Efall_forceOf (x1401 : Int32) (x1402 : Int32) (r : Int32) (h : Ffall_forceOf x1401 x1402 = some r) (hh : ai_H) : ai_ev D1 mfall_forceOf 0 [some (.int x1401), some (.int x1402)] [] hh 0 0 (some (.int r), hh) := by
  unfold Ffall_forceOf at h
  refine ev_go 1 (pc' := 1) (L' := [some (.int x1401), some (.int x1402)]) (st' := [.int x1401]) (h' := hh) (cs' := 0) (sl' := 0) rfl ?_
  rcases ai_ifE h with ⟨hc, h⟩ | ⟨hs2, h⟩
  · refine ev_swi (k := 2) (t := 32) rfl hc (by decide) (by decide) rfl rfl ?_
    refine ev_go 3 (pc' := 35) (L' := [some (.int x1401), some (.int x1402)]) (st' := [.int (x1402 / 2)]) (h' := hh) (cs' := 0) (sl' := 0) rfl ?_
    obtain rfl := Option.some.inj h
    exact ev_end rfl
  rcases ai_ifE h with ⟨hc, h⟩ | ⟨hs3, h⟩
  · refine ev_swi (k := 3) (t := 36) rfl hc (by decide) (by decide) rfl rfl ?_
    refine ev_go 1 (pc' := 38) (L' := [some (.int x1401), some (.int x1402)]) (st' := [.int 100]) (h' := hh) (cs' := 0) (sl' := 0) rfl ?_
    obtain rfl := Option.some.inj h
    exact ev_end rfl
  rcases ai_ifE h with ⟨hc, h⟩ | ⟨hs4, h⟩
  · refine ev_swi (k := 4) (t := 41) rfl hc (by decide) (by decide) rfl rfl ?_
    refine ev_go 1 (pc' := 42) (L' := [some (.int x1401), some (.int x1402)]) (st' := [.int x1402]) (h' := hh) (cs' := 0) (sl' := 0) rfl ?_
    obtain rfl := Option.some.inj h
    exact ev_end rfl
  rcases ai_ifE h with ⟨hc, h⟩ | ⟨hs5, h⟩
  · refine ev_swi (k := 5) (t := 39) rfl hc (by decide) (by decide) rfl rfl ?_
    refine ev_go 1 (pc' := 40) (L' := [some (.int x1401), some (.int x1402)]) (st' := [.int 0]) (h' := hh) (cs' := 0) (sl' := 0) rfl ?_
    obtain rfl := Option.some.inj h
    exact ev_end rfl
  refine ev_swo (t := 41) (lo := 2) (n := 4) rfl (sw_out 2 4 (fun k hk => by match k, hk with | 0, _ => exact hs2 | 1, _ => exact hs3 | 2, _ => exact hs4 | 3, _ => exact hs5 | k + 4, hk => exact absurd hk (by omega))) ⟨rfl, by decide⟩ rfl ?_
  refine ev_go 1 (pc' := 42) (L' := [some (.int x1401), some (.int x1402)]) (st' := [.int x1402]) (h' := hh) (cs' := 0) (sl' := 0) rfl ?_
  obtain rfl := Option.some.inj h
  exact ev_end rfl
set_option maxHeartbeats 40000000 in
set_option maxRecDepth 100000 in
theorem Efall_shape_81 (x1387 : Int32) (x1388 : Int32) (x1389 : Int32) (x1390 : Int32) (x1391 : Int32) (w : WX) (w' : WX) (h : Ffall_shape_81 x1387 x1388 x1389 x1390 x1391 w = some w') (T : ai_H) : ai_ev D1 mfall_shape 0 [some (.ref 81), some (.int x1387), some (.int x1388), some (.int x1389), some (.int x1390), some (.int x1391)] [] (HX w T) 0 0 (none, HX w' T) := by
  unfold Ffall_shape_81 at h
  refine ev_go 5 (pc' := 7) (L' := [some (.ref 81), some (.int x1387), some (.int x1388), some (.int x1389), some (.int x1390), some (.int x1391)]) (st' := [.int x1391, .int x1390, .int x1388, .int x1387, .ref 81]) (h' := (HX w T)) (cs' := 0) (sl' := 0) rfl ?_
  obtain ⟨c1396, hq, h⟩ := ai_bdE h
  refine ev_call (M' := mfall_weightOf) (L' := [some (.int x1387), some (.int x1388), some (.int x1390), some (.int x1391)]) (rest := [.ref 81]) (rv := some (.int c1396)) (h' := (HX w T)) rfl (Efall_weightOf x1387 x1388 x1390 x1391 _ hq (HX w T)) ?_
  show ai_ev D1 mfall_shape 10 [some (.ref 81), some (.int x1387), some (.int x1388), some (.int x1389), some (.int x1390), some (.int x1391)] [.int c1396, .ref 81] (HX w T) 0 0 _
  refine ev_step rfl rfl rfl (PFX_0_9_81 rfl) ?_
  refine ev_go 4 (pc' := 18) (L' := [some (.ref 81), some (.int x1387), some (.int x1388), some (.int x1389), some (.int x1390), some (.int x1391)]) (st' := [.int x1391, .int x1389, .int x1387, .ref 81]) (h' := (HX (u_fall_weighs w c1396) T)) (cs' := 0) (sl' := 0) rfl ?_
  obtain ⟨c1400, hq, h⟩ := ai_bdE h
  refine ev_call (M' := mfall_roomOf) (L' := [some (.int x1387), some (.int x1389), some (.int x1391)]) (rest := [.ref 81]) (rv := some (.int c1400)) (h' := (HX (u_fall_weighs w c1396) T)) rfl (Efall_roomOf x1387 x1389 x1391 _ hq (HX (u_fall_weighs w c1396) T)) ?_
  show ai_ev D1 mfall_shape 21 [some (.ref 81), some (.int x1387), some (.int x1388), some (.int x1389), some (.int x1390), some (.int x1391)] [.int c1400, .ref 81] (HX (u_fall_weighs w c1396) T) 0 0 _
  refine ev_step rfl rfl rfl (PFX_0_15_81 rfl) ?_
  refine ev_go 4 (pc' := 30) (L' := [some (.ref 81), some (.int x1387), some (.int x1388), some (.int x1389), some (.int x1390), some (.int x1391)]) (st' := [.int c1396, .int x1387, .ref 81]) (h' := (HX (u_fall_room (u_fall_weighs w c1396) c1400) T)) (cs' := 0) (sl' := 0) rfl ?_
  obtain ⟨c1403, hq, h⟩ := ai_bdE h
  refine ev_call (M' := mfall_forceOf) (L' := [some (.int x1387), some (.int c1396)]) (rest := [.ref 81]) (rv := some (.int c1403)) (h' := (HX (u_fall_room (u_fall_weighs w c1396) c1400) T)) rfl (Efall_forceOf x1387 c1396 _ hq (HX (u_fall_room (u_fall_weighs w c1396) c1400) T)) ?_
  show ai_ev D1 mfall_shape 33 [some (.ref 81), some (.int x1387), some (.int x1388), some (.int x1389), some (.int x1390), some (.int x1391)] [.int c1403, .ref 81] (HX (u_fall_room (u_fall_weighs w c1396) c1400) T) 0 0 _
  refine ev_step rfl rfl rfl (PFX_0_18_81 rfl) ?_
  obtain rfl := Option.some.inj h
  exact ev_end rfl
