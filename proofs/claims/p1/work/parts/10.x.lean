theorem Eimg0 {x : Int32} (h : x = 0) (w : WX) (T : ai_H) : ai_ev D1 mf_imageAt 0 [some (.ref 0), some (.int x)] [] (HX w T) 0 0 (some (.ref 39), HX w T) := by
  refine ev_go 1 (pc' := 1) (L' := [some (.ref 0), some (.int x)]) (st' := [.int x]) (h' := HX w T) (cs' := 0) (sl' := 0) rfl ?_
  refine ev_if_ne (t := 11) rfl rfl (fun c9 => absurd h c9) (fun _ => ?_)
  refine ev_go 3 (pc' := 15) (L' := [some (.ref 0), some (.int x)]) (st' := [.ref 39]) (h' := HX w T) (cs' := 0) (sl' := 0) rfl ?_
  exact ev_end rfl
theorem Eimg1 {x : Int32} (h : ¬ x = 0) (w : WX) (T : ai_H) : ai_ev D1 mf_imageAt 0 [some (.ref 0), some (.int x)] [] (HX w T) 0 0 (some (.ref 58), HX w T) := by
  refine ev_go 1 (pc' := 1) (L' := [some (.ref 0), some (.int x)]) (st' := [.int x]) (h' := HX w T) (cs' := 0) (sl' := 0) rfl ?_
  refine ev_if_ne (t := 11) rfl rfl (fun _ => ?_) (fun c9 => absurd c9 h)
  refine ev_go 2 (pc' := 15) (L' := [some (.ref 0), some (.int x)]) (st' := [.ref 58]) (h' := HX w T) (cs' := 0) (sl' := 0) rfl ?_
  exact ev_end rfl
