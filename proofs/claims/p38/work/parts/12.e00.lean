set_option maxHeartbeats 40000000 in
set_option maxRecDepth 100000 in
theorem Em_in (x4 : Int64) (x5 : Int64) (x6 : Int64) (r : Int32) (h : Fm_in x4 x5 x6 = some r) (hh : ai_H) : ai_ev D1 mm_in 0 [some (.long x4), none, some (.long x5), none, some (.long x6), none] [] hh 0 0 (some (.int r), hh) := by
  unfold Fm_in at h
  refine ev_go 3 (pc' := 3) (L' := [some (.long x4), none, some (.long x5), none, some (.long x6), none]) (st' := [.int (lg_cmp x4 x5)]) (h' := hh) (cs' := 0) (sl' := 0) rfl ?_
  rcases ai_ifE h with ⟨hc, h⟩ | ⟨hc, h⟩
  · refine ev_if_lt (t := 17) rfl rfl (fun _ => ?_) (fun c9 => absurd hc c9)
    refine ev_go 1 (pc' := 18) (L' := [some (.long x4), none, some (.long x5), none, some (.long x6), none]) (st' := [.int 0]) (h' := hh) (cs' := 0) (sl' := 0) rfl ?_
    obtain rfl := Option.some.inj h
    exact ev_end rfl
  · refine ev_if_lt (t := 17) rfl rfl (fun c9 => absurd c9 hc) (fun _ => ?_)
    refine ev_go 3 (pc' := 10) (L' := [some (.long x4), none, some (.long x5), none, some (.long x6), none]) (st' := [.int (lg_cmp x4 x6)]) (h' := hh) (cs' := 0) (sl' := 0) rfl ?_
    rcases ai_ifE h with ⟨hc, h⟩ | ⟨hc, h⟩
    · refine ev_if_gt (t := 17) rfl rfl (fun _ => ?_) (fun c9 => absurd hc c9)
      refine ev_go 1 (pc' := 18) (L' := [some (.long x4), none, some (.long x5), none, some (.long x6), none]) (st' := [.int 0]) (h' := hh) (cs' := 0) (sl' := 0) rfl ?_
      obtain rfl := Option.some.inj h
      exact ev_end rfl
    · refine ev_if_gt (t := 17) rfl rfl (fun c9 => absurd c9 hc) (fun _ => ?_)
      refine ev_go 2 (pc' := 18) (L' := [some (.long x4), none, some (.long x5), none, some (.long x6), none]) (st' := [.int 1]) (h' := hh) (cs' := 0) (sl' := 0) rfl ?_
      obtain rfl := Option.some.inj h
      exact ev_end rfl
set_option maxHeartbeats 40000000 in
set_option maxRecDepth 100000 in
theorem EGm_begins_89 : ∀ n : Nat, (∀ (y11 : Int32) (y12 : Int32) (y13 : Int32) (w : WM) (w' : WM), Gm_begins_89 n 0 y11 y12 y13 w = some w' → ∀ (P : Nat → ai_E) (T : ai_H), ai_ev D1 mm_begins 2 [some (.ref 89), some (.int y11), some (.int y12), some (.int y13)] [] (HM P w T) 0 0 (none, HM P w' T)) ∧ (∀ (y20 : Int32) (y21 : Int32) (y22 : Int32) (w : WM) (w' : WM), Gm_begins_89 n 1 y20 y21 y22 w = some w' → ∀ (P : Nat → ai_E) (T : ai_H), ai_ev D1 mm_begins 85 [some (.ref 89), some (.int y20), some (.int y21), some (.int y22)] [] (HM P w T) 0 0 (none, HM P w' T)) := by
  intro n
  induction n with
  | zero =>
    exact ⟨(fun _ _ _ _ _ h => by cases h), (fun _ _ _ _ _ h => by cases h)⟩
  | succ n ih =>
    obtain ⟨ih0, ih1⟩ := ih
    refine ⟨?_, ?_⟩
    · intro y11 y12 y13 w w' h P T
      simp only [Gm_begins_89] at h
      refine ev_go 2 (pc' := 6) (L' := [some (.ref 89), some (.int y11), some (.int y12), some (.int y13)]) (st' := [.int 149, .int y13]) (h' := (HM P w T)) (cs' := 0) (sl' := 0) rfl ?_
      rcases ai_ifE h with ⟨hc, h⟩ | ⟨hc, h⟩
      · refine ev_ic_ge (t := 24) rfl rfl (fun _ => ?_) (fun c9 => absurd hc c9)
        refine ev_go 6 (pc' := 32) (L' := [some (.ref 89), some (.int y11), some (.int y12), some (.int y13)]) (st' := [.int y12, .int (y11 + 0), .ref 90]) (h' := (HM P w T)) (cs' := 0) (sl' := 0) rfl ?_
        obtain ⟨q14, hq, h⟩ := ai_bdE h
        refine ev_iast rfl rfl hq ?_
        rw [HMs_90]
        refine ev_go 6 (pc' := 43) (L' := [some (.ref 89), some (.int y11), some (.int y12), some (.int y13)]) (st' := [.int 10, .int (y11 + 8), .ref 90]) (h' := (HM P (u_m_w w q14) T)) (cs' := 0) (sl' := 0) rfl ?_
        obtain ⟨q15, hq, h⟩ := ai_bdE h
        refine ev_iast rfl rfl hq ?_
        rw [HMs_90]
        refine ev_go 8 (pc' := 56) (L' := [some (.ref 89), some (.int y11), some (.int y12), some (.int y13)]) (st' := [.int 13, .int ((y11 + 8) + 1), .ref 90]) (h' := (HM P (u_m_w (u_m_w w q14) q15) T)) (cs' := 0) (sl' := 0) rfl ?_
        obtain ⟨q16, hq, h⟩ := ai_bdE h
        refine ev_iast rfl rfl hq ?_
        rw [HMs_90]
        refine ev_go 8 (pc' := 69) (L' := [some (.ref 89), some (.int y11), some (.int y12), some (.int y13)]) (st' := [.int 16, .int ((y11 + 8) + 2), .ref 90]) (h' := (HM P (u_m_w (u_m_w (u_m_w w q14) q15) q16) T)) (cs' := 0) (sl' := 0) rfl ?_
        obtain ⟨q17, hq, h⟩ := ai_bdE h
        refine ev_iast rfl rfl hq ?_
        rw [HMs_90]
        refine ev_go 8 (pc' := 82) (L' := [some (.ref 89), some (.int y11), some (.int y12), some (.int y13)]) (st' := [.int 20, .int ((y11 + 8) + 3), .ref 90]) (h' := (HM P (u_m_w (u_m_w (u_m_w (u_m_w w q14) q15) q16) q17) T)) (cs' := 0) (sl' := 0) rfl ?_
        obtain ⟨q18, hq, h⟩ := ai_bdE h
        refine ev_iast rfl rfl hq ?_
        rw [HMs_90]
        refine ev_go 2 (pc' := 85) (L' := [some (.ref 89), some (.int y11), some (.int y12), some (.int 0)]) (st' := []) (h' := (HM P (u_m_w (u_m_w (u_m_w (u_m_w (u_m_w w q14) q15) q16) q17) q18) T)) (cs' := 0) (sl' := 0) rfl ?_
        exact ih1 _ _ _ _ _ h P T
      · refine ev_ic_ge (t := 24) rfl rfl (fun c9 => absurd c9 hc) (fun _ => ?_)
        refine ev_go 6 (pc' := 17) (L' := [some (.ref 89), some (.int y11), some (.int y12), some (.int y13)]) (st' := [.int 0, .int (y11 + y13), .ref 90]) (h' := (HM P w T)) (cs' := 0) (sl' := 0) rfl ?_
        obtain ⟨q19, hq, h⟩ := ai_bdE h
        refine ev_iast rfl rfl hq ?_
        rw [HMs_90]
        refine ev_go 2 (pc' := 2) (L' := [some (.ref 89), some (.int y11), some (.int y12), some (.int (y13 + 1))]) (st' := []) (h' := (HM P (u_m_w w q19) T)) (cs' := 0) (sl' := 0) rfl ?_
        exact ih0 _ _ _ _ _ h P T
    · intro y20 y21 y22 w w' h P T
      simp only [Gm_begins_89] at h
      refine ev_go 2 (pc' := 88) (L' := [some (.ref 89), some (.int y20), some (.int y21), some (.int y22)]) (st' := [.int 24, .int y22]) (h' := (HM P w T)) (cs' := 0) (sl' := 0) rfl ?_
      rcases ai_ifE h with ⟨hc, h⟩ | ⟨hc, h⟩
      · refine ev_ic_ge (t := 109) rfl rfl (fun _ => ?_) (fun c9 => absurd hc c9)
        obtain rfl := Option.some.inj h
        exact ev_end rfl
      · refine ev_ic_ge (t := 109) rfl rfl (fun c9 => absurd c9 hc) (fun _ => ?_)
        refine ev_go 8 (pc' := 102) (L' := [some (.ref 89), some (.int y20), some (.int y21), some (.int y22)]) (st' := [.int 3, .int ((y20 + 40) + y22), .ref 90]) (h' := (HM P w T)) (cs' := 0) (sl' := 0) rfl ?_
        obtain ⟨q23, hq, h⟩ := ai_bdE h
        refine ev_iast rfl rfl hq ?_
        rw [HMs_90]
        refine ev_go 2 (pc' := 85) (L' := [some (.ref 89), some (.int y20), some (.int y21), some (.int (y22 + 1))]) (st' := []) (h' := (HM P (u_m_w w q23) T)) (cs' := 0) (sl' := 0) rfl ?_
        exact ih1 _ _ _ _ _ h P T
set_option maxHeartbeats 40000000 in
set_option maxRecDepth 100000 in
theorem Em_begins_89 (n : Nat) (x9 : Int32) (x10 : Int32) (w : WM) (w' : WM) (h : Fm_begins_89 n x9 x10 w = some w') (P : Nat → ai_E) (T : ai_H) : ai_ev D1 mm_begins 0 [some (.ref 89), some (.int x9), some (.int x10), none] [] (HM P w T) 0 0 (none, HM P w' T) := by
  unfold Fm_begins_89 at h
  obtain ⟨ih0, ih1⟩ := EGm_begins_89 n
  refine ev_go 2 (pc' := 2) (L' := [some (.ref 89), some (.int x9), some (.int x10), some (.int 0)]) (st' := []) (h' := (HM P w T)) (cs' := 0) (sl' := 0) rfl ?_
  exact ih0 _ _ _ _ _ h P T
set_option maxHeartbeats 40000000 in
set_option maxRecDepth 100000 in
theorem Em_seaTo_89 (n : Nat) (x2 : Int32) (x3 : Int32) (w : WM) (r : Int32) (w' : WM) (h : Fm_seaTo_89 n x2 x3 w = some (r, w')) (P : Nat → ai_E) (T : ai_H) : ai_ev D1 mm_seaTo 0 [some (.ref 89), some (.int x2), some (.int x3), none] [] (HM P w T) 0 0 (some (.int r), HM P w' T) := by
  unfold Fm_seaTo_89 at h
  refine ev_go 4 (pc' := 6) (L' := [some (.ref 89), some (.int x2), some (.int x3), none]) (st' := [.long 6, .long 1, .long (x3).toInt64]) (h' := (HM P w T)) (cs' := 0) (sl' := 0) rfl ?_
  obtain ⟨c7, hq, h⟩ := ai_bdE h
  refine ev_call (M' := mm_in) (L' := [some (.long (x3).toInt64), none, some (.long 1), none, some (.long 6), none]) (rest := []) (rv := some (.int c7)) (h' := (HM P w T)) rfl (Em_in (x3).toInt64 1 6 _ hq (HM P w T)) ?_
  show ai_ev D1 mm_seaTo 9 [some (.ref 89), some (.int x2), some (.int x3), none] [.int c7] (HM P w T) 0 0 _
  rcases ai_ifE h with ⟨hc, h⟩ | ⟨hc, h⟩
  · refine ev_if_ne (t := 15) rfl rfl (fun c9 => absurd hc c9) (fun _ => ?_)
    refine ev_go 1 (pc' := 14) (L' := [some (.ref 89), some (.int x2), some (.int x3), none]) (st' := [.int (-2)]) (h' := (HM P w T)) (cs' := 0) (sl' := 0) rfl ?_
    obtain ⟨rfl, rfl⟩ := ai_smP h
    exact ev_end rfl
  · refine ev_if_ne (t := 15) rfl rfl (fun _ => ?_) (fun c9 => absurd c9 hc)
    refine ev_go 5 (pc' := 22) (L' := [some (.ref 89), some (.int x2), some (.int x3), none]) (st' := [.int (x2 + 0), .ref 90]) (h' := (HM P w T)) (cs' := 0) (sl' := 0) rfl ?_
    obtain ⟨v8, hq, h⟩ := ai_bdE h
    refine ev_iald rfl rfl hq ?_
    refine ev_go 4 (pc' := 27) (L' := [some (.ref 89), some (.int x2), some (.int x3), some (.int v8)]) (st' := [.int x3, .int x2, .ref 89]) (h' := (HM P w T)) (cs' := 0) (sl' := 0) rfl ?_
    obtain ⟨c24, hq, h⟩ := ai_bdE h
    refine ev_call (M' := mm_begins) (L' := [some (.ref 89), some (.int x2), some (.int x3), none]) (rest := []) (rv := none) (h' := (HM P c24 T)) rfl (Em_begins_89 n x2 x3 w _ hq P T) ?_
    show ai_ev D1 mm_seaTo 30 [some (.ref 89), some (.int x2), some (.int x3), some (.int v8)] [] (HM P c24 T) 0 0 _
    refine ev_go 1 (pc' := 31) (L' := [some (.ref 89), some (.int x2), some (.int x3), some (.int v8)]) (st' := [.int v8]) (h' := (HM P c24 T)) (cs' := 0) (sl' := 0) rfl ?_
    obtain ⟨rfl, rfl⟩ := ai_smP h
    exact ev_end rfl
set_option maxHeartbeats 40000000 in
set_option maxRecDepth 100000 in
theorem Em_met_89 (x26 : Int32) (w : WM) (r : Int32) (w' : WM) (h : Fm_met_89 x26 w = some (r, w')) (P : Nat → ai_E) (T : ai_H) : ai_ev D1 mm_met 0 [some (.ref 89), some (.int x26)] [] (HM P w T) 0 0 (some (.int r), HM P w' T) := by
  unfold Fm_met_89 at h
  refine ev_go 2 (pc' := 3) (L' := [some (.ref 89), some (.int x26)]) (st' := [.int (-2), .int x26]) (h' := (HM P w T)) (cs' := 0) (sl' := 0) rfl ?_
  rcases ai_ifE h with ⟨hc, h⟩ | ⟨hc, h⟩
  · refine ev_ic_eq (t := 18) rfl rfl (fun _ => ?_) (fun c9 => absurd hc c9)
    refine ev_go 6 (pc' := 27) (L' := [some (.ref 89), some (.int x26)]) (st' := [.int ((-2) - x26), .ref 93, .int ((-2) - x26), .ref 93]) (h' := (HM P w T)) (cs' := 0) (sl' := 0) rfl ?_
    obtain ⟨v27, hq, h⟩ := ai_bdE h
    refine ev_iald rfl rfl hq ?_
    refine ev_go 2 (pc' := 30) (L' := [some (.ref 89), some (.int x26)]) (st' := [.int (v27 + 1), .int ((-2) - x26), .ref 93]) (h' := (HM P w T)) (cs' := 0) (sl' := 0) rfl ?_
    obtain ⟨q28, hq, h⟩ := ai_bdE h
    refine ev_iast rfl rfl hq ?_
    rw [HMs_93]
    refine ev_go 1 (pc' := 32) (L' := [some (.ref 89), some (.int x26)]) (st' := [.int x26]) (h' := (HM P (u_m_refused w q28) T)) (cs' := 0) (sl' := 0) rfl ?_
    obtain ⟨rfl, rfl⟩ := ai_smP h
    exact ev_end rfl
  · refine ev_ic_eq (t := 18) rfl rfl (fun c9 => absurd c9 hc) (fun _ => ?_)
    refine ev_go 2 (pc' := 9) (L' := [some (.ref 89), some (.int x26)]) (st' := [.int (-3), .int x26]) (h' := (HM P w T)) (cs' := 0) (sl' := 0) rfl ?_
    rcases ai_ifE h with ⟨hc, h⟩ | ⟨hc, h⟩
    · refine ev_ic_eq (t := 18) rfl rfl (fun _ => ?_) (fun c9 => absurd hc c9)
      refine ev_go 6 (pc' := 27) (L' := [some (.ref 89), some (.int x26)]) (st' := [.int ((-2) - x26), .ref 93, .int ((-2) - x26), .ref 93]) (h' := (HM P w T)) (cs' := 0) (sl' := 0) rfl ?_
      obtain ⟨v29, hq, h⟩ := ai_bdE h
      refine ev_iald rfl rfl hq ?_
      refine ev_go 2 (pc' := 30) (L' := [some (.ref 89), some (.int x26)]) (st' := [.int (v29 + 1), .int ((-2) - x26), .ref 93]) (h' := (HM P w T)) (cs' := 0) (sl' := 0) rfl ?_
      obtain ⟨q30, hq, h⟩ := ai_bdE h
      refine ev_iast rfl rfl hq ?_
      rw [HMs_93]
      refine ev_go 1 (pc' := 32) (L' := [some (.ref 89), some (.int x26)]) (st' := [.int x26]) (h' := (HM P (u_m_refused w q30) T)) (cs' := 0) (sl' := 0) rfl ?_
      obtain ⟨rfl, rfl⟩ := ai_smP h
      exact ev_end rfl
    · refine ev_ic_eq (t := 18) rfl rfl (fun c9 => absurd c9 hc) (fun _ => ?_)
      refine ev_go 2 (pc' := 15) (L' := [some (.ref 89), some (.int x26)]) (st' := [.int (-4), .int x26]) (h' := (HM P w T)) (cs' := 0) (sl' := 0) rfl ?_
      rcases ai_ifE h with ⟨hc, h⟩ | ⟨hc, h⟩
      · refine ev_ic_ne (t := 31) rfl rfl (fun c9 => absurd hc c9) (fun _ => ?_)
        refine ev_go 6 (pc' := 27) (L' := [some (.ref 89), some (.int x26)]) (st' := [.int ((-2) - x26), .ref 93, .int ((-2) - x26), .ref 93]) (h' := (HM P w T)) (cs' := 0) (sl' := 0) rfl ?_
        obtain ⟨v31, hq, h⟩ := ai_bdE h
        refine ev_iald rfl rfl hq ?_
        refine ev_go 2 (pc' := 30) (L' := [some (.ref 89), some (.int x26)]) (st' := [.int (v31 + 1), .int ((-2) - x26), .ref 93]) (h' := (HM P w T)) (cs' := 0) (sl' := 0) rfl ?_
        obtain ⟨q32, hq, h⟩ := ai_bdE h
        refine ev_iast rfl rfl hq ?_
        rw [HMs_93]
        refine ev_go 1 (pc' := 32) (L' := [some (.ref 89), some (.int x26)]) (st' := [.int x26]) (h' := (HM P (u_m_refused w q32) T)) (cs' := 0) (sl' := 0) rfl ?_
        obtain ⟨rfl, rfl⟩ := ai_smP h
        exact ev_end rfl
      · refine ev_ic_ne (t := 31) rfl rfl (fun _ => ?_) (fun c9 => absurd c9 hc)
        refine ev_go 1 (pc' := 32) (L' := [some (.ref 89), some (.int x26)]) (st' := [.int x26]) (h' := (HM P w T)) (cs' := 0) (sl' := 0) rfl ?_
        obtain ⟨rfl, rfl⟩ := ai_smP h
        exact ev_end rfl
set_option maxHeartbeats 40000000 in
set_option maxRecDepth 100000 in
theorem Em_sea_89 (n : Nat) (x1 : Int32) (w : WM) (r : Int32) (w' : WM) (h : Fm_sea_89 n x1 w = some (r, w')) (P : Nat → ai_E) (T : ai_H) : ai_ev D1 mm_sea 0 [some (.ref 89), some (.int x1)] [] (HM P w T) 0 0 (some (.int r), HM P w' T) := by
  unfold Fm_sea_89 at h
  refine ev_go 4 (pc' := 4) (L' := [some (.ref 89), some (.int x1)]) (st' := [.int x1, .int 0, .ref 89, .ref 89]) (h' := (HM P w T)) (cs' := 0) (sl' := 0) rfl ?_
  obtain ⟨c25, hq, h⟩ := ai_bdE h
  refine ev_call (M' := mm_seaTo) (L' := [some (.ref 89), some (.int 0), some (.int x1), none]) (rest := [.ref 89]) (rv := some (.int c25.1)) (h' := (HM P c25.2 T)) rfl (Em_seaTo_89 n 0 x1 w _ _ hq P T) ?_
  show ai_ev D1 mm_sea 7 [some (.ref 89), some (.int x1)] [.int c25.1, .ref 89] (HM P c25.2 T) 0 0 _
  obtain ⟨c33, hq, h⟩ := ai_bdE h
  refine ev_call (M' := mm_met) (L' := [some (.ref 89), some (.int c25.1)]) (rest := []) (rv := some (.int c33.1)) (h' := (HM P c33.2 T)) rfl (Em_met_89 c25.1 c25.2 _ _ hq P T) ?_
  show ai_ev D1 mm_sea 10 [some (.ref 89), some (.int x1)] [.int c33.1] (HM P c33.2 T) 0 0 _
  obtain ⟨rfl, rfl⟩ := ai_smP h
  exact ev_end rfl
set_option maxHeartbeats 40000000 in
set_option maxRecDepth 100000 in
theorem Em_isLayer (x39 : Int32) (r : Int32) (h : Fm_isLayer x39 = some r) (hh : ai_H) : ai_ev D1 mm_isLayer 0 [some (.int x39)] [] hh 0 0 (some (.int r), hh) := by
  unfold Fm_isLayer at h
  refine ev_go 4 (pc' := 6) (L' := [some (.int x39)]) (st' := [.long 3, .long 0, .long (x39).toInt64]) (h' := hh) (cs' := 0) (sl' := 0) rfl ?_
  obtain ⟨c40, hq, h⟩ := ai_bdE h
  refine ev_call (M' := mm_in) (L' := [some (.long (x39).toInt64), none, some (.long 0), none, some (.long 3), none]) (rest := []) (rv := some (.int c40)) (h' := hh) rfl (Em_in (x39).toInt64 0 3 _ hq hh) ?_
  show ai_ev D1 mm_isLayer 9 [some (.int x39)] [.int c40] hh 0 0 _
  obtain ⟨hv, h⟩ := ai_ifS h
  obtain rfl := Option.some.inj h
  exact ev_zend rfl rfl rfl hv
set_option maxHeartbeats 40000000 in
set_option maxRecDepth 100000 in
theorem Em_becomes_89 (x43 : Int32) (x44 : Int32) (w : WM) (r : Int32) (w' : WM) (h : Fm_becomes_89 x43 x44 w = some (r, w')) (P : Nat → ai_E) (T : ai_H) : ai_ev D1 mm_becomes 0 [some (.ref 89), some (.int x43), some (.int x44), none] [] (HM P w T) 0 0 (some (.int r), HM P w' T) := by
  unfold Fm_becomes_89 at h
  refine ev_go 3 (pc' := 5) (L' := [some (.ref 89), some (.int x43), some (.int x44), none]) (st' := [.int x43, .ref 90]) (h' := (HM P w T)) (cs' := 0) (sl' := 0) rfl ?_
  obtain ⟨v45, hq, h⟩ := ai_bdE h
  refine ev_iald rfl rfl hq ?_
  refine ev_go 5 (pc' := 13) (L' := [some (.ref 89), some (.int x43), some (.int x44), some (.int v45)]) (st' := [.int x44, .int x43, .ref 90]) (h' := (HM P w T)) (cs' := 0) (sl' := 0) rfl ?_
  obtain ⟨q46, hq, h⟩ := ai_bdE h
  refine ev_iast rfl rfl hq ?_
  rw [HMs_90]
  refine ev_go 1 (pc' := 15) (L' := [some (.ref 89), some (.int x43), some (.int x44), some (.int v45)]) (st' := [.int v45]) (h' := (HM P (u_m_w w q46) T)) (cs' := 0) (sl' := 0) rfl ?_
  obtain ⟨rfl, rfl⟩ := ai_smP h
  exact ev_end rfl
set_option maxHeartbeats 40000000 in
set_option maxRecDepth 100000 in
theorem Em_waterTo_89 (x36 : Int32) (x37 : Int32) (x38 : Int32) (w : WM) (r : Int32) (w' : WM) (h : Fm_waterTo_89 x36 x37 x38 w = some (r, w')) (P : Nat → ai_E) (T : ai_H) : ai_ev D1 mm_waterTo 0 [some (.ref 89), some (.int x36), some (.int x37), some (.int x38), none] [] (HM P w T) 0 0 (some (.int r), HM P w' T) := by
  unfold Fm_waterTo_89 at h
  refine ev_go 1 (pc' := 1) (L' := [some (.ref 89), some (.int x36), some (.int x37), some (.int x38), none]) (st' := [.int x37]) (h' := (HM P w T)) (cs' := 0) (sl' := 0) rfl ?_
  obtain ⟨c41, hq, h⟩ := ai_bdE h
  refine ev_call (M' := mm_isLayer) (L' := [some (.int x37)]) (rest := []) (rv := some (.int c41)) (h' := (HM P w T)) rfl (Em_isLayer x37 _ hq (HM P w T)) ?_
  show ai_ev D1 mm_waterTo 4 [some (.ref 89), some (.int x36), some (.int x37), some (.int x38), none] [.int c41] (HM P w T) 0 0 _
  rcases ai_ifE h with ⟨hc, h⟩ | ⟨hc, h⟩
  · refine ev_if_eq (t := 19) rfl rfl (fun _ => ?_) (fun c9 => absurd hc c9)
    refine ev_go 1 (pc' := 21) (L' := [some (.ref 89), some (.int x36), some (.int x37), some (.int x38), none]) (st' := [.int (-2)]) (h' := (HM P w T)) (cs' := 0) (sl' := 0) rfl ?_
    obtain ⟨rfl, rfl⟩ := ai_smP h
    exact ev_end rfl
  · refine ev_if_eq (t := 19) rfl rfl (fun c9 => absurd c9 hc) (fun _ => ?_)
    refine ev_go 4 (pc' := 13) (L' := [some (.ref 89), some (.int x36), some (.int x37), some (.int x38), none]) (st' := [.long 99, .long 1, .long (x38).toInt64]) (h' := (HM P w T)) (cs' := 0) (sl' := 0) rfl ?_
    obtain ⟨c42, hq, h⟩ := ai_bdE h
    refine ev_call (M' := mm_in) (L' := [some (.long (x38).toInt64), none, some (.long 1), none, some (.long 99), none]) (rest := []) (rv := some (.int c42)) (h' := (HM P w T)) rfl (Em_in (x38).toInt64 1 99 _ hq (HM P w T)) ?_
    show ai_ev D1 mm_waterTo 16 [some (.ref 89), some (.int x36), some (.int x37), some (.int x38), none] [.int c42] (HM P w T) 0 0 _
    rcases ai_ifE h with ⟨hc, h⟩ | ⟨hc, h⟩
    · refine ev_if_ne (t := 22) rfl rfl (fun c9 => absurd hc c9) (fun _ => ?_)
      refine ev_go 1 (pc' := 21) (L' := [some (.ref 89), some (.int x36), some (.int x37), some (.int x38), none]) (st' := [.int (-2)]) (h' := (HM P w T)) (cs' := 0) (sl' := 0) rfl ?_
      obtain ⟨rfl, rfl⟩ := ai_smP h
      exact ev_end rfl
    · refine ev_if_ne (t := 22) rfl rfl (fun _ => ?_) (fun c9 => absurd c9 hc)
      refine ev_go 1 (pc' := 23) (L' := [some (.ref 89), some (.int x36), some (.int x37), some (.int x38), none]) (st' := [.int x37]) (h' := (HM P w T)) (cs' := 0) (sl' := 0) rfl ?_
      rcases ai_ifE h with ⟨hc, h⟩ | ⟨hc, h⟩
      · refine ev_if_eq (t := 43) rfl rfl (fun _ => ?_) (fun c9 => absurd hc c9)
        refine ev_go 2 (pc' := 45) (L' := [some (.ref 89), some (.int x36), some (.int x37), some (.int x38), none]) (st' := [.int 3, .int x37]) (h' := (HM P w T)) (cs' := 0) (sl' := 0) rfl ?_
        rcases ai_ifE h with ⟨hc, h⟩ | ⟨hc, h⟩
        · refine ev_ic_eq (t := 65) rfl rfl (fun _ => ?_) (fun c9 => absurd hc c9)
          refine ev_go 12 (pc' := 85) (L' := [some (.ref 89), some (.int x36), some (.int x37), some (.int x38), some (.int 1)]) (st' := [.int x38, .int ((x36 + 8) + x37), .ref 89]) (h' := (HM P w T)) (cs' := 0) (sl' := 0) rfl ?_
          obtain ⟨c47, hq, h⟩ := ai_bdE h
          refine ev_call (M' := mm_becomes) (L' := [some (.ref 89), some (.int ((x36 + 8) + x37)), some (.int x38), none]) (rest := []) (rv := some (.int c47.1)) (h' := (HM P c47.2 T)) rfl (Em_becomes_89 ((x36 + 8) + x37) x38 w _ _ hq P T) ?_
          show ai_ev D1 mm_waterTo 88 [some (.ref 89), some (.int x36), some (.int x37), some (.int x38), some (.int 1)] [.int c47.1] (HM P c47.2 T) 0 0 _
          refine ev_go 1 (pc' := 93) (L' := [some (.ref 89), some (.int x36), some (.int x37), some (.int x38), some (.int 1)]) (st' := [.int c47.1]) (h' := (HM P c47.2 T)) (cs' := 0) (sl' := 0) rfl ?_
          obtain ⟨rfl, rfl⟩ := ai_smP h
          exact ev_end rfl
        · refine ev_ic_eq (t := 65) rfl rfl (fun c9 => absurd c9 hc) (fun _ => ?_)
          refine ev_go 9 (pc' := 60) (L' := [some (.ref 89), some (.int x36), some (.int x37), some (.int x38), none]) (st' := [.int (((x36 + 8) + x37) + 1), .ref 90]) (h' := (HM P w T)) (cs' := 0) (sl' := 0) rfl ?_
          obtain ⟨v48, hq, h⟩ := ai_bdE h
          refine ev_iald rfl rfl hq ?_
          refine ev_go 1 (pc' := 62) (L' := [some (.ref 89), some (.int x36), some (.int x37), some (.int x38), none]) (st' := [.int x38, .int v48]) (h' := (HM P w T)) (cs' := 0) (sl' := 0) rfl ?_
          rcases ai_ifE h with ⟨hc, h⟩ | ⟨hc, h⟩
          · refine ev_ic_le (t := 69) rfl rfl (fun _ => ?_) (fun c9 => absurd hc c9)
            refine ev_go 5 (pc' := 93) (L' := [some (.ref 89), some (.int x36), some (.int x37), some (.int x38), some (.int 0)]) (st' := [.int (-3)]) (h' := (HM P w T)) (cs' := 0) (sl' := 0) rfl ?_
            obtain ⟨rfl, rfl⟩ := ai_smP h
            exact ev_end rfl
          · refine ev_ic_le (t := 69) rfl rfl (fun c9 => absurd c9 hc) (fun _ => ?_)
            refine ev_go 12 (pc' := 85) (L' := [some (.ref 89), some (.int x36), some (.int x37), some (.int x38), some (.int 1)]) (st' := [.int x38, .int ((x36 + 8) + x37), .ref 89]) (h' := (HM P w T)) (cs' := 0) (sl' := 0) rfl ?_
            obtain ⟨c49, hq, h⟩ := ai_bdE h
            refine ev_call (M' := mm_becomes) (L' := [some (.ref 89), some (.int ((x36 + 8) + x37)), some (.int x38), none]) (rest := []) (rv := some (.int c49.1)) (h' := (HM P c49.2 T)) rfl (Em_becomes_89 ((x36 + 8) + x37) x38 w _ _ hq P T) ?_
            show ai_ev D1 mm_waterTo 88 [some (.ref 89), some (.int x36), some (.int x37), some (.int x38), some (.int 1)] [.int c49.1] (HM P c49.2 T) 0 0 _
            refine ev_go 1 (pc' := 93) (L' := [some (.ref 89), some (.int x36), some (.int x37), some (.int x38), some (.int 1)]) (st' := [.int c49.1]) (h' := (HM P c49.2 T)) (cs' := 0) (sl' := 0) rfl ?_
            obtain ⟨rfl, rfl⟩ := ai_smP h
            exact ev_end rfl
      · refine ev_if_eq (t := 43) rfl rfl (fun c9 => absurd c9 hc) (fun _ => ?_)
        refine ev_go 9 (pc' := 38) (L' := [some (.ref 89), some (.int x36), some (.int x37), some (.int x38), none]) (st' := [.int (((x36 + 8) + x37) - 1), .ref 90]) (h' := (HM P w T)) (cs' := 0) (sl' := 0) rfl ?_
        obtain ⟨v50, hq, h⟩ := ai_bdE h
        refine ev_iald rfl rfl hq ?_
        refine ev_go 1 (pc' := 40) (L' := [some (.ref 89), some (.int x36), some (.int x37), some (.int x38), none]) (st' := [.int x38, .int v50]) (h' := (HM P w T)) (cs' := 0) (sl' := 0) rfl ?_
        rcases ai_ifE h with ⟨hc, h⟩ | ⟨hc, h⟩
        · refine ev_ic_ge (t := 69) rfl rfl (fun _ => ?_) (fun c9 => absurd hc c9)
          refine ev_go 5 (pc' := 93) (L' := [some (.ref 89), some (.int x36), some (.int x37), some (.int x38), some (.int 0)]) (st' := [.int (-3)]) (h' := (HM P w T)) (cs' := 0) (sl' := 0) rfl ?_
          obtain ⟨rfl, rfl⟩ := ai_smP h
          exact ev_end rfl
        · refine ev_ic_ge (t := 69) rfl rfl (fun c9 => absurd c9 hc) (fun _ => ?_)
          refine ev_go 2 (pc' := 45) (L' := [some (.ref 89), some (.int x36), some (.int x37), some (.int x38), none]) (st' := [.int 3, .int x37]) (h' := (HM P w T)) (cs' := 0) (sl' := 0) rfl ?_
          rcases ai_ifE h with ⟨hc, h⟩ | ⟨hc, h⟩
          · refine ev_ic_eq (t := 65) rfl rfl (fun _ => ?_) (fun c9 => absurd hc c9)
            refine ev_go 12 (pc' := 85) (L' := [some (.ref 89), some (.int x36), some (.int x37), some (.int x38), some (.int 1)]) (st' := [.int x38, .int ((x36 + 8) + x37), .ref 89]) (h' := (HM P w T)) (cs' := 0) (sl' := 0) rfl ?_
            obtain ⟨c51, hq, h⟩ := ai_bdE h
            refine ev_call (M' := mm_becomes) (L' := [some (.ref 89), some (.int ((x36 + 8) + x37)), some (.int x38), none]) (rest := []) (rv := some (.int c51.1)) (h' := (HM P c51.2 T)) rfl (Em_becomes_89 ((x36 + 8) + x37) x38 w _ _ hq P T) ?_
            show ai_ev D1 mm_waterTo 88 [some (.ref 89), some (.int x36), some (.int x37), some (.int x38), some (.int 1)] [.int c51.1] (HM P c51.2 T) 0 0 _
            refine ev_go 1 (pc' := 93) (L' := [some (.ref 89), some (.int x36), some (.int x37), some (.int x38), some (.int 1)]) (st' := [.int c51.1]) (h' := (HM P c51.2 T)) (cs' := 0) (sl' := 0) rfl ?_
            obtain ⟨rfl, rfl⟩ := ai_smP h
            exact ev_end rfl
          · refine ev_ic_eq (t := 65) rfl rfl (fun c9 => absurd c9 hc) (fun _ => ?_)
            refine ev_go 9 (pc' := 60) (L' := [some (.ref 89), some (.int x36), some (.int x37), some (.int x38), none]) (st' := [.int (((x36 + 8) + x37) + 1), .ref 90]) (h' := (HM P w T)) (cs' := 0) (sl' := 0) rfl ?_
            obtain ⟨v52, hq, h⟩ := ai_bdE h
            refine ev_iald rfl rfl hq ?_
            refine ev_go 1 (pc' := 62) (L' := [some (.ref 89), some (.int x36), some (.int x37), some (.int x38), none]) (st' := [.int x38, .int v52]) (h' := (HM P w T)) (cs' := 0) (sl' := 0) rfl ?_
            rcases ai_ifE h with ⟨hc, h⟩ | ⟨hc, h⟩
            · refine ev_ic_le (t := 69) rfl rfl (fun _ => ?_) (fun c9 => absurd hc c9)
              refine ev_go 5 (pc' := 93) (L' := [some (.ref 89), some (.int x36), some (.int x37), some (.int x38), some (.int 0)]) (st' := [.int (-3)]) (h' := (HM P w T)) (cs' := 0) (sl' := 0) rfl ?_
              obtain ⟨rfl, rfl⟩ := ai_smP h
              exact ev_end rfl
            · refine ev_ic_le (t := 69) rfl rfl (fun c9 => absurd c9 hc) (fun _ => ?_)
              refine ev_go 12 (pc' := 85) (L' := [some (.ref 89), some (.int x36), some (.int x37), some (.int x38), some (.int 1)]) (st' := [.int x38, .int ((x36 + 8) + x37), .ref 89]) (h' := (HM P w T)) (cs' := 0) (sl' := 0) rfl ?_
              obtain ⟨c53, hq, h⟩ := ai_bdE h
              refine ev_call (M' := mm_becomes) (L' := [some (.ref 89), some (.int ((x36 + 8) + x37)), some (.int x38), none]) (rest := []) (rv := some (.int c53.1)) (h' := (HM P c53.2 T)) rfl (Em_becomes_89 ((x36 + 8) + x37) x38 w _ _ hq P T) ?_
              show ai_ev D1 mm_waterTo 88 [some (.ref 89), some (.int x36), some (.int x37), some (.int x38), some (.int 1)] [.int c53.1] (HM P c53.2 T) 0 0 _
              refine ev_go 1 (pc' := 93) (L' := [some (.ref 89), some (.int x36), some (.int x37), some (.int x38), some (.int 1)]) (st' := [.int c53.1]) (h' := (HM P c53.2 T)) (cs' := 0) (sl' := 0) rfl ?_
              obtain ⟨rfl, rfl⟩ := ai_smP h
              exact ev_end rfl
set_option maxHeartbeats 40000000 in
set_option maxRecDepth 100000 in
theorem Em_water_89 (x34 : Int32) (x35 : Int32) (w : WM) (r : Int32) (w' : WM) (h : Fm_water_89 x34 x35 w = some (r, w')) (P : Nat → ai_E) (T : ai_H) : ai_ev D1 mm_water 0 [some (.ref 89), some (.int x34), some (.int x35)] [] (HM P w T) 0 0 (some (.int r), HM P w' T) := by
  unfold Fm_water_89 at h
  refine ev_go 5 (pc' := 5) (L' := [some (.ref 89), some (.int x34), some (.int x35)]) (st' := [.int x35, .int x34, .int 0, .ref 89, .ref 89]) (h' := (HM P w T)) (cs' := 0) (sl' := 0) rfl ?_
  obtain ⟨c54, hq, h⟩ := ai_bdE h
  refine ev_call (M' := mm_waterTo) (L' := [some (.ref 89), some (.int 0), some (.int x34), some (.int x35), none]) (rest := [.ref 89]) (rv := some (.int c54.1)) (h' := (HM P c54.2 T)) rfl (Em_waterTo_89 0 x34 x35 w _ _ hq P T) ?_
  show ai_ev D1 mm_water 8 [some (.ref 89), some (.int x34), some (.int x35)] [.int c54.1, .ref 89] (HM P c54.2 T) 0 0 _
  obtain ⟨c55, hq, h⟩ := ai_bdE h
  refine ev_call (M' := mm_met) (L' := [some (.ref 89), some (.int c54.1)]) (rest := []) (rv := some (.int c55.1)) (h' := (HM P c55.2 T)) rfl (Em_met_89 c54.1 c54.2 _ _ hq P T) ?_
  show ai_ev D1 mm_water 11 [some (.ref 89), some (.int x34), some (.int x35)] [.int c55.1] (HM P c55.2 T) 0 0 _
  obtain ⟨rfl, rfl⟩ := ai_smP h
  exact ev_end rfl
set_option maxHeartbeats 40000000 in
set_option maxRecDepth 100000 in
theorem Em_isCellOf_89 (x64 : Int32) (x65 : Int32) (w : WM) (r : Int32) (w' : WM) (h : Fm_isCellOf_89 x64 x65 w = some (r, w')) (P : Nat → ai_E) (T : ai_H) : ai_ev D1 mm_isCellOf 0 [some (.ref 89), some (.int x64), some (.int x65)] [] (HM P w T) 0 0 (some (.int r), HM P w' T) := by
  unfold Fm_isCellOf_89 at h
  refine ev_go 8 (pc' := 10) (L' := [some (.ref 89), some (.int x64), some (.int x65)]) (st' := [.int (x64 + 0), .ref 90, .long 0, .long (x65).toInt64]) (h' := (HM P w T)) (cs' := 0) (sl' := 0) rfl ?_
  obtain ⟨v66, hq, h⟩ := ai_bdE h
  refine ev_iald rfl rfl hq ?_
  refine ev_go 3 (pc' := 14) (L' := [some (.ref 89), some (.int x64), some (.int x65)]) (st' := [.long ((v66 - 1)).toInt64, .long 0, .long (x65).toInt64]) (h' := (HM P w T)) (cs' := 0) (sl' := 0) rfl ?_
  obtain ⟨c67, hq, h⟩ := ai_bdE h
  refine ev_call (M' := mm_in) (L' := [some (.long (x65).toInt64), none, some (.long 0), none, some (.long ((v66 - 1)).toInt64), none]) (rest := []) (rv := some (.int c67)) (h' := (HM P w T)) rfl (Em_in (x65).toInt64 0 ((v66 - 1)).toInt64 _ hq (HM P w T)) ?_
  show ai_ev D1 mm_isCellOf 17 [some (.ref 89), some (.int x64), some (.int x65)] [.int c67] (HM P w T) 0 0 _
  obtain ⟨hv, h⟩ := ai_ifS h
  obtain ⟨rfl, rfl⟩ := ai_smP h
  exact ev_zend rfl rfl rfl hv
set_option maxHeartbeats 40000000 in
set_option maxRecDepth 100000 in
theorem Em_thickTo_89 (x59 : Int32) (x60 : Int32) (x61 : Int32) (x62 : Int32) (w : WM) (r : Int32) (w' : WM) (h : Fm_thickTo_89 x59 x60 x61 x62 w = some (r, w')) (P : Nat → ai_E) (T : ai_H) : ai_ev D1 mm_thickTo 0 [some (.ref 89), some (.int x59), some (.int x60), some (.int x61), some (.int x62)] [] (HM P w T) 0 0 (some (.int r), HM P w' T) := by
  unfold Fm_thickTo_89 at h
  refine ev_go 1 (pc' := 1) (L' := [some (.ref 89), some (.int x59), some (.int x60), some (.int x61), some (.int x62)]) (st' := [.int x60]) (h' := (HM P w T)) (cs' := 0) (sl' := 0) rfl ?_
  obtain ⟨c63, hq, h⟩ := ai_bdE h
  refine ev_call (M' := mm_isLayer) (L' := [some (.int x60)]) (rest := []) (rv := some (.int c63)) (h' := (HM P w T)) rfl (Em_isLayer x60 _ hq (HM P w T)) ?_
  show ai_ev D1 mm_thickTo 4 [some (.ref 89), some (.int x59), some (.int x60), some (.int x61), some (.int x62)] [.int c63] (HM P w T) 0 0 _
  rcases ai_ifE h with ⟨hc, h⟩ | ⟨hc, h⟩
  · refine ev_if_eq (t := 49) rfl rfl (fun _ => ?_) (fun c9 => absurd hc c9)
    refine ev_go 1 (pc' := 51) (L' := [some (.ref 89), some (.int x59), some (.int x60), some (.int x61), some (.int x62)]) (st' := [.int (-2)]) (h' := (HM P w T)) (cs' := 0) (sl' := 0) rfl ?_
    obtain ⟨rfl, rfl⟩ := ai_smP h
    exact ev_end rfl
  · refine ev_if_eq (t := 49) rfl rfl (fun c9 => absurd c9 hc) (fun _ => ?_)
    refine ev_go 3 (pc' := 10) (L' := [some (.ref 89), some (.int x59), some (.int x60), some (.int x61), some (.int x62)]) (st' := [.int x61, .int x59, .ref 89]) (h' := (HM P w T)) (cs' := 0) (sl' := 0) rfl ?_
    obtain ⟨c68, hq, h⟩ := ai_bdE h
    refine ev_call (M' := mm_isCellOf) (L' := [some (.ref 89), some (.int x59), some (.int x61)]) (rest := []) (rv := some (.int c68.1)) (h' := (HM P c68.2 T)) rfl (Em_isCellOf_89 x59 x61 w _ _ hq P T) ?_
    show ai_ev D1 mm_thickTo 13 [some (.ref 89), some (.int x59), some (.int x60), some (.int x61), some (.int x62)] [.int c68.1] (HM P c68.2 T) 0 0 _
    rcases ai_ifE h with ⟨hc, h⟩ | ⟨hc, h⟩
    · refine ev_if_eq (t := 49) rfl rfl (fun _ => ?_) (fun c9 => absurd hc c9)
      refine ev_go 1 (pc' := 51) (L' := [some (.ref 89), some (.int x59), some (.int x60), some (.int x61), some (.int x62)]) (st' := [.int (-2)]) (h' := (HM P c68.2 T)) (cs' := 0) (sl' := 0) rfl ?_
      obtain ⟨rfl, rfl⟩ := ai_smP h
      exact ev_end rfl
    · refine ev_if_eq (t := 49) rfl rfl (fun c9 => absurd c9 hc) (fun _ => ?_)
      refine ev_go 4 (pc' := 23) (L' := [some (.ref 89), some (.int x59), some (.int x60), some (.int x61), some (.int x62)]) (st' := [.long 9, .long 0, .long (x62).toInt64]) (h' := (HM P c68.2 T)) (cs' := 0) (sl' := 0) rfl ?_
      obtain ⟨c69, hq, h⟩ := ai_bdE h
      refine ev_call (M' := mm_in) (L' := [some (.long (x62).toInt64), none, some (.long 0), none, some (.long 9), none]) (rest := []) (rv := some (.int c69)) (h' := (HM P c68.2 T)) rfl (Em_in (x62).toInt64 0 9 _ hq (HM P c68.2 T)) ?_
      show ai_ev D1 mm_thickTo 26 [some (.ref 89), some (.int x59), some (.int x60), some (.int x61), some (.int x62)] [.int c69] (HM P c68.2 T) 0 0 _
      rcases ai_ifE h with ⟨hc, h⟩ | ⟨hc, h⟩
      · refine ev_if_eq (t := 49) rfl rfl (fun _ => ?_) (fun c9 => absurd hc c9)
        refine ev_go 1 (pc' := 51) (L' := [some (.ref 89), some (.int x59), some (.int x60), some (.int x61), some (.int x62)]) (st' := [.int (-2)]) (h' := (HM P c68.2 T)) (cs' := 0) (sl' := 0) rfl ?_
        obtain ⟨rfl, rfl⟩ := ai_smP h
        exact ev_end rfl
      · refine ev_if_eq (t := 49) rfl rfl (fun c9 => absurd c9 hc) (fun _ => ?_)
        refine ev_go 11 (pc' := 43) (L' := [some (.ref 89), some (.int x59), some (.int x60), some (.int x61), some (.int x62)]) (st' := [.int x62, .int (((x59 + 40) + (6 * x60)) + x61), .ref 89]) (h' := (HM P c68.2 T)) (cs' := 0) (sl' := 0) rfl ?_
        obtain ⟨c70, hq, h⟩ := ai_bdE h
        refine ev_call (M' := mm_becomes) (L' := [some (.ref 89), some (.int (((x59 + 40) + (6 * x60)) + x61)), some (.int x62), none]) (rest := []) (rv := some (.int c70.1)) (h' := (HM P c70.2 T)) rfl (Em_becomes_89 (((x59 + 40) + (6 * x60)) + x61) x62 c68.2 _ _ hq P T) ?_
        show ai_ev D1 mm_thickTo 46 [some (.ref 89), some (.int x59), some (.int x60), some (.int x61), some (.int x62)] [.int c70.1] (HM P c70.2 T) 0 0 _
        refine ev_go 1 (pc' := 51) (L' := [some (.ref 89), some (.int x59), some (.int x60), some (.int x61), some (.int x62)]) (st' := [.int c70.1]) (h' := (HM P c70.2 T)) (cs' := 0) (sl' := 0) rfl ?_
        obtain ⟨rfl, rfl⟩ := ai_smP h
        exact ev_end rfl
set_option maxHeartbeats 40000000 in
set_option maxRecDepth 100000 in
theorem Em_thick_89 (x56 : Int32) (x57 : Int32) (x58 : Int32) (w : WM) (r : Int32) (w' : WM) (h : Fm_thick_89 x56 x57 x58 w = some (r, w')) (P : Nat → ai_E) (T : ai_H) : ai_ev D1 mm_thick 0 [some (.ref 89), some (.int x56), some (.int x57), some (.int x58)] [] (HM P w T) 0 0 (some (.int r), HM P w' T) := by
  unfold Fm_thick_89 at h
  refine ev_go 6 (pc' := 6) (L' := [some (.ref 89), some (.int x56), some (.int x57), some (.int x58)]) (st' := [.int x58, .int x57, .int x56, .int 0, .ref 89, .ref 89]) (h' := (HM P w T)) (cs' := 0) (sl' := 0) rfl ?_
  obtain ⟨c71, hq, h⟩ := ai_bdE h
  refine ev_call (M' := mm_thickTo) (L' := [some (.ref 89), some (.int 0), some (.int x56), some (.int x57), some (.int x58)]) (rest := [.ref 89]) (rv := some (.int c71.1)) (h' := (HM P c71.2 T)) rfl (Em_thickTo_89 0 x56 x57 x58 w _ _ hq P T) ?_
  show ai_ev D1 mm_thick 9 [some (.ref 89), some (.int x56), some (.int x57), some (.int x58)] [.int c71.1, .ref 89] (HM P c71.2 T) 0 0 _
  obtain ⟨c72, hq, h⟩ := ai_bdE h
  refine ev_call (M' := mm_met) (L' := [some (.ref 89), some (.int c71.1)]) (rest := []) (rv := some (.int c72.1)) (h' := (HM P c72.2 T)) rfl (Em_met_89 c71.1 c71.2 _ _ hq P T) ?_
  show ai_ev D1 mm_thick 12 [some (.ref 89), some (.int x56), some (.int x57), some (.int x58)] [.int c72.1] (HM P c72.2 T) 0 0 _
  obtain ⟨rfl, rfl⟩ := ai_smP h
  exact ev_end rfl
set_option maxHeartbeats 40000000 in
set_option maxRecDepth 100000 in
theorem Em_skinTo_89 (x75 : Int32) (x76 : Int32) (x77 : Int32) (w : WM) (r : Int32) (w' : WM) (h : Fm_skinTo_89 x75 x76 x77 w = some (r, w')) (P : Nat → ai_E) (T : ai_H) : ai_ev D1 mm_skinTo 0 [some (.ref 89), some (.int x75), some (.int x76), some (.int x77)] [] (HM P w T) 0 0 (some (.int r), HM P w' T) := by
  unfold Fm_skinTo_89 at h
  refine ev_go 4 (pc' := 6) (L' := [some (.ref 89), some (.int x75), some (.int x76), some (.int x77)]) (st' := [.long 2, .long 0, .long (x76).toInt64]) (h' := (HM P w T)) (cs' := 0) (sl' := 0) rfl ?_
  obtain ⟨c78, hq, h⟩ := ai_bdE h
  refine ev_call (M' := mm_in) (L' := [some (.long (x76).toInt64), none, some (.long 0), none, some (.long 2), none]) (rest := []) (rv := some (.int c78)) (h' := (HM P w T)) rfl (Em_in (x76).toInt64 0 2 _ hq (HM P w T)) ?_
  show ai_ev D1 mm_skinTo 9 [some (.ref 89), some (.int x75), some (.int x76), some (.int x77)] [.int c78] (HM P w T) 0 0 _
  rcases ai_ifE h with ⟨hc, h⟩ | ⟨hc, h⟩
  · refine ev_if_eq (t := 38) rfl rfl (fun _ => ?_) (fun c9 => absurd hc c9)
    refine ev_go 1 (pc' := 40) (L' := [some (.ref 89), some (.int x75), some (.int x76), some (.int x77)]) (st' := [.int (-2)]) (h' := (HM P w T)) (cs' := 0) (sl' := 0) rfl ?_
    obtain ⟨rfl, rfl⟩ := ai_smP h
    exact ev_end rfl
  · refine ev_if_eq (t := 38) rfl rfl (fun c9 => absurd c9 hc) (fun _ => ?_)
    refine ev_go 4 (pc' := 18) (L' := [some (.ref 89), some (.int x75), some (.int x76), some (.int x77)]) (st' := [.long 99, .long 0, .long (x77).toInt64]) (h' := (HM P w T)) (cs' := 0) (sl' := 0) rfl ?_
    obtain ⟨c79, hq, h⟩ := ai_bdE h
    refine ev_call (M' := mm_in) (L' := [some (.long (x77).toInt64), none, some (.long 0), none, some (.long 99), none]) (rest := []) (rv := some (.int c79)) (h' := (HM P w T)) rfl (Em_in (x77).toInt64 0 99 _ hq (HM P w T)) ?_
    show ai_ev D1 mm_skinTo 21 [some (.ref 89), some (.int x75), some (.int x76), some (.int x77)] [.int c79] (HM P w T) 0 0 _
    rcases ai_ifE h with ⟨hc, h⟩ | ⟨hc, h⟩
    · refine ev_if_eq (t := 38) rfl rfl (fun _ => ?_) (fun c9 => absurd hc c9)
      refine ev_go 1 (pc' := 40) (L' := [some (.ref 89), some (.int x75), some (.int x76), some (.int x77)]) (st' := [.int (-2)]) (h' := (HM P w T)) (cs' := 0) (sl' := 0) rfl ?_
      obtain ⟨rfl, rfl⟩ := ai_smP h
      exact ev_end rfl
    · refine ev_if_eq (t := 38) rfl rfl (fun c9 => absurd c9 hc) (fun _ => ?_)
      refine ev_go 7 (pc' := 32) (L' := [some (.ref 89), some (.int x75), some (.int x76), some (.int x77)]) (st' := [.int x77, .int ((x75 + 64) + x76), .ref 89]) (h' := (HM P w T)) (cs' := 0) (sl' := 0) rfl ?_
      obtain ⟨c80, hq, h⟩ := ai_bdE h
      refine ev_call (M' := mm_becomes) (L' := [some (.ref 89), some (.int ((x75 + 64) + x76)), some (.int x77), none]) (rest := []) (rv := some (.int c80.1)) (h' := (HM P c80.2 T)) rfl (Em_becomes_89 ((x75 + 64) + x76) x77 w _ _ hq P T) ?_
      show ai_ev D1 mm_skinTo 35 [some (.ref 89), some (.int x75), some (.int x76), some (.int x77)] [.int c80.1] (HM P c80.2 T) 0 0 _
      refine ev_go 1 (pc' := 40) (L' := [some (.ref 89), some (.int x75), some (.int x76), some (.int x77)]) (st' := [.int c80.1]) (h' := (HM P c80.2 T)) (cs' := 0) (sl' := 0) rfl ?_
      obtain ⟨rfl, rfl⟩ := ai_smP h
      exact ev_end rfl
set_option maxHeartbeats 40000000 in
set_option maxRecDepth 100000 in
theorem Em_skin_89 (x73 : Int32) (x74 : Int32) (w : WM) (r : Int32) (w' : WM) (h : Fm_skin_89 x73 x74 w = some (r, w')) (P : Nat → ai_E) (T : ai_H) : ai_ev D1 mm_skin 0 [some (.ref 89), some (.int x73), some (.int x74)] [] (HM P w T) 0 0 (some (.int r), HM P w' T) := by
  unfold Fm_skin_89 at h
  refine ev_go 5 (pc' := 5) (L' := [some (.ref 89), some (.int x73), some (.int x74)]) (st' := [.int x74, .int x73, .int 0, .ref 89, .ref 89]) (h' := (HM P w T)) (cs' := 0) (sl' := 0) rfl ?_
  obtain ⟨c81, hq, h⟩ := ai_bdE h
  refine ev_call (M' := mm_skinTo) (L' := [some (.ref 89), some (.int 0), some (.int x73), some (.int x74)]) (rest := [.ref 89]) (rv := some (.int c81.1)) (h' := (HM P c81.2 T)) rfl (Em_skinTo_89 0 x73 x74 w _ _ hq P T) ?_
  show ai_ev D1 mm_skin 8 [some (.ref 89), some (.int x73), some (.int x74)] [.int c81.1, .ref 89] (HM P c81.2 T) 0 0 _
  obtain ⟨c82, hq, h⟩ := ai_bdE h
  refine ev_call (M' := mm_met) (L' := [some (.ref 89), some (.int c81.1)]) (rest := []) (rv := some (.int c82.1)) (h' := (HM P c82.2 T)) rfl (Em_met_89 c81.1 c81.2 _ _ hq P T) ?_
  show ai_ev D1 mm_skin 11 [some (.ref 89), some (.int x73), some (.int x74)] [.int c82.1] (HM P c82.2 T) 0 0 _
  obtain ⟨rfl, rfl⟩ := ai_smP h
  exact ev_end rfl
set_option maxHeartbeats 40000000 in
set_option maxRecDepth 100000 in
theorem Em_badAs_89 (x87 : Int32) (w : WM) (r : Int32) (w' : WM) (h : Fm_badAs_89 x87 w = some (r, w')) (P : Nat → ai_E) (T : ai_H) : ai_ev D1 mm_badAs 0 [some (.ref 89), some (.int x87)] [] (HM P w T) 0 0 (some (.int r), HM P w' T) := by
  unfold Fm_badAs_89 at h
  refine ev_go 4 (pc' := 6) (L' := [some (.ref 89), some (.int x87)]) (st' := [.int 0, .ref 93, .int 0, .ref 93]) (h' := (HM P w T)) (cs' := 0) (sl' := 0) rfl ?_
  obtain ⟨v88, hq, h⟩ := ai_bdE h
  refine ev_iald rfl rfl hq ?_
  refine ev_go 2 (pc' := 9) (L' := [some (.ref 89), some (.int x87)]) (st' := [.int (v88 + 1), .int 0, .ref 93]) (h' := (HM P w T)) (cs' := 0) (sl' := 0) rfl ?_
  obtain ⟨q89, hq, h⟩ := ai_bdE h
  refine ev_iast rfl rfl hq ?_
  rw [HMs_93]
  refine ev_go 1 (pc' := 11) (L' := [some (.ref 89), some (.int x87)]) (st' := [.int x87]) (h' := (HM P (u_m_refused w q89) T)) (cs' := 0) (sl' := 0) rfl ?_
  obtain ⟨rfl, rfl⟩ := ai_smP h
  exact ev_end rfl
set_option maxHeartbeats 40000000 in
set_option maxRecDepth 100000 in
theorem Em_tide_89 (x83 : Int32) (x84 : Int32) (x85 : Int32) (w : WM) (r : Int32) (w' : WM) (h : Fm_tide_89 x83 x84 x85 w = some (r, w')) (P : Nat → ai_E) (T : ai_H) : ai_ev D1 mm_tide 0 [some (.ref 89), some (.int x83), some (.int x84), some (.int x85)] [] (HM P w T) 0 0 (some (.int r), HM P w' T) := by
  unfold Fm_tide_89 at h
  refine ev_go 1 (pc' := 1) (L' := [some (.ref 89), some (.int x83), some (.int x84), some (.int x85)]) (st' := [.int x83]) (h' := (HM P w T)) (cs' := 0) (sl' := 0) rfl ?_
  obtain ⟨c86, hq, h⟩ := ai_bdE h
  refine ev_call (M' := mm_isLayer) (L' := [some (.int x83)]) (rest := []) (rv := some (.int c86)) (h' := (HM P w T)) rfl (Em_isLayer x83 _ hq (HM P w T)) ?_
  show ai_ev D1 mm_tide 4 [some (.ref 89), some (.int x83), some (.int x84), some (.int x85)] [.int c86] (HM P w T) 0 0 _
  rcases ai_ifE h with ⟨hc, h⟩ | ⟨hc, h⟩
  · refine ev_if_eq (t := 50) rfl rfl (fun _ => ?_) (fun c9 => absurd hc c9)
    refine ev_go 2 (pc' := 53) (L' := [some (.ref 89), some (.int x83), some (.int x84), some (.int x85)]) (st' := [.int (-10), .ref 89]) (h' := (HM P w T)) (cs' := 0) (sl' := 0) rfl ?_
    obtain ⟨c90, hq, h⟩ := ai_bdE h
    refine ev_call (M' := mm_badAs) (L' := [some (.ref 89), some (.int (-10))]) (rest := []) (rv := some (.int c90.1)) (h' := (HM P c90.2 T)) rfl (Em_badAs_89 (-10) w _ _ hq P T) ?_
    show ai_ev D1 mm_tide 56 [some (.ref 89), some (.int x83), some (.int x84), some (.int x85)] [.int c90.1] (HM P c90.2 T) 0 0 _
    obtain ⟨rfl, rfl⟩ := ai_smP h
    exact ev_end rfl
  · refine ev_if_eq (t := 50) rfl rfl (fun c9 => absurd c9 hc) (fun _ => ?_)
    refine ev_go 4 (pc' := 13) (L' := [some (.ref 89), some (.int x83), some (.int x84), some (.int x85)]) (st' := [.long 5, .long 0, .long (x84).toInt64]) (h' := (HM P w T)) (cs' := 0) (sl' := 0) rfl ?_
    obtain ⟨c91, hq, h⟩ := ai_bdE h
    refine ev_call (M' := mm_in) (L' := [some (.long (x84).toInt64), none, some (.long 0), none, some (.long 5), none]) (rest := []) (rv := some (.int c91)) (h' := (HM P w T)) rfl (Em_in (x84).toInt64 0 5 _ hq (HM P w T)) ?_
    show ai_ev D1 mm_tide 16 [some (.ref 89), some (.int x83), some (.int x84), some (.int x85)] [.int c91] (HM P w T) 0 0 _
    rcases ai_ifE h with ⟨hc, h⟩ | ⟨hc, h⟩
    · refine ev_if_eq (t := 50) rfl rfl (fun _ => ?_) (fun c9 => absurd hc c9)
      refine ev_go 2 (pc' := 53) (L' := [some (.ref 89), some (.int x83), some (.int x84), some (.int x85)]) (st' := [.int (-10), .ref 89]) (h' := (HM P w T)) (cs' := 0) (sl' := 0) rfl ?_
      obtain ⟨c92, hq, h⟩ := ai_bdE h
      refine ev_call (M' := mm_badAs) (L' := [some (.ref 89), some (.int (-10))]) (rest := []) (rv := some (.int c92.1)) (h' := (HM P c92.2 T)) rfl (Em_badAs_89 (-10) w _ _ hq P T) ?_
      show ai_ev D1 mm_tide 56 [some (.ref 89), some (.int x83), some (.int x84), some (.int x85)] [.int c92.1] (HM P c92.2 T) 0 0 _
      obtain ⟨rfl, rfl⟩ := ai_smP h
      exact ev_end rfl
    · refine ev_if_eq (t := 50) rfl rfl (fun c9 => absurd c9 hc) (fun _ => ?_)
      refine ev_go 4 (pc' := 27) (L' := [some (.ref 89), some (.int x83), some (.int x84), some (.int x85)]) (st' := [.long 2, .long (-2), .long (x85).toInt64]) (h' := (HM P w T)) (cs' := 0) (sl' := 0) rfl ?_
      obtain ⟨c93, hq, h⟩ := ai_bdE h
      refine ev_call (M' := mm_in) (L' := [some (.long (x85).toInt64), none, some (.long (-2)), none, some (.long 2), none]) (rest := []) (rv := some (.int c93)) (h' := (HM P w T)) rfl (Em_in (x85).toInt64 (-2) 2 _ hq (HM P w T)) ?_
      show ai_ev D1 mm_tide 30 [some (.ref 89), some (.int x83), some (.int x84), some (.int x85)] [.int c93] (HM P w T) 0 0 _
      rcases ai_ifE h with ⟨hc, h⟩ | ⟨hc, h⟩
      · refine ev_if_eq (t := 50) rfl rfl (fun _ => ?_) (fun c9 => absurd hc c9)
        refine ev_go 2 (pc' := 53) (L' := [some (.ref 89), some (.int x83), some (.int x84), some (.int x85)]) (st' := [.int (-10), .ref 89]) (h' := (HM P w T)) (cs' := 0) (sl' := 0) rfl ?_
        obtain ⟨c94, hq, h⟩ := ai_bdE h
        refine ev_call (M' := mm_badAs) (L' := [some (.ref 89), some (.int (-10))]) (rest := []) (rv := some (.int c94.1)) (h' := (HM P c94.2 T)) rfl (Em_badAs_89 (-10) w _ _ hq P T) ?_
        show ai_ev D1 mm_tide 56 [some (.ref 89), some (.int x83), some (.int x84), some (.int x85)] [.int c94.1] (HM P c94.2 T) 0 0 _
        obtain ⟨rfl, rfl⟩ := ai_smP h
        exact ev_end rfl
      · refine ev_if_eq (t := 50) rfl rfl (fun c9 => absurd c9 hc) (fun _ => ?_)
        refine ev_go 9 (pc' := 44) (L' := [some (.ref 89), some (.int x83), some (.int x84), some (.int x85)]) (st' := [.int x85, .int ((16 + (6 * x83)) + x84), .ref 89]) (h' := (HM P w T)) (cs' := 0) (sl' := 0) rfl ?_
        obtain ⟨c95, hq, h⟩ := ai_bdE h
        refine ev_call (M' := mm_becomes) (L' := [some (.ref 89), some (.int ((16 + (6 * x83)) + x84)), some (.int x85), none]) (rest := []) (rv := some (.int c95.1)) (h' := (HM P c95.2 T)) rfl (Em_becomes_89 ((16 + (6 * x83)) + x84) x85 w _ _ hq P T) ?_
        show ai_ev D1 mm_tide 47 [some (.ref 89), some (.int x83), some (.int x84), some (.int x85)] [.int c95.1] (HM P c95.2 T) 0 0 _
        refine ev_go 1 (pc' := 56) (L' := [some (.ref 89), some (.int x83), some (.int x84), some (.int x85)]) (st' := [.int c95.1]) (h' := (HM P c95.2 T)) (cs' := 0) (sl' := 0) rfl ?_
        obtain ⟨rfl, rfl⟩ := ai_smP h
        exact ev_end rfl
set_option maxHeartbeats 40000000 in
set_option maxRecDepth 100000 in
theorem Em_current_89 (x96 : Int32) (x97 : Int32) (w : WM) (r : Int32) (w' : WM) (h : Fm_current_89 x96 x97 w = some (r, w')) (P : Nat → ai_E) (T : ai_H) : ai_ev D1 mm_current 0 [some (.ref 89), some (.int x96), some (.int x97)] [] (HM P w T) 0 0 (some (.int r), HM P w' T) := by
  unfold Fm_current_89 at h
  refine ev_go 1 (pc' := 1) (L' := [some (.ref 89), some (.int x96), some (.int x97)]) (st' := [.int x96]) (h' := (HM P w T)) (cs' := 0) (sl' := 0) rfl ?_
  obtain ⟨c98, hq, h⟩ := ai_bdE h
  refine ev_call (M' := mm_isLayer) (L' := [some (.int x96)]) (rest := []) (rv := some (.int c98)) (h' := (HM P w T)) rfl (Em_isLayer x96 _ hq (HM P w T)) ?_
  show ai_ev D1 mm_current 4 [some (.ref 89), some (.int x96), some (.int x97)] [.int c98] (HM P w T) 0 0 _
  rcases ai_ifE h with ⟨hc, h⟩ | ⟨hc, h⟩
  · refine ev_if_eq (t := 31) rfl rfl (fun _ => ?_) (fun c9 => absurd hc c9)
    refine ev_go 2 (pc' := 34) (L' := [some (.ref 89), some (.int x96), some (.int x97)]) (st' := [.int (-10), .ref 89]) (h' := (HM P w T)) (cs' := 0) (sl' := 0) rfl ?_
    obtain ⟨c99, hq, h⟩ := ai_bdE h
    refine ev_call (M' := mm_badAs) (L' := [some (.ref 89), some (.int (-10))]) (rest := []) (rv := some (.int c99.1)) (h' := (HM P c99.2 T)) rfl (Em_badAs_89 (-10) w _ _ hq P T) ?_
    show ai_ev D1 mm_current 37 [some (.ref 89), some (.int x96), some (.int x97)] [.int c99.1] (HM P c99.2 T) 0 0 _
    obtain ⟨rfl, rfl⟩ := ai_smP h
    exact ev_end rfl
  · refine ev_if_eq (t := 31) rfl rfl (fun c9 => absurd c9 hc) (fun _ => ?_)
    refine ev_go 4 (pc' := 13) (L' := [some (.ref 89), some (.int x96), some (.int x97)]) (st' := [.long 1, .long (-1), .long (x97).toInt64]) (h' := (HM P w T)) (cs' := 0) (sl' := 0) rfl ?_
    obtain ⟨c100, hq, h⟩ := ai_bdE h
    refine ev_call (M' := mm_in) (L' := [some (.long (x97).toInt64), none, some (.long (-1)), none, some (.long 1), none]) (rest := []) (rv := some (.int c100)) (h' := (HM P w T)) rfl (Em_in (x97).toInt64 (-1) 1 _ hq (HM P w T)) ?_
    show ai_ev D1 mm_current 16 [some (.ref 89), some (.int x96), some (.int x97)] [.int c100] (HM P w T) 0 0 _
    rcases ai_ifE h with ⟨hc, h⟩ | ⟨hc, h⟩
    · refine ev_if_eq (t := 31) rfl rfl (fun _ => ?_) (fun c9 => absurd hc c9)
      refine ev_go 2 (pc' := 34) (L' := [some (.ref 89), some (.int x96), some (.int x97)]) (st' := [.int (-10), .ref 89]) (h' := (HM P w T)) (cs' := 0) (sl' := 0) rfl ?_
      obtain ⟨c101, hq, h⟩ := ai_bdE h
      refine ev_call (M' := mm_badAs) (L' := [some (.ref 89), some (.int (-10))]) (rest := []) (rv := some (.int c101.1)) (h' := (HM P c101.2 T)) rfl (Em_badAs_89 (-10) w _ _ hq P T) ?_
      show ai_ev D1 mm_current 37 [some (.ref 89), some (.int x96), some (.int x97)] [.int c101.1] (HM P c101.2 T) 0 0 _
      obtain ⟨rfl, rfl⟩ := ai_smP h
      exact ev_end rfl
    · refine ev_if_eq (t := 31) rfl rfl (fun c9 => absurd c9 hc) (fun _ => ?_)
      refine ev_go 5 (pc' := 25) (L' := [some (.ref 89), some (.int x96), some (.int x97)]) (st' := [.int x97, .int (12 + x96), .ref 89]) (h' := (HM P w T)) (cs' := 0) (sl' := 0) rfl ?_
      obtain ⟨c102, hq, h⟩ := ai_bdE h
      refine ev_call (M' := mm_becomes) (L' := [some (.ref 89), some (.int (12 + x96)), some (.int x97), none]) (rest := []) (rv := some (.int c102.1)) (h' := (HM P c102.2 T)) rfl (Em_becomes_89 (12 + x96) x97 w _ _ hq P T) ?_
      show ai_ev D1 mm_current 28 [some (.ref 89), some (.int x96), some (.int x97)] [.int c102.1] (HM P c102.2 T) 0 0 _
      refine ev_go 1 (pc' := 37) (L' := [some (.ref 89), some (.int x96), some (.int x97)]) (st' := [.int c102.1]) (h' := (HM P c102.2 T)) (cs' := 0) (sl' := 0) rfl ?_
      obtain ⟨rfl, rfl⟩ := ai_smP h
      exact ev_end rfl
set_option maxHeartbeats 40000000 in
set_option maxRecDepth 100000 in
theorem Em_thingTo_89 (x106 : Int32) (x107 : Int32) (x108 : Int32) (x109 : Int32) (w : WM) (r : Int32) (w' : WM) (h : Fm_thingTo_89 x106 x107 x108 x109 w = some (r, w')) (P : Nat → ai_E) (T : ai_H) : ai_ev D1 mm_thingTo 0 [some (.ref 89), some (.int x106), some (.int x107), some (.int x108), some (.int x109), none] [] (HM P w T) 0 0 (some (.int r), HM P w' T) := by
  unfold Fm_thingTo_89 at h
  refine ev_go 4 (pc' := 6) (L' := [some (.ref 89), some (.int x106), some (.int x107), some (.int x108), some (.int x109), none]) (st' := [.long 5, .long 0, .long (x107).toInt64]) (h' := (HM P w T)) (cs' := 0) (sl' := 0) rfl ?_
  obtain ⟨c110, hq, h⟩ := ai_bdE h
  refine ev_call (M' := mm_in) (L' := [some (.long (x107).toInt64), none, some (.long 0), none, some (.long 5), none]) (rest := []) (rv := some (.int c110)) (h' := (HM P w T)) rfl (Em_in (x107).toInt64 0 5 _ hq (HM P w T)) ?_
  show ai_ev D1 mm_thingTo 9 [some (.ref 89), some (.int x106), some (.int x107), some (.int x108), some (.int x109), none] [.int c110] (HM P w T) 0 0 _
  rcases ai_ifE h with ⟨hc, h⟩ | ⟨hc, h⟩
  · refine ev_if_eq (t := 37) rfl rfl (fun _ => ?_) (fun c9 => absurd hc c9)
    refine ev_go 1 (pc' := 39) (L' := [some (.ref 89), some (.int x106), some (.int x107), some (.int x108), some (.int x109), none]) (st' := [.int (-2)]) (h' := (HM P w T)) (cs' := 0) (sl' := 0) rfl ?_
    obtain ⟨rfl, rfl⟩ := ai_smP h
    exact ev_end rfl
  · refine ev_if_eq (t := 37) rfl rfl (fun c9 => absurd c9 hc) (fun _ => ?_)
    refine ev_go 4 (pc' := 18) (L' := [some (.ref 89), some (.int x106), some (.int x107), some (.int x108), some (.int x109), none]) (st' := [.long 99, .long 1, .long (x108).toInt64]) (h' := (HM P w T)) (cs' := 0) (sl' := 0) rfl ?_
    obtain ⟨c111, hq, h⟩ := ai_bdE h
    refine ev_call (M' := mm_in) (L' := [some (.long (x108).toInt64), none, some (.long 1), none, some (.long 99), none]) (rest := []) (rv := some (.int c111)) (h' := (HM P w T)) rfl (Em_in (x108).toInt64 1 99 _ hq (HM P w T)) ?_
    show ai_ev D1 mm_thingTo 21 [some (.ref 89), some (.int x106), some (.int x107), some (.int x108), some (.int x109), none] [.int c111] (HM P w T) 0 0 _
    rcases ai_ifE h with ⟨hc, h⟩ | ⟨hc, h⟩
    · refine ev_if_eq (t := 37) rfl rfl (fun _ => ?_) (fun c9 => absurd hc c9)
      refine ev_go 1 (pc' := 39) (L' := [some (.ref 89), some (.int x106), some (.int x107), some (.int x108), some (.int x109), none]) (st' := [.int (-2)]) (h' := (HM P w T)) (cs' := 0) (sl' := 0) rfl ?_
      obtain ⟨rfl, rfl⟩ := ai_smP h
      exact ev_end rfl
    · refine ev_if_eq (t := 37) rfl rfl (fun c9 => absurd c9 hc) (fun _ => ?_)
      refine ev_go 4 (pc' := 31) (L' := [some (.ref 89), some (.int x106), some (.int x107), some (.int x108), some (.int x109), none]) (st' := [.long 9, .long 1, .long (x109).toInt64]) (h' := (HM P w T)) (cs' := 0) (sl' := 0) rfl ?_
      obtain ⟨c112, hq, h⟩ := ai_bdE h
      refine ev_call (M' := mm_in) (L' := [some (.long (x109).toInt64), none, some (.long 1), none, some (.long 9), none]) (rest := []) (rv := some (.int c112)) (h' := (HM P w T)) rfl (Em_in (x109).toInt64 1 9 _ hq (HM P w T)) ?_
      show ai_ev D1 mm_thingTo 34 [some (.ref 89), some (.int x106), some (.int x107), some (.int x108), some (.int x109), none] [.int c112] (HM P w T) 0 0 _
      rcases ai_ifE h with ⟨hc, h⟩ | ⟨hc, h⟩
      · refine ev_if_ne (t := 40) rfl rfl (fun c9 => absurd hc c9) (fun _ => ?_)
        refine ev_go 1 (pc' := 39) (L' := [some (.ref 89), some (.int x106), some (.int x107), some (.int x108), some (.int x109), none]) (st' := [.int (-2)]) (h' := (HM P w T)) (cs' := 0) (sl' := 0) rfl ?_
        obtain ⟨rfl, rfl⟩ := ai_smP h
        exact ev_end rfl
      · refine ev_if_ne (t := 40) rfl rfl (fun _ => ?_) (fun c9 => absurd c9 hc)
        refine ev_go 5 (pc' := 47) (L' := [some (.ref 89), some (.int x106), some (.int x107), some (.int x108), some (.int x109), none]) (st' := [.int (x106 + 2), .ref 90]) (h' := (HM P w T)) (cs' := 0) (sl' := 0) rfl ?_
        obtain ⟨v113, hq, h⟩ := ai_bdE h
        refine ev_iald rfl rfl hq ?_
        refine ev_go 3 (pc' := 54) (L' := [some (.ref 89), some (.int x106), some (.int x107), some (.int x108), some (.int x109), some (.int v113)]) (st' := [.int 6, .int v113]) (h' := (HM P w T)) (cs' := 0) (sl' := 0) rfl ?_
        rcases ai_ifE h with ⟨hc, h⟩ | ⟨hc, h⟩
        · refine ev_ic_ne (t := 60) rfl rfl (fun c9 => absurd hc c9) (fun _ => ?_)
          refine ev_go 1 (pc' := 59) (L' := [some (.ref 89), some (.int x106), some (.int x107), some (.int x108), some (.int x109), some (.int v113)]) (st' := [.int (-4)]) (h' := (HM P w T)) (cs' := 0) (sl' := 0) rfl ?_
          obtain ⟨rfl, rfl⟩ := ai_smP h
          exact ev_end rfl
        · refine ev_ic_ne (t := 60) rfl rfl (fun _ => ?_) (fun c9 => absurd c9 hc)
          refine ev_go 8 (pc' := 72) (L' := [some (.ref 89), some (.int x106), some (.int x107), some (.int x108), some (.int x109), some (.int v113)]) (st' := [.int x107, .int ((x106 + 67) + v113), .ref 90]) (h' := (HM P w T)) (cs' := 0) (sl' := 0) rfl ?_
          obtain ⟨q114, hq, h⟩ := ai_bdE h
          refine ev_iast rfl rfl hq ?_
          rw [HMs_90]
          refine ev_go 8 (pc' := 85) (L' := [some (.ref 89), some (.int x106), some (.int x107), some (.int x108), some (.int x109), some (.int v113)]) (st' := [.int x108, .int ((x106 + 73) + v113), .ref 90]) (h' := (HM P (u_m_w w q114) T)) (cs' := 0) (sl' := 0) rfl ?_
          obtain ⟨q115, hq, h⟩ := ai_bdE h
          refine ev_iast rfl rfl hq ?_
          rw [HMs_90]
          refine ev_go 8 (pc' := 99) (L' := [some (.ref 89), some (.int x106), some (.int x107), some (.int x108), some (.int x109), some (.int v113)]) (st' := [.int x109, .int ((x106 + 79) + v113), .ref 90]) (h' := (HM P (u_m_w (u_m_w w q114) q115) T)) (cs' := 0) (sl' := 0) rfl ?_
          obtain ⟨q116, hq, h⟩ := ai_bdE h
          refine ev_iast rfl rfl hq ?_
          rw [HMs_90]
          refine ev_go 8 (pc' := 112) (L' := [some (.ref 89), some (.int x106), some (.int x107), some (.int x108), some (.int x109), some (.int v113)]) (st' := [.int 0, .int ((x106 + 85) + v113), .ref 90]) (h' := (HM P (u_m_w (u_m_w (u_m_w w q114) q115) q116) T)) (cs' := 0) (sl' := 0) rfl ?_
          obtain ⟨q117, hq, h⟩ := ai_bdE h
          refine ev_iast rfl rfl hq ?_
          rw [HMs_90]
          refine ev_go 6 (pc' := 121) (L' := [some (.ref 89), some (.int x106), some (.int x107), some (.int x108), some (.int x109), some (.int v113)]) (st' := [.int (x106 + 2), .ref 90, .int (x106 + 2), .ref 90]) (h' := (HM P (u_m_w (u_m_w (u_m_w (u_m_w w q114) q115) q116) q117) T)) (cs' := 0) (sl' := 0) rfl ?_
          obtain ⟨v118, hq, h⟩ := ai_bdE h
          refine ev_iald rfl rfl hq ?_
          refine ev_go 2 (pc' := 124) (L' := [some (.ref 89), some (.int x106), some (.int x107), some (.int x108), some (.int x109), some (.int v113)]) (st' := [.int (v118 + 1), .int (x106 + 2), .ref 90]) (h' := (HM P (u_m_w (u_m_w (u_m_w (u_m_w w q114) q115) q116) q117) T)) (cs' := 0) (sl' := 0) rfl ?_
          obtain ⟨q119, hq, h⟩ := ai_bdE h
          refine ev_iast rfl rfl hq ?_
          rw [HMs_90]
          refine ev_go 1 (pc' := 127) (L' := [some (.ref 89), some (.int x106), some (.int x107), some (.int x108), some (.int x109), some (.int v113)]) (st' := [.int v113]) (h' := (HM P (u_m_w (u_m_w (u_m_w (u_m_w (u_m_w w q114) q115) q116) q117) q119) T)) (cs' := 0) (sl' := 0) rfl ?_
          obtain ⟨rfl, rfl⟩ := ai_smP h
          exact ev_end rfl
set_option maxHeartbeats 40000000 in
set_option maxRecDepth 100000 in
theorem Em_thing_89 (x103 : Int32) (x104 : Int32) (x105 : Int32) (w : WM) (r : Int32) (w' : WM) (h : Fm_thing_89 x103 x104 x105 w = some (r, w')) (P : Nat → ai_E) (T : ai_H) : ai_ev D1 mm_thing 0 [some (.ref 89), some (.int x103), some (.int x104), some (.int x105)] [] (HM P w T) 0 0 (some (.int r), HM P w' T) := by
  unfold Fm_thing_89 at h
  refine ev_go 6 (pc' := 6) (L' := [some (.ref 89), some (.int x103), some (.int x104), some (.int x105)]) (st' := [.int x105, .int x104, .int x103, .int 0, .ref 89, .ref 89]) (h' := (HM P w T)) (cs' := 0) (sl' := 0) rfl ?_
  obtain ⟨c120, hq, h⟩ := ai_bdE h
  refine ev_call (M' := mm_thingTo) (L' := [some (.ref 89), some (.int 0), some (.int x103), some (.int x104), some (.int x105), none]) (rest := [.ref 89]) (rv := some (.int c120.1)) (h' := (HM P c120.2 T)) rfl (Em_thingTo_89 0 x103 x104 x105 w _ _ hq P T) ?_
  show ai_ev D1 mm_thing 9 [some (.ref 89), some (.int x103), some (.int x104), some (.int x105)] [.int c120.1, .ref 89] (HM P c120.2 T) 0 0 _
  obtain ⟨c121, hq, h⟩ := ai_bdE h
  refine ev_call (M' := mm_met) (L' := [some (.ref 89), some (.int c120.1)]) (rest := []) (rv := some (.int c121.1)) (h' := (HM P c121.2 T)) rfl (Em_met_89 c120.1 c120.2 _ _ hq P T) ?_
  show ai_ev D1 mm_thing 12 [some (.ref 89), some (.int x103), some (.int x104), some (.int x105)] [.int c121.1] (HM P c121.2 T) 0 0 _
  obtain ⟨rfl, rfl⟩ := ai_smP h
  exact ev_end rfl
set_option maxHeartbeats 40000000 in
set_option maxRecDepth 100000 in
theorem Em_isThing_89 (x124 : Int32) (w : WM) (r : Int32) (w' : WM) (h : Fm_isThing_89 x124 w = some (r, w')) (P : Nat → ai_E) (T : ai_H) : ai_ev D1 mm_isThing 0 [some (.ref 89), some (.int x124)] [] (HM P w T) 0 0 (some (.int r), HM P w' T) := by
  unfold Fm_isThing_89 at h
  refine ev_go 6 (pc' := 8) (L' := [some (.ref 89), some (.int x124)]) (st' := [.int 2, .ref 90, .long 0, .long (x124).toInt64]) (h' := (HM P w T)) (cs' := 0) (sl' := 0) rfl ?_
  obtain ⟨v125, hq, h⟩ := ai_bdE h
  refine ev_iald rfl rfl hq ?_
  refine ev_go 3 (pc' := 12) (L' := [some (.ref 89), some (.int x124)]) (st' := [.long ((v125 - 1)).toInt64, .long 0, .long (x124).toInt64]) (h' := (HM P w T)) (cs' := 0) (sl' := 0) rfl ?_
  obtain ⟨c126, hq, h⟩ := ai_bdE h
  refine ev_call (M' := mm_in) (L' := [some (.long (x124).toInt64), none, some (.long 0), none, some (.long ((v125 - 1)).toInt64), none]) (rest := []) (rv := some (.int c126)) (h' := (HM P w T)) rfl (Em_in (x124).toInt64 0 ((v125 - 1)).toInt64 _ hq (HM P w T)) ?_
  show ai_ev D1 mm_isThing 15 [some (.ref 89), some (.int x124)] [.int c126] (HM P w T) 0 0 _
  obtain ⟨hv, h⟩ := ai_ifS h
  obtain ⟨rfl, rfl⟩ := ai_smP h
  exact ev_zend rfl rfl rfl hv
