set_option maxHeartbeats 40000000 in
set_option maxRecDepth 100000 in
theorem Em_in (x4 : Int64) (x5 : Int64) (x6 : Int64) (r : Int32) (h : Fm_in x4 x5 x6 = some r) (hh : ai_H) : ai_ev D1 mm_in 0 [some (.long x4), none, some (.long x5), none, some (.long x6), none] [] hh 0 0 (some (.int r), hh) := by
  unfold Fm_in at h
  refine ev_go 3 (pc' := 3) (L' := [some (.long x4), none, some (.long x5), none, some (.long x6), none]) (st' := [.int (lg_cmp x4 x5)]) (h' := hh) (cs' := 0) (sl' := 0) rfl ?_
  rcases ai_ifE h with ⟨hc, h⟩ | ⟨hc, h⟩
  · refine ev_if_lt (t := 17) rfl rfl (fun _ => ?_) (fun c9 => absurd hc c9)
    refine ev_go 1 (pc' := 18) (L' := [some (.long x4), none, some (.long x5), none, some (.long x6), none]) (st' := [.int 0]) (h' := hh) (cs' := 0) (sl' := 0) rfl ?_
    obtain rfl := Option.some.inj h
    exact ev_end rfl
  · refine ev_if_lt (t := 17) rfl rfl (fun c9 => absurd c9 hc) (fun _ => ?_)
    refine ev_go 3 (pc' := 10) (L' := [some (.long x4), none, some (.long x5), none, some (.long x6), none]) (st' := [.int (lg_cmp x4 x6)]) (h' := hh) (cs' := 0) (sl' := 0) rfl ?_
    rcases ai_ifE h with ⟨hc, h⟩ | ⟨hc, h⟩
    · refine ev_if_gt (t := 17) rfl rfl (fun _ => ?_) (fun c9 => absurd hc c9)
      refine ev_go 1 (pc' := 18) (L' := [some (.long x4), none, some (.long x5), none, some (.long x6), none]) (st' := [.int 0]) (h' := hh) (cs' := 0) (sl' := 0) rfl ?_
      obtain rfl := Option.some.inj h
      exact ev_end rfl
    · refine ev_if_gt (t := 17) rfl rfl (fun c9 => absurd c9 hc) (fun _ => ?_)
      refine ev_go 2 (pc' := 18) (L' := [some (.long x4), none, some (.long x5), none, some (.long x6), none]) (st' := [.int 1]) (h' := hh) (cs' := 0) (sl' := 0) rfl ?_
      obtain rfl := Option.some.inj h
      exact ev_end rfl
set_option maxHeartbeats 40000000 in
set_option maxRecDepth 100000 in
theorem EGm_begins_89 : ∀ n : Nat, (∀ (y11 : Int32) (y12 : Int32) (y13 : Int32) (w : WM) (w' : WM), Gm_begins_89 n 0 y11 y12 y13 w = some w' → ∀ (P : Nat → ai_E) (T : ai_H), ai_ev D1 mm_begins 2 [some (.ref 89), some (.int y11), some (.int y12), some (.int y13)] [] (HM P w T) 0 0 (none, HM P w' T)) ∧ (∀ (y20 : Int32) (y21 : Int32) (y22 : Int32) (w : WM) (w' : WM), Gm_begins_89 n 1 y20 y21 y22 w = some w' → ∀ (P : Nat → ai_E) (T : ai_H), ai_ev D1 mm_begins 85 [some (.ref 89), some (.int y20), some (.int y21), some (.int y22)] [] (HM P w T) 0 0 (none, HM P w' T)) := by
  intro n
  induction n with
  | zero =>
    exact ⟨(fun _ _ _ _ _ h => by cases h), (fun _ _ _ _ _ h => by cases h)⟩
  | succ n ih =>
    obtain ⟨ih0, ih1⟩ := ih
    refine ⟨?_, ?_⟩
    · intro y11 y12 y13 w w' h P T
      simp only [Gm_begins_89] at h
      refine ev_go 2 (pc' := 6) (L' := [some (.ref 89), some (.int y11), some (.int y12), some (.int y13)]) (st' := [.int 149, .int y13]) (h' := (HM P w T)) (cs' := 0) (sl' := 0) rfl ?_
      rcases ai_ifE h with ⟨hc, h⟩ | ⟨hc, h⟩
      · refine ev_ic_ge (t := 24) rfl rfl (fun _ => ?_) (fun c9 => absurd hc c9)
        refine ev_go 6 (pc' := 32) (L' := [some (.ref 89), some (.int y11), some (.int y12), some (.int y13)]) (st' := [.int y12, .int (y11 + 0), .ref 90]) (h' := (HM P w T)) (cs' := 0) (sl' := 0) rfl ?_
        obtain ⟨q14, hq, h⟩ := ai_bdE h
        refine ev_iast rfl rfl hq ?_
        rw [HMs_90]
        refine ev_go 6 (pc' := 43) (L' := [some (.ref 89), some (.int y11), some (.int y12), some (.int y13)]) (st' := [.int 10, .int (y11 + 8), .ref 90]) (h' := (HM P (u_m_w w q14) T)) (cs' := 0) (sl' := 0) rfl ?_
        obtain ⟨q15, hq, h⟩ := ai_bdE h
        refine ev_iast rfl rfl hq ?_
        rw [HMs_90]
        refine ev_go 8 (pc' := 56) (L' := [some (.ref 89), some (.int y11), some (.int y12), some (.int y13)]) (st' := [.int 13, .int ((y11 + 8) + 1), .ref 90]) (h' := (HM P (u_m_w (u_m_w w q14) q15) T)) (cs' := 0) (sl' := 0) rfl ?_
        obtain ⟨q16, hq, h⟩ := ai_bdE h
        refine ev_iast rfl rfl hq ?_
        rw [HMs_90]
        refine ev_go 8 (pc' := 69) (L' := [some (.ref 89), some (.int y11), some (.int y12), some (.int y13)]) (st' := [.int 16, .int ((y11 + 8) + 2), .ref 90]) (h' := (HM P (u_m_w (u_m_w (u_m_w w q14) q15) q16) T)) (cs' := 0) (sl' := 0) rfl ?_
        obtain ⟨q17, hq, h⟩ := ai_bdE h
        refine ev_iast rfl rfl hq ?_
        rw [HMs_90]
        refine ev_go 8 (pc' := 82) (L' := [some (.ref 89), some (.int y11), some (.int y12), some (.int y13)]) (st' := [.int 20, .int ((y11 + 8) + 3), .ref 90]) (h' := (HM P (u_m_w (u_m_w (u_m_w (u_m_w w q14) q15) q16) q17) T)) (cs' := 0) (sl' := 0) rfl ?_
        obtain ⟨q18, hq, h⟩ := ai_bdE h
        refine ev_iast rfl rfl hq ?_
        rw [HMs_90]
        refine ev_go 2 (pc' := 85) (L' := [some (.ref 89), some (.int y11), some (.int y12), some (.int 0)]) (st' := []) (h' := (HM P (u_m_w (u_m_w (u_m_w (u_m_w (u_m_w w q14) q15) q16) q17) q18) T)) (cs' := 0) (sl' := 0) rfl ?_
        exact ih1 _ _ _ _ _ h P T
      · refine ev_ic_ge (t := 24) rfl rfl (fun c9 => absurd c9 hc) (fun _ => ?_)
        refine ev_go 6 (pc' := 17) (L' := [some (.ref 89), some (.int y11), some (.int y12), some (.int y13)]) (st' := [.int 0, .int (y11 + y13), .ref 90]) (h' := (HM P w T)) (cs' := 0) (sl' := 0) rfl ?_
        obtain ⟨q19, hq, h⟩ := ai_bdE h
        refine ev_iast rfl rfl hq ?_
        rw [HMs_90]
        refine ev_go 2 (pc' := 2) (L' := [some (.ref 89), some (.int y11), some (.int y12), some (.int (y13 + 1))]) (st' := []) (h' := (HM P (u_m_w w q19) T)) (cs' := 0) (sl' := 0) rfl ?_
        exact ih0 _ _ _ _ _ h P T
    · intro y20 y21 y22 w w' h P T
      simp only [Gm_begins_89] at h
      refine ev_go 2 (pc' := 88) (L' := [some (.ref 89), some (.int y20), some (.int y21), some (.int y22)]) (st' := [.int 24, .int y22]) (h' := (HM P w T)) (cs' := 0) (sl' := 0) rfl ?_
      rcases ai_ifE h with ⟨hc, h⟩ | ⟨hc, h⟩
      · refine ev_ic_ge (t := 109) rfl rfl (fun _ => ?_) (fun c9 => absurd hc c9)
        obtain rfl := Option.some.inj h
        exact ev_end rfl
      · refine ev_ic_ge (t := 109) rfl rfl (fun c9 => absurd c9 hc) (fun _ => ?_)
        refine ev_go 8 (pc' := 102) (L' := [some (.ref 89), some (.int y20), some (.int y21), some (.int y22)]) (st' := [.int 3, .int ((y20 + 40) + y22), .ref 90]) (h' := (HM P w T)) (cs' := 0) (sl' := 0) rfl ?_
        obtain ⟨q23, hq, h⟩ := ai_bdE h
        refine ev_iast rfl rfl hq ?_
        rw [HMs_90]
        refine ev_go 2 (pc' := 85) (L' := [some (.ref 89), some (.int y20), some (.int y21), some (.int (y22 + 1))]) (st' := []) (h' := (HM P (u_m_w w q23) T)) (cs' := 0) (sl' := 0) rfl ?_
        exact ih1 _ _ _ _ _ h P T
set_option maxHeartbeats 40000000 in
set_option maxRecDepth 100000 in
theorem Em_begins_89 (n : Nat) (x9 : Int32) (x10 : Int32) (w : WM) (w' : WM) (h : Fm_begins_89 n x9 x10 w = some w') (P : Nat → ai_E) (T : ai_H) : ai_ev D1 mm_begins 0 [some (.ref 89), some (.int x9), some (.int x10), none] [] (HM P w T) 0 0 (none, HM P w' T) := by
  unfold Fm_begins_89 at h
  obtain ⟨ih0, ih1⟩ := EGm_begins_89 n
  refine ev_go 2 (pc' := 2) (L' := [some (.ref 89), some (.int x9), some (.int x10), some (.int 0)]) (st' := []) (h' := (HM P w T)) (cs' := 0) (sl' := 0) rfl ?_
  exact ih0 _ _ _ _ _ h P T
set_option maxHeartbeats 40000000 in
set_option maxRecDepth 100000 in
theorem Em_seaTo_89 (n : Nat) (x2 : Int32) (x3 : Int32) (w : WM) (r : Int32) (w' : WM) (h : Fm_seaTo_89 n x2 x3 w = some (r, w')) (P : Nat → ai_E) (T : ai_H) : ai_ev D1 mm_seaTo 0 [some (.ref 89), some (.int x2), some (.int x3), none] [] (HM P w T) 0 0 (some (.int r), HM P w' T) := by
  unfold Fm_seaTo_89 at h
  refine ev_go 4 (pc' := 6) (L' := [some (.ref 89), some (.int x2), some (.int x3), none]) (st' := [.long 6, .long 1, .long (x3).toInt64]) (h' := (HM P w T)) (cs' := 0) (sl' := 0) rfl ?_
  obtain ⟨c7, hq, h⟩ := ai_bdE h
  refine ev_call (M' := mm_in) (L' := [some (.long (x3).toInt64), none, some (.long 1), none, some (.long 6), none]) (rest := []) (rv := some (.int c7)) (h' := (HM P w T)) rfl (Em_in (x3).toInt64 1 6 _ hq (HM P w T)) ?_
  show ai_ev D1 mm_seaTo 9 [some (.ref 89), some (.int x2), some (.int x3), none] [.int c7] (HM P w T) 0 0 _
  rcases ai_ifE h with ⟨hc, h⟩ | ⟨hc, h⟩
  · refine ev_if_ne (t := 15) rfl rfl (fun c9 => absurd hc c9) (fun _ => ?_)
    refine ev_go 1 (pc' := 14) (L' := [some (.ref 89), some (.int x2), some (.int x3), none]) (st' := [.int (-2)]) (h' := (HM P w T)) (cs' := 0) (sl' := 0) rfl ?_
    obtain ⟨rfl, rfl⟩ := ai_smP h
    exact ev_end rfl
  · refine ev_if_ne (t := 15) rfl rfl (fun _ => ?_) (fun c9 => absurd c9 hc)
    refine ev_go 5 (pc' := 22) (L' := [some (.ref 89), some (.int x2), some (.int x3), none]) (st' := [.int (x2 + 0), .ref 90]) (h' := (HM P w T)) (cs' := 0) (sl' := 0) rfl ?_
    obtain ⟨v8, hq, h⟩ := ai_bdE h
    refine ev_iald rfl rfl hq ?_
    refine ev_go 4 (pc' := 27) (L' := [some (.ref 89), some (.int x2), some (.int x3), some (.int v8)]) (st' := [.int x3, .int x2, .ref 89]) (h' := (HM P w T)) (cs' := 0) (sl' := 0) rfl ?_
    obtain ⟨c24, hq, h⟩ := ai_bdE h
    refine ev_call (M' := mm_begins) (L' := [some (.ref 89), some (.int x2), some (.int x3), none]) (rest := []) (rv := none) (h' := (HM P c24 T)) rfl (Em_begins_89 n x2 x3 w _ hq P T) ?_
    show ai_ev D1 mm_seaTo 30 [some (.ref 89), some (.int x2), some (.int x3), some (.int v8)] [] (HM P c24 T) 0 0 _
    refine ev_go 1 (pc' := 31) (L' := [some (.ref 89), some (.int x2), some (.int x3), some (.int v8)]) (st' := [.int v8]) (h' := (HM P c24 T)) (cs' := 0) (sl' := 0) rfl ?_
    obtain ⟨rfl, rfl⟩ := ai_smP h
    exact ev_end rfl
set_option maxHeartbeats 40000000 in
set_option maxRecDepth 100000 in
theorem Em_met_89 (x26 : Int32) (w : WM) (r : Int32) (w' : WM) (h : Fm_met_89 x26 w = some (r, w')) (P : Nat → ai_E) (T : ai_H) : ai_ev D1 mm_met 0 [some (.ref 89), some (.int x26)] [] (HM P w T) 0 0 (some (.int r), HM P w' T) := by
  unfold Fm_met_89 at h
  refine ev_go 2 (pc' := 3) (L' := [some (.ref 89), some (.int x26)]) (st' := [.int (-2), .int x26]) (h' := (HM P w T)) (cs' := 0) (sl' := 0) rfl ?_
  rcases ai_ifE h with ⟨hc, h⟩ | ⟨hc, h⟩
  · refine ev_ic_eq (t := 18) rfl rfl (fun _ => ?_) (fun c9 => absurd hc c9)
    refine ev_go 6 (pc' := 27) (L' := [some (.ref 89), some (.int x26)]) (st' := [.int ((-2) - x26), .ref 93, .int ((-2) - x26), .ref 93]) (h' := (HM P w T)) (cs' := 0) (sl' := 0) rfl ?_
    obtain ⟨v27, hq, h⟩ := ai_bdE h
    refine ev_iald rfl rfl hq ?_
    refine ev_go 2 (pc' := 30) (L' := [some (.ref 89), some (.int x26)]) (st' := [.int (v27 + 1), .int ((-2) - x26), .ref 93]) (h' := (HM P w T)) (cs' := 0) (sl' := 0) rfl ?_
    obtain ⟨q28, hq, h⟩ := ai_bdE h
    refine ev_iast rfl rfl hq ?_
    rw [HMs_93]
    refine ev_go 1 (pc' := 32) (L' := [some (.ref 89), some (.int x26)]) (st' := [.int x26]) (h' := (HM P (u_m_refused w q28) T)) (cs' := 0) (sl' := 0) rfl ?_
    obtain ⟨rfl, rfl⟩ := ai_smP h
    exact ev_end rfl
  · refine ev_ic_eq (t := 18) rfl rfl (fun c9 => absurd c9 hc) (fun _ => ?_)
    refine ev_go 2 (pc' := 9) (L' := [some (.ref 89), some (.int x26)]) (st' := [.int (-3), .int x26]) (h' := (HM P w T)) (cs' := 0) (sl' := 0) rfl ?_
    rcases ai_ifE h with ⟨hc, h⟩ | ⟨hc, h⟩
    · refine ev_ic_eq (t := 18) rfl rfl (fun _ => ?_) (fun c9 => absurd hc c9)
      refine ev_go 6 (pc' := 27) (L' := [some (.ref 89), some (.int x26)]) (st' := [.int ((-2) - x26), .ref 93, .int ((-2) - x26), .ref 93]) (h' := (HM P w T)) (cs' := 0) (sl' := 0) rfl ?_
      obtain ⟨v29, hq, h⟩ := ai_bdE h
      refine ev_iald rfl rfl hq ?_
      refine ev_go 2 (pc' := 30) (L' := [some (.ref 89), some (.int x26)]) (st' := [.int (v29 + 1), .int ((-2) - x26), .ref 93]) (h' := (HM P w T)) (cs' := 0) (sl' := 0) rfl ?_
      obtain ⟨q30, hq, h⟩ := ai_bdE h
      refine ev_iast rfl rfl hq ?_
      rw [HMs_93]
      refine ev_go 1 (pc' := 32) (L' := [some (.ref 89), some (.int x26)]) (st' := [.int x26]) (h' := (HM P (u_m_refused w q30) T)) (cs' := 0) (sl' := 0) rfl ?_
      obtain ⟨rfl, rfl⟩ := ai_smP h
      exact ev_end rfl
    · refine ev_ic_eq (t := 18) rfl rfl (fun c9 => absurd c9 hc) (fun _ => ?_)
      refine ev_go 2 (pc' := 15) (L' := [some (.ref 89), some (.int x26)]) (st' := [.int (-4), .int x26]) (h' := (HM P w T)) (cs' := 0) (sl' := 0) rfl ?_
      rcases ai_ifE h with ⟨hc, h⟩ | ⟨hc, h⟩
      · refine ev_ic_ne (t := 31) rfl rfl (fun c9 => absurd hc c9) (fun _ => ?_)
        refine ev_go 6 (pc' := 27) (L' := [some (.ref 89), some (.int x26)]) (st' := [.int ((-2) - x26), .ref 93, .int ((-2) - x26), .ref 93]) (h' := (HM P w T)) (cs' := 0) (sl' := 0) rfl ?_
        obtain ⟨v31, hq, h⟩ := ai_bdE h
        refine ev_iald rfl rfl hq ?_
        refine ev_go 2 (pc' := 30) (L' := [some (.ref 89), some (.int x26)]) (st' := [.int (v31 + 1), .int ((-2) - x26), .ref 93]) (h' := (HM P w T)) (cs' := 0) (sl' := 0) rfl ?_
        obtain ⟨q32, hq, h⟩ := ai_bdE h
        refine ev_iast rfl rfl hq ?_
        rw [HMs_93]
        refine ev_go 1 (pc' := 32) (L' := [some (.ref 89), some (.int x26)]) (st' := [.int x26]) (h' := (HM P (u_m_refused w q32) T)) (cs' := 0) (sl' := 0) rfl ?_
        obtain ⟨rfl, rfl⟩ := ai_smP h
        exact ev_end rfl
      · refine ev_ic_ne (t := 31) rfl rfl (fun _ => ?_) (fun c9 => absurd c9 hc)
        refine ev_go 1 (pc' := 32) (L' := [some (.ref 89), some (.int x26)]) (st' := [.int x26]) (h' := (HM P w T)) (cs' := 0) (sl' := 0) rfl ?_
        obtain ⟨rfl, rfl⟩ := ai_smP h
        exact ev_end rfl
set_option maxHeartbeats 40000000 in
set_option maxRecDepth 100000 in
theorem Em_sea_89 (n : Nat) (x1 : Int32) (w : WM) (r : Int32) (w' : WM) (h : Fm_sea_89 n x1 w = some (r, w')) (P : Nat → ai_E) (T : ai_H) : ai_ev D1 mm_sea 0 [some (.ref 89), some (.int x1)] [] (HM P w T) 0 0 (some (.int r), HM P w' T) := by
  unfold Fm_sea_89 at h
  refine ev_go 4 (pc' := 4) (L' := [some (.ref 89), some (.int x1)]) (st' := [.int x1, .int 0, .ref 89, .ref 89]) (h' := (HM P w T)) (cs' := 0) (sl' := 0) rfl ?_
  obtain ⟨c25, hq, h⟩ := ai_bdE h
  refine ev_call (M' := mm_seaTo) (L' := [some (.ref 89), some (.int 0), some (.int x1), none]) (rest := [.ref 89]) (rv := some (.int c25.1)) (h' := (HM P c25.2 T)) rfl (Em_seaTo_89 n 0 x1 w _ _ hq P T) ?_
  show ai_ev D1 mm_sea 7 [some (.ref 89), some (.int x1)] [.int c25.1, .ref 89] (HM P c25.2 T) 0 0 _
  obtain ⟨c33, hq, h⟩ := ai_bdE h
  refine ev_call (M' := mm_met) (L' := [some (.ref 89), some (.int c25.1)]) (rest := []) (rv := some (.int c33.1)) (h' := (HM P c33.2 T)) rfl (Em_met_89 c25.1 c25.2 _ _ hq P T) ?_
  show ai_ev D1 mm_sea 10 [some (.ref 89), some (.int x1)] [.int c33.1] (HM P c33.2 T) 0 0 _
  obtain ⟨rfl, rfl⟩ := ai_smP h
  exact ev_end rfl
set_option maxHeartbeats 40000000 in
set_option maxRecDepth 100000 in
theorem Em_isLayer (x39 : Int32) (r : Int32) (h : Fm_isLayer x39 = some r) (hh : ai_H) : ai_ev D1 mm_isLayer 0 [some (.int x39)] [] hh 0 0 (some (.int r), hh) := by
  unfold Fm_isLayer at h
  refine ev_go 4 (pc' := 6) (L' := [some (.int x39)]) (st' := [.long 3, .long 0, .long (x39).toInt64]) (h' := hh) (cs' := 0) (sl' := 0) rfl ?_
  obtain ⟨c40, hq, h⟩ := ai_bdE h
  refine ev_call (M' := mm_in) (L' := [some (.long (x39).toInt64), none, some (.long 0), none, some (.long 3), none]) (rest := []) (rv := some (.int c40)) (h' := hh) rfl (Em_in (x39).toInt64 0 3 _ hq hh) ?_
  show ai_ev D1 mm_isLayer 9 [some (.int x39)] [.int c40] hh 0 0 _
  obtain ⟨hv, h⟩ := ai_ifS h
  obtain rfl := Option.some.inj h
  exact ev_zend rfl rfl rfl hv
set_option maxHeartbeats 40000000 in
set_option maxRecDepth 100000 in
theorem Em_becomes_89 (x43 : Int32) (x44 : Int32) (w : WM) (r : Int32) (w' : WM) (h : Fm_becomes_89 x43 x44 w = some (r, w')) (P : Nat → ai_E) (T : ai_H) : ai_ev D1 mm_becomes 0 [some (.ref 89), some (.int x43), some (.int x44), none] [] (HM P w T) 0 0 (some (.int r), HM P w' T) := by
  unfold Fm_becomes_89 at h
  refine ev_go 3 (pc' := 5) (L' := [some (.ref 89), some (.int x43), some (.int x44), none]) (st' := [.int x43, .ref 90]) (h' := (HM P w T)) (cs' := 0) (sl' := 0) rfl ?_
  obtain ⟨v45, hq, h⟩ := ai_bdE h
  refine ev_iald rfl rfl hq ?_
  refine ev_go 5 (pc' := 13) (L' := [some (.ref 89), some (.int x43), some (.int x44), some (.int v45)]) (st' := [.int x44, .int x43, .ref 90]) (h' := (HM P w T)) (cs' := 0) (sl' := 0) rfl ?_
  obtain ⟨q46, hq, h⟩ := ai_bdE h
  refine ev_iast rfl rfl hq ?_
  rw [HMs_90]
  refine ev_go 1 (pc' := 15) (L' := [some (.ref 89), some (.int x43), some (.int x44), some (.int v45)]) (st' := [.int v45]) (h' := (HM P (u_m_w w q46) T)) (cs' := 0) (sl' := 0) rfl ?_
  obtain ⟨rfl, rfl⟩ := ai_smP h
  exact ev_end rfl
set_option maxHeartbeats 40000000 in
set_option maxRecDepth 100000 in
theorem Em_waterTo_89 (x36 : Int32) (x37 : Int32) (x38 : Int32) (w : WM) (r : Int32) (w' : WM) (h : Fm_waterTo_89 x36 x37 x38 w = some (r, w')) (P : Nat → ai_E) (T : ai_H) : ai_ev D1 mm_waterTo 0 [some (.ref 89), some (.int x36), some (.int x37), some (.int x38), none] [] (HM P w T) 0 0 (some (.int r), HM P w' T) := by
  unfold Fm_waterTo_89 at h
  refine ev_go 1 (pc' := 1) (L' := [some (.ref 89), some (.int x36), some (.int x37), some (.int x38), none]) (st' := [.int x37]) (h' := (HM P w T)) (cs' := 0) (sl' := 0) rfl ?_
  obtain ⟨c41, hq, h⟩ := ai_bdE h
  refine ev_call (M' := mm_isLayer) (L' := [some (.int x37)]) (rest := []) (rv := some (.int c41)) (h' := (HM P w T)) rfl (Em_isLayer x37 _ hq (HM P w T)) ?_
  show ai_ev D1 mm_waterTo 4 [some (.ref 89), some (.int x36), some (.int x37), some (.int x38), none] [.int c41] (HM P w T) 0 0 _
  rcases ai_ifE h with ⟨hc, h⟩ | ⟨hc, h⟩
  · refine ev_if_eq (t := 19) rfl rfl (fun _ => ?_) (fun c9 => absurd hc c9)
    refine ev_go 1 (pc' := 21) (L' := [some (.ref 89), some (.int x36), some (.int x37), some (.int x38), none]) (st' := [.int (-2)]) (h' := (HM P w T)) (cs' := 0) (sl' := 0) rfl ?_
    obtain ⟨rfl, rfl⟩ := ai_smP h
    exact ev_end rfl
  · refine ev_if_eq (t := 19) rfl rfl (fun c9 => absurd c9 hc) (fun _ => ?_)
    refine ev_go 4 (pc' := 13) (L' := [some (.ref 89), some (.int x36), some (.int x37), some (.int x38), none]) (st' := [.long 99, .long 1, .long (x38).toInt64]) (h' := (HM P w T)) (cs' := 0) (sl' := 0) rfl ?_
    obtain ⟨c42, hq, h⟩ := ai_bdE h
    refine ev_call (M' := mm_in) (L' := [some (.long (x38).toInt64), none, some (.long 1), none, some (.long 99), none]) (rest := []) (rv := some (.int c42)) (h' := (HM P w T)) rfl (Em_in (x38).toInt64 1 99 _ hq (HM P w T)) ?_
    show ai_ev D1 mm_waterTo 16 [some (.ref 89), some (.int x36), some (.int x37), some (.int x38), none] [.int c42] (HM P w T) 0 0 _
    rcases ai_ifE h with ⟨hc, h⟩ | ⟨hc, h⟩
    · refine ev_if_ne (t := 22) rfl rfl (fun c9 => absurd hc c9) (fun _ => ?_)
      refine ev_go 1 (pc' := 21) (L' := [some (.ref 89), some (.int x36), some (.int x37), some (.int x38), none]) (st' := [.int (-2)]) (h' := (HM P w T)) (cs' := 0) (sl' := 0) rfl ?_
      obtain ⟨rfl, rfl⟩ := ai_smP h
      exact ev_end rfl
    · refine ev_if_ne (t := 22) rfl rfl (fun _ => ?_) (fun c9 => absurd c9 hc)
      refine ev_go 1 (pc' := 23) (L' := [some (.ref 89), some (.int x36), some (.int x37), some (.int x38), none]) (st' := [.int x37]) (h' := (HM P w T)) (cs' := 0) (sl' := 0) rfl ?_
      rcases ai_ifE h with ⟨hc, h⟩ | ⟨hc, h⟩
      · refine ev_if_eq (t := 43) rfl rfl (fun _ => ?_) (fun c9 => absurd hc c9)
        refine ev_go 2 (pc' := 45) (L' := [some (.ref 89), some (.int x36), some (.int x37), some (.int x38), none]) (st' := [.int 3, .int x37]) (h' := (HM P w T)) (cs' := 0) (sl' := 0) rfl ?_
        rcases ai_ifE h with ⟨hc, h⟩ | ⟨hc, h⟩
        · refine ev_ic_eq (t := 65) rfl rfl (fun _ => ?_) (fun c9 => absurd hc c9)
          refine ev_go 12 (pc' := 85) (L' := [some (.ref 89), some (.int x36), some (.int x37), some (.int x38), some (.int 1)]) (st' := [.int x38, .int ((x36 + 8) + x37), .ref 89]) (h' := (HM P w T)) (cs' := 0) (sl' := 0) rfl ?_
          obtain ⟨c47, hq, h⟩ := ai_bdE h
          refine ev_call (M' := mm_becomes) (L' := [some (.ref 89), some (.int ((x36 + 8) + x37)), some (.int x38), none]) (rest := []) (rv := some (.int c47.1)) (h' := (HM P c47.2 T)) rfl (Em_becomes_89 ((x36 + 8) + x37) x38 w _ _ hq P T) ?_
          show ai_ev D1 mm_waterTo 88 [some (.ref 89), some (.int x36), some (.int x37), some (.int x38), some (.int 1)] [.int c47.1] (HM P c47.2 T) 0 0 _
          refine ev_go 1 (pc' := 93) (L' := [some (.ref 89), some (.int x36), some (.int x37), some (.int x38), some (.int 1)]) (st' := [.int c47.1]) (h' := (HM P c47.2 T)) (cs' := 0) (sl' := 0) rfl ?_
          obtain ⟨rfl, rfl⟩ := ai_smP h
          exact ev_end rfl
        · refine ev_ic_eq (t := 65) rfl rfl (fun c9 => absurd c9 hc) (fun _ => ?_)
          refine ev_go 9 (pc' := 60) (L' := [some (.ref 89), some (.int x36), some (.int x37), some (.int x38), none]) (st' := [.int (((x36 + 8) + x37) + 1), .ref 90]) (h' := (HM P w T)) (cs' := 0) (sl' := 0) rfl ?_
          obtain ⟨v48, hq, h⟩ := ai_bdE h
          refine ev_iald rfl rfl hq ?_
          refine ev_go 1 (pc' := 62) (L' := [some (.ref 89), some (.int x36), some (.int x37), some (.int x38), none]) (st' := [.int x38, .int v48]) (h' := (HM P w T)) (cs' := 0) (sl' := 0) rfl ?_
          rcases ai_ifE h with ⟨hc, h⟩ | ⟨hc, h⟩
          · refine ev_ic_le (t := 69) rfl rfl (fun _ => ?_) (fun c9 => absurd hc c9)
            refine ev_go 5 (pc' := 93) (L' := [some (.ref 89), some (.int x36), some (.int x37), some (.int x38), some (.int 0)]) (st' := [.int (-3)]) (h' := (HM P w T)) (cs' := 0) (sl' := 0) rfl ?_
            obtain ⟨rfl, rfl⟩ := ai_smP h
            exact ev_end rfl
          · refine ev_ic_le (t := 69) rfl rfl (fun c9 => absurd c9 hc) (fun _ => ?_)
            refine ev_go 12 (pc' := 85) (L' := [some (.ref 89), some (.int x36), some (.int x37), some (.int x38), some (.int 1)]) (st' := [.int x38, .int ((x36 + 8) + x37), .ref 89]) (h' := (HM P w T)) (cs' := 0) (sl' := 0) rfl ?_
            obtain ⟨c49, hq, h⟩ := ai_bdE h
            refine ev_call (M' := mm_becomes) (L' := [some (.ref 89), some (.int ((x36 + 8) + x37)), some (.int x38), none]) (rest := []) (rv := some (.int c49.1)) (h' := (HM P c49.2 T)) rfl (Em_becomes_89 ((x36 + 8) + x37) x38 w _ _ hq P T) ?_
            show ai_ev D1 mm_waterTo 88 [some (.ref 89), some (.int x36), some (.int x37), some (.int x38), some (.int 1)] [.int c49.1] (HM P c49.2 T) 0 0 _
            refine ev_go 1 (pc' := 93) (L' := [some (.ref 89), some (.int x36), some (.int x37), some (.int x38), some (.int 1)]) (st' := [.int c49.1]) (h' := (HM P c49.2 T)) (cs' := 0) (sl' := 0) rfl ?_
            obtain ⟨rfl, rfl⟩ := ai_smP h
            exact ev_end rfl
      · refine ev_if_eq (t := 43) rfl rfl (fun c9 => absurd c9 hc) (fun _ => ?_)
        refine ev_go 9 (pc' := 38) (L' := [some (.ref 89), some (.int x36), some (.int x37), some (.int x38), none]) (st' := [.int (((x36 + 8) + x37) - 1), .ref 90]) (h' := (HM P w T)) (cs' := 0) (sl' := 0) rfl ?_
        obtain ⟨v50, hq, h⟩ := ai_bdE h
        refine ev_iald rfl rfl hq ?_
        refine ev_go 1 (pc' := 40) (L' := [some (.ref 89), some (.int x36), some (.int x37), some (.int x38), none]) (st' := [.int x38, .int v50]) (h' := (HM P w T)) (cs' := 0) (sl' := 0) rfl ?_
        rcases ai_ifE h with ⟨hc, h⟩ | ⟨hc, h⟩
        · refine ev_ic_ge (t := 69) rfl rfl (fun _ => ?_) (fun c9 => absurd hc c9)
          refine ev_go 5 (pc' := 93) (L' := [some (.ref 89), some (.int x36), some (.int x37), some (.int x38), some (.int 0)]) (st' := [.int (-3)]) (h' := (HM P w T)) (cs' := 0) (sl' := 0) rfl ?_
          obtain ⟨rfl, rfl⟩ := ai_smP h
          exact ev_end rfl
        · refine ev_ic_ge (t := 69) rfl rfl (fun c9 => absurd c9 hc) (fun _ => ?_)
          refine ev_go 2 (pc' := 45) (L' := [some (.ref 89), some (.int x36), some (.int x37), some (.int x38), none]) (st' := [.int 3, .int x37]) (h' := (HM P w T)) (cs' := 0) (sl' := 0) rfl ?_
          rcases ai_ifE h with ⟨hc, h⟩ | ⟨hc, h⟩
          · refine ev_ic_eq (t := 65) rfl rfl (fun _ => ?_) (fun c9 => absurd hc c9)
            refine ev_go 12 (pc' := 85) (L' := [some (.ref 89), some (.int x36), some (.int x37), some (.int x38), some (.int 1)]) (st' := [.int x38, .int ((x36 + 8) + x37), .ref 89]) (h' := (HM P w T)) (cs' := 0) (sl' := 0) rfl ?_
            obtain ⟨c51, hq, h⟩ := ai_bdE h
            refine ev_call (M' := mm_becomes) (L' := [some (.ref 89), some (.int ((x36 + 8) + x37)), some (.int x38), none]) (rest := []) (rv := some (.int c51.1)) (h' := (HM P c51.2 T)) rfl (Em_becomes_89 ((x36 + 8) + x37) x38 w _ _ hq P T) ?_
            show ai_ev D1 mm_waterTo 88 [some (.ref 89), some (.int x36), some (.int x37), some (.int x38), some (.int 1)] [.int c51.1] (HM P c51.2 T) 0 0 _
            refine ev_go 1 (pc' := 93) (L' := [some (.ref 89), some (.int x36), some (.int x37), some (.int x38), some (.int 1)]) (st' := [.int c51.1]) (h' := (HM P c51.2 T)) (cs' := 0) (sl' := 0) rfl ?_
            obtain ⟨rfl, rfl⟩ := ai_smP h
            exact ev_end rfl
          · refine ev_ic_eq (t := 65) rfl rfl (fun c9 => absurd c9 hc) (fun _ => ?_)
            refine ev_go 9 (pc' := 60) (L' := [some (.ref 89), some (.int x36), some (.int x37), some (.int x38), none]) (st' := [.int (((x36 + 8) + x37) + 1), .ref 90]) (h' := (HM P w T)) (cs' := 0) (sl' := 0) rfl ?_
            obtain ⟨v52, hq, h⟩ := ai_bdE h
            refine ev_iald rfl rfl hq ?_
            refine ev_go 1 (pc' := 62) (L' := [some (.ref 89), some (.int x36), some (.int x37), some (.int x38), none]) (st' := [.int x38, .int v52]) (h' := (HM P w T)) (cs' := 0) (sl' := 0) rfl ?_
            rcases ai_ifE h with ⟨hc, h⟩ | ⟨hc, h⟩
            · refine ev_ic_le (t := 69) rfl rfl (fun _ => ?_) (fun c9 => absurd hc c9)
              refine ev_go 5 (pc' := 93) (L' := [some (.ref 89), some (.int x36), some (.int x37), some (.int x38), some (.int 0)]) (st' := [.int (-3)]) (h' := (HM P w T)) (cs' := 0) (sl' := 0) rfl ?_
              obtain ⟨rfl, rfl⟩ := ai_smP h
              exact ev_end rfl
            · refine ev_ic_le (t := 69) rfl rfl (fun c9 => absurd c9 hc) (fun _ => ?_)
              refine ev_go 12 (pc' := 85) (L' := [some (.ref 89), some (.int x36), some (.int x37), some (.int x38), some (.int 1)]) (st' := [.int x38, .int ((x36 + 8) + x37), .ref 89]) (h' := (HM P w T)) (cs' := 0) (sl' := 0) rfl ?_
              obtain ⟨c53, hq, h⟩ := ai_bdE h
              refine ev_call (M' := mm_becomes) (L' := [some (.ref 89), some (.int ((x36 + 8) + x37)), some (.int x38), none]) (rest := []) (rv := some (.int c53.1)) (h' := (HM P c53.2 T)) rfl (Em_becomes_89 ((x36 + 8) + x37) x38 w _ _ hq P T) ?_
              show ai_ev D1 mm_waterTo 88 [some (.ref 89), some (.int x36), some (.int x37), some (.int x38), some (.int 1)] [.int c53.1] (HM P c53.2 T) 0 0 _
              refine ev_go 1 (pc' := 93) (L' := [some (.ref 89), some (.int x36), some (.int x37), some (.int x38), some (.int 1)]) (st' := [.int c53.1]) (h' := (HM P c53.2 T)) (cs' := 0) (sl' := 0) rfl ?_
              obtain ⟨rfl, rfl⟩ := ai_smP h
              exact ev_end rfl
set_option maxHeartbeats 40000000 in
set_option maxRecDepth 100000 in
theorem Em_water_89 (x34 : Int32) (x35 : Int32) (w : WM) (r : Int32) (w' : WM) (h : Fm_water_89 x34 x35 w = some (r, w')) (P : Nat → ai_E) (T : ai_H) : ai_ev D1 mm_water 0 [some (.ref 89), some (.int x34), some (.int x35)] [] (HM P w T) 0 0 (some (.int r), HM P w' T) := by
  unfold Fm_water_89 at h
  refine ev_go 5 (pc' := 5) (L' := [some (.ref 89), some (.int x34), some (.int x35)]) (st' := [.int x35, .int x34, .int 0, .ref 89, .ref 89]) (h' := (HM P w T)) (cs' := 0) (sl' := 0) rfl ?_
  obtain ⟨c54, hq, h⟩ := ai_bdE h
  refine ev_call (M' := mm_waterTo) (L' := [some (.ref 89), some (.int 0), some (.int x34), some (.int x35), none]) (rest := [.ref 89]) (rv := some (.int c54.1)) (h' := (HM P c54.2 T)) rfl (Em_waterTo_89 0 x34 x35 w _ _ hq P T) ?_
  show ai_ev D1 mm_water 8 [some (.ref 89), some (.int x34), some (.int x35)] [.int c54.1, .ref 89] (HM P c54.2 T) 0 0 _
  obtain ⟨c55, hq, h⟩ := ai_bdE h
  refine ev_call (M' := mm_met) (L' := [some (.ref 89), some (.int c54.1)]) (rest := []) (rv := some (.int c55.1)) (h' := (HM P c55.2 T)) rfl (Em_met_89 c54.1 c54.2 _ _ hq P T) ?_
  show ai_ev D1 mm_water 11 [some (.ref 89), some (.int x34), some (.int x35)] [.int c55.1] (HM P c55.2 T) 0 0 _
  obtain ⟨rfl, rfl⟩ := ai_smP h
  exact ev_end rfl
set_option maxHeartbeats 40000000 in
set_option maxRecDepth 100000 in
theorem Em_isCellOf_89 (x64 : Int32) (x65 : Int32) (w : WM) (r : Int32) (w' : WM) (h : Fm_isCellOf_89 x64 x65 w = some (r, w')) (P : Nat → ai_E) (T : ai_H) : ai_ev D1 mm_isCellOf 0 [some (.ref 89), some (.int x64), some (.int x65)] [] (HM P w T) 0 0 (some (.int r), HM P w' T) := by
  unfold Fm_isCellOf_89 at h
  refine ev_go 8 (pc' := 10) (L' := [some (.ref 89), some (.int x64), some (.int x65)]) (st' := [.int (x64 + 0), .ref 90, .long 0, .long (x65).toInt64]) (h' := (HM P w T)) (cs' := 0) (sl' := 0) rfl ?_
  obtain ⟨v66, hq, h⟩ := ai_bdE h
  refine ev_iald rfl rfl hq ?_
  refine ev_go 3 (pc' := 14) (L' := [some (.ref 89), some (.int x64), some (.int x65)]) (st' := [.long ((v66 - 1)).toInt64, .long 0, .long (x65).toInt64]) (h' := (HM P w T)) (cs' := 0) (sl' := 0) rfl ?_
  obtain ⟨c67, hq, h⟩ := ai_bdE h
  refine ev_call (M' := mm_in) (L' := [some (.long (x65).toInt64), none, some (.long 0), none, some (.long ((v66 - 1)).toInt64), none]) (rest := []) (rv := some (.int c67)) (h' := (HM P w T)) rfl (Em_in (x65).toInt64 0 ((v66 - 1)).toInt64 _ hq (HM P w T)) ?_
  show ai_ev D1 mm_isCellOf 17 [some (.ref 89), some (.int x64), some (.int x65)] [.int c67] (HM P w T) 0 0 _
  obtain ⟨hv, h⟩ := ai_ifS h
  obtain ⟨rfl, rfl⟩ := ai_smP h
  exact ev_zend rfl rfl rfl hv
set_option maxHeartbeats 40000000 in
set_option maxRecDepth 100000 in
theorem Em_thickTo_89 (x59 : Int32) (x60 : Int32) (x61 : Int32) (x62 : Int32) (w : WM) (r : Int32) (w' : WM) (h : Fm_thickTo_89 x59 x60 x61 x62 w = some (r, w')) (P : Nat → ai_E) (T : ai_H) : ai_ev D1 mm_thickTo 0 [some (.ref 89), some (.int x59), some (.int x60), some (.int x61), some (.int x62)] [] (HM P w T) 0 0 (some (.int r), HM P w' T) := by
  unfold Fm_thickTo_89 at h
  refine ev_go 1 (pc' := 1) (L' := [some (.ref 89), some (.int x59), some (.int x60), some (.int x61), some (.int x62)]) (st' := [.int x60]) (h' := (HM P w T)) (cs' := 0) (sl' := 0) rfl ?_
  obtain ⟨c63, hq, h⟩ := ai_bdE h
  refine ev_call (M' := mm_isLayer) (L' := [some (.int x60)]) (rest := []) (rv := some (.int c63)) (h' := (HM P w T)) rfl (Em_isLayer x60 _ hq (HM P w T)) ?_
  show ai_ev D1 mm_thickTo 4 [some (.ref 89), some (.int x59), some (.int x60), some (.int x61), some (.int x62)] [.int c63] (HM P w T) 0 0 _
  rcases ai_ifE h with ⟨hc, h⟩ | ⟨hc, h⟩
  · refine ev_if_eq (t := 49) rfl rfl (fun _ => ?_) (fun c9 => absurd hc c9)
    refine ev_go 1 (pc' := 51) (L' := [some (.ref 89), some (.int x59), some (.int x60), some (.int x61), some (.int x62)]) (st' := [.int (-2)]) (h' := (HM P w T)) (cs' := 0) (sl' := 0) rfl ?_
    obtain ⟨rfl, rfl⟩ := ai_smP h
    exact ev_end rfl
  · refine ev_if_eq (t := 49) rfl rfl (fun c9 => absurd c9 hc) (fun _ => ?_)
    refine ev_go 3 (pc' := 10) (L' := [some (.ref 89), some (.int x59), some (.int x60), some (.int x61), some (.int x62)]) (st' := [.int x61, .int x59, .ref 89]) (h' := (HM P w T)) (cs' := 0) (sl' := 0) rfl ?_
    obtain ⟨c68, hq, h⟩ := ai_bdE h
    refine ev_call (M' := mm_isCellOf) (L' := [some (.ref 89), some (.int x59), some (.int x61)]) (rest := []) (rv := some (.int c68.1)) (h' := (HM P c68.2 T)) rfl (Em_isCellOf_89 x59 x61 w _ _ hq P T) ?_
    show ai_ev D1 mm_thickTo 13 [some (.ref 89), some (.int x59), some (.int x60), some (.int x61), some (.int x62)] [.int c68.1] (HM P c68.2 T) 0 0 _
    rcases ai_ifE h with ⟨hc, h⟩ | ⟨hc, h⟩
    · refine ev_if_eq (t := 49) rfl rfl (fun _ => ?_) (fun c9 => absurd hc c9)
      refine ev_go 1 (pc' := 51) (L' := [some (.ref 89), some (.int x59), some (.int x60), some (.int x61), some (.int x62)]) (st' := [.int (-2)]) (h' := (HM P c68.2 T)) (cs' := 0) (sl' := 0) rfl ?_
      obtain ⟨rfl, rfl⟩ := ai_smP h
      exact ev_end rfl
    · refine ev_if_eq (t := 49) rfl rfl (fun c9 => absurd c9 hc) (fun _ => ?_)
      refine ev_go 4 (pc' := 23) (L' := [some (.ref 89), some (.int x59), some (.int x60), some (.int x61), some (.int x62)]) (st' := [.long 9, .long 0, .long (x62).toInt64]) (h' := (HM P c68.2 T)) (cs' := 0) (sl' := 0) rfl ?_
      obtain ⟨c69, hq, h⟩ := ai_bdE h
      refine ev_call (M' := mm_in) (L' := [some (.long (x62).toInt64), none, some (.long 0), none, some (.long 9), none]) (rest := []) (rv := some (.int c69)) (h' := (HM P c68.2 T)) rfl (Em_in (x62).toInt64 0 9 _ hq (HM P c68.2 T)) ?_
      show ai_ev D1 mm_thickTo 26 [some (.ref 89), some (.int x59), some (.int x60), some (.int x61), some (.int x62)] [.int c69] (HM P c68.2 T) 0 0 _
      rcases ai_ifE h with ⟨hc, h⟩ | ⟨hc, h⟩
      · refine ev_if_eq (t := 49) rfl rfl (fun _ => ?_) (fun c9 => absurd hc c9)
        refine ev_go 1 (pc' := 51) (L' := [some (.ref 89), some (.int x59), some (.int x60), some (.int x61), some (.int x62)]) (st' := [.int (-2)]) (h' := (HM P c68.2 T)) (cs' := 0) (sl' := 0) rfl ?_
        obtain ⟨rfl, rfl⟩ := ai_smP h
        exact ev_end rfl
      · refine ev_if_eq (t := 49) rfl rfl (fun c9 => absurd c9 hc) (fun _ => ?_)
        refine ev_go 11 (pc' := 43) (L' := [some (.ref 89), some (.int x59), some (.int x60), some (.int x61), some (.int x62)]) (st' := [.int x62, .int (((x59 + 40) + (6 * x60)) + x61), .ref 89]) (h' := (HM P c68.2 T)) (cs' := 0) (sl' := 0) rfl ?_
        obtain ⟨c70, hq, h⟩ := ai_bdE h
        refine ev_call (M' := mm_becomes) (L' := [some (.ref 89), some (.int (((x59 + 40) + (6 * x60)) + x61)), some (.int x62), none]) (rest := []) (rv := some (.int c70.1)) (h' := (HM P c70.2 T)) rfl (Em_becomes_89 (((x59 + 40) + (6 * x60)) + x61) x62 c68.2 _ _ hq P T) ?_
        show ai_ev D1 mm_thickTo 46 [some (.ref 89), some (.int x59), some (.int x60), some (.int x61), some (.int x62)] [.int c70.1] (HM P c70.2 T) 0 0 _
        refine ev_go 1 (pc' := 51) (L' := [some (.ref 89), some (.int x59), some (.int x60), some (.int x61), some (.int x62)]) (st' := [.int c70.1]) (h' := (HM P c70.2 T)) (cs' := 0) (sl' := 0) rfl ?_
        obtain ⟨rfl, rfl⟩ := ai_smP h
        exact ev_end rfl
set_option maxHeartbeats 40000000 in
set_option maxRecDepth 100000 in
theorem Em_thick_89 (x56 : Int32) (x57 : Int32) (x58 : Int32) (w : WM) (r : Int32) (w' : WM) (h : Fm_thick_89 x56 x57 x58 w = some (r, w')) (P : Nat → ai_E) (T : ai_H) : ai_ev D1 mm_thick 0 [some (.ref 89), some (.int x56), some (.int x57), some (.int x58)] [] (HM P w T) 0 0 (some (.int r), HM P w' T) := by
  unfold Fm_thick_89 at h
  refine ev_go 6 (pc' := 6) (L' := [some (.ref 89), some (.int x56), some (.int x57), some (.int x58)]) (st' := [.int x58, .int x57, .int x56, .int 0, .ref 89, .ref 89]) (h' := (HM P w T)) (cs' := 0) (sl' := 0) rfl ?_
  obtain ⟨c71, hq, h⟩ := ai_bdE h
  refine ev_call (M' := mm_thickTo) (L' := [some (.ref 89), some (.int 0), some (.int x56), some (.int x57), some (.int x58)]) (rest := [.ref 89]) (rv := some (.int c71.1)) (h' := (HM P c71.2 T)) rfl (Em_thickTo_89 0 x56 x57 x58 w _ _ hq P T) ?_
  show ai_ev D1 mm_thick 9 [some (.ref 89), some (.int x56), some (.int x57), some (.int x58)] [.int c71.1, .ref 89] (HM P c71.2 T) 0 0 _
  obtain ⟨c72, hq, h⟩ := ai_bdE h
  refine ev_call (M' := mm_met) (L' := [some (.ref 89), some (.int c71.1)]) (rest := []) (rv := some (.int c72.1)) (h' := (HM P c72.2 T)) rfl (Em_met_89 c71.1 c71.2 _ _ hq P T) ?_
  show ai_ev D1 mm_thick 12 [some (.ref 89), some (.int x56), some (.int x57), some (.int x58)] [.int c72.1] (HM P c72.2 T) 0 0 _
  obtain ⟨rfl, rfl⟩ := ai_smP h
  exact ev_end rfl
set_option maxHeartbeats 40000000 in
set_option maxRecDepth 100000 in
theorem Em_skinTo_89 (x75 : Int32) (x76 : Int32) (x77 : Int32) (w : WM) (r : Int32) (w' : WM) (h : Fm_skinTo_89 x75 x76 x77 w = some (r, w')) (P : Nat → ai_E) (T : ai_H) : ai_ev D1 mm_skinTo 0 [some (.ref 89), some (.int x75), some (.int x76), some (.int x77)] [] (HM P w T) 0 0 (some (.int r), HM P w' T) := by
  unfold Fm_skinTo_89 at h
  refine ev_go 4 (pc' := 6) (L' := [some (.ref 89), some (.int x75), some (.int x76), some (.int x77)]) (st' := [.long 2, .long 0, .long (x76).toInt64]) (h' := (HM P w T)) (cs' := 0) (sl' := 0) rfl ?_
  obtain ⟨c78, hq, h⟩ := ai_bdE h
  refine ev_call (M' := mm_in) (L' := [some (.long (x76).toInt64), none, some (.long 0), none, some (.long 2), none]) (rest := []) (rv := some (.int c78)) (h' := (HM P w T)) rfl (Em_in (x76).toInt64 0 2 _ hq (HM P w T)) ?_
  show ai_ev D1 mm_skinTo 9 [some (.ref 89), some (.int x75), some (.int x76), some (.int x77)] [.int c78] (HM P w T) 0 0 _
  rcases ai_ifE h with ⟨hc, h⟩ | ⟨hc, h⟩
  · refine ev_if_eq (t := 38) rfl rfl (fun _ => ?_) (fun c9 => absurd hc c9)
    refine ev_go 1 (pc' := 40) (L' := [some (.ref 89), some (.int x75), some (.int x76), some (.int x77)]) (st' := [.int (-2)]) (h' := (HM P w T)) (cs' := 0) (sl' := 0) rfl ?_
    obtain ⟨rfl, rfl⟩ := ai_smP h
    exact ev_end rfl
  · refine ev_if_eq (t := 38) rfl rfl (fun c9 => absurd c9 hc) (fun _ => ?_)
    refine ev_go 4 (pc' := 18) (L' := [some (.ref 89), some (.int x75), some (.int x76), some (.int x77)]) (st' := [.long 99, .long 0, .long (x77).toInt64]) (h' := (HM P w T)) (cs' := 0) (sl' := 0) rfl ?_
    obtain ⟨c79, hq, h⟩ := ai_bdE h
    refine ev_call (M' := mm_in) (L' := [some (.long (x77).toInt64), none, some (.long 0), none, some (.long 99), none]) (rest := []) (rv := some (.int c79)) (h' := (HM P w T)) rfl (Em_in (x77).toInt64 0 99 _ hq (HM P w T)) ?_
    show ai_ev D1 mm_skinTo 21 [some (.ref 89), some (.int x75), some (.int x76), some (.int x77)] [.int c79] (HM P w T) 0 0 _
    rcases ai_ifE h with ⟨hc, h⟩ | ⟨hc, h⟩
    · refine ev_if_eq (t := 38) rfl rfl (fun _ => ?_) (fun c9 => absurd hc c9)
      refine ev_go 1 (pc' := 40) (L' := [some (.ref 89), some (.int x75), some (.int x76), some (.int x77)]) (st' := [.int (-2)]) (h' := (HM P w T)) (cs' := 0) (sl' := 0) rfl ?_
      obtain ⟨rfl, rfl⟩ := ai_smP h
      exact ev_end rfl
    · refine ev_if_eq (t := 38) rfl rfl (fun c9 => absurd c9 hc) (fun _ => ?_)
      refine ev_go 7 (pc' := 32) (L' := [some (.ref 89), some (.int x75), some (.int x76), some (.int x77)]) (st' := [.int x77, .int ((x75 + 64) + x76), .ref 89]) (h' := (HM P w T)) (cs' := 0) (sl' := 0) rfl ?_
      obtain ⟨c80, hq, h⟩ := ai_bdE h
      refine ev_call (M' := mm_becomes) (L' := [some (.ref 89), some (.int ((x75 + 64) + x76)), some (.int x77), none]) (rest := []) (rv := some (.int c80.1)) (h' := (HM P c80.2 T)) rfl (Em_becomes_89 ((x75 + 64) + x76) x77 w _ _ hq P T) ?_
      show ai_ev D1 mm_skinTo 35 [some (.ref 89), some (.int x75), some (.int x76), some (.int x77)] [.int c80.1] (HM P c80.2 T) 0 0 _
      refine ev_go 1 (pc' := 40) (L' := [some (.ref 89), some (.int x75), some (.int x76), some (.int x77)]) (st' := [.int c80.1]) (h' := (HM P c80.2 T)) (cs' := 0) (sl' := 0) rfl ?_
      obtain ⟨rfl, rfl⟩ := ai_smP h
      exact ev_end rfl
set_option maxHeartbeats 40000000 in
set_option maxRecDepth 100000 in
theorem Em_skin_89 (x73 : Int32) (x74 : Int32) (w : WM) (r : Int32) (w' : WM) (h : Fm_skin_89 x73 x74 w = some (r, w')) (P : Nat → ai_E) (T : ai_H) : ai_ev D1 mm_skin 0 [some (.ref 89), some (.int x73), some (.int x74)] [] (HM P w T) 0 0 (some (.int r), HM P w' T) := by
  unfold Fm_skin_89 at h
  refine ev_go 5 (pc' := 5) (L' := [some (.ref 89), some (.int x73), some (.int x74)]) (st' := [.int x74, .int x73, .int 0, .ref 89, .ref 89]) (h' := (HM P w T)) (cs' := 0) (sl' := 0) rfl ?_
  obtain ⟨c81, hq, h⟩ := ai_bdE h
  refine ev_call (M' := mm_skinTo) (L' := [some (.ref 89), some (.int 0), some (.int x73), some (.int x74)]) (rest := [.ref 89]) (rv := some (.int c81.1)) (h' := (HM P c81.2 T)) rfl (Em_skinTo_89 0 x73 x74 w _ _ hq P T) ?_
  show ai_ev D1 mm_skin 8 [some (.ref 89), some (.int x73), some (.int x74)] [.int c81.1, .ref 89] (HM P c81.2 T) 0 0 _
  obtain ⟨c82, hq, h⟩ := ai_bdE h
  refine ev_call (M' := mm_met) (L' := [some (.ref 89), some (.int c81.1)]) (rest := []) (rv := some (.int c82.1)) (h' := (HM P c82.2 T)) rfl (Em_met_89 c81.1 c81.2 _ _ hq P T) ?_
  show ai_ev D1 mm_skin 11 [some (.ref 89), some (.int x73), some (.int x74)] [.int c82.1] (HM P c82.2 T) 0 0 _
  obtain ⟨rfl, rfl⟩ := ai_smP h
  exact ev_end rfl
set_option maxHeartbeats 40000000 in
set_option maxRecDepth 100000 in
theorem Em_badAs_89 (x87 : Int32) (w : WM) (r : Int32) (w' : WM) (h : Fm_badAs_89 x87 w = some (r, w')) (P : Nat → ai_E) (T : ai_H) : ai_ev D1 mm_badAs 0 [some (.ref 89), some (.int x87)] [] (HM P w T) 0 0 (some (.int r), HM P w' T) := by
  unfold Fm_badAs_89 at h
  refine ev_go 4 (pc' := 6) (L' := [some (.ref 89), some (.int x87)]) (st' := [.int 0, .ref 93, .int 0, .ref 93]) (h' := (HM P w T)) (cs' := 0) (sl' := 0) rfl ?_
  obtain ⟨v88, hq, h⟩ := ai_bdE h
  refine ev_iald rfl rfl hq ?_
  refine ev_go 2 (pc' := 9) (L' := [some (.ref 89), some (.int x87)]) (st' := [.int (v88 + 1), .int 0, .ref 93]) (h' := (HM P w T)) (cs' := 0) (sl' := 0) rfl ?_
  obtain ⟨q89, hq, h⟩ := ai_bdE h
  refine ev_iast rfl rfl hq ?_
  rw [HMs_93]
  refine ev_go 1 (pc' := 11) (L' := [some (.ref 89), some (.int x87)]) (st' := [.int x87]) (h' := (HM P (u_m_refused w q89) T)) (cs' := 0) (sl' := 0) rfl ?_
  obtain ⟨rfl, rfl⟩ := ai_smP h
  exact ev_end rfl
set_option maxHeartbeats 40000000 in
set_option maxRecDepth 100000 in
theorem Em_tide_89 (x83 : Int32) (x84 : Int32) (x85 : Int32) (w : WM) (r : Int32) (w' : WM) (h : Fm_tide_89 x83 x84 x85 w = some (r, w')) (P : Nat → ai_E) (T : ai_H) : ai_ev D1 mm_tide 0 [some (.ref 89), some (.int x83), some (.int x84), some (.int x85)] [] (HM P w T) 0 0 (some (.int r), HM P w' T) := by
  unfold Fm_tide_89 at h
  refine ev_go 1 (pc' := 1) (L' := [some (.ref 89), some (.int x83), some (.int x84), some (.int x85)]) (st' := [.int x83]) (h' := (HM P w T)) (cs' := 0) (sl' := 0) rfl ?_
  obtain ⟨c86, hq, h⟩ := ai_bdE h
  refine ev_call (M' := mm_isLayer) (L' := [some (.int x83)]) (rest := []) (rv := some (.int c86)) (h' := (HM P w T)) rfl (Em_isLayer x83 _ hq (HM P w T)) ?_
  show ai_ev D1 mm_tide 4 [some (.ref 89), some (.int x83), some (.int x84), some (.int x85)] [.int c86] (HM P w T) 0 0 _
  rcases ai_ifE h with ⟨hc, h⟩ | ⟨hc, h⟩
  · refine ev_if_eq (t := 50) rfl rfl (fun _ => ?_) (fun c9 => absurd hc c9)
    refine ev_go 2 (pc' := 53) (L' := [some (.ref 89), some (.int x83), some (.int x84), some (.int x85)]) (st' := [.int (-10), .ref 89]) (h' := (HM P w T)) (cs' := 0) (sl' := 0) rfl ?_
    obtain ⟨c90, hq, h⟩ := ai_bdE h
    refine ev_call (M' := mm_badAs) (L' := [some (.ref 89), some (.int (-10))]) (rest := []) (rv := some (.int c90.1)) (h' := (HM P c90.2 T)) rfl (Em_badAs_89 (-10) w _ _ hq P T) ?_
    show ai_ev D1 mm_tide 56 [some (.ref 89), some (.int x83), some (.int x84), some (.int x85)] [.int c90.1] (HM P c90.2 T) 0 0 _
    obtain ⟨rfl, rfl⟩ := ai_smP h
    exact ev_end rfl
  · refine ev_if_eq (t := 50) rfl rfl (fun c9 => absurd c9 hc) (fun _ => ?_)
    refine ev_go 4 (pc' := 13) (L' := [some (.ref 89), some (.int x83), some (.int x84), some (.int x85)]) (st' := [.long 5, .long 0, .long (x84).toInt64]) (h' := (HM P w T)) (cs' := 0) (sl' := 0) rfl ?_
    obtain ⟨c91, hq, h⟩ := ai_bdE h
    refine ev_call (M' := mm_in) (L' := [some (.long (x84).toInt64), none, some (.long 0), none, some (.long 5), none]) (rest := []) (rv := some (.int c91)) (h' := (HM P w T)) rfl (Em_in (x84).toInt64 0 5 _ hq (HM P w T)) ?_
    show ai_ev D1 mm_tide 16 [some (.ref 89), some (.int x83), some (.int x84), some (.int x85)] [.int c91] (HM P w T) 0 0 _
    rcases ai_ifE h with ⟨hc, h⟩ | ⟨hc, h⟩
    · refine ev_if_eq (t := 50) rfl rfl (fun _ => ?_) (fun c9 => absurd hc c9)
      refine ev_go 2 (pc' := 53) (L' := [some (.ref 89), some (.int x83), some (.int x84), some (.int x85)]) (st' := [.int (-10), .ref 89]) (h' := (HM P w T)) (cs' := 0) (sl' := 0) rfl ?_
      obtain ⟨c92, hq, h⟩ := ai_bdE h
      refine ev_call (M' := mm_badAs) (L' := [some (.ref 89), some (.int (-10))]) (rest := []) (rv := some (.int c92.1)) (h' := (HM P c92.2 T)) rfl (Em_badAs_89 (-10) w _ _ hq P T) ?_
      show ai_ev D1 mm_tide 56 [some (.ref 89), some (.int x83), some (.int x84), some (.int x85)] [.int c92.1] (HM P c92.2 T) 0 0 _
      obtain ⟨rfl, rfl⟩ := ai_smP h
      exact ev_end rfl
    · refine ev_if_eq (t := 50) rfl rfl (fun c9 => absurd c9 hc) (fun _ => ?_)
      refine ev_go 4 (pc' := 27) (L' := [some (.ref 89), some (.int x83), some (.int x84), some (.int x85)]) (st' := [.long 2, .long (-2), .long (x85).toInt64]) (h' := (HM P w T)) (cs' := 0) (sl' := 0) rfl ?_
      obtain ⟨c93, hq, h⟩ := ai_bdE h
      refine ev_call (M' := mm_in) (L' := [some (.long (x85).toInt64), none, some (.long (-2)), none, some (.long 2), none]) (rest := []) (rv := some (.int c93)) (h' := (HM P w T)) rfl (Em_in (x85).toInt64 (-2) 2 _ hq (HM P w T)) ?_
      show ai_ev D1 mm_tide 30 [some (.ref 89), some (.int x83), some (.int x84), some (.int x85)] [.int c93] (HM P w T) 0 0 _
      rcases ai_ifE h with ⟨hc, h⟩ | ⟨hc, h⟩
      · refine ev_if_eq (t := 50) rfl rfl (fun _ => ?_) (fun c9 => absurd hc c9)
        refine ev_go 2 (pc' := 53) (L' := [some (.ref 89), some (.int x83), some (.int x84), some (.int x85)]) (st' := [.int (-10), .ref 89]) (h' := (HM P w T)) (cs' := 0) (sl' := 0) rfl ?_
        obtain ⟨c94, hq, h⟩ := ai_bdE h
        refine ev_call (M' := mm_badAs) (L' := [some (.ref 89), some (.int (-10))]) (rest := []) (rv := some (.int c94.1)) (h' := (HM P c94.2 T)) rfl (Em_badAs_89 (-10) w _ _ hq P T) ?_
        show ai_ev D1 mm_tide 56 [some (.ref 89), some (.int x83), some (.int x84), some (.int x85)] [.int c94.1] (HM P c94.2 T) 0 0 _
        obtain ⟨rfl, rfl⟩ := ai_smP h
        exact ev_end rfl
      · refine ev_if_eq (t := 50) rfl rfl (fun c9 => absurd c9 hc) (fun _ => ?_)
        refine ev_go 9 (pc' := 44) (L' := [some (.ref 89), some (.int x83), some (.int x84), some (.int x85)]) (st' := [.int x85, .int ((16 + (6 * x83)) + x84), .ref 89]) (h' := (HM P w T)) (cs' := 0) (sl' := 0) rfl ?_
        obtain ⟨c95, hq, h⟩ := ai_bdE h
        refine ev_call (M' := mm_becomes) (L' := [some (.ref 89), some (.int ((16 + (6 * x83)) + x84)), some (.int x85), none]) (rest := []) (rv := some (.int c95.1)) (h' := (HM P c95.2 T)) rfl (Em_becomes_89 ((16 + (6 * x83)) + x84) x85 w _ _ hq P T) ?_
        show ai_ev D1 mm_tide 47 [some (.ref 89), some (.int x83), some (.int x84), some (.int x85)] [.int c95.1] (HM P c95.2 T) 0 0 _
        refine ev_go 1 (pc' := 56) (L' := [some (.ref 89), some (.int x83), some (.int x84), some (.int x85)]) (st' := [.int c95.1]) (h' := (HM P c95.2 T)) (cs' := 0) (sl' := 0) rfl ?_
        obtain ⟨rfl, rfl⟩ := ai_smP h
        exact ev_end rfl
set_option maxHeartbeats 40000000 in
set_option maxRecDepth 100000 in
theorem Em_current_89 (x96 : Int32) (x97 : Int32) (w : WM) (r : Int32) (w' : WM) (h : Fm_current_89 x96 x97 w = some (r, w')) (P : Nat → ai_E) (T : ai_H) : ai_ev D1 mm_current 0 [some (.ref 89), some (.int x96), some (.int x97)] [] (HM P w T) 0 0 (some (.int r), HM P w' T) := by
  unfold Fm_current_89 at h
  refine ev_go 1 (pc' := 1) (L' := [some (.ref 89), some (.int x96), some (.int x97)]) (st' := [.int x96]) (h' := (HM P w T)) (cs' := 0) (sl' := 0) rfl ?_
  obtain ⟨c98, hq, h⟩ := ai_bdE h
  refine ev_call (M' := mm_isLayer) (L' := [some (.int x96)]) (rest := []) (rv := some (.int c98)) (h' := (HM P w T)) rfl (Em_isLayer x96 _ hq (HM P w T)) ?_
  show ai_ev D1 mm_current 4 [some (.ref 89), some (.int x96), some (.int x97)] [.int c98] (HM P w T) 0 0 _
  rcases ai_ifE h with ⟨hc, h⟩ | ⟨hc, h⟩
  · refine ev_if_eq (t := 31) rfl rfl (fun _ => ?_) (fun c9 => absurd hc c9)
    refine ev_go 2 (pc' := 34) (L' := [some (.ref 89), some (.int x96), some (.int x97)]) (st' := [.int (-10), .ref 89]) (h' := (HM P w T)) (cs' := 0) (sl' := 0) rfl ?_
    obtain ⟨c99, hq, h⟩ := ai_bdE h
    refine ev_call (M' := mm_badAs) (L' := [some (.ref 89), some (.int (-10))]) (rest := []) (rv := some (.int c99.1)) (h' := (HM P c99.2 T)) rfl (Em_badAs_89 (-10) w _ _ hq P T) ?_
    show ai_ev D1 mm_current 37 [some (.ref 89), some (.int x96), some (.int x97)] [.int c99.1] (HM P c99.2 T) 0 0 _
    obtain ⟨rfl, rfl⟩ := ai_smP h
    exact ev_end rfl
  · refine ev_if_eq (t := 31) rfl rfl (fun c9 => absurd c9 hc) (fun _ => ?_)
    refine ev_go 4 (pc' := 13) (L' := [some (.ref 89), some (.int x96), some (.int x97)]) (st' := [.long 1, .long (-1), .long (x97).toInt64]) (h' := (HM P w T)) (cs' := 0) (sl' := 0) rfl ?_
    obtain ⟨c100, hq, h⟩ := ai_bdE h
    refine ev_call (M' := mm_in) (L' := [some (.long (x97).toInt64), none, some (.long (-1)), none, some (.long 1), none]) (rest := []) (rv := some (.int c100)) (h' := (HM P w T)) rfl (Em_in (x97).toInt64 (-1) 1 _ hq (HM P w T)) ?_
    show ai_ev D1 mm_current 16 [some (.ref 89), some (.int x96), some (.int x97)] [.int c100] (HM P w T) 0 0 _
    rcases ai_ifE h with ⟨hc, h⟩ | ⟨hc, h⟩
    · refine ev_if_eq (t := 31) rfl rfl (fun _ => ?_) (fun c9 => absurd hc c9)
      refine ev_go 2 (pc' := 34) (L' := [some (.ref 89), some (.int x96), some (.int x97)]) (st' := [.int (-10), .ref 89]) (h' := (HM P w T)) (cs' := 0) (sl' := 0) rfl ?_
      obtain ⟨c101, hq, h⟩ := ai_bdE h
      refine ev_call (M' := mm_badAs) (L' := [some (.ref 89), some (.int (-10))]) (rest := []) (rv := some (.int c101.1)) (h' := (HM P c101.2 T)) rfl (Em_badAs_89 (-10) w _ _ hq P T) ?_
      show ai_ev D1 mm_current 37 [some (.ref 89), some (.int x96), some (.int x97)] [.int c101.1] (HM P c101.2 T) 0 0 _
      obtain ⟨rfl, rfl⟩ := ai_smP h
      exact ev_end rfl
    · refine ev_if_eq (t := 31) rfl rfl (fun c9 => absurd c9 hc) (fun _ => ?_)
      refine ev_go 5 (pc' := 25) (L' := [some (.ref 89), some (.int x96), some (.int x97)]) (st' := [.int x97, .int (12 + x96), .ref 89]) (h' := (HM P w T)) (cs' := 0) (sl' := 0) rfl ?_
      obtain ⟨c102, hq, h⟩ := ai_bdE h
      refine ev_call (M' := mm_becomes) (L' := [some (.ref 89), some (.int (12 + x96)), some (.int x97), none]) (rest := []) (rv := some (.int c102.1)) (h' := (HM P c102.2 T)) rfl (Em_becomes_89 (12 + x96) x97 w _ _ hq P T) ?_
      show ai_ev D1 mm_current 28 [some (.ref 89), some (.int x96), some (.int x97)] [.int c102.1] (HM P c102.2 T) 0 0 _
      refine ev_go 1 (pc' := 37) (L' := [some (.ref 89), some (.int x96), some (.int x97)]) (st' := [.int c102.1]) (h' := (HM P c102.2 T)) (cs' := 0) (sl' := 0) rfl ?_
      obtain ⟨rfl, rfl⟩ := ai_smP h
      exact ev_end rfl
set_option maxHeartbeats 40000000 in
set_option maxRecDepth 100000 in
theorem Em_thingTo_89 (x106 : Int32) (x107 : Int32) (x108 : Int32) (x109 : Int32) (w : WM) (r : Int32) (w' : WM) (h : Fm_thingTo_89 x106 x107 x108 x109 w = some (r, w')) (P : Nat → ai_E) (T : ai_H) : ai_ev D1 mm_thingTo 0 [some (.ref 89), some (.int x106), some (.int x107), some (.int x108), some (.int x109), none] [] (HM P w T) 0 0 (some (.int r), HM P w' T) := by
  unfold Fm_thingTo_89 at h
  refine ev_go 4 (pc' := 6) (L' := [some (.ref 89), some (.int x106), some (.int x107), some (.int x108), some (.int x109), none]) (st' := [.long 5, .long 0, .long (x107).toInt64]) (h' := (HM P w T)) (cs' := 0) (sl' := 0) rfl ?_
  obtain ⟨c110, hq, h⟩ := ai_bdE h
  refine ev_call (M' := mm_in) (L' := [some (.long (x107).toInt64), none, some (.long 0), none, some (.long 5), none]) (rest := []) (rv := some (.int c110)) (h' := (HM P w T)) rfl (Em_in (x107).toInt64 0 5 _ hq (HM P w T)) ?_
  show ai_ev D1 mm_thingTo 9 [some (.ref 89), some (.int x106), some (.int x107), some (.int x108), some (.int x109), none] [.int c110] (HM P w T) 0 0 _
  rcases ai_ifE h with ⟨hc, h⟩ | ⟨hc, h⟩
  · refine ev_if_eq (t := 37) rfl rfl (fun _ => ?_) (fun c9 => absurd hc c9)
    refine ev_go 1 (pc' := 39) (L' := [some (.ref 89), some (.int x106), some (.int x107), some (.int x108), some (.int x109), none]) (st' := [.int (-2)]) (h' := (HM P w T)) (cs' := 0) (sl' := 0) rfl ?_
    obtain ⟨rfl, rfl⟩ := ai_smP h
    exact ev_end rfl
  · refine ev_if_eq (t := 37) rfl rfl (fun c9 => absurd c9 hc) (fun _ => ?_)
    refine ev_go 4 (pc' := 18) (L' := [some (.ref 89), some (.int x106), some (.int x107), some (.int x108), some (.int x109), none]) (st' := [.long 99, .long 1, .long (x108).toInt64]) (h' := (HM P w T)) (cs' := 0) (sl' := 0) rfl ?_
    obtain ⟨c111, hq, h⟩ := ai_bdE h
    refine ev_call (M' := mm_in) (L' := [some (.long (x108).toInt64), none, some (.long 1), none, some (.long 99), none]) (rest := []) (rv := some (.int c111)) (h' := (HM P w T)) rfl (Em_in (x108).toInt64 1 99 _ hq (HM P w T)) ?_
    show ai_ev D1 mm_thingTo 21 [some (.ref 89), some (.int x106), some (.int x107), some (.int x108), some (.int x109), none] [.int c111] (HM P w T) 0 0 _
    rcases ai_ifE h with ⟨hc, h⟩ | ⟨hc, h⟩
    · refine ev_if_eq (t := 37) rfl rfl (fun _ => ?_) (fun c9 => absurd hc c9)
      refine ev_go 1 (pc' := 39) (L' := [some (.ref 89), some (.int x106), some (.int x107), some (.int x108), some (.int x109), none]) (st' := [.int (-2)]) (h' := (HM P w T)) (cs' := 0) (sl' := 0) rfl ?_
      obtain ⟨rfl, rfl⟩ := ai_smP h
      exact ev_end rfl
    · refine ev_if_eq (t := 37) rfl rfl (fun c9 => absurd c9 hc) (fun _ => ?_)
      refine ev_go 4 (pc' := 31) (L' := [some (.ref 89), some (.int x106), some (.int x107), some (.int x108), some (.int x109), none]) (st' := [.long 9, .long 1, .long (x109).toInt64]) (h' := (HM P w T)) (cs' := 0) (sl' := 0) rfl ?_
      obtain ⟨c112, hq, h⟩ := ai_bdE h
      refine ev_call (M' := mm_in) (L' := [some (.long (x109).toInt64), none, some (.long 1), none, some (.long 9), none]) (rest := []) (rv := some (.int c112)) (h' := (HM P w T)) rfl (Em_in (x109).toInt64 1 9 _ hq (HM P w T)) ?_
      show ai_ev D1 mm_thingTo 34 [some (.ref 89), some (.int x106), some (.int x107), some (.int x108), some (.int x109), none] [.int c112] (HM P w T) 0 0 _
      rcases ai_ifE h with ⟨hc, h⟩ | ⟨hc, h⟩
      · refine ev_if_ne (t := 40) rfl rfl (fun c9 => absurd hc c9) (fun _ => ?_)
        refine ev_go 1 (pc' := 39) (L' := [some (.ref 89), some (.int x106), some (.int x107), some (.int x108), some (.int x109), none]) (st' := [.int (-2)]) (h' := (HM P w T)) (cs' := 0) (sl' := 0) rfl ?_
        obtain ⟨rfl, rfl⟩ := ai_smP h
        exact ev_end rfl
      · refine ev_if_ne (t := 40) rfl rfl (fun _ => ?_) (fun c9 => absurd c9 hc)
        refine ev_go 5 (pc' := 47) (L' := [some (.ref 89), some (.int x106), some (.int x107), some (.int x108), some (.int x109), none]) (st' := [.int (x106 + 2), .ref 90]) (h' := (HM P w T)) (cs' := 0) (sl' := 0) rfl ?_
        obtain ⟨v113, hq, h⟩ := ai_bdE h
        refine ev_iald rfl rfl hq ?_
        refine ev_go 3 (pc' := 54) (L' := [some (.ref 89), some (.int x106), some (.int x107), some (.int x108), some (.int x109), some (.int v113)]) (st' := [.int 6, .int v113]) (h' := (HM P w T)) (cs' := 0) (sl' := 0) rfl ?_
        rcases ai_ifE h with ⟨hc, h⟩ | ⟨hc, h⟩
        · refine ev_ic_ne (t := 60) rfl rfl (fun c9 => absurd hc c9) (fun _ => ?_)
          refine ev_go 1 (pc' := 59) (L' := [some (.ref 89), some (.int x106), some (.int x107), some (.int x108), some (.int x109), some (.int v113)]) (st' := [.int (-4)]) (h' := (HM P w T)) (cs' := 0) (sl' := 0) rfl ?_
          obtain ⟨rfl, rfl⟩ := ai_smP h
          exact ev_end rfl
        · refine ev_ic_ne (t := 60) rfl rfl (fun _ => ?_) (fun c9 => absurd c9 hc)
          refine ev_go 8 (pc' := 72) (L' := [some (.ref 89), some (.int x106), some (.int x107), some (.int x108), some (.int x109), some (.int v113)]) (st' := [.int x107, .int ((x106 + 67) + v113), .ref 90]) (h' := (HM P w T)) (cs' := 0) (sl' := 0) rfl ?_
          obtain ⟨q114, hq, h⟩ := ai_bdE h
          refine ev_iast rfl rfl hq ?_
          rw [HMs_90]
          refine ev_go 8 (pc' := 85) (L' := [some (.ref 89), some (.int x106), some (.int x107), some (.int x108), some (.int x109), some (.int v113)]) (st' := [.int x108, .int ((x106 + 73) + v113), .ref 90]) (h' := (HM P (u_m_w w q114) T)) (cs' := 0) (sl' := 0) rfl ?_
          obtain ⟨q115, hq, h⟩ := ai_bdE h
          refine ev_iast rfl rfl hq ?_
          rw [HMs_90]
          refine ev_go 8 (pc' := 99) (L' := [some (.ref 89), some (.int x106), some (.int x107), some (.int x108), some (.int x109), some (.int v113)]) (st' := [.int x109, .int ((x106 + 79) + v113), .ref 90]) (h' := (HM P (u_m_w (u_m_w w q114) q115) T)) (cs' := 0) (sl' := 0) rfl ?_
          obtain ⟨q116, hq, h⟩ := ai_bdE h
          refine ev_iast rfl rfl hq ?_
          rw [HMs_90]
          refine ev_go 8 (pc' := 112) (L' := [some (.ref 89), some (.int x106), some (.int x107), some (.int x108), some (.int x109), some (.int v113)]) (st' := [.int 0, .int ((x106 + 85) + v113), .ref 90]) (h' := (HM P (u_m_w (u_m_w (u_m_w w q114) q115) q116) T)) (cs' := 0) (sl' := 0) rfl ?_
          obtain ⟨q117, hq, h⟩ := ai_bdE h
          refine ev_iast rfl rfl hq ?_
          rw [HMs_90]
          refine ev_go 6 (pc' := 121) (L' := [some (.ref 89), some (.int x106), some (.int x107), some (.int x108), some (.int x109), some (.int v113)]) (st' := [.int (x106 + 2), .ref 90, .int (x106 + 2), .ref 90]) (h' := (HM P (u_m_w (u_m_w (u_m_w (u_m_w w q114) q115) q116) q117) T)) (cs' := 0) (sl' := 0) rfl ?_
          obtain ⟨v118, hq, h⟩ := ai_bdE h
          refine ev_iald rfl rfl hq ?_
          refine ev_go 2 (pc' := 124) (L' := [some (.ref 89), some (.int x106), some (.int x107), some (.int x108), some (.int x109), some (.int v113)]) (st' := [.int (v118 + 1), .int (x106 + 2), .ref 90]) (h' := (HM P (u_m_w (u_m_w (u_m_w (u_m_w w q114) q115) q116) q117) T)) (cs' := 0) (sl' := 0) rfl ?_
          obtain ⟨q119, hq, h⟩ := ai_bdE h
          refine ev_iast rfl rfl hq ?_
          rw [HMs_90]
          refine ev_go 1 (pc' := 127) (L' := [some (.ref 89), some (.int x106), some (.int x107), some (.int x108), some (.int x109), some (.int v113)]) (st' := [.int v113]) (h' := (HM P (u_m_w (u_m_w (u_m_w (u_m_w (u_m_w w q114) q115) q116) q117) q119) T)) (cs' := 0) (sl' := 0) rfl ?_
          obtain ⟨rfl, rfl⟩ := ai_smP h
          exact ev_end rfl
set_option maxHeartbeats 40000000 in
set_option maxRecDepth 100000 in
theorem Em_thing_89 (x103 : Int32) (x104 : Int32) (x105 : Int32) (w : WM) (r : Int32) (w' : WM) (h : Fm_thing_89 x103 x104 x105 w = some (r, w')) (P : Nat → ai_E) (T : ai_H) : ai_ev D1 mm_thing 0 [some (.ref 89), some (.int x103), some (.int x104), some (.int x105)] [] (HM P w T) 0 0 (some (.int r), HM P w' T) := by
  unfold Fm_thing_89 at h
  refine ev_go 6 (pc' := 6) (L' := [some (.ref 89), some (.int x103), some (.int x104), some (.int x105)]) (st' := [.int x105, .int x104, .int x103, .int 0, .ref 89, .ref 89]) (h' := (HM P w T)) (cs' := 0) (sl' := 0) rfl ?_
  obtain ⟨c120, hq, h⟩ := ai_bdE h
  refine ev_call (M' := mm_thingTo) (L' := [some (.ref 89), some (.int 0), some (.int x103), some (.int x104), some (.int x105), none]) (rest := [.ref 89]) (rv := some (.int c120.1)) (h' := (HM P c120.2 T)) rfl (Em_thingTo_89 0 x103 x104 x105 w _ _ hq P T) ?_
  show ai_ev D1 mm_thing 9 [some (.ref 89), some (.int x103), some (.int x104), some (.int x105)] [.int c120.1, .ref 89] (HM P c120.2 T) 0 0 _
  obtain ⟨c121, hq, h⟩ := ai_bdE h
  refine ev_call (M' := mm_met) (L' := [some (.ref 89), some (.int c120.1)]) (rest := []) (rv := some (.int c121.1)) (h' := (HM P c121.2 T)) rfl (Em_met_89 c120.1 c120.2 _ _ hq P T) ?_
  show ai_ev D1 mm_thing 12 [some (.ref 89), some (.int x103), some (.int x104), some (.int x105)] [.int c121.1] (HM P c121.2 T) 0 0 _
  obtain ⟨rfl, rfl⟩ := ai_smP h
  exact ev_end rfl
set_option maxHeartbeats 40000000 in
set_option maxRecDepth 100000 in
theorem Em_isThing_89 (x124 : Int32) (w : WM) (r : Int32) (w' : WM) (h : Fm_isThing_89 x124 w = some (r, w')) (P : Nat → ai_E) (T : ai_H) : ai_ev D1 mm_isThing 0 [some (.ref 89), some (.int x124)] [] (HM P w T) 0 0 (some (.int r), HM P w' T) := by
  unfold Fm_isThing_89 at h
  refine ev_go 6 (pc' := 8) (L' := [some (.ref 89), some (.int x124)]) (st' := [.int 2, .ref 90, .long 0, .long (x124).toInt64]) (h' := (HM P w T)) (cs' := 0) (sl' := 0) rfl ?_
  obtain ⟨v125, hq, h⟩ := ai_bdE h
  refine ev_iald rfl rfl hq ?_
  refine ev_go 3 (pc' := 12) (L' := [some (.ref 89), some (.int x124)]) (st' := [.long ((v125 - 1)).toInt64, .long 0, .long (x124).toInt64]) (h' := (HM P w T)) (cs' := 0) (sl' := 0) rfl ?_
  obtain ⟨c126, hq, h⟩ := ai_bdE h
  refine ev_call (M' := mm_in) (L' := [some (.long (x124).toInt64), none, some (.long 0), none, some (.long ((v125 - 1)).toInt64), none]) (rest := []) (rv := some (.int c126)) (h' := (HM P w T)) rfl (Em_in (x124).toInt64 0 ((v125 - 1)).toInt64 _ hq (HM P w T)) ?_
  show ai_ev D1 mm_isThing 15 [some (.ref 89), some (.int x124)] [.int c126] (HM P w T) 0 0 _
  obtain ⟨hv, h⟩ := ai_ifS h
  obtain ⟨rfl, rfl⟩ := ai_smP h
  exact ev_zend rfl rfl rfl hv
set_option maxHeartbeats 40000000 in
set_option maxRecDepth 100000 in
theorem Em_bad_89 (w : WM) (r : Int32) (w' : WM) (h : Fm_bad_89 w = some (r, w')) (P : Nat → ai_E) (T : ai_H) : ai_ev D1 mm_bad 0 [some (.ref 89)] [] (HM P w T) 0 0 (some (.int r), HM P w' T) := by
  unfold Fm_bad_89 at h
  refine ev_go 2 (pc' := 3) (L' := [some (.ref 89)]) (st' := [.int (-2), .ref 89]) (h' := (HM P w T)) (cs' := 0) (sl' := 0) rfl ?_
  obtain ⟨c128, hq, h⟩ := ai_bdE h
  refine ev_call (M' := mm_met) (L' := [some (.ref 89), some (.int (-2))]) (rest := []) (rv := some (.int c128.1)) (h' := (HM P c128.2 T)) rfl (Em_met_89 (-2) w _ _ hq P T) ?_
  show ai_ev D1 mm_bad 6 [some (.ref 89)] [.int c128.1] (HM P c128.2 T) 0 0 _
  obtain ⟨rfl, rfl⟩ := ai_smP h
  exact ev_end rfl
set_option maxHeartbeats 40000000 in
set_option maxRecDepth 100000 in
theorem Em_ballast_89 (x122 : Int32) (x123 : Int32) (w : WM) (r : Int32) (w' : WM) (h : Fm_ballast_89 x122 x123 w = some (r, w')) (P : Nat → ai_E) (T : ai_H) : ai_ev D1 mm_ballast 0 [some (.ref 89), some (.int x122), some (.int x123)] [] (HM P w T) 0 0 (some (.int r), HM P w' T) := by
  unfold Fm_ballast_89 at h
  refine ev_go 2 (pc' := 2) (L' := [some (.ref 89), some (.int x122), some (.int x123)]) (st' := [.int x122, .ref 89]) (h' := (HM P w T)) (cs' := 0) (sl' := 0) rfl ?_
  obtain ⟨c127, hq, h⟩ := ai_bdE h
  refine ev_call (M' := mm_isThing) (L' := [some (.ref 89), some (.int x122)]) (rest := []) (rv := some (.int c127.1)) (h' := (HM P c127.2 T)) rfl (Em_isThing_89 x122 w _ _ hq P T) ?_
  show ai_ev D1 mm_ballast 5 [some (.ref 89), some (.int x122), some (.int x123)] [.int c127.1] (HM P c127.2 T) 0 0 _
  rcases ai_ifE h with ⟨hc, h⟩ | ⟨hc, h⟩
  · refine ev_if_eq (t := 32) rfl rfl (fun _ => ?_) (fun c9 => absurd hc c9)
    refine ev_go 1 (pc' := 33) (L' := [some (.ref 89), some (.int x122), some (.int x123)]) (st' := [.ref 89]) (h' := (HM P c127.2 T)) (cs' := 0) (sl' := 0) rfl ?_
    obtain ⟨c129, hq, h⟩ := ai_bdE h
    refine ev_call (M' := mm_bad) (L' := [some (.ref 89)]) (rest := []) (rv := some (.int c129.1)) (h' := (HM P c129.2 T)) rfl (Em_bad_89 c127.2 _ _ hq P T) ?_
    show ai_ev D1 mm_ballast 36 [some (.ref 89), some (.int x122), some (.int x123)] [.int c129.1] (HM P c129.2 T) 0 0 _
    obtain ⟨rfl, rfl⟩ := ai_smP h
    exact ev_end rfl
  · refine ev_if_eq (t := 32) rfl rfl (fun c9 => absurd c9 hc) (fun _ => ?_)
    refine ev_go 4 (pc' := 14) (L' := [some (.ref 89), some (.int x122), some (.int x123)]) (st' := [.long 99, .long 0, .long (x123).toInt64]) (h' := (HM P c127.2 T)) (cs' := 0) (sl' := 0) rfl ?_
    obtain ⟨c130, hq, h⟩ := ai_bdE h
    refine ev_call (M' := mm_in) (L' := [some (.long (x123).toInt64), none, some (.long 0), none, some (.long 99), none]) (rest := []) (rv := some (.int c130)) (h' := (HM P c127.2 T)) rfl (Em_in (x123).toInt64 0 99 _ hq (HM P c127.2 T)) ?_
    show ai_ev D1 mm_ballast 17 [some (.ref 89), some (.int x122), some (.int x123)] [.int c130] (HM P c127.2 T) 0 0 _
    rcases ai_ifE h with ⟨hc, h⟩ | ⟨hc, h⟩
    · refine ev_if_eq (t := 32) rfl rfl (fun _ => ?_) (fun c9 => absurd hc c9)
      refine ev_go 1 (pc' := 33) (L' := [some (.ref 89), some (.int x122), some (.int x123)]) (st' := [.ref 89]) (h' := (HM P c127.2 T)) (cs' := 0) (sl' := 0) rfl ?_
      obtain ⟨c131, hq, h⟩ := ai_bdE h
      refine ev_call (M' := mm_bad) (L' := [some (.ref 89)]) (rest := []) (rv := some (.int c131.1)) (h' := (HM P c131.2 T)) rfl (Em_bad_89 c127.2 _ _ hq P T) ?_
      show ai_ev D1 mm_ballast 36 [some (.ref 89), some (.int x122), some (.int x123)] [.int c131.1] (HM P c131.2 T) 0 0 _
      obtain ⟨rfl, rfl⟩ := ai_smP h
      exact ev_end rfl
    · refine ev_if_eq (t := 32) rfl rfl (fun c9 => absurd c9 hc) (fun _ => ?_)
      refine ev_go 5 (pc' := 26) (L' := [some (.ref 89), some (.int x122), some (.int x123)]) (st' := [.int x123, .int (85 + x122), .ref 89]) (h' := (HM P c127.2 T)) (cs' := 0) (sl' := 0) rfl ?_
      obtain ⟨c132, hq, h⟩ := ai_bdE h
      refine ev_call (M' := mm_becomes) (L' := [some (.ref 89), some (.int (85 + x122)), some (.int x123), none]) (rest := []) (rv := some (.int c132.1)) (h' := (HM P c132.2 T)) rfl (Em_becomes_89 (85 + x122) x123 c127.2 _ _ hq P T) ?_
      show ai_ev D1 mm_ballast 29 [some (.ref 89), some (.int x122), some (.int x123)] [.int c132.1] (HM P c132.2 T) 0 0 _
      refine ev_go 1 (pc' := 36) (L' := [some (.ref 89), some (.int x122), some (.int x123)]) (st' := [.int c132.1]) (h' := (HM P c132.2 T)) (cs' := 0) (sl' := 0) rfl ?_
      obtain ⟨rfl, rfl⟩ := ai_smP h
      exact ev_end rfl
set_option maxHeartbeats 40000000 in
set_option maxRecDepth 100000 in
theorem Em_isPlaceOf_89 (x140 : Int32) (x141 : Int32) (w : WM) (r : Int32) (w' : WM) (h : Fm_isPlaceOf_89 x140 x141 w = some (r, w')) (P : Nat → ai_E) (T : ai_H) : ai_ev D1 mm_isPlaceOf 0 [some (.ref 89), some (.int x140), some (.int x141)] [] (HM P w T) 0 0 (some (.int r), HM P w' T) := by
  unfold Fm_isPlaceOf_89 at h
  refine ev_go 1 (pc' := 1) (L' := [some (.ref 89), some (.int x140), some (.int x141)]) (st' := [.int x141]) (h' := (HM P w T)) (cs' := 0) (sl' := 0) rfl ?_
  rcases ai_ifE h with ⟨hc, h⟩ | ⟨hc, h⟩
  · refine ev_if_lt (t := 30) rfl rfl (fun _ => ?_) (fun c9 => absurd hc c9)
    refine ev_go 1 (pc' := 31) (L' := [some (.ref 89), some (.int x140), some (.int x141)]) (st' := [.int 0]) (h' := (HM P w T)) (cs' := 0) (sl' := 0) rfl ?_
    obtain ⟨rfl, rfl⟩ := ai_smP h
    exact ev_end rfl
  · refine ev_if_lt (t := 30) rfl rfl (fun c9 => absurd c9 hc) (fun _ => ?_)
    refine ev_go 5 (pc' := 10) (L' := [some (.ref 89), some (.int x140), some (.int x141)]) (st' := [.int (x141 / 10), .int x140, .ref 89]) (h' := (HM P w T)) (cs' := 0) (sl' := 0) rfl ?_
    obtain ⟨c142, hq, h⟩ := ai_bdE h
    refine ev_call (M' := mm_isCellOf) (L' := [some (.ref 89), some (.int x140), some (.int (x141 / 10))]) (rest := []) (rv := some (.int c142.1)) (h' := (HM P c142.2 T)) rfl (Em_isCellOf_89 x140 (x141 / 10) w _ _ hq P T) ?_
    show ai_ev D1 mm_isPlaceOf 13 [some (.ref 89), some (.int x140), some (.int x141)] [.int c142.1] (HM P c142.2 T) 0 0 _
    rcases ai_ifE h with ⟨hc, h⟩ | ⟨hc, h⟩
    · refine ev_if_eq (t := 30) rfl rfl (fun _ => ?_) (fun c9 => absurd hc c9)
      refine ev_go 1 (pc' := 31) (L' := [some (.ref 89), some (.int x140), some (.int x141)]) (st' := [.int 0]) (h' := (HM P c142.2 T)) (cs' := 0) (sl' := 0) rfl ?_
      obtain ⟨rfl, rfl⟩ := ai_smP h
      exact ev_end rfl
    · refine ev_if_eq (t := 30) rfl rfl (fun c9 => absurd c9 hc) (fun _ => ?_)
      refine ev_go 3 (pc' := 20) (L' := [some (.ref 89), some (.int x140), some (.int x141)]) (st' := [.int (x141 - x141 / 10 * 10)]) (h' := (HM P c142.2 T)) (cs' := 0) (sl' := 0) rfl ?_
      obtain ⟨c143, hq, h⟩ := ai_bdE h
      refine ev_call (M' := mm_isLayer) (L' := [some (.int (x141 - x141 / 10 * 10))]) (rest := []) (rv := some (.int c143)) (h' := (HM P c142.2 T)) rfl (Em_isLayer (x141 - x141 / 10 * 10) _ hq (HM P c142.2 T)) ?_
      show ai_ev D1 mm_isPlaceOf 23 [some (.ref 89), some (.int x140), some (.int x141)] [.int c143] (HM P c142.2 T) 0 0 _
      rcases ai_ifE h with ⟨hc, h⟩ | ⟨hc, h⟩
      · refine ev_if_eq (t := 30) rfl rfl (fun _ => ?_) (fun c9 => absurd hc c9)
        refine ev_go 1 (pc' := 31) (L' := [some (.ref 89), some (.int x140), some (.int x141)]) (st' := [.int 0]) (h' := (HM P c142.2 T)) (cs' := 0) (sl' := 0) rfl ?_
        obtain ⟨rfl, rfl⟩ := ai_smP h
        exact ev_end rfl
      · refine ev_if_eq (t := 30) rfl rfl (fun c9 => absurd c9 hc) (fun _ => ?_)
        refine ev_go 2 (pc' := 31) (L' := [some (.ref 89), some (.int x140), some (.int x141)]) (st' := [.int 1]) (h' := (HM P c142.2 T)) (cs' := 0) (sl' := 0) rfl ?_
        obtain ⟨rfl, rfl⟩ := ai_smP h
        exact ev_end rfl
set_option maxHeartbeats 40000000 in
set_option maxRecDepth 100000 in
theorem Em_liftTo_89 (x136 : Int32) (x137 : Int32) (x138 : Int32) (x139 : Int32) (w : WM) (r : Int32) (w' : WM) (h : Fm_liftTo_89 x136 x137 x138 x139 w = some (r, w')) (P : Nat → ai_E) (T : ai_H) : ai_ev D1 mm_liftTo 0 [some (.ref 89), some (.int x136), some (.int x137), some (.int x138), some (.int x139), none] [] (HM P w T) 0 0 (some (.int r), HM P w' T) := by
  unfold Fm_liftTo_89 at h
  refine ev_go 3 (pc' := 3) (L' := [some (.ref 89), some (.int x136), some (.int x137), some (.int x138), some (.int x139), none]) (st' := [.int x137, .int x136, .ref 89]) (h' := (HM P w T)) (cs' := 0) (sl' := 0) rfl ?_
  obtain ⟨c144, hq, h⟩ := ai_bdE h
  refine ev_call (M' := mm_isPlaceOf) (L' := [some (.ref 89), some (.int x136), some (.int x137)]) (rest := []) (rv := some (.int c144.1)) (h' := (HM P c144.2 T)) rfl (Em_isPlaceOf_89 x136 x137 w _ _ hq P T) ?_
  show ai_ev D1 mm_liftTo 6 [some (.ref 89), some (.int x136), some (.int x137), some (.int x138), some (.int x139), none] [.int c144.1] (HM P c144.2 T) 0 0 _
  rcases ai_ifE h with ⟨hc, h⟩ | ⟨hc, h⟩
  · refine ev_if_eq (t := 36) rfl rfl (fun _ => ?_) (fun c9 => absurd hc c9)
    refine ev_go 1 (pc' := 38) (L' := [some (.ref 89), some (.int x136), some (.int x137), some (.int x138), some (.int x139), none]) (st' := [.int (-2)]) (h' := (HM P c144.2 T)) (cs' := 0) (sl' := 0) rfl ?_
    obtain ⟨rfl, rfl⟩ := ai_smP h
    exact ev_end rfl
  · refine ev_if_eq (t := 36) rfl rfl (fun c9 => absurd c9 hc) (fun _ => ?_)
    refine ev_go 3 (pc' := 12) (L' := [some (.ref 89), some (.int x136), some (.int x137), some (.int x138), some (.int x139), none]) (st' := [.int x138, .int x136, .ref 89]) (h' := (HM P c144.2 T)) (cs' := 0) (sl' := 0) rfl ?_
    obtain ⟨c145, hq, h⟩ := ai_bdE h
    refine ev_call (M' := mm_isPlaceOf) (L' := [some (.ref 89), some (.int x136), some (.int x138)]) (rest := []) (rv := some (.int c145.1)) (h' := (HM P c145.2 T)) rfl (Em_isPlaceOf_89 x136 x138 c144.2 _ _ hq P T) ?_
    show ai_ev D1 mm_liftTo 15 [some (.ref 89), some (.int x136), some (.int x137), some (.int x138), some (.int x139), none] [.int c145.1] (HM P c145.2 T) 0 0 _
    rcases ai_ifE h with ⟨hc, h⟩ | ⟨hc, h⟩
    · refine ev_if_eq (t := 36) rfl rfl (fun _ => ?_) (fun c9 => absurd hc c9)
      refine ev_go 1 (pc' := 38) (L' := [some (.ref 89), some (.int x136), some (.int x137), some (.int x138), some (.int x139), none]) (st' := [.int (-2)]) (h' := (HM P c145.2 T)) (cs' := 0) (sl' := 0) rfl ?_
      obtain ⟨rfl, rfl⟩ := ai_smP h
      exact ev_end rfl
    · refine ev_if_eq (t := 36) rfl rfl (fun c9 => absurd c9 hc) (fun _ => ?_)
      refine ev_go 2 (pc' := 20) (L' := [some (.ref 89), some (.int x136), some (.int x137), some (.int x138), some (.int x139), none]) (st' := [.int x138, .int x137]) (h' := (HM P c145.2 T)) (cs' := 0) (sl' := 0) rfl ?_
      rcases ai_ifE h with ⟨hc, h⟩ | ⟨hc, h⟩
      · refine ev_ic_eq (t := 36) rfl rfl (fun _ => ?_) (fun c9 => absurd hc c9)
        refine ev_go 1 (pc' := 38) (L' := [some (.ref 89), some (.int x136), some (.int x137), some (.int x138), some (.int x139), none]) (st' := [.int (-2)]) (h' := (HM P c145.2 T)) (cs' := 0) (sl' := 0) rfl ?_
        obtain ⟨rfl, rfl⟩ := ai_smP h
        exact ev_end rfl
      · refine ev_ic_eq (t := 36) rfl rfl (fun c9 => absurd c9 hc) (fun _ => ?_)
        refine ev_go 4 (pc' := 30) (L' := [some (.ref 89), some (.int x136), some (.int x137), some (.int x138), some (.int x139), none]) (st' := [.long 9, .long 1, .long (x139).toInt64]) (h' := (HM P c145.2 T)) (cs' := 0) (sl' := 0) rfl ?_
        obtain ⟨c146, hq, h⟩ := ai_bdE h
        refine ev_call (M' := mm_in) (L' := [some (.long (x139).toInt64), none, some (.long 1), none, some (.long 9), none]) (rest := []) (rv := some (.int c146)) (h' := (HM P c145.2 T)) rfl (Em_in (x139).toInt64 1 9 _ hq (HM P c145.2 T)) ?_
        show ai_ev D1 mm_liftTo 33 [some (.ref 89), some (.int x136), some (.int x137), some (.int x138), some (.int x139), none] [.int c146] (HM P c145.2 T) 0 0 _
        rcases ai_ifE h with ⟨hc, h⟩ | ⟨hc, h⟩
        · refine ev_if_ne (t := 39) rfl rfl (fun c9 => absurd hc c9) (fun _ => ?_)
          refine ev_go 1 (pc' := 38) (L' := [some (.ref 89), some (.int x136), some (.int x137), some (.int x138), some (.int x139), none]) (st' := [.int (-2)]) (h' := (HM P c145.2 T)) (cs' := 0) (sl' := 0) rfl ?_
          obtain ⟨rfl, rfl⟩ := ai_smP h
          exact ev_end rfl
        · refine ev_if_ne (t := 39) rfl rfl (fun _ => ?_) (fun c9 => absurd c9 hc)
          refine ev_go 5 (pc' := 46) (L' := [some (.ref 89), some (.int x136), some (.int x137), some (.int x138), some (.int x139), none]) (st' := [.int (x136 + 3), .ref 90]) (h' := (HM P c145.2 T)) (cs' := 0) (sl' := 0) rfl ?_
          obtain ⟨v147, hq, h⟩ := ai_bdE h
          refine ev_iald rfl rfl hq ?_
          refine ev_go 3 (pc' := 53) (L' := [some (.ref 89), some (.int x136), some (.int x137), some (.int x138), some (.int x139), some (.int v147)]) (st' := [.int 10, .int v147]) (h' := (HM P c145.2 T)) (cs' := 0) (sl' := 0) rfl ?_
          rcases ai_ifE h with ⟨hc, h⟩ | ⟨hc, h⟩
          · refine ev_ic_ne (t := 59) rfl rfl (fun c9 => absurd hc c9) (fun _ => ?_)
            refine ev_go 1 (pc' := 58) (L' := [some (.ref 89), some (.int x136), some (.int x137), some (.int x138), some (.int x139), some (.int v147)]) (st' := [.int (-4)]) (h' := (HM P c145.2 T)) (cs' := 0) (sl' := 0) rfl ?_
            obtain ⟨rfl, rfl⟩ := ai_smP h
            exact ev_end rfl
          · refine ev_ic_ne (t := 59) rfl rfl (fun _ => ?_) (fun c9 => absurd c9 hc)
            refine ev_go 8 (pc' := 71) (L' := [some (.ref 89), some (.int x136), some (.int x137), some (.int x138), some (.int x139), some (.int v147)]) (st' := [.int x137, .int ((x136 + 91) + v147), .ref 90]) (h' := (HM P c145.2 T)) (cs' := 0) (sl' := 0) rfl ?_
            obtain ⟨q148, hq, h⟩ := ai_bdE h
            refine ev_iast rfl rfl hq ?_
            rw [HMs_90]
            refine ev_go 8 (pc' := 84) (L' := [some (.ref 89), some (.int x136), some (.int x137), some (.int x138), some (.int x139), some (.int v147)]) (st' := [.int x138, .int ((x136 + 101) + v147), .ref 90]) (h' := (HM P (u_m_w c145.2 q148) T)) (cs' := 0) (sl' := 0) rfl ?_
            obtain ⟨q149, hq, h⟩ := ai_bdE h
            refine ev_iast rfl rfl hq ?_
            rw [HMs_90]
            refine ev_go 8 (pc' := 98) (L' := [some (.ref 89), some (.int x136), some (.int x137), some (.int x138), some (.int x139), some (.int v147)]) (st' := [.int x139, .int ((x136 + 111) + v147), .ref 90]) (h' := (HM P (u_m_w (u_m_w c145.2 q148) q149) T)) (cs' := 0) (sl' := 0) rfl ?_
            obtain ⟨q150, hq, h⟩ := ai_bdE h
            refine ev_iast rfl rfl hq ?_
            rw [HMs_90]
            refine ev_go 6 (pc' := 107) (L' := [some (.ref 89), some (.int x136), some (.int x137), some (.int x138), some (.int x139), some (.int v147)]) (st' := [.int (x136 + 3), .ref 90, .int (x136 + 3), .ref 90]) (h' := (HM P (u_m_w (u_m_w (u_m_w c145.2 q148) q149) q150) T)) (cs' := 0) (sl' := 0) rfl ?_
            obtain ⟨v151, hq, h⟩ := ai_bdE h
            refine ev_iald rfl rfl hq ?_
            refine ev_go 2 (pc' := 110) (L' := [some (.ref 89), some (.int x136), some (.int x137), some (.int x138), some (.int x139), some (.int v147)]) (st' := [.int (v151 + 1), .int (x136 + 3), .ref 90]) (h' := (HM P (u_m_w (u_m_w (u_m_w c145.2 q148) q149) q150) T)) (cs' := 0) (sl' := 0) rfl ?_
            obtain ⟨q152, hq, h⟩ := ai_bdE h
            refine ev_iast rfl rfl hq ?_
            rw [HMs_90]
            refine ev_go 1 (pc' := 113) (L' := [some (.ref 89), some (.int x136), some (.int x137), some (.int x138), some (.int x139), some (.int v147)]) (st' := [.int v147]) (h' := (HM P (u_m_w (u_m_w (u_m_w (u_m_w c145.2 q148) q149) q150) q152) T)) (cs' := 0) (sl' := 0) rfl ?_
            obtain ⟨rfl, rfl⟩ := ai_smP h
            exact ev_end rfl
set_option maxHeartbeats 40000000 in
set_option maxRecDepth 100000 in
theorem Em_lift_89 (x133 : Int32) (x134 : Int32) (x135 : Int32) (w : WM) (r : Int32) (w' : WM) (h : Fm_lift_89 x133 x134 x135 w = some (r, w')) (P : Nat → ai_E) (T : ai_H) : ai_ev D1 mm_lift 0 [some (.ref 89), some (.int x133), some (.int x134), some (.int x135)] [] (HM P w T) 0 0 (some (.int r), HM P w' T) := by
  unfold Fm_lift_89 at h
  refine ev_go 6 (pc' := 6) (L' := [some (.ref 89), some (.int x133), some (.int x134), some (.int x135)]) (st' := [.int x135, .int x134, .int x133, .int 0, .ref 89, .ref 89]) (h' := (HM P w T)) (cs' := 0) (sl' := 0) rfl ?_
  obtain ⟨c153, hq, h⟩ := ai_bdE h
  refine ev_call (M' := mm_liftTo) (L' := [some (.ref 89), some (.int 0), some (.int x133), some (.int x134), some (.int x135), none]) (rest := [.ref 89]) (rv := some (.int c153.1)) (h' := (HM P c153.2 T)) rfl (Em_liftTo_89 0 x133 x134 x135 w _ _ hq P T) ?_
  show ai_ev D1 mm_lift 9 [some (.ref 89), some (.int x133), some (.int x134), some (.int x135)] [.int c153.1, .ref 89] (HM P c153.2 T) 0 0 _
  obtain ⟨c154, hq, h⟩ := ai_bdE h
  refine ev_call (M' := mm_met) (L' := [some (.ref 89), some (.int c153.1)]) (rest := []) (rv := some (.int c154.1)) (h' := (HM P c154.2 T)) rfl (Em_met_89 c153.1 c153.2 _ _ hq P T) ?_
  show ai_ev D1 mm_lift 12 [some (.ref 89), some (.int x133), some (.int x134), some (.int x135)] [.int c154.1] (HM P c154.2 T) 0 0 _
  obtain ⟨rfl, rfl⟩ := ai_smP h
  exact ev_end rfl
set_option maxHeartbeats 40000000 in
set_option maxRecDepth 100000 in
theorem EGm_townTo_89 : ∀ n : Nat, (∀ (y160 : Int32) (y161 : Int32) (y162 : Int32) (y163 : Int32) (w : WM) (r : Int32) (w' : WM), Gm_townTo_89 n 0 y160 y161 y162 y163 w = some (r, w') → ∀ (P : Nat → ai_E) (T : ai_H), ai_ev D1 mm_townTo 24 [some (.ref 89), some (.int y160), some (.int y161), some (.int y162), some (.int y163)] [] (HM P w T) 0 0 (some (.int r), HM P w' T)) := by
  intro n
  induction n with
  | zero =>
    exact (fun _ _ _ _ _ _ _ h => by cases h)
  | succ n ih0 =>
    intro y160 y161 y162 y163 w r w' h P T
    simp only [Gm_townTo_89] at h
    refine ev_go 2 (pc' := 27) (L' := [some (.ref 89), some (.int y160), some (.int y161), some (.int y162), some (.int y163)]) (st' := [.int y162, .int y163]) (h' := (HM P w T)) (cs' := 0) (sl' := 0) rfl ?_
    rcases ai_ifE h with ⟨hc, h⟩ | ⟨hc, h⟩
    · refine ev_ic_ge (t := 55) rfl rfl (fun _ => ?_) (fun c9 => absurd hc c9)
      refine ev_go 2 (pc' := 58) (L' := [some (.ref 89), some (.int y160), some (.int y161), some (.int y162), some (.int y163)]) (st' := [.int 6, .int y162]) (h' := (HM P w T)) (cs' := 0) (sl' := 0) rfl ?_
      rcases ai_ifE h with ⟨hc, h⟩ | ⟨hc, h⟩
      · refine ev_ic_ne (t := 64) rfl rfl (fun c9 => absurd hc c9) (fun _ => ?_)
        refine ev_go 1 (pc' := 63) (L' := [some (.ref 89), some (.int y160), some (.int y161), some (.int y162), some (.int y163)]) (st' := [.int (-4)]) (h' := (HM P w T)) (cs' := 0) (sl' := 0) rfl ?_
        obtain ⟨rfl, rfl⟩ := ai_smP h
        exact ev_end rfl
      · refine ev_ic_ne (t := 64) rfl rfl (fun _ => ?_) (fun c9 => absurd c9 hc)
        refine ev_go 8 (pc' := 75) (L' := [some (.ref 89), some (.int y160), some (.int y161), some (.int y162), some (.int y163)]) (st' := [.int y161, .int ((y160 + 121) + y162), .ref 90]) (h' := (HM P w T)) (cs' := 0) (sl' := 0) rfl ?_
        obtain ⟨q164, hq, h⟩ := ai_bdE h
        refine ev_iast rfl rfl hq ?_
        rw [HMs_90]
        refine ev_go 6 (pc' := 84) (L' := [some (.ref 89), some (.int y160), some (.int y161), some (.int y162), some (.int y163)]) (st' := [.int (y160 + 4), .ref 90, .int (y160 + 4), .ref 90]) (h' := (HM P (u_m_w w q164) T)) (cs' := 0) (sl' := 0) rfl ?_
        obtain ⟨v165, hq, h⟩ := ai_bdE h
        refine ev_iald rfl rfl hq ?_
        refine ev_go 2 (pc' := 87) (L' := [some (.ref 89), some (.int y160), some (.int y161), some (.int y162), some (.int y163)]) (st' := [.int (v165 + 1), .int (y160 + 4), .ref 90]) (h' := (HM P (u_m_w w q164) T)) (cs' := 0) (sl' := 0) rfl ?_
        obtain ⟨q166, hq, h⟩ := ai_bdE h
        refine ev_iast rfl rfl hq ?_
        rw [HMs_90]
        refine ev_go 1 (pc' := 89) (L' := [some (.ref 89), some (.int y160), some (.int y161), some (.int y162), some (.int y163)]) (st' := [.int y162]) (h' := (HM P (u_m_w (u_m_w w q164) q166) T)) (cs' := 0) (sl' := 0) rfl ?_
        obtain ⟨rfl, rfl⟩ := ai_smP h
        exact ev_end rfl
    · refine ev_ic_ge (t := 55) rfl rfl (fun c9 => absurd c9 hc) (fun _ => ?_)
      refine ev_go 7 (pc' := 41) (L' := [some (.ref 89), some (.int y160), some (.int y161), some (.int y162), some (.int y163)]) (st' := [.int ((y160 + 121) + y163), .ref 90]) (h' := (HM P w T)) (cs' := 0) (sl' := 0) rfl ?_
      obtain ⟨v167, hq, h⟩ := ai_bdE h
      refine ev_iald rfl rfl hq ?_
      refine ev_go 1 (pc' := 43) (L' := [some (.ref 89), some (.int y160), some (.int y161), some (.int y162), some (.int y163)]) (st' := [.int y161, .int v167]) (h' := (HM P w T)) (cs' := 0) (sl' := 0) rfl ?_
      rcases ai_ifE h with ⟨hc, h⟩ | ⟨hc, h⟩
      · refine ev_ic_ne (t := 49) rfl rfl (fun c9 => absurd hc c9) (fun _ => ?_)
        refine ev_go 1 (pc' := 48) (L' := [some (.ref 89), some (.int y160), some (.int y161), some (.int y162), some (.int y163)]) (st' := [.int (-3)]) (h' := (HM P w T)) (cs' := 0) (sl' := 0) rfl ?_
        obtain ⟨rfl, rfl⟩ := ai_smP h
        exact ev_end rfl
      · refine ev_ic_ne (t := 49) rfl rfl (fun _ => ?_) (fun c9 => absurd c9 hc)
        refine ev_go 2 (pc' := 24) (L' := [some (.ref 89), some (.int y160), some (.int y161), some (.int y162), some (.int (y163 + 1))]) (st' := []) (h' := (HM P w T)) (cs' := 0) (sl' := 0) rfl ?_
        exact ih0 _ _ _ _ _ _ _ h P T
set_option maxHeartbeats 40000000 in
set_option maxRecDepth 100000 in
theorem Em_townTo_89 (n : Nat) (x156 : Int32) (x157 : Int32) (w : WM) (r : Int32) (w' : WM) (h : Fm_townTo_89 n x156 x157 w = some (r, w')) (P : Nat → ai_E) (T : ai_H) : ai_ev D1 mm_townTo 0 [some (.ref 89), some (.int x156), some (.int x157), none, none] [] (HM P w T) 0 0 (some (.int r), HM P w' T) := by
  unfold Fm_townTo_89 at h
  have ih0 := EGm_townTo_89 n
  refine ev_go 3 (pc' := 3) (L' := [some (.ref 89), some (.int x156), some (.int x157), none, none]) (st' := [.int x157, .int x156, .ref 89]) (h' := (HM P w T)) (cs' := 0) (sl' := 0) rfl ?_
  obtain ⟨c158, hq, h⟩ := ai_bdE h
  refine ev_call (M' := mm_isPlaceOf) (L' := [some (.ref 89), some (.int x156), some (.int x157)]) (rest := []) (rv := some (.int c158.1)) (h' := (HM P c158.2 T)) rfl (Em_isPlaceOf_89 x156 x157 w _ _ hq P T) ?_
  show ai_ev D1 mm_townTo 6 [some (.ref 89), some (.int x156), some (.int x157), none, none] [.int c158.1] (HM P c158.2 T) 0 0 _
  rcases ai_ifE h with ⟨hc, h⟩ | ⟨hc, h⟩
  · refine ev_if_ne (t := 12) rfl rfl (fun c9 => absurd hc c9) (fun _ => ?_)
    refine ev_go 1 (pc' := 11) (L' := [some (.ref 89), some (.int x156), some (.int x157), none, none]) (st' := [.int (-2)]) (h' := (HM P c158.2 T)) (cs' := 0) (sl' := 0) rfl ?_
    obtain ⟨rfl, rfl⟩ := ai_smP h
    exact ev_end rfl
  · refine ev_if_ne (t := 12) rfl rfl (fun _ => ?_) (fun c9 => absurd c9 hc)
    refine ev_go 5 (pc' := 19) (L' := [some (.ref 89), some (.int x156), some (.int x157), none, none]) (st' := [.int (x156 + 4), .ref 90]) (h' := (HM P c158.2 T)) (cs' := 0) (sl' := 0) rfl ?_
    obtain ⟨v159, hq, h⟩ := ai_bdE h
    refine ev_iald rfl rfl hq ?_
    refine ev_go 3 (pc' := 24) (L' := [some (.ref 89), some (.int x156), some (.int x157), some (.int v159), some (.int 0)]) (st' := []) (h' := (HM P c158.2 T)) (cs' := 0) (sl' := 0) rfl ?_
    exact ih0 _ _ _ _ _ _ _ h P T
set_option maxHeartbeats 40000000 in
set_option maxRecDepth 100000 in
theorem Em_town_89 (n : Nat) (x155 : Int32) (w : WM) (r : Int32) (w' : WM) (h : Fm_town_89 n x155 w = some (r, w')) (P : Nat → ai_E) (T : ai_H) : ai_ev D1 mm_town 0 [some (.ref 89), some (.int x155)] [] (HM P w T) 0 0 (some (.int r), HM P w' T) := by
  unfold Fm_town_89 at h
  refine ev_go 4 (pc' := 4) (L' := [some (.ref 89), some (.int x155)]) (st' := [.int x155, .int 0, .ref 89, .ref 89]) (h' := (HM P w T)) (cs' := 0) (sl' := 0) rfl ?_
  obtain ⟨c168, hq, h⟩ := ai_bdE h
  refine ev_call (M' := mm_townTo) (L' := [some (.ref 89), some (.int 0), some (.int x155), none, none]) (rest := [.ref 89]) (rv := some (.int c168.1)) (h' := (HM P c168.2 T)) rfl (Em_townTo_89 n 0 x155 w _ _ hq P T) ?_
  show ai_ev D1 mm_town 7 [some (.ref 89), some (.int x155)] [.int c168.1, .ref 89] (HM P c168.2 T) 0 0 _
  obtain ⟨c169, hq, h⟩ := ai_bdE h
  refine ev_call (M' := mm_met) (L' := [some (.ref 89), some (.int c168.1)]) (rest := []) (rv := some (.int c169.1)) (h' := (HM P c169.2 T)) rfl (Em_met_89 c168.1 c168.2 _ _ hq P T) ?_
  show ai_ev D1 mm_town 10 [some (.ref 89), some (.int x155)] [.int c169.1] (HM P c169.2 T) 0 0 _
  obtain ⟨rfl, rfl⟩ := ai_smP h
  exact ev_end rfl
set_option maxHeartbeats 40000000 in
set_option maxRecDepth 100000 in
theorem Em_has (x178 : Int32) (x179 : Int32) (r : Int32) (h : Fm_has x178 x179 = some r) (hh : ai_H) : ai_ev D1 mm_has 0 [some (.int x178), some (.int x179)] [] hh 0 0 (some (.int r), hh) := by
  unfold Fm_has at h
  refine ev_go 6 (pc' := 6) (L' := [some (.int x178), some (.int x179)]) (st' := [.int 1, .int ((x178 >>> (x179 &&& 31)) &&& 1)]) (h' := hh) (cs' := 0) (sl' := 0) rfl ?_
  rcases ai_ifE h with ⟨hc, h⟩ | ⟨hc, h⟩
  · refine ev_ic_ne (t := 13) rfl rfl (fun c9 => absurd hc c9) (fun _ => ?_)
    refine ev_go 2 (pc' := 14) (L' := [some (.int x178), some (.int x179)]) (st' := [.int 1]) (h' := hh) (cs' := 0) (sl' := 0) rfl ?_
    obtain rfl := Option.some.inj h
    exact ev_end rfl
  · refine ev_ic_ne (t := 13) rfl rfl (fun _ => ?_) (fun c9 => absurd c9 hc)
    refine ev_go 1 (pc' := 14) (L' := [some (.int x178), some (.int x179)]) (st' := [.int 0]) (h' := hh) (cs' := 0) (sl' := 0) rfl ?_
    obtain rfl := Option.some.inj h
    exact ev_end rfl
set_option maxHeartbeats 40000000 in
set_option maxRecDepth 100000 in
theorem Em_damTo_89 (x172 : Int32) (x173 : Int32) (x174 : Int32) (w : WM) (r : Int32) (w' : WM) (h : Fm_damTo_89 x172 x173 x174 w = some (r, w')) (P : Nat → ai_E) (T : ai_H) : ai_ev D1 mm_damTo 0 [some (.ref 89), some (.int x172), some (.int x173), some (.int x174)] [] (HM P w T) 0 0 (some (.int r), HM P w' T) := by
  unfold Fm_damTo_89 at h
  refine ev_go 8 (pc' := 10) (L' := [some (.ref 89), some (.int x172), some (.int x173), some (.int x174)]) (st' := [.int (x172 + 0), .ref 90, .long 0, .long (x173).toInt64]) (h' := (HM P w T)) (cs' := 0) (sl' := 0) rfl ?_
  obtain ⟨v175, hq, h⟩ := ai_bdE h
  refine ev_iald rfl rfl hq ?_
  refine ev_go 3 (pc' := 14) (L' := [some (.ref 89), some (.int x172), some (.int x173), some (.int x174)]) (st' := [.long ((v175 - 2)).toInt64, .long 0, .long (x173).toInt64]) (h' := (HM P w T)) (cs' := 0) (sl' := 0) rfl ?_
  obtain ⟨c176, hq, h⟩ := ai_bdE h
  refine ev_call (M' := mm_in) (L' := [some (.long (x173).toInt64), none, some (.long 0), none, some (.long ((v175 - 2)).toInt64), none]) (rest := []) (rv := some (.int c176)) (h' := (HM P w T)) rfl (Em_in (x173).toInt64 0 ((v175 - 2)).toInt64 _ hq (HM P w T)) ?_
  show ai_ev D1 mm_damTo 17 [some (.ref 89), some (.int x172), some (.int x173), some (.int x174)] [.int c176] (HM P w T) 0 0 _
  rcases ai_ifE h with ⟨hc, h⟩ | ⟨hc, h⟩
  · refine ev_if_ne (t := 23) rfl rfl (fun c9 => absurd hc c9) (fun _ => ?_)
    refine ev_go 1 (pc' := 22) (L' := [some (.ref 89), some (.int x172), some (.int x173), some (.int x174)]) (st' := [.int (-2)]) (h' := (HM P w T)) (cs' := 0) (sl' := 0) rfl ?_
    obtain ⟨rfl, rfl⟩ := ai_smP h
    exact ev_end rfl
  · refine ev_if_ne (t := 23) rfl rfl (fun _ => ?_) (fun c9 => absurd c9 hc)
    refine ev_go 5 (pc' := 30) (L' := [some (.ref 89), some (.int x172), some (.int x173), some (.int x174)]) (st' := [.int (x172 + 5), .ref 90]) (h' := (HM P w T)) (cs' := 0) (sl' := 0) rfl ?_
    obtain ⟨v177, hq, h⟩ := ai_bdE h
    refine ev_iald rfl rfl hq ?_
    refine ev_go 1 (pc' := 32) (L' := [some (.ref 89), some (.int x172), some (.int x173), some (.int x174)]) (st' := [.int x173, .int v177]) (h' := (HM P w T)) (cs' := 0) (sl' := 0) rfl ?_
    obtain ⟨c180, hq, h⟩ := ai_bdE h
    refine ev_call (M' := mm_has) (L' := [some (.int v177), some (.int x173)]) (rest := []) (rv := some (.int c180)) (h' := (HM P w T)) rfl (Em_has v177 x173 _ hq (HM P w T)) ?_
    show ai_ev D1 mm_damTo 35 [some (.ref 89), some (.int x172), some (.int x173), some (.int x174)] [.int c180] (HM P w T) 0 0 _
    refine ev_go 1 (pc' := 36) (L' := [some (.ref 89), some (.int x172), some (.int x173), some (.int x174)]) (st' := [.int x174, .int c180]) (h' := (HM P w T)) (cs' := 0) (sl' := 0) rfl ?_
    rcases ai_ifE h with ⟨hc, h⟩ | ⟨hc, h⟩
    · refine ev_ic_ne (t := 42) rfl rfl (fun c9 => absurd hc c9) (fun _ => ?_)
      refine ev_go 1 (pc' := 41) (L' := [some (.ref 89), some (.int x172), some (.int x173), some (.int x174)]) (st' := [.int (-3)]) (h' := (HM P w T)) (cs' := 0) (sl' := 0) rfl ?_
      obtain ⟨rfl, rfl⟩ := ai_smP h
      exact ev_end rfl
    · refine ev_ic_ne (t := 42) rfl rfl (fun _ => ?_) (fun c9 => absurd c9 hc)
      refine ev_go 6 (pc' := 50) (L' := [some (.ref 89), some (.int x172), some (.int x173), some (.int x174)]) (st' := [.int (x172 + 5), .ref 90, .int (x172 + 5), .ref 90]) (h' := (HM P w T)) (cs' := 0) (sl' := 0) rfl ?_
      obtain ⟨v181, hq, h⟩ := ai_bdE h
      refine ev_iald rfl rfl hq ?_
      refine ev_go 4 (pc' := 55) (L' := [some (.ref 89), some (.int x172), some (.int x173), some (.int x174)]) (st' := [.int (v181 ^^^ (1 <<< (x173 &&& 31))), .int (x172 + 5), .ref 90]) (h' := (HM P w T)) (cs' := 0) (sl' := 0) rfl ?_
      obtain ⟨q182, hq, h⟩ := ai_bdE h
      refine ev_iast rfl rfl hq ?_
      rw [HMs_90]
      refine ev_go 1 (pc' := 57) (L' := [some (.ref 89), some (.int x172), some (.int x173), some (.int x174)]) (st' := [.int 1]) (h' := (HM P (u_m_w w q182) T)) (cs' := 0) (sl' := 0) rfl ?_
      obtain ⟨rfl, rfl⟩ := ai_smP h
      exact ev_end rfl
set_option maxHeartbeats 40000000 in
set_option maxRecDepth 100000 in
theorem Em_dam_89 (x170 : Int32) (x171 : Int32) (w : WM) (r : Int32) (w' : WM) (h : Fm_dam_89 x170 x171 w = some (r, w')) (P : Nat → ai_E) (T : ai_H) : ai_ev D1 mm_dam 0 [some (.ref 89), some (.int x170), some (.int x171)] [] (HM P w T) 0 0 (some (.int r), HM P w' T) := by
  unfold Fm_dam_89 at h
  refine ev_go 5 (pc' := 5) (L' := [some (.ref 89), some (.int x170), some (.int x171)]) (st' := [.int x171, .int x170, .int 0, .ref 89, .ref 89]) (h' := (HM P w T)) (cs' := 0) (sl' := 0) rfl ?_
  obtain ⟨c183, hq, h⟩ := ai_bdE h
  refine ev_call (M' := mm_damTo) (L' := [some (.ref 89), some (.int 0), some (.int x170), some (.int x171)]) (rest := [.ref 89]) (rv := some (.int c183.1)) (h' := (HM P c183.2 T)) rfl (Em_damTo_89 0 x170 x171 w _ _ hq P T) ?_
  show ai_ev D1 mm_dam 8 [some (.ref 89), some (.int x170), some (.int x171)] [.int c183.1, .ref 89] (HM P c183.2 T) 0 0 _
  obtain ⟨c184, hq, h⟩ := ai_bdE h
  refine ev_call (M' := mm_met) (L' := [some (.ref 89), some (.int c183.1)]) (rest := []) (rv := some (.int c184.1)) (h' := (HM P c184.2 T)) rfl (Em_met_89 c183.1 c183.2 _ _ hq P T) ?_
  show ai_ev D1 mm_dam 11 [some (.ref 89), some (.int x170), some (.int x171)] [.int c184.1] (HM P c184.2 T) 0 0 _
  obtain ⟨rfl, rfl⟩ := ai_smP h
  exact ev_end rfl
set_option maxHeartbeats 40000000 in
set_option maxRecDepth 100000 in
theorem Em_drop_89 (x185 : Int32) (x186 : Int32) (w : WM) (r : Int32) (w' : WM) (h : Fm_drop_89 x185 x186 w = some (r, w')) (P : Nat → ai_E) (T : ai_H) : ai_ev D1 mm_drop 0 [some (.ref 89), some (.int x185), some (.int x186)] [] (HM P w T) 0 0 (some (.int r), HM P w' T) := by
  unfold Fm_drop_89 at h
  refine ev_go 1 (pc' := 1) (L' := [some (.ref 89), some (.int x185), some (.int x186)]) (st' := [.int x185]) (h' := (HM P w T)) (cs' := 0) (sl' := 0) rfl ?_
  obtain ⟨c187, hq, h⟩ := ai_bdE h
  refine ev_call (M' := mm_isLayer) (L' := [some (.int x185)]) (rest := []) (rv := some (.int c187)) (h' := (HM P w T)) rfl (Em_isLayer x185 _ hq (HM P w T)) ?_
  show ai_ev D1 mm_drop 4 [some (.ref 89), some (.int x185), some (.int x186)] [.int c187] (HM P w T) 0 0 _
  rcases ai_ifE h with ⟨hc, h⟩ | ⟨hc, h⟩
  · refine ev_if_ne (t := 12) rfl rfl (fun c9 => absurd hc c9) (fun _ => ?_)
    refine ev_go 1 (pc' := 8) (L' := [some (.ref 89), some (.int x185), some (.int x186)]) (st' := [.ref 89]) (h' := (HM P w T)) (cs' := 0) (sl' := 0) rfl ?_
    obtain ⟨c201, hq, h⟩ := ai_bdE h
    refine ev_call (M' := mm_bad) (L' := [some (.ref 89)]) (rest := []) (rv := some (.int c201.1)) (h' := (HM P c201.2 T)) rfl (Em_bad_89 w _ _ hq P T) ?_
    show ai_ev D1 mm_drop 11 [some (.ref 89), some (.int x185), some (.int x186)] [.int c201.1] (HM P c201.2 T) 0 0 _
    obtain ⟨rfl, rfl⟩ := ai_smP h
    exact ev_end rfl
  · refine ev_if_ne (t := 12) rfl rfl (fun _ => ?_) (fun c9 => absurd c9 hc)
    refine ev_go 3 (pc' := 18) (L' := [some (.ref 89), some (.int x185), some (.int x186)]) (st' := [.int 6, .ref 90]) (h' := (HM P w T)) (cs' := 0) (sl' := 0) rfl ?_
    obtain ⟨v188, hq, h⟩ := ai_bdE h
    refine ev_iald rfl rfl hq ?_
    refine ev_go 1 (pc' := 21) (L' := [some (.ref 89), some (.int x185), some (.int x186)]) (st' := [.int 6, .int v188]) (h' := (HM P w T)) (cs' := 0) (sl' := 0) rfl ?_
    rcases ai_ifE h with ⟨hc, h⟩ | ⟨hc, h⟩
    · refine ev_ic_ne (t := 31) rfl rfl (fun c9 => absurd hc c9) (fun _ => ?_)
      refine ev_go 2 (pc' := 27) (L' := [some (.ref 89), some (.int x185), some (.int x186)]) (st' := [.int (-4), .ref 89]) (h' := (HM P w T)) (cs' := 0) (sl' := 0) rfl ?_
      obtain ⟨c200, hq, h⟩ := ai_bdE h
      refine ev_call (M' := mm_met) (L' := [some (.ref 89), some (.int (-4))]) (rest := []) (rv := some (.int c200.1)) (h' := (HM P c200.2 T)) rfl (Em_met_89 (-4) w _ _ hq P T) ?_
      show ai_ev D1 mm_drop 30 [some (.ref 89), some (.int x185), some (.int x186)] [.int c200.1] (HM P c200.2 T) 0 0 _
      obtain ⟨rfl, rfl⟩ := ai_smP h
      exact ev_end rfl
    · refine ev_ic_ne (t := 31) rfl rfl (fun _ => ?_) (fun c9 => absurd c9 hc)
      refine ev_go 6 (pc' := 43) (L' := [some (.ref 89), some (.int x185), some (.int x186)]) (st' := [.int 6, .ref 90, .int 127, .ref 90]) (h' := (HM P w T)) (cs' := 0) (sl' := 0) rfl ?_
      obtain ⟨v189, hq, h⟩ := ai_bdE h
      refine ev_iald rfl rfl hq ?_
      refine ev_go 2 (pc' := 46) (L' := [some (.ref 89), some (.int x185), some (.int x186)]) (st' := [.int x185, .int (127 + v189), .ref 90]) (h' := (HM P w T)) (cs' := 0) (sl' := 0) rfl ?_
      obtain ⟨q190, hq, h⟩ := ai_bdE h
      refine ev_iast rfl rfl hq ?_
      rw [HMs_90]
      refine ev_go 6 (pc' := 60) (L' := [some (.ref 89), some (.int x185), some (.int x186)]) (st' := [.int 6, .ref 90, .int 133, .ref 90]) (h' := (HM P (u_m_w w q190) T)) (cs' := 0) (sl' := 0) rfl ?_
      obtain ⟨v191, hq, h⟩ := ai_bdE h
      refine ev_iald rfl rfl hq ?_
      refine ev_go 2 (pc' := 63) (L' := [some (.ref 89), some (.int x185), some (.int x186)]) (st' := [.int x186, .int (133 + v191), .ref 90]) (h' := (HM P (u_m_w w q190) T)) (cs' := 0) (sl' := 0) rfl ?_
      rcases ai_ifE h with ⟨hc, h⟩ | ⟨hc, h⟩
      · refine ev_if_eq (t := 70) rfl rfl (fun _ => ?_) (fun c9 => absurd hc c9)
        refine ev_go 1 (pc' := 71) (L' := [some (.ref 89), some (.int x185), some (.int x186)]) (st' := [.int 0, .int (133 + v191), .ref 90]) (h' := (HM P (u_m_w w q190) T)) (cs' := 0) (sl' := 0) rfl ?_
        obtain ⟨q192, hq, h⟩ := ai_bdE h
        refine ev_iast rfl rfl hq ?_
        rw [HMs_90]
        refine ev_go 4 (pc' := 79) (L' := [some (.ref 89), some (.int x185), some (.int x186)]) (st' := [.int 6, .ref 90, .int 6, .ref 90]) (h' := (HM P (u_m_w (u_m_w w q190) q192) T)) (cs' := 0) (sl' := 0) rfl ?_
        obtain ⟨v193, hq, h⟩ := ai_bdE h
        refine ev_iald rfl rfl hq ?_
        refine ev_go 2 (pc' := 82) (L' := [some (.ref 89), some (.int x185), some (.int x186)]) (st' := [.int (v193 + 1), .int 6, .ref 90]) (h' := (HM P (u_m_w (u_m_w w q190) q192) T)) (cs' := 0) (sl' := 0) rfl ?_
        obtain ⟨q194, hq, h⟩ := ai_bdE h
        refine ev_iast rfl rfl hq ?_
        rw [HMs_90]
        refine ev_go 3 (pc' := 89) (L' := [some (.ref 89), some (.int x185), some (.int x186)]) (st' := [.int 6, .ref 90]) (h' := (HM P (u_m_w (u_m_w (u_m_w w q190) q192) q194) T)) (cs' := 0) (sl' := 0) rfl ?_
        obtain ⟨v195, hq, h⟩ := ai_bdE h
        refine ev_iald rfl rfl hq ?_
        obtain ⟨rfl, rfl⟩ := ai_smP h
        exact ev_end rfl
      · refine ev_if_eq (t := 70) rfl rfl (fun c9 => absurd c9 hc) (fun _ => ?_)
        refine ev_go 2 (pc' := 71) (L' := [some (.ref 89), some (.int x185), some (.int x186)]) (st' := [.int 1, .int (133 + v191), .ref 90]) (h' := (HM P (u_m_w w q190) T)) (cs' := 0) (sl' := 0) rfl ?_
        obtain ⟨q196, hq, h⟩ := ai_bdE h
        refine ev_iast rfl rfl hq ?_
        rw [HMs_90]
        refine ev_go 4 (pc' := 79) (L' := [some (.ref 89), some (.int x185), some (.int x186)]) (st' := [.int 6, .ref 90, .int 6, .ref 90]) (h' := (HM P (u_m_w (u_m_w w q190) q196) T)) (cs' := 0) (sl' := 0) rfl ?_
        obtain ⟨v197, hq, h⟩ := ai_bdE h
        refine ev_iald rfl rfl hq ?_
        refine ev_go 2 (pc' := 82) (L' := [some (.ref 89), some (.int x185), some (.int x186)]) (st' := [.int (v197 + 1), .int 6, .ref 90]) (h' := (HM P (u_m_w (u_m_w w q190) q196) T)) (cs' := 0) (sl' := 0) rfl ?_
        obtain ⟨q198, hq, h⟩ := ai_bdE h
        refine ev_iast rfl rfl hq ?_
        rw [HMs_90]
        refine ev_go 3 (pc' := 89) (L' := [some (.ref 89), some (.int x185), some (.int x186)]) (st' := [.int 6, .ref 90]) (h' := (HM P (u_m_w (u_m_w (u_m_w w q190) q196) q198) T)) (cs' := 0) (sl' := 0) rfl ?_
        obtain ⟨v199, hq, h⟩ := ai_bdE h
        refine ev_iald rfl rfl hq ?_
        obtain ⟨rfl, rfl⟩ := ai_smP h
        exact ev_end rfl
set_option maxHeartbeats 40000000 in
set_option maxRecDepth 100000 in
theorem Em_clean_89 (x202 : Int32) (w : WM) (r : Int32) (w' : WM) (h : Fm_clean_89 x202 w = some (r, w')) (P : Nat → ai_E) (T : ai_H) : ai_ev D1 mm_clean 0 [some (.ref 89), some (.int x202)] [] (HM P w T) 0 0 (some (.int r), HM P w' T) := by
  unfold Fm_clean_89 at h
  refine ev_go 4 (pc' := 6) (L' := [some (.ref 89), some (.int x202)]) (st' := [.long 3, .long 0, .long (x202).toInt64]) (h' := (HM P w T)) (cs' := 0) (sl' := 0) rfl ?_
  obtain ⟨c203, hq, h⟩ := ai_bdE h
  refine ev_call (M' := mm_in) (L' := [some (.long (x202).toInt64), none, some (.long 0), none, some (.long 3), none]) (rest := []) (rv := some (.int c203)) (h' := (HM P w T)) rfl (Em_in (x202).toInt64 0 3 _ hq (HM P w T)) ?_
  show ai_ev D1 mm_clean 9 [some (.ref 89), some (.int x202)] [.int c203] (HM P w T) 0 0 _
  rcases ai_ifE h with ⟨hc, h⟩ | ⟨hc, h⟩
  · refine ev_if_ne (t := 17) rfl rfl (fun c9 => absurd hc c9) (fun _ => ?_)
    refine ev_go 1 (pc' := 13) (L' := [some (.ref 89), some (.int x202)]) (st' := [.ref 89]) (h' := (HM P w T)) (cs' := 0) (sl' := 0) rfl ?_
    obtain ⟨c208, hq, h⟩ := ai_bdE h
    refine ev_call (M' := mm_bad) (L' := [some (.ref 89)]) (rest := []) (rv := some (.int c208.1)) (h' := (HM P c208.2 T)) rfl (Em_bad_89 w _ _ hq P T) ?_
    show ai_ev D1 mm_clean 16 [some (.ref 89), some (.int x202)] [.int c208.1] (HM P c208.2 T) 0 0 _
    obtain ⟨rfl, rfl⟩ := ai_smP h
    exact ev_end rfl
  · refine ev_if_ne (t := 17) rfl rfl (fun _ => ?_) (fun c9 => absurd c9 hc)
    refine ev_go 2 (pc' := 19) (L' := [some (.ref 89), some (.int x202)]) (st' := [.int x202, .ref 89]) (h' := (HM P w T)) (cs' := 0) (sl' := 0) rfl ?_
    rcases ai_ifE h with ⟨hc, h⟩ | ⟨hc, h⟩
    · refine ev_if_ne (t := 26) rfl rfl (fun c9 => absurd hc c9) (fun _ => ?_)
      refine ev_go 3 (pc' := 47) (L' := [some (.ref 89), some (.int x202)]) (st' := [.int 0, .int 2, .ref 89]) (h' := (HM P w T)) (cs' := 0) (sl' := 0) rfl ?_
      obtain ⟨c207, hq, h⟩ := ai_bdE h
      refine ev_call (M' := mm_becomes) (L' := [some (.ref 89), some (.int 2), some (.int 0), none]) (rest := []) (rv := some (.int c207.1)) (h' := (HM P c207.2 T)) rfl (Em_becomes_89 2 0 w _ _ hq P T) ?_
      show ai_ev D1 mm_clean 50 [some (.ref 89), some (.int x202)] [.int c207.1] (HM P c207.2 T) 0 0 _
      obtain ⟨rfl, rfl⟩ := ai_smP h
      exact ev_end rfl
    · refine ev_if_ne (t := 26) rfl rfl (fun _ => ?_) (fun c9 => absurd c9 hc)
      refine ev_go 2 (pc' := 28) (L' := [some (.ref 89), some (.int x202)]) (st' := [.int 1, .int x202, .ref 89]) (h' := (HM P w T)) (cs' := 0) (sl' := 0) rfl ?_
      rcases ai_ifE h with ⟨hc, h⟩ | ⟨hc, h⟩
      · refine ev_ic_ne (t := 35) rfl rfl (fun c9 => absurd hc c9) (fun _ => ?_)
        refine ev_go 3 (pc' := 47) (L' := [some (.ref 89), some (.int x202)]) (st' := [.int 0, .int 3, .ref 89]) (h' := (HM P w T)) (cs' := 0) (sl' := 0) rfl ?_
        obtain ⟨c206, hq, h⟩ := ai_bdE h
        refine ev_call (M' := mm_becomes) (L' := [some (.ref 89), some (.int 3), some (.int 0), none]) (rest := []) (rv := some (.int c206.1)) (h' := (HM P c206.2 T)) rfl (Em_becomes_89 3 0 w _ _ hq P T) ?_
        show ai_ev D1 mm_clean 50 [some (.ref 89), some (.int x202)] [.int c206.1] (HM P c206.2 T) 0 0 _
        obtain ⟨rfl, rfl⟩ := ai_smP h
        exact ev_end rfl
      · refine ev_ic_ne (t := 35) rfl rfl (fun _ => ?_) (fun c9 => absurd c9 hc)
        refine ev_go 2 (pc' := 37) (L' := [some (.ref 89), some (.int x202)]) (st' := [.int 2, .int x202, .ref 89]) (h' := (HM P w T)) (cs' := 0) (sl' := 0) rfl ?_
        rcases ai_ifE h with ⟨hc, h⟩ | ⟨hc, h⟩
        · refine ev_ic_ne (t := 44) rfl rfl (fun c9 => absurd hc c9) (fun _ => ?_)
          refine ev_go 3 (pc' := 47) (L' := [some (.ref 89), some (.int x202)]) (st' := [.int 0, .int 4, .ref 89]) (h' := (HM P w T)) (cs' := 0) (sl' := 0) rfl ?_
          obtain ⟨c205, hq, h⟩ := ai_bdE h
          refine ev_call (M' := mm_becomes) (L' := [some (.ref 89), some (.int 4), some (.int 0), none]) (rest := []) (rv := some (.int c205.1)) (h' := (HM P c205.2 T)) rfl (Em_becomes_89 4 0 w _ _ hq P T) ?_
          show ai_ev D1 mm_clean 50 [some (.ref 89), some (.int x202)] [.int c205.1] (HM P c205.2 T) 0 0 _
          obtain ⟨rfl, rfl⟩ := ai_smP h
          exact ev_end rfl
        · refine ev_ic_ne (t := 44) rfl rfl (fun _ => ?_) (fun c9 => absurd c9 hc)
          refine ev_go 2 (pc' := 47) (L' := [some (.ref 89), some (.int x202)]) (st' := [.int 0, .int 6, .ref 89]) (h' := (HM P w T)) (cs' := 0) (sl' := 0) rfl ?_
          obtain ⟨c204, hq, h⟩ := ai_bdE h
          refine ev_call (M' := mm_becomes) (L' := [some (.ref 89), some (.int 6), some (.int 0), none]) (rest := []) (rv := some (.int c204.1)) (h' := (HM P c204.2 T)) rfl (Em_becomes_89 6 0 w _ _ hq P T) ?_
          show ai_ev D1 mm_clean 50 [some (.ref 89), some (.int x202)] [.int c204.1] (HM P c204.2 T) 0 0 _
          obtain ⟨rfl, rfl⟩ := ai_smP h
          exact ev_end rfl
set_option maxHeartbeats 40000000 in
set_option maxRecDepth 100000 in
theorem Em_type_89 (x209 : Int32) (w : WM) (r : Int32) (w' : WM) (h : Fm_type_89 x209 w = some (r, w')) (P : Nat → ai_E) (T : ai_H) : ai_ev D1 mm_type 0 [some (.ref 89), some (.int x209)] [] (HM P w T) 0 0 (some (.int r), HM P w' T) := by
  unfold Fm_type_89 at h
  refine ev_go 4 (pc' := 6) (L' := [some (.ref 89), some (.int x209)]) (st' := [.long 127, .long 0, .long (x209).toInt64]) (h' := (HM P w T)) (cs' := 0) (sl' := 0) rfl ?_
  obtain ⟨c210, hq, h⟩ := ai_bdE h
  refine ev_call (M' := mm_in) (L' := [some (.long (x209).toInt64), none, some (.long 0), none, some (.long 127), none]) (rest := []) (rv := some (.int c210)) (h' := (HM P w T)) rfl (Em_in (x209).toInt64 0 127 _ hq (HM P w T)) ?_
  show ai_ev D1 mm_type 9 [some (.ref 89), some (.int x209)] [.int c210] (HM P w T) 0 0 _
  rcases ai_ifE h with ⟨hc, h⟩ | ⟨hc, h⟩
  · refine ev_if_ne (t := 17) rfl rfl (fun c9 => absurd hc c9) (fun _ => ?_)
    refine ev_go 1 (pc' := 13) (L' := [some (.ref 89), some (.int x209)]) (st' := [.ref 89]) (h' := (HM P w T)) (cs' := 0) (sl' := 0) rfl ?_
    obtain ⟨c213, hq, h⟩ := ai_bdE h
    refine ev_call (M' := mm_bad) (L' := [some (.ref 89)]) (rest := []) (rv := some (.int c213.1)) (h' := (HM P c213.2 T)) rfl (Em_bad_89 w _ _ hq P T) ?_
    show ai_ev D1 mm_type 16 [some (.ref 89), some (.int x209)] [.int c213.1] (HM P c213.2 T) 0 0 _
    obtain ⟨rfl, rfl⟩ := ai_smP h
    exact ev_end rfl
  · refine ev_if_ne (t := 17) rfl rfl (fun _ => ?_) (fun c9 => absurd c9 hc)
    refine ev_go 3 (pc' := 24) (L' := [some (.ref 89), some (.int x209)]) (st' := [.int 150, .int (a_m_texted w)]) (h' := (HM P w T)) (cs' := 0) (sl' := 0) rfl ?_
    rcases ai_ifE h with ⟨hc, h⟩ | ⟨hc, h⟩
    · refine ev_ic_ne (t := 34) rfl rfl (fun c9 => absurd hc c9) (fun _ => ?_)
      refine ev_go 2 (pc' := 30) (L' := [some (.ref 89), some (.int x209)]) (st' := [.int (-4), .ref 89]) (h' := (HM P w T)) (cs' := 0) (sl' := 0) rfl ?_
      obtain ⟨c212, hq, h⟩ := ai_bdE h
      refine ev_call (M' := mm_met) (L' := [some (.ref 89), some (.int (-4))]) (rest := []) (rv := some (.int c212.1)) (h' := (HM P c212.2 T)) rfl (Em_met_89 (-4) w _ _ hq P T) ?_
      show ai_ev D1 mm_type 33 [some (.ref 89), some (.int x209)] [.int c212.1] (HM P c212.2 T) 0 0 _
      obtain ⟨rfl, rfl⟩ := ai_smP h
      exact ev_end rfl
    · refine ev_ic_ne (t := 34) rfl rfl (fun _ => ?_) (fun c9 => absurd c9 hc)
      refine ev_go 5 (pc' := 43) (L' := [some (.ref 89), some (.int x209)]) (st' := [.int x209, .int (a_m_texted w), .ref 92]) (h' := (HM P w T)) (cs' := 0) (sl' := 0) rfl ?_
      obtain ⟨q211, hq, h⟩ := ai_bdE h
      refine ev_iast rfl rfl hq ?_
      rw [HMs_92]
      refine ev_go 5 (pc' := 51) (L' := [some (.ref 89), some (.int x209)]) (st' := [.int ((a_m_texted w) + 1), .ref 89]) (h' := (HM P (u_m_text w q211) T)) (cs' := 0) (sl' := 0) rfl ?_
      refine ev_step rfl rfl rfl (PFM_8_124_89 rfl) ?_
      refine ev_go 2 (pc' := 58) (L' := [some (.ref 89), some (.int x209)]) (st' := [.int ((a_m_texted w) + 1)]) (h' := (HM P (u_m_texted (u_m_text w q211) ((a_m_texted w) + 1)) T)) (cs' := 0) (sl' := 0) rfl ?_
      obtain ⟨rfl, rfl⟩ := ai_smP h
      exact ev_end rfl
set_option maxHeartbeats 40000000 in
set_option maxRecDepth 100000 in
theorem Em_clear_89 (w : WM) (r : Int32) (w' : WM) (h : Fm_clear_89 w = some (r, w')) (P : Nat → ai_E) (T : ai_H) : ai_ev D1 mm_clear 0 [some (.ref 89), none] [] (HM P w T) 0 0 (some (.int r), HM P w' T) := by
  unfold Fm_clear_89 at h
  refine ev_go 5 (pc' := 7) (L' := [some (.ref 89), some (.int (a_m_texted w))]) (st' := [.int 0, .ref 89]) (h' := (HM P w T)) (cs' := 0) (sl' := 0) rfl ?_
  refine ev_step rfl rfl rfl (PFM_8_124_89 rfl) ?_
  refine ev_go 1 (pc' := 11) (L' := [some (.ref 89), some (.int (a_m_texted w))]) (st' := [.int (a_m_texted w)]) (h' := (HM P (u_m_texted w 0) T)) (cs' := 0) (sl' := 0) rfl ?_
  obtain ⟨rfl, rfl⟩ := ai_smP h
  exact ev_end rfl
set_option maxHeartbeats 40000000 in
set_option maxRecDepth 100000 in
theorem Em_byteAt_89 (x214 : Int32) (w : WM) (r : Int32) (w' : WM) (h : Fm_byteAt_89 x214 w = some (r, w')) (P : Nat → ai_E) (T : ai_H) : ai_ev D1 mm_byteAt 0 [some (.ref 89), some (.int x214)] [] (HM P w T) 0 0 (some (.int r), HM P w' T) := by
  unfold Fm_byteAt_89 at h
  refine ev_go 3 (pc' := 5) (L' := [some (.ref 89), some (.int x214)]) (st' := [.int (a_m_texted w), .int x214]) (h' := (HM P w T)) (cs' := 0) (sl' := 0) rfl ?_
  rcases ai_ifE h with ⟨hc, h⟩ | ⟨hc, h⟩
  · refine ev_ic_ge (t := 17) rfl rfl (fun _ => ?_) (fun c9 => absurd hc c9)
    refine ev_go 1 (pc' := 18) (L' := [some (.ref 89), some (.int x214)]) (st' := [.int (-1)]) (h' := (HM P w T)) (cs' := 0) (sl' := 0) rfl ?_
    obtain ⟨rfl, rfl⟩ := ai_smP h
    exact ev_end rfl
  · refine ev_ic_ge (t := 17) rfl rfl (fun c9 => absurd c9 hc) (fun _ => ?_)
    refine ev_go 3 (pc' := 13) (L' := [some (.ref 89), some (.int x214)]) (st' := [.int x214, .ref 92]) (h' := (HM P w T)) (cs' := 0) (sl' := 0) rfl ?_
    obtain ⟨v215, hq, h⟩ := ai_bdE h
    refine ev_iald rfl rfl hq ?_
    refine ev_go 1 (pc' := 18) (L' := [some (.ref 89), some (.int x214)]) (st' := [.int v215]) (h' := (HM P w T)) (cs' := 0) (sl' := 0) rfl ?_
    obtain ⟨rfl, rfl⟩ := ai_smP h
    exact ev_end rfl
set_option maxHeartbeats 40000000 in
set_option maxRecDepth 100000 in
theorem EGm_token_89 : ∀ n : Nat, (∀ (w : WM) (w' : WM), Gm_token_89 n 0  w = some w' → ∀ (P : Nat → ai_E) (T : ai_H), ai_ev D1 mm_token 0 [some (.ref 89)] [] (HM P w T) 0 0 (none, HM P w' T)) ∧ (∀ (w : WM) (w' : WM), Gm_token_89 n 1  w = some w' → ∀ (P : Nat → ai_E) (T : ai_H), ai_ev D1 mm_token 103 [some (.ref 89)] [] (HM P w T) 0 0 (none, HM P w' T)) := by
  intro n
  induction n with
  | zero =>
    exact ⟨(fun _ _ h => by cases h), (fun _ _ h => by cases h)⟩
  | succ n ih =>
    obtain ⟨ih0, ih1⟩ := ih
    refine ⟨?_, ?_⟩
    · intro w w' h P T
      simp only [Gm_token_89] at h
      refine ev_go 3 (pc' := 5) (L' := [some (.ref 89)]) (st' := [.int (a_m_at w), .ref 89]) (h' := (HM P w T)) (cs' := 0) (sl' := 0) rfl ?_
      obtain ⟨c216, hq, h⟩ := ai_bdE h
      refine ev_call (M' := mm_byteAt) (L' := [some (.ref 89), some (.int (a_m_at w))]) (rest := []) (rv := some (.int c216.1)) (h' := (HM P c216.2 T)) rfl (Em_byteAt_89 (a_m_at w) w _ _ hq P T) ?_
      show ai_ev D1 mm_token 8 [some (.ref 89)] [.int c216.1] (HM P c216.2 T) 0 0 _
      refine ev_go 1 (pc' := 10) (L' := [some (.ref 89)]) (st' := [.int 32, .int c216.1]) (h' := (HM P c216.2 T)) (cs' := 0) (sl' := 0) rfl ?_
      rcases ai_ifE h with ⟨hc, h⟩ | ⟨hc, h⟩
      · refine ev_ic_ne (t := 26) rfl rfl (fun c9 => absurd hc c9) (fun _ => ?_)
        refine ev_go 5 (pc' := 20) (L' := [some (.ref 89)]) (st' := [.int ((a_m_at c216.2) + 1), .ref 89]) (h' := (HM P c216.2 T)) (cs' := 0) (sl' := 0) rfl ?_
        refine ev_step rfl rfl rfl (PFM_8_128_89 rfl) ?_
        refine ev_go 1 (pc' := 0) (L' := [some (.ref 89)]) (st' := []) (h' := (HM P (u_m_at c216.2 ((a_m_at c216.2) + 1)) T)) (cs' := 0) (sl' := 0) rfl ?_
        exact ih0 _ _ h P T
      · refine ev_ic_ne (t := 26) rfl rfl (fun _ => ?_) (fun c9 => absurd c9 hc)
        refine ev_go 3 (pc' := 31) (L' := [some (.ref 89)]) (st' := [.int (a_m_at c216.2), .ref 89]) (h' := (HM P c216.2 T)) (cs' := 0) (sl' := 0) rfl ?_
        refine ev_step rfl rfl rfl (PFM_8_134_89 rfl) ?_
        refine ev_go 4 (pc' := 40) (L' := [some (.ref 89)]) (st' := [.int (a_m_at c216.2), .ref 89, .ref 89]) (h' := (HM P (u_m_start c216.2 (a_m_at c216.2)) T)) (cs' := 0) (sl' := 0) rfl ?_
        obtain ⟨c217, hq, h⟩ := ai_bdE h
        refine ev_call (M' := mm_byteAt) (L' := [some (.ref 89), some (.int (a_m_at c216.2))]) (rest := [.ref 89]) (rv := some (.int c217.1)) (h' := (HM P c217.2 T)) rfl (Em_byteAt_89 (a_m_at c216.2) (u_m_start c216.2 (a_m_at c216.2)) _ _ hq P T) ?_
        show ai_ev D1 mm_token 43 [some (.ref 89)] [.int c217.1, .ref 89] (HM P c217.2 T) 0 0 _
        refine ev_go 3 (pc' := 50) (L' := [some (.ref 89)]) (st' := [.long 122, .long 97, .long (c217.1).toInt64, .ref 89]) (h' := (HM P c217.2 T)) (cs' := 0) (sl' := 0) rfl ?_
        obtain ⟨c218, hq, h⟩ := ai_bdE h
        refine ev_call (M' := mm_in) (L' := [some (.long (c217.1).toInt64), none, some (.long 97), none, some (.long 122), none]) (rest := [.ref 89]) (rv := some (.int c218)) (h' := (HM P c217.2 T)) rfl (Em_in (c217.1).toInt64 97 122 _ hq (HM P c217.2 T)) ?_
        show ai_ev D1 mm_token 53 [some (.ref 89)] [.int c218, .ref 89] (HM P c217.2 T) 0 0 _
        obtain ⟨hv, h⟩ := ai_ifS h
        refine ev_putz rfl rfl rfl rfl rfl rfl rfl hv ?_
        show ai_ev D1 mm_token 56 [some (.ref 89)] [] (HM P (u_m_isWord c217.2 c218) T) 0 0 _
        refine ev_go 4 (pc' := 62) (L' := [some (.ref 89)]) (st' := [.int (a_m_at c217.2), .ref 89, .ref 89]) (h' := (HM P (u_m_isWord c217.2 c218) T)) (cs' := 0) (sl' := 0) rfl ?_
        obtain ⟨c219, hq, h⟩ := ai_bdE h
        refine ev_call (M' := mm_byteAt) (L' := [some (.ref 89), some (.int (a_m_at c217.2))]) (rest := [.ref 89]) (rv := some (.int c219.1)) (h' := (HM P c219.2 T)) rfl (Em_byteAt_89 (a_m_at c217.2) (u_m_isWord c217.2 c218) _ _ hq P T) ?_
        show ai_ev D1 mm_token 65 [some (.ref 89)] [.int c219.1, .ref 89] (HM P c219.2 T) 0 0 _
        refine ev_go 3 (pc' := 72) (L' := [some (.ref 89)]) (st' := [.long 57, .long 48, .long (c219.1).toInt64, .ref 89]) (h' := (HM P c219.2 T)) (cs' := 0) (sl' := 0) rfl ?_
        obtain ⟨c220, hq, h⟩ := ai_bdE h
        refine ev_call (M' := mm_in) (L' := [some (.long (c219.1).toInt64), none, some (.long 48), none, some (.long 57), none]) (rest := [.ref 89]) (rv := some (.int c220)) (h' := (HM P c219.2 T)) rfl (Em_in (c219.1).toInt64 48 57 _ hq (HM P c219.2 T)) ?_
        show ai_ev D1 mm_token 75 [some (.ref 89)] [.int c220, .ref 89] (HM P c219.2 T) 0 0 _
        obtain ⟨hv, h⟩ := ai_ifS h
        refine ev_putz rfl rfl rfl rfl rfl rfl rfl hv ?_
        show ai_ev D1 mm_token 78 [some (.ref 89)] [] (HM P (u_m_isFigures c219.2 c220) T) 0 0 _
        refine ev_go 7 (pc' := 91) (L' := [some (.ref 89)]) (st' := [.int (a_m_texted c219.2), .int (a_m_at c219.2), .int (a_m_at c219.2), .ref 89]) (h' := (HM P (u_m_isFigures c219.2 c220) T)) (cs' := 0) (sl' := 0) rfl ?_
        rcases ai_ifE h with ⟨hc, h⟩ | ⟨hc, h⟩
        · refine ev_ic_ge (t := 98) rfl rfl (fun _ => ?_) (fun c9 => absurd hc c9)
          refine ev_go 2 (pc' := 100) (L' := [some (.ref 89)]) (st' := [.int ((a_m_at c219.2) + 0), .ref 89]) (h' := (HM P (u_m_isFigures c219.2 c220) T)) (cs' := 0) (sl' := 0) rfl ?_
          refine ev_step rfl rfl rfl (PFM_8_128_89 rfl) ?_
          exact ih1 _ _ h P T
        · refine ev_ic_ge (t := 98) rfl rfl (fun c9 => absurd c9 hc) (fun _ => ?_)
          refine ev_go 3 (pc' := 100) (L' := [some (.ref 89)]) (st' := [.int ((a_m_at c219.2) + 1), .ref 89]) (h' := (HM P (u_m_isFigures c219.2 c220) T)) (cs' := 0) (sl' := 0) rfl ?_
          refine ev_step rfl rfl rfl (PFM_8_128_89 rfl) ?_
          exact ih1 _ _ h P T
    · intro w w' h P T
      simp only [Gm_token_89] at h
      refine ev_go 2 (pc' := 107) (L' := [some (.ref 89)]) (st' := [.int (a_m_isWord w)]) (h' := (HM P w T)) (cs' := 0) (sl' := 0) rfl ?_
      rcases ai_ifE h with ⟨hc, h⟩ | ⟨hc, h⟩
      · refine ev_if_eq (t := 131) rfl rfl (fun _ => ?_) (fun c9 => absurd hc c9)
        refine ev_go 2 (pc' := 135) (L' := [some (.ref 89)]) (st' := [.int (a_m_isFigures w)]) (h' := (HM P w T)) (cs' := 0) (sl' := 0) rfl ?_
        rcases ai_ifE h with ⟨hc, h⟩ | ⟨hc, h⟩
        · refine ev_if_eq (t := 172) rfl rfl (fun _ => ?_) (fun c9 => absurd hc c9)
          obtain rfl := Option.some.inj h
          exact ev_end rfl
        · refine ev_if_eq (t := 172) rfl rfl (fun c9 => absurd c9 hc) (fun _ => ?_)
          refine ev_go 3 (pc' := 143) (L' := [some (.ref 89)]) (st' := [.int (a_m_at w), .ref 89]) (h' := (HM P w T)) (cs' := 0) (sl' := 0) rfl ?_
          obtain ⟨c221, hq, h⟩ := ai_bdE h
          refine ev_call (M' := mm_byteAt) (L' := [some (.ref 89), some (.int (a_m_at w))]) (rest := []) (rv := some (.int c221.1)) (h' := (HM P c221.2 T)) rfl (Em_byteAt_89 (a_m_at w) w _ _ hq P T) ?_
          show ai_ev D1 mm_token 146 [some (.ref 89)] [.int c221.1] (HM P c221.2 T) 0 0 _
          refine ev_go 3 (pc' := 153) (L' := [some (.ref 89)]) (st' := [.long 57, .long 48, .long (c221.1).toInt64]) (h' := (HM P c221.2 T)) (cs' := 0) (sl' := 0) rfl ?_
          obtain ⟨c222, hq, h⟩ := ai_bdE h
          refine ev_call (M' := mm_in) (L' := [some (.long (c221.1).toInt64), none, some (.long 48), none, some (.long 57), none]) (rest := []) (rv := some (.int c222)) (h' := (HM P c221.2 T)) rfl (Em_in (c221.1).toInt64 48 57 _ hq (HM P c221.2 T)) ?_
          show ai_ev D1 mm_token 156 [some (.ref 89)] [.int c222] (HM P c221.2 T) 0 0 _
          rcases ai_ifE h with ⟨hc, h⟩ | ⟨hc, h⟩
          · refine ev_if_eq (t := 172) rfl rfl (fun _ => ?_) (fun c9 => absurd hc c9)
            obtain rfl := Option.some.inj h
            exact ev_end rfl
          · refine ev_if_eq (t := 172) rfl rfl (fun c9 => absurd c9 hc) (fun _ => ?_)
            refine ev_go 5 (pc' := 166) (L' := [some (.ref 89)]) (st' := [.int ((a_m_at c221.2) + 1), .ref 89]) (h' := (HM P c221.2 T)) (cs' := 0) (sl' := 0) rfl ?_
            refine ev_step rfl rfl rfl (PFM_8_128_89 rfl) ?_
            refine ev_go 1 (pc' := 103) (L' := [some (.ref 89)]) (st' := []) (h' := (HM P (u_m_at c221.2 ((a_m_at c221.2) + 1)) T)) (cs' := 0) (sl' := 0) rfl ?_
            exact ih1 _ _ h P T
      · refine ev_if_eq (t := 131) rfl rfl (fun c9 => absurd c9 hc) (fun _ => ?_)
        refine ev_go 3 (pc' := 115) (L' := [some (.ref 89)]) (st' := [.int (a_m_at w), .ref 89]) (h' := (HM P w T)) (cs' := 0) (sl' := 0) rfl ?_
        obtain ⟨c223, hq, h⟩ := ai_bdE h
        refine ev_call (M' := mm_byteAt) (L' := [some (.ref 89), some (.int (a_m_at w))]) (rest := []) (rv := some (.int c223.1)) (h' := (HM P c223.2 T)) rfl (Em_byteAt_89 (a_m_at w) w _ _ hq P T) ?_
        show ai_ev D1 mm_token 118 [some (.ref 89)] [.int c223.1] (HM P c223.2 T) 0 0 _
        refine ev_go 3 (pc' := 125) (L' := [some (.ref 89)]) (st' := [.long 122, .long 97, .long (c223.1).toInt64]) (h' := (HM P c223.2 T)) (cs' := 0) (sl' := 0) rfl ?_
        obtain ⟨c224, hq, h⟩ := ai_bdE h
        refine ev_call (M' := mm_in) (L' := [some (.long (c223.1).toInt64), none, some (.long 97), none, some (.long 122), none]) (rest := []) (rv := some (.int c224)) (h' := (HM P c223.2 T)) rfl (Em_in (c223.1).toInt64 97 122 _ hq (HM P c223.2 T)) ?_
        show ai_ev D1 mm_token 128 [some (.ref 89)] [.int c224] (HM P c223.2 T) 0 0 _
        rcases ai_ifE h with ⟨hc, h⟩ | ⟨hc, h⟩
        · refine ev_if_ne (t := 159) rfl rfl (fun c9 => absurd hc c9) (fun _ => ?_)
          refine ev_go 2 (pc' := 135) (L' := [some (.ref 89)]) (st' := [.int (a_m_isFigures c223.2)]) (h' := (HM P c223.2 T)) (cs' := 0) (sl' := 0) rfl ?_
          rcases ai_ifE h with ⟨hc, h⟩ | ⟨hc, h⟩
          · refine ev_if_eq (t := 172) rfl rfl (fun _ => ?_) (fun c9 => absurd hc c9)
            obtain rfl := Option.some.inj h
            exact ev_end rfl
          · refine ev_if_eq (t := 172) rfl rfl (fun c9 => absurd c9 hc) (fun _ => ?_)
            refine ev_go 3 (pc' := 143) (L' := [some (.ref 89)]) (st' := [.int (a_m_at c223.2), .ref 89]) (h' := (HM P c223.2 T)) (cs' := 0) (sl' := 0) rfl ?_
            obtain ⟨c225, hq, h⟩ := ai_bdE h
            refine ev_call (M' := mm_byteAt) (L' := [some (.ref 89), some (.int (a_m_at c223.2))]) (rest := []) (rv := some (.int c225.1)) (h' := (HM P c225.2 T)) rfl (Em_byteAt_89 (a_m_at c223.2) c223.2 _ _ hq P T) ?_
            show ai_ev D1 mm_token 146 [some (.ref 89)] [.int c225.1] (HM P c225.2 T) 0 0 _
            refine ev_go 3 (pc' := 153) (L' := [some (.ref 89)]) (st' := [.long 57, .long 48, .long (c225.1).toInt64]) (h' := (HM P c225.2 T)) (cs' := 0) (sl' := 0) rfl ?_
            obtain ⟨c226, hq, h⟩ := ai_bdE h
            refine ev_call (M' := mm_in) (L' := [some (.long (c225.1).toInt64), none, some (.long 48), none, some (.long 57), none]) (rest := []) (rv := some (.int c226)) (h' := (HM P c225.2 T)) rfl (Em_in (c225.1).toInt64 48 57 _ hq (HM P c225.2 T)) ?_
            show ai_ev D1 mm_token 156 [some (.ref 89)] [.int c226] (HM P c225.2 T) 0 0 _
            rcases ai_ifE h with ⟨hc, h⟩ | ⟨hc, h⟩
            · refine ev_if_eq (t := 172) rfl rfl (fun _ => ?_) (fun c9 => absurd hc c9)
              obtain rfl := Option.some.inj h
              exact ev_end rfl
            · refine ev_if_eq (t := 172) rfl rfl (fun c9 => absurd c9 hc) (fun _ => ?_)
              refine ev_go 5 (pc' := 166) (L' := [some (.ref 89)]) (st' := [.int ((a_m_at c225.2) + 1), .ref 89]) (h' := (HM P c225.2 T)) (cs' := 0) (sl' := 0) rfl ?_
              refine ev_step rfl rfl rfl (PFM_8_128_89 rfl) ?_
              refine ev_go 1 (pc' := 103) (L' := [some (.ref 89)]) (st' := []) (h' := (HM P (u_m_at c225.2 ((a_m_at c225.2) + 1)) T)) (cs' := 0) (sl' := 0) rfl ?_
              exact ih1 _ _ h P T
        · refine ev_if_ne (t := 159) rfl rfl (fun _ => ?_) (fun c9 => absurd c9 hc)
          refine ev_go 5 (pc' := 166) (L' := [some (.ref 89)]) (st' := [.int ((a_m_at c223.2) + 1), .ref 89]) (h' := (HM P c223.2 T)) (cs' := 0) (sl' := 0) rfl ?_
          refine ev_step rfl rfl rfl (PFM_8_128_89 rfl) ?_
          refine ev_go 1 (pc' := 103) (L' := [some (.ref 89)]) (st' := []) (h' := (HM P (u_m_at c223.2 ((a_m_at c223.2) + 1)) T)) (cs' := 0) (sl' := 0) rfl ?_
          exact ih1 _ _ h P T
set_option maxHeartbeats 40000000 in
set_option maxRecDepth 100000 in
theorem Em_token_89 (n : Nat) (w : WM) (w' : WM) (h : Fm_token_89 n w = some w') (P : Nat → ai_E) (T : ai_H) : ai_ev D1 mm_token 0 [some (.ref 89)] [] (HM P w T) 0 0 (none, HM P w' T) := by
  unfold Fm_token_89 at h
  obtain ⟨ih0, ih1⟩ := EGm_token_89 n
  exact ih0 _ _ h P T
set_option maxHeartbeats 40000000 in
set_option maxRecDepth 100000 in
theorem Em_isNamed_89 (x231 : Int32) (x232 : Int32) (x233 : Int32) (x234 : Int32) (x235 : Int32) (w : WM) (r : Int32) (w' : WM) (h : Fm_isNamed_89 x231 x232 x233 x234 x235 w = some (r, w')) (P : Nat → ai_E) (T : ai_H) : ai_ev D1 mm_isNamed 0 [some (.ref 89), some (.int x231), some (.int x232), some (.int x233), some (.int x234), some (.int x235), none, none] [] (HM P w T) 0 0 (some (.int r), HM P w' T) := by
  unfold Fm_isNamed_89 at h
  refine ev_go 1 (pc' := 2) (L' := [some (.ref 89), some (.int x231), some (.int x232), some (.int x233), some (.int x234), some (.int x235), none, none]) (st' := [.int x234]) (h' := (HM P w T)) (cs' := 0) (sl' := 0) rfl ?_
  rcases ai_ifE h with ⟨hc, h⟩ | ⟨hc, h⟩
  · refine ev_if_ne (t := 9) rfl rfl (fun c9 => absurd hc c9) (fun _ => ?_)
    refine ev_go 5 (pc' := 25) (L' := [some (.ref 89), some (.int x231), some (.int x232), some (.int x233), some (.int x234), some (.int x235), some (.int 3), none]) (st' := [.int (a_m_isWord w)]) (h' := (HM P w T)) (cs' := 0) (sl' := 0) rfl ?_
    rcases ai_ifE h with ⟨hc, h⟩ | ⟨hc, h⟩
    · refine ev_if_eq (t := 86) rfl rfl (fun _ => ?_) (fun c9 => absurd hc c9)
      refine ev_go 5 (pc' := 139) (L' := [some (.ref 89), some (.int x231), some (.int x232), some (.int x233), some (.int x234), some (.int x235), some (.int 3), some (.int 0)]) (st' := [.int 0]) (h' := (HM P w T)) (cs' := 0) (sl' := 0) rfl ?_
      obtain ⟨rfl, rfl⟩ := ai_smP h
      exact ev_end rfl
    · refine ev_if_eq (t := 86) rfl rfl (fun c9 => absurd c9 hc) (fun _ => ?_)
      refine ev_go 6 (pc' := 39) (L' := [some (.ref 89), some (.int x231), some (.int x232), some (.int x233), some (.int x234), some (.int x235), some (.int 3), none]) (st' := [.int 3, .int ((a_m_at w) - (a_m_start w))]) (h' := (HM P w T)) (cs' := 0) (sl' := 0) rfl ?_
      rcases ai_ifE h with ⟨hc, h⟩ | ⟨hc, h⟩
      · refine ev_ic_ne (t := 86) rfl rfl (fun c9 => absurd hc c9) (fun _ => ?_)
        refine ev_go 3 (pc' := 47) (L' := [some (.ref 89), some (.int x231), some (.int x232), some (.int x233), some (.int x234), some (.int x235), some (.int 3), none]) (st' := [.int (a_m_start w), .ref 89]) (h' := (HM P w T)) (cs' := 0) (sl' := 0) rfl ?_
        obtain ⟨c248, hq, h⟩ := ai_bdE h
        refine ev_call (M' := mm_byteAt) (L' := [some (.ref 89), some (.int (a_m_start w))]) (rest := []) (rv := some (.int c248.1)) (h' := (HM P c248.2 T)) rfl (Em_byteAt_89 (a_m_start w) w _ _ hq P T) ?_
        show ai_ev D1 mm_isNamed 50 [some (.ref 89), some (.int x231), some (.int x232), some (.int x233), some (.int x234), some (.int x235), some (.int 3), none] [.int c248.1] (HM P c248.2 T) 0 0 _
        refine ev_go 1 (pc' := 51) (L' := [some (.ref 89), some (.int x231), some (.int x232), some (.int x233), some (.int x234), some (.int x235), some (.int 3), none]) (st' := [.int x231, .int c248.1]) (h' := (HM P c248.2 T)) (cs' := 0) (sl' := 0) rfl ?_
        rcases ai_ifE h with ⟨hc, h⟩ | ⟨hc, h⟩
        · refine ev_ic_ne (t := 86) rfl rfl (fun c9 => absurd hc c9) (fun _ => ?_)
          refine ev_go 5 (pc' := 61) (L' := [some (.ref 89), some (.int x231), some (.int x232), some (.int x233), some (.int x234), some (.int x235), some (.int 3), none]) (st' := [.int ((a_m_start c248.2) + 1), .ref 89]) (h' := (HM P c248.2 T)) (cs' := 0) (sl' := 0) rfl ?_
          obtain ⟨c249, hq, h⟩ := ai_bdE h
          refine ev_call (M' := mm_byteAt) (L' := [some (.ref 89), some (.int ((a_m_start c248.2) + 1))]) (rest := []) (rv := some (.int c249.1)) (h' := (HM P c249.2 T)) rfl (Em_byteAt_89 ((a_m_start c248.2) + 1) c248.2 _ _ hq P T) ?_
          show ai_ev D1 mm_isNamed 64 [some (.ref 89), some (.int x231), some (.int x232), some (.int x233), some (.int x234), some (.int x235), some (.int 3), none] [.int c249.1] (HM P c249.2 T) 0 0 _
          refine ev_go 1 (pc' := 65) (L' := [some (.ref 89), some (.int x231), some (.int x232), some (.int x233), some (.int x234), some (.int x235), some (.int 3), none]) (st' := [.int x232, .int c249.1]) (h' := (HM P c249.2 T)) (cs' := 0) (sl' := 0) rfl ?_
          rcases ai_ifE h with ⟨hc, h⟩ | ⟨hc, h⟩
          · refine ev_ic_ne (t := 86) rfl rfl (fun c9 => absurd hc c9) (fun _ => ?_)
            refine ev_go 5 (pc' := 75) (L' := [some (.ref 89), some (.int x231), some (.int x232), some (.int x233), some (.int x234), some (.int x235), some (.int 3), none]) (st' := [.int ((a_m_start c249.2) + 2), .ref 89]) (h' := (HM P c249.2 T)) (cs' := 0) (sl' := 0) rfl ?_
            obtain ⟨c250, hq, h⟩ := ai_bdE h
            refine ev_call (M' := mm_byteAt) (L' := [some (.ref 89), some (.int ((a_m_start c249.2) + 2))]) (rest := []) (rv := some (.int c250.1)) (h' := (HM P c250.2 T)) rfl (Em_byteAt_89 ((a_m_start c249.2) + 2) c249.2 _ _ hq P T) ?_
            show ai_ev D1 mm_isNamed 78 [some (.ref 89), some (.int x231), some (.int x232), some (.int x233), some (.int x234), some (.int x235), some (.int 3), none] [.int c250.1] (HM P c250.2 T) 0 0 _
            refine ev_go 1 (pc' := 79) (L' := [some (.ref 89), some (.int x231), some (.int x232), some (.int x233), some (.int x234), some (.int x235), some (.int 3), none]) (st' := [.int x233, .int c250.1]) (h' := (HM P c250.2 T)) (cs' := 0) (sl' := 0) rfl ?_
            rcases ai_ifE h with ⟨hc, h⟩ | ⟨hc, h⟩
            · refine ev_ic_ne (t := 86) rfl rfl (fun c9 => absurd hc c9) (fun _ => ?_)
              refine ev_go 6 (pc' := 96) (L' := [some (.ref 89), some (.int x231), some (.int x232), some (.int x233), some (.int x234), some (.int x235), some (.int 3), some (.int 1)]) (st' := [.int x234]) (h' := (HM P c250.2 T)) (cs' := 0) (sl' := 0) rfl ?_
              rcases ai_ifE h with ⟨hc, h⟩ | ⟨hc, h⟩
              · refine ev_if_eq (t := 114) rfl rfl (fun _ => ?_) (fun c9 => absurd hc c9)
                refine ev_go 1 (pc' := 116) (L' := [some (.ref 89), some (.int x231), some (.int x232), some (.int x233), some (.int x234), some (.int x235), some (.int 3), some (.int 1)]) (st' := [.int x235]) (h' := (HM P c250.2 T)) (cs' := 0) (sl' := 0) rfl ?_
                rcases ai_ifE h with ⟨hc, h⟩ | ⟨hc, h⟩
                · refine ev_if_eq (t := 134) rfl rfl (fun _ => ?_) (fun c9 => absurd hc c9)
                  refine ev_go 2 (pc' := 139) (L' := [some (.ref 89), some (.int x231), some (.int x232), some (.int x233), some (.int x234), some (.int x235), some (.int 3), some (.int 1)]) (st' := [.int 1]) (h' := (HM P c250.2 T)) (cs' := 0) (sl' := 0) rfl ?_
                  obtain ⟨rfl, rfl⟩ := ai_smP h
                  exact ev_end rfl
                · refine ev_if_eq (t := 134) rfl rfl (fun c9 => absurd c9 hc) (fun _ => ?_)
                  refine ev_go 5 (pc' := 126) (L' := [some (.ref 89), some (.int x231), some (.int x232), some (.int x233), some (.int x234), some (.int x235), some (.int 3), some (.int 1)]) (st' := [.int ((a_m_start c250.2) + 4), .ref 89]) (h' := (HM P c250.2 T)) (cs' := 0) (sl' := 0) rfl ?_
                  obtain ⟨c251, hq, h⟩ := ai_bdE h
                  refine ev_call (M' := mm_byteAt) (L' := [some (.ref 89), some (.int ((a_m_start c250.2) + 4))]) (rest := []) (rv := some (.int c251.1)) (h' := (HM P c251.2 T)) rfl (Em_byteAt_89 ((a_m_start c250.2) + 4) c250.2 _ _ hq P T) ?_
                  show ai_ev D1 mm_isNamed 129 [some (.ref 89), some (.int x231), some (.int x232), some (.int x233), some (.int x234), some (.int x235), some (.int 3), some (.int 1)] [.int c251.1] (HM P c251.2 T) 0 0 _
                  refine ev_go 1 (pc' := 131) (L' := [some (.ref 89), some (.int x231), some (.int x232), some (.int x233), some (.int x234), some (.int x235), some (.int 3), some (.int 1)]) (st' := [.int x235, .int c251.1]) (h' := (HM P c251.2 T)) (cs' := 0) (sl' := 0) rfl ?_
                  rcases ai_ifE h with ⟨hc, h⟩ | ⟨hc, h⟩
                  · refine ev_ic_ne (t := 138) rfl rfl (fun c9 => absurd hc c9) (fun _ => ?_)
                    refine ev_go 2 (pc' := 139) (L' := [some (.ref 89), some (.int x231), some (.int x232), some (.int x233), some (.int x234), some (.int x235), some (.int 3), some (.int 1)]) (st' := [.int 1]) (h' := (HM P c251.2 T)) (cs' := 0) (sl' := 0) rfl ?_
                    obtain ⟨rfl, rfl⟩ := ai_smP h
                    exact ev_end rfl
                  · refine ev_ic_ne (t := 138) rfl rfl (fun _ => ?_) (fun c9 => absurd c9 hc)
                    refine ev_go 1 (pc' := 139) (L' := [some (.ref 89), some (.int x231), some (.int x232), some (.int x233), some (.int x234), some (.int x235), some (.int 3), some (.int 1)]) (st' := [.int 0]) (h' := (HM P c251.2 T)) (cs' := 0) (sl' := 0) rfl ?_
                    obtain ⟨rfl, rfl⟩ := ai_smP h
                    exact ev_end rfl
              · refine ev_if_eq (t := 114) rfl rfl (fun c9 => absurd c9 hc) (fun _ => ?_)
                refine ev_go 5 (pc' := 106) (L' := [some (.ref 89), some (.int x231), some (.int x232), some (.int x233), some (.int x234), some (.int x235), some (.int 3), some (.int 1)]) (st' := [.int ((a_m_start c250.2) + 3), .ref 89]) (h' := (HM P c250.2 T)) (cs' := 0) (sl' := 0) rfl ?_
                obtain ⟨c252, hq, h⟩ := ai_bdE h
                refine ev_call (M' := mm_byteAt) (L' := [some (.ref 89), some (.int ((a_m_start c250.2) + 3))]) (rest := []) (rv := some (.int c252.1)) (h' := (HM P c252.2 T)) rfl (Em_byteAt_89 ((a_m_start c250.2) + 3) c250.2 _ _ hq P T) ?_
                show ai_ev D1 mm_isNamed 109 [some (.ref 89), some (.int x231), some (.int x232), some (.int x233), some (.int x234), some (.int x235), some (.int 3), some (.int 1)] [.int c252.1] (HM P c252.2 T) 0 0 _
                refine ev_go 1 (pc' := 111) (L' := [some (.ref 89), some (.int x231), some (.int x232), some (.int x233), some (.int x234), some (.int x235), some (.int 3), some (.int 1)]) (st' := [.int x234, .int c252.1]) (h' := (HM P c252.2 T)) (cs' := 0) (sl' := 0) rfl ?_
                rcases ai_ifE h with ⟨hc, h⟩ | ⟨hc, h⟩
                · refine ev_ic_ne (t := 138) rfl rfl (fun c9 => absurd hc c9) (fun _ => ?_)
                  refine ev_go 1 (pc' := 116) (L' := [some (.ref 89), some (.int x231), some (.int x232), some (.int x233), some (.int x234), some (.int x235), some (.int 3), some (.int 1)]) (st' := [.int x235]) (h' := (HM P c252.2 T)) (cs' := 0) (sl' := 0) rfl ?_
                  rcases ai_ifE h with ⟨hc, h⟩ | ⟨hc, h⟩
                  · refine ev_if_eq (t := 134) rfl rfl (fun _ => ?_) (fun c9 => absurd hc c9)
                    refine ev_go 2 (pc' := 139) (L' := [some (.ref 89), some (.int x231), some (.int x232), some (.int x233), some (.int x234), some (.int x235), some (.int 3), some (.int 1)]) (st' := [.int 1]) (h' := (HM P c252.2 T)) (cs' := 0) (sl' := 0) rfl ?_
                    obtain ⟨rfl, rfl⟩ := ai_smP h
                    exact ev_end rfl
                  · refine ev_if_eq (t := 134) rfl rfl (fun c9 => absurd c9 hc) (fun _ => ?_)
                    refine ev_go 5 (pc' := 126) (L' := [some (.ref 89), some (.int x231), some (.int x232), some (.int x233), some (.int x234), some (.int x235), some (.int 3), some (.int 1)]) (st' := [.int ((a_m_start c252.2) + 4), .ref 89]) (h' := (HM P c252.2 T)) (cs' := 0) (sl' := 0) rfl ?_
                    obtain ⟨c253, hq, h⟩ := ai_bdE h
                    refine ev_call (M' := mm_byteAt) (L' := [some (.ref 89), some (.int ((a_m_start c252.2) + 4))]) (rest := []) (rv := some (.int c253.1)) (h' := (HM P c253.2 T)) rfl (Em_byteAt_89 ((a_m_start c252.2) + 4) c252.2 _ _ hq P T) ?_
                    show ai_ev D1 mm_isNamed 129 [some (.ref 89), some (.int x231), some (.int x232), some (.int x233), some (.int x234), some (.int x235), some (.int 3), some (.int 1)] [.int c253.1] (HM P c253.2 T) 0 0 _
                    refine ev_go 1 (pc' := 131) (L' := [some (.ref 89), some (.int x231), some (.int x232), some (.int x233), some (.int x234), some (.int x235), some (.int 3), some (.int 1)]) (st' := [.int x235, .int c253.1]) (h' := (HM P c253.2 T)) (cs' := 0) (sl' := 0) rfl ?_
                    rcases ai_ifE h with ⟨hc, h⟩ | ⟨hc, h⟩
                    · refine ev_ic_ne (t := 138) rfl rfl (fun c9 => absurd hc c9) (fun _ => ?_)
                      refine ev_go 2 (pc' := 139) (L' := [some (.ref 89), some (.int x231), some (.int x232), some (.int x233), some (.int x234), some (.int x235), some (.int 3), some (.int 1)]) (st' := [.int 1]) (h' := (HM P c253.2 T)) (cs' := 0) (sl' := 0) rfl ?_
                      obtain ⟨rfl, rfl⟩ := ai_smP h
                      exact ev_end rfl
                    · refine ev_ic_ne (t := 138) rfl rfl (fun _ => ?_) (fun c9 => absurd c9 hc)
                      refine ev_go 1 (pc' := 139) (L' := [some (.ref 89), some (.int x231), some (.int x232), some (.int x233), some (.int x234), some (.int x235), some (.int 3), some (.int 1)]) (st' := [.int 0]) (h' := (HM P c253.2 T)) (cs' := 0) (sl' := 0) rfl ?_
                      obtain ⟨rfl, rfl⟩ := ai_smP h
                      exact ev_end rfl
                · refine ev_ic_ne (t := 138) rfl rfl (fun _ => ?_) (fun c9 => absurd c9 hc)
                  refine ev_go 1 (pc' := 139) (L' := [some (.ref 89), some (.int x231), some (.int x232), some (.int x233), some (.int x234), some (.int x235), some (.int 3), some (.int 1)]) (st' := [.int 0]) (h' := (HM P c252.2 T)) (cs' := 0) (sl' := 0) rfl ?_
                  obtain ⟨rfl, rfl⟩ := ai_smP h
                  exact ev_end rfl
            · refine ev_ic_ne (t := 86) rfl rfl (fun _ => ?_) (fun c9 => absurd c9 hc)
              refine ev_go 5 (pc' := 139) (L' := [some (.ref 89), some (.int x231), some (.int x232), some (.int x233), some (.int x234), some (.int x235), some (.int 3), some (.int 0)]) (st' := [.int 0]) (h' := (HM P c250.2 T)) (cs' := 0) (sl' := 0) rfl ?_
              obtain ⟨rfl, rfl⟩ := ai_smP h
              exact ev_end rfl
          · refine ev_ic_ne (t := 86) rfl rfl (fun _ => ?_) (fun c9 => absurd c9 hc)
            refine ev_go 5 (pc' := 139) (L' := [some (.ref 89), some (.int x231), some (.int x232), some (.int x233), some (.int x234), some (.int x235), some (.int 3), some (.int 0)]) (st' := [.int 0]) (h' := (HM P c249.2 T)) (cs' := 0) (sl' := 0) rfl ?_
            obtain ⟨rfl, rfl⟩ := ai_smP h
            exact ev_end rfl
        · refine ev_ic_ne (t := 86) rfl rfl (fun _ => ?_) (fun c9 => absurd c9 hc)
          refine ev_go 5 (pc' := 139) (L' := [some (.ref 89), some (.int x231), some (.int x232), some (.int x233), some (.int x234), some (.int x235), some (.int 3), some (.int 0)]) (st' := [.int 0]) (h' := (HM P c248.2 T)) (cs' := 0) (sl' := 0) rfl ?_
          obtain ⟨rfl, rfl⟩ := ai_smP h
          exact ev_end rfl
      · refine ev_ic_ne (t := 86) rfl rfl (fun _ => ?_) (fun c9 => absurd c9 hc)
        refine ev_go 5 (pc' := 139) (L' := [some (.ref 89), some (.int x231), some (.int x232), some (.int x233), some (.int x234), some (.int x235), some (.int 3), some (.int 0)]) (st' := [.int 0]) (h' := (HM P w T)) (cs' := 0) (sl' := 0) rfl ?_
        obtain ⟨rfl, rfl⟩ := ai_smP h
        exact ev_end rfl
  · refine ev_if_ne (t := 9) rfl rfl (fun _ => ?_) (fun c9 => absurd c9 hc)
    refine ev_go 1 (pc' := 11) (L' := [some (.ref 89), some (.int x231), some (.int x232), some (.int x233), some (.int x234), some (.int x235), none, none]) (st' := [.int x235]) (h' := (HM P w T)) (cs' := 0) (sl' := 0) rfl ?_
    rcases ai_ifE h with ⟨hc, h⟩ | ⟨hc, h⟩
    · refine ev_if_ne (t := 18) rfl rfl (fun c9 => absurd hc c9) (fun _ => ?_)
      refine ev_go 5 (pc' := 25) (L' := [some (.ref 89), some (.int x231), some (.int x232), some (.int x233), some (.int x234), some (.int x235), some (.int 4), none]) (st' := [.int (a_m_isWord w)]) (h' := (HM P w T)) (cs' := 0) (sl' := 0) rfl ?_
      rcases ai_ifE h with ⟨hc, h⟩ | ⟨hc, h⟩
      · refine ev_if_eq (t := 86) rfl rfl (fun _ => ?_) (fun c9 => absurd hc c9)
        refine ev_go 5 (pc' := 139) (L' := [some (.ref 89), some (.int x231), some (.int x232), some (.int x233), some (.int x234), some (.int x235), some (.int 4), some (.int 0)]) (st' := [.int 0]) (h' := (HM P w T)) (cs' := 0) (sl' := 0) rfl ?_
        obtain ⟨rfl, rfl⟩ := ai_smP h
        exact ev_end rfl
      · refine ev_if_eq (t := 86) rfl rfl (fun c9 => absurd c9 hc) (fun _ => ?_)
        refine ev_go 6 (pc' := 39) (L' := [some (.ref 89), some (.int x231), some (.int x232), some (.int x233), some (.int x234), some (.int x235), some (.int 4), none]) (st' := [.int 4, .int ((a_m_at w) - (a_m_start w))]) (h' := (HM P w T)) (cs' := 0) (sl' := 0) rfl ?_
        rcases ai_ifE h with ⟨hc, h⟩ | ⟨hc, h⟩
        · refine ev_ic_ne (t := 86) rfl rfl (fun c9 => absurd hc c9) (fun _ => ?_)
          refine ev_go 3 (pc' := 47) (L' := [some (.ref 89), some (.int x231), some (.int x232), some (.int x233), some (.int x234), some (.int x235), some (.int 4), none]) (st' := [.int (a_m_start w), .ref 89]) (h' := (HM P w T)) (cs' := 0) (sl' := 0) rfl ?_
          obtain ⟨c242, hq, h⟩ := ai_bdE h
          refine ev_call (M' := mm_byteAt) (L' := [some (.ref 89), some (.int (a_m_start w))]) (rest := []) (rv := some (.int c242.1)) (h' := (HM P c242.2 T)) rfl (Em_byteAt_89 (a_m_start w) w _ _ hq P T) ?_
          show ai_ev D1 mm_isNamed 50 [some (.ref 89), some (.int x231), some (.int x232), some (.int x233), some (.int x234), some (.int x235), some (.int 4), none] [.int c242.1] (HM P c242.2 T) 0 0 _
          refine ev_go 1 (pc' := 51) (L' := [some (.ref 89), some (.int x231), some (.int x232), some (.int x233), some (.int x234), some (.int x235), some (.int 4), none]) (st' := [.int x231, .int c242.1]) (h' := (HM P c242.2 T)) (cs' := 0) (sl' := 0) rfl ?_
          rcases ai_ifE h with ⟨hc, h⟩ | ⟨hc, h⟩
          · refine ev_ic_ne (t := 86) rfl rfl (fun c9 => absurd hc c9) (fun _ => ?_)
            refine ev_go 5 (pc' := 61) (L' := [some (.ref 89), some (.int x231), some (.int x232), some (.int x233), some (.int x234), some (.int x235), some (.int 4), none]) (st' := [.int ((a_m_start c242.2) + 1), .ref 89]) (h' := (HM P c242.2 T)) (cs' := 0) (sl' := 0) rfl ?_
            obtain ⟨c243, hq, h⟩ := ai_bdE h
            refine ev_call (M' := mm_byteAt) (L' := [some (.ref 89), some (.int ((a_m_start c242.2) + 1))]) (rest := []) (rv := some (.int c243.1)) (h' := (HM P c243.2 T)) rfl (Em_byteAt_89 ((a_m_start c242.2) + 1) c242.2 _ _ hq P T) ?_
            show ai_ev D1 mm_isNamed 64 [some (.ref 89), some (.int x231), some (.int x232), some (.int x233), some (.int x234), some (.int x235), some (.int 4), none] [.int c243.1] (HM P c243.2 T) 0 0 _
            refine ev_go 1 (pc' := 65) (L' := [some (.ref 89), some (.int x231), some (.int x232), some (.int x233), some (.int x234), some (.int x235), some (.int 4), none]) (st' := [.int x232, .int c243.1]) (h' := (HM P c243.2 T)) (cs' := 0) (sl' := 0) rfl ?_
            rcases ai_ifE h with ⟨hc, h⟩ | ⟨hc, h⟩
            · refine ev_ic_ne (t := 86) rfl rfl (fun c9 => absurd hc c9) (fun _ => ?_)
              refine ev_go 5 (pc' := 75) (L' := [some (.ref 89), some (.int x231), some (.int x232), some (.int x233), some (.int x234), some (.int x235), some (.int 4), none]) (st' := [.int ((a_m_start c243.2) + 2), .ref 89]) (h' := (HM P c243.2 T)) (cs' := 0) (sl' := 0) rfl ?_
              obtain ⟨c244, hq, h⟩ := ai_bdE h
              refine ev_call (M' := mm_byteAt) (L' := [some (.ref 89), some (.int ((a_m_start c243.2) + 2))]) (rest := []) (rv := some (.int c244.1)) (h' := (HM P c244.2 T)) rfl (Em_byteAt_89 ((a_m_start c243.2) + 2) c243.2 _ _ hq P T) ?_
              show ai_ev D1 mm_isNamed 78 [some (.ref 89), some (.int x231), some (.int x232), some (.int x233), some (.int x234), some (.int x235), some (.int 4), none] [.int c244.1] (HM P c244.2 T) 0 0 _
              refine ev_go 1 (pc' := 79) (L' := [some (.ref 89), some (.int x231), some (.int x232), some (.int x233), some (.int x234), some (.int x235), some (.int 4), none]) (st' := [.int x233, .int c244.1]) (h' := (HM P c244.2 T)) (cs' := 0) (sl' := 0) rfl ?_
              rcases ai_ifE h with ⟨hc, h⟩ | ⟨hc, h⟩
              · refine ev_ic_ne (t := 86) rfl rfl (fun c9 => absurd hc c9) (fun _ => ?_)
                refine ev_go 6 (pc' := 96) (L' := [some (.ref 89), some (.int x231), some (.int x232), some (.int x233), some (.int x234), some (.int x235), some (.int 4), some (.int 1)]) (st' := [.int x234]) (h' := (HM P c244.2 T)) (cs' := 0) (sl' := 0) rfl ?_
                rcases ai_ifE h with ⟨hc, h⟩ | ⟨hc, h⟩
                · refine ev_if_eq (t := 114) rfl rfl (fun _ => ?_) (fun c9 => absurd hc c9)
                  refine ev_go 1 (pc' := 116) (L' := [some (.ref 89), some (.int x231), some (.int x232), some (.int x233), some (.int x234), some (.int x235), some (.int 4), some (.int 1)]) (st' := [.int x235]) (h' := (HM P c244.2 T)) (cs' := 0) (sl' := 0) rfl ?_
                  rcases ai_ifE h with ⟨hc, h⟩ | ⟨hc, h⟩
                  · refine ev_if_eq (t := 134) rfl rfl (fun _ => ?_) (fun c9 => absurd hc c9)
                    refine ev_go 2 (pc' := 139) (L' := [some (.ref 89), some (.int x231), some (.int x232), some (.int x233), some (.int x234), some (.int x235), some (.int 4), some (.int 1)]) (st' := [.int 1]) (h' := (HM P c244.2 T)) (cs' := 0) (sl' := 0) rfl ?_
                    obtain ⟨rfl, rfl⟩ := ai_smP h
                    exact ev_end rfl
                  · refine ev_if_eq (t := 134) rfl rfl (fun c9 => absurd c9 hc) (fun _ => ?_)
                    refine ev_go 5 (pc' := 126) (L' := [some (.ref 89), some (.int x231), some (.int x232), some (.int x233), some (.int x234), some (.int x235), some (.int 4), some (.int 1)]) (st' := [.int ((a_m_start c244.2) + 4), .ref 89]) (h' := (HM P c244.2 T)) (cs' := 0) (sl' := 0) rfl ?_
                    obtain ⟨c245, hq, h⟩ := ai_bdE h
                    refine ev_call (M' := mm_byteAt) (L' := [some (.ref 89), some (.int ((a_m_start c244.2) + 4))]) (rest := []) (rv := some (.int c245.1)) (h' := (HM P c245.2 T)) rfl (Em_byteAt_89 ((a_m_start c244.2) + 4) c244.2 _ _ hq P T) ?_
                    show ai_ev D1 mm_isNamed 129 [some (.ref 89), some (.int x231), some (.int x232), some (.int x233), some (.int x234), some (.int x235), some (.int 4), some (.int 1)] [.int c245.1] (HM P c245.2 T) 0 0 _
                    refine ev_go 1 (pc' := 131) (L' := [some (.ref 89), some (.int x231), some (.int x232), some (.int x233), some (.int x234), some (.int x235), some (.int 4), some (.int 1)]) (st' := [.int x235, .int c245.1]) (h' := (HM P c245.2 T)) (cs' := 0) (sl' := 0) rfl ?_
                    rcases ai_ifE h with ⟨hc, h⟩ | ⟨hc, h⟩
                    · refine ev_ic_ne (t := 138) rfl rfl (fun c9 => absurd hc c9) (fun _ => ?_)
                      refine ev_go 2 (pc' := 139) (L' := [some (.ref 89), some (.int x231), some (.int x232), some (.int x233), some (.int x234), some (.int x235), some (.int 4), some (.int 1)]) (st' := [.int 1]) (h' := (HM P c245.2 T)) (cs' := 0) (sl' := 0) rfl ?_
                      obtain ⟨rfl, rfl⟩ := ai_smP h
                      exact ev_end rfl
                    · refine ev_ic_ne (t := 138) rfl rfl (fun _ => ?_) (fun c9 => absurd c9 hc)
                      refine ev_go 1 (pc' := 139) (L' := [some (.ref 89), some (.int x231), some (.int x232), some (.int x233), some (.int x234), some (.int x235), some (.int 4), some (.int 1)]) (st' := [.int 0]) (h' := (HM P c245.2 T)) (cs' := 0) (sl' := 0) rfl ?_
                      obtain ⟨rfl, rfl⟩ := ai_smP h
                      exact ev_end rfl
                · refine ev_if_eq (t := 114) rfl rfl (fun c9 => absurd c9 hc) (fun _ => ?_)
                  refine ev_go 5 (pc' := 106) (L' := [some (.ref 89), some (.int x231), some (.int x232), some (.int x233), some (.int x234), some (.int x235), some (.int 4), some (.int 1)]) (st' := [.int ((a_m_start c244.2) + 3), .ref 89]) (h' := (HM P c244.2 T)) (cs' := 0) (sl' := 0) rfl ?_
                  obtain ⟨c246, hq, h⟩ := ai_bdE h
                  refine ev_call (M' := mm_byteAt) (L' := [some (.ref 89), some (.int ((a_m_start c244.2) + 3))]) (rest := []) (rv := some (.int c246.1)) (h' := (HM P c246.2 T)) rfl (Em_byteAt_89 ((a_m_start c244.2) + 3) c244.2 _ _ hq P T) ?_
                  show ai_ev D1 mm_isNamed 109 [some (.ref 89), some (.int x231), some (.int x232), some (.int x233), some (.int x234), some (.int x235), some (.int 4), some (.int 1)] [.int c246.1] (HM P c246.2 T) 0 0 _
                  refine ev_go 1 (pc' := 111) (L' := [some (.ref 89), some (.int x231), some (.int x232), some (.int x233), some (.int x234), some (.int x235), some (.int 4), some (.int 1)]) (st' := [.int x234, .int c246.1]) (h' := (HM P c246.2 T)) (cs' := 0) (sl' := 0) rfl ?_
                  rcases ai_ifE h with ⟨hc, h⟩ | ⟨hc, h⟩
                  · refine ev_ic_ne (t := 138) rfl rfl (fun c9 => absurd hc c9) (fun _ => ?_)
                    refine ev_go 1 (pc' := 116) (L' := [some (.ref 89), some (.int x231), some (.int x232), some (.int x233), some (.int x234), some (.int x235), some (.int 4), some (.int 1)]) (st' := [.int x235]) (h' := (HM P c246.2 T)) (cs' := 0) (sl' := 0) rfl ?_
                    rcases ai_ifE h with ⟨hc, h⟩ | ⟨hc, h⟩
                    · refine ev_if_eq (t := 134) rfl rfl (fun _ => ?_) (fun c9 => absurd hc c9)
                      refine ev_go 2 (pc' := 139) (L' := [some (.ref 89), some (.int x231), some (.int x232), some (.int x233), some (.int x234), some (.int x235), some (.int 4), some (.int 1)]) (st' := [.int 1]) (h' := (HM P c246.2 T)) (cs' := 0) (sl' := 0) rfl ?_
                      obtain ⟨rfl, rfl⟩ := ai_smP h
                      exact ev_end rfl
                    · refine ev_if_eq (t := 134) rfl rfl (fun c9 => absurd c9 hc) (fun _ => ?_)
                      refine ev_go 5 (pc' := 126) (L' := [some (.ref 89), some (.int x231), some (.int x232), some (.int x233), some (.int x234), some (.int x235), some (.int 4), some (.int 1)]) (st' := [.int ((a_m_start c246.2) + 4), .ref 89]) (h' := (HM P c246.2 T)) (cs' := 0) (sl' := 0) rfl ?_
                      obtain ⟨c247, hq, h⟩ := ai_bdE h
                      refine ev_call (M' := mm_byteAt) (L' := [some (.ref 89), some (.int ((a_m_start c246.2) + 4))]) (rest := []) (rv := some (.int c247.1)) (h' := (HM P c247.2 T)) rfl (Em_byteAt_89 ((a_m_start c246.2) + 4) c246.2 _ _ hq P T) ?_
                      show ai_ev D1 mm_isNamed 129 [some (.ref 89), some (.int x231), some (.int x232), some (.int x233), some (.int x234), some (.int x235), some (.int 4), some (.int 1)] [.int c247.1] (HM P c247.2 T) 0 0 _
                      refine ev_go 1 (pc' := 131) (L' := [some (.ref 89), some (.int x231), some (.int x232), some (.int x233), some (.int x234), some (.int x235), some (.int 4), some (.int 1)]) (st' := [.int x235, .int c247.1]) (h' := (HM P c247.2 T)) (cs' := 0) (sl' := 0) rfl ?_
                      rcases ai_ifE h with ⟨hc, h⟩ | ⟨hc, h⟩
                      · refine ev_ic_ne (t := 138) rfl rfl (fun c9 => absurd hc c9) (fun _ => ?_)
                        refine ev_go 2 (pc' := 139) (L' := [some (.ref 89), some (.int x231), some (.int x232), some (.int x233), some (.int x234), some (.int x235), some (.int 4), some (.int 1)]) (st' := [.int 1]) (h' := (HM P c247.2 T)) (cs' := 0) (sl' := 0) rfl ?_
                        obtain ⟨rfl, rfl⟩ := ai_smP h
                        exact ev_end rfl
                      · refine ev_ic_ne (t := 138) rfl rfl (fun _ => ?_) (fun c9 => absurd c9 hc)
                        refine ev_go 1 (pc' := 139) (L' := [some (.ref 89), some (.int x231), some (.int x232), some (.int x233), some (.int x234), some (.int x235), some (.int 4), some (.int 1)]) (st' := [.int 0]) (h' := (HM P c247.2 T)) (cs' := 0) (sl' := 0) rfl ?_
                        obtain ⟨rfl, rfl⟩ := ai_smP h
                        exact ev_end rfl
                  · refine ev_ic_ne (t := 138) rfl rfl (fun _ => ?_) (fun c9 => absurd c9 hc)
                    refine ev_go 1 (pc' := 139) (L' := [some (.ref 89), some (.int x231), some (.int x232), some (.int x233), some (.int x234), some (.int x235), some (.int 4), some (.int 1)]) (st' := [.int 0]) (h' := (HM P c246.2 T)) (cs' := 0) (sl' := 0) rfl ?_
                    obtain ⟨rfl, rfl⟩ := ai_smP h
                    exact ev_end rfl
              · refine ev_ic_ne (t := 86) rfl rfl (fun _ => ?_) (fun c9 => absurd c9 hc)
                refine ev_go 5 (pc' := 139) (L' := [some (.ref 89), some (.int x231), some (.int x232), some (.int x233), some (.int x234), some (.int x235), some (.int 4), some (.int 0)]) (st' := [.int 0]) (h' := (HM P c244.2 T)) (cs' := 0) (sl' := 0) rfl ?_
                obtain ⟨rfl, rfl⟩ := ai_smP h
                exact ev_end rfl
            · refine ev_ic_ne (t := 86) rfl rfl (fun _ => ?_) (fun c9 => absurd c9 hc)
              refine ev_go 5 (pc' := 139) (L' := [some (.ref 89), some (.int x231), some (.int x232), some (.int x233), some (.int x234), some (.int x235), some (.int 4), some (.int 0)]) (st' := [.int 0]) (h' := (HM P c243.2 T)) (cs' := 0) (sl' := 0) rfl ?_
              obtain ⟨rfl, rfl⟩ := ai_smP h
              exact ev_end rfl
          · refine ev_ic_ne (t := 86) rfl rfl (fun _ => ?_) (fun c9 => absurd c9 hc)
            refine ev_go 5 (pc' := 139) (L' := [some (.ref 89), some (.int x231), some (.int x232), some (.int x233), some (.int x234), some (.int x235), some (.int 4), some (.int 0)]) (st' := [.int 0]) (h' := (HM P c242.2 T)) (cs' := 0) (sl' := 0) rfl ?_
            obtain ⟨rfl, rfl⟩ := ai_smP h
            exact ev_end rfl
        · refine ev_ic_ne (t := 86) rfl rfl (fun _ => ?_) (fun c9 => absurd c9 hc)
          refine ev_go 5 (pc' := 139) (L' := [some (.ref 89), some (.int x231), some (.int x232), some (.int x233), some (.int x234), some (.int x235), some (.int 4), some (.int 0)]) (st' := [.int 0]) (h' := (HM P w T)) (cs' := 0) (sl' := 0) rfl ?_
          obtain ⟨rfl, rfl⟩ := ai_smP h
          exact ev_end rfl
    · refine ev_if_ne (t := 18) rfl rfl (fun _ => ?_) (fun c9 => absurd c9 hc)
      refine ev_go 4 (pc' := 25) (L' := [some (.ref 89), some (.int x231), some (.int x232), some (.int x233), some (.int x234), some (.int x235), some (.int 5), none]) (st' := [.int (a_m_isWord w)]) (h' := (HM P w T)) (cs' := 0) (sl' := 0) rfl ?_
      rcases ai_ifE h with ⟨hc, h⟩ | ⟨hc, h⟩
      · refine ev_if_eq (t := 86) rfl rfl (fun _ => ?_) (fun c9 => absurd hc c9)
        refine ev_go 5 (pc' := 139) (L' := [some (.ref 89), some (.int x231), some (.int x232), some (.int x233), some (.int x234), some (.int x235), some (.int 5), some (.int 0)]) (st' := [.int 0]) (h' := (HM P w T)) (cs' := 0) (sl' := 0) rfl ?_
        obtain ⟨rfl, rfl⟩ := ai_smP h
        exact ev_end rfl
      · refine ev_if_eq (t := 86) rfl rfl (fun c9 => absurd c9 hc) (fun _ => ?_)
        refine ev_go 6 (pc' := 39) (L' := [some (.ref 89), some (.int x231), some (.int x232), some (.int x233), some (.int x234), some (.int x235), some (.int 5), none]) (st' := [.int 5, .int ((a_m_at w) - (a_m_start w))]) (h' := (HM P w T)) (cs' := 0) (sl' := 0) rfl ?_
        rcases ai_ifE h with ⟨hc, h⟩ | ⟨hc, h⟩
        · refine ev_ic_ne (t := 86) rfl rfl (fun c9 => absurd hc c9) (fun _ => ?_)
          refine ev_go 3 (pc' := 47) (L' := [some (.ref 89), some (.int x231), some (.int x232), some (.int x233), some (.int x234), some (.int x235), some (.int 5), none]) (st' := [.int (a_m_start w), .ref 89]) (h' := (HM P w T)) (cs' := 0) (sl' := 0) rfl ?_
          obtain ⟨c236, hq, h⟩ := ai_bdE h
          refine ev_call (M' := mm_byteAt) (L' := [some (.ref 89), some (.int (a_m_start w))]) (rest := []) (rv := some (.int c236.1)) (h' := (HM P c236.2 T)) rfl (Em_byteAt_89 (a_m_start w) w _ _ hq P T) ?_
          show ai_ev D1 mm_isNamed 50 [some (.ref 89), some (.int x231), some (.int x232), some (.int x233), some (.int x234), some (.int x235), some (.int 5), none] [.int c236.1] (HM P c236.2 T) 0 0 _
          refine ev_go 1 (pc' := 51) (L' := [some (.ref 89), some (.int x231), some (.int x232), some (.int x233), some (.int x234), some (.int x235), some (.int 5), none]) (st' := [.int x231, .int c236.1]) (h' := (HM P c236.2 T)) (cs' := 0) (sl' := 0) rfl ?_
          rcases ai_ifE h with ⟨hc, h⟩ | ⟨hc, h⟩
          · refine ev_ic_ne (t := 86) rfl rfl (fun c9 => absurd hc c9) (fun _ => ?_)
            refine ev_go 5 (pc' := 61) (L' := [some (.ref 89), some (.int x231), some (.int x232), some (.int x233), some (.int x234), some (.int x235), some (.int 5), none]) (st' := [.int ((a_m_start c236.2) + 1), .ref 89]) (h' := (HM P c236.2 T)) (cs' := 0) (sl' := 0) rfl ?_
            obtain ⟨c237, hq, h⟩ := ai_bdE h
            refine ev_call (M' := mm_byteAt) (L' := [some (.ref 89), some (.int ((a_m_start c236.2) + 1))]) (rest := []) (rv := some (.int c237.1)) (h' := (HM P c237.2 T)) rfl (Em_byteAt_89 ((a_m_start c236.2) + 1) c236.2 _ _ hq P T) ?_
            show ai_ev D1 mm_isNamed 64 [some (.ref 89), some (.int x231), some (.int x232), some (.int x233), some (.int x234), some (.int x235), some (.int 5), none] [.int c237.1] (HM P c237.2 T) 0 0 _
            refine ev_go 1 (pc' := 65) (L' := [some (.ref 89), some (.int x231), some (.int x232), some (.int x233), some (.int x234), some (.int x235), some (.int 5), none]) (st' := [.int x232, .int c237.1]) (h' := (HM P c237.2 T)) (cs' := 0) (sl' := 0) rfl ?_
            rcases ai_ifE h with ⟨hc, h⟩ | ⟨hc, h⟩
            · refine ev_ic_ne (t := 86) rfl rfl (fun c9 => absurd hc c9) (fun _ => ?_)
              refine ev_go 5 (pc' := 75) (L' := [some (.ref 89), some (.int x231), some (.int x232), some (.int x233), some (.int x234), some (.int x235), some (.int 5), none]) (st' := [.int ((a_m_start c237.2) + 2), .ref 89]) (h' := (HM P c237.2 T)) (cs' := 0) (sl' := 0) rfl ?_
              obtain ⟨c238, hq, h⟩ := ai_bdE h
              refine ev_call (M' := mm_byteAt) (L' := [some (.ref 89), some (.int ((a_m_start c237.2) + 2))]) (rest := []) (rv := some (.int c238.1)) (h' := (HM P c238.2 T)) rfl (Em_byteAt_89 ((a_m_start c237.2) + 2) c237.2 _ _ hq P T) ?_
              show ai_ev D1 mm_isNamed 78 [some (.ref 89), some (.int x231), some (.int x232), some (.int x233), some (.int x234), some (.int x235), some (.int 5), none] [.int c238.1] (HM P c238.2 T) 0 0 _
              refine ev_go 1 (pc' := 79) (L' := [some (.ref 89), some (.int x231), some (.int x232), some (.int x233), some (.int x234), some (.int x235), some (.int 5), none]) (st' := [.int x233, .int c238.1]) (h' := (HM P c238.2 T)) (cs' := 0) (sl' := 0) rfl ?_
              rcases ai_ifE h with ⟨hc, h⟩ | ⟨hc, h⟩
              · refine ev_ic_ne (t := 86) rfl rfl (fun c9 => absurd hc c9) (fun _ => ?_)
                refine ev_go 6 (pc' := 96) (L' := [some (.ref 89), some (.int x231), some (.int x232), some (.int x233), some (.int x234), some (.int x235), some (.int 5), some (.int 1)]) (st' := [.int x234]) (h' := (HM P c238.2 T)) (cs' := 0) (sl' := 0) rfl ?_
                rcases ai_ifE h with ⟨hc, h⟩ | ⟨hc, h⟩
                · refine ev_if_eq (t := 114) rfl rfl (fun _ => ?_) (fun c9 => absurd hc c9)
                  refine ev_go 1 (pc' := 116) (L' := [some (.ref 89), some (.int x231), some (.int x232), some (.int x233), some (.int x234), some (.int x235), some (.int 5), some (.int 1)]) (st' := [.int x235]) (h' := (HM P c238.2 T)) (cs' := 0) (sl' := 0) rfl ?_
                  rcases ai_ifE h with ⟨hc, h⟩ | ⟨hc, h⟩
                  · refine ev_if_eq (t := 134) rfl rfl (fun _ => ?_) (fun c9 => absurd hc c9)
                    refine ev_go 2 (pc' := 139) (L' := [some (.ref 89), some (.int x231), some (.int x232), some (.int x233), some (.int x234), some (.int x235), some (.int 5), some (.int 1)]) (st' := [.int 1]) (h' := (HM P c238.2 T)) (cs' := 0) (sl' := 0) rfl ?_
                    obtain ⟨rfl, rfl⟩ := ai_smP h
                    exact ev_end rfl
                  · refine ev_if_eq (t := 134) rfl rfl (fun c9 => absurd c9 hc) (fun _ => ?_)
                    refine ev_go 5 (pc' := 126) (L' := [some (.ref 89), some (.int x231), some (.int x232), some (.int x233), some (.int x234), some (.int x235), some (.int 5), some (.int 1)]) (st' := [.int ((a_m_start c238.2) + 4), .ref 89]) (h' := (HM P c238.2 T)) (cs' := 0) (sl' := 0) rfl ?_
                    obtain ⟨c239, hq, h⟩ := ai_bdE h
                    refine ev_call (M' := mm_byteAt) (L' := [some (.ref 89), some (.int ((a_m_start c238.2) + 4))]) (rest := []) (rv := some (.int c239.1)) (h' := (HM P c239.2 T)) rfl (Em_byteAt_89 ((a_m_start c238.2) + 4) c238.2 _ _ hq P T) ?_
                    show ai_ev D1 mm_isNamed 129 [some (.ref 89), some (.int x231), some (.int x232), some (.int x233), some (.int x234), some (.int x235), some (.int 5), some (.int 1)] [.int c239.1] (HM P c239.2 T) 0 0 _
                    refine ev_go 1 (pc' := 131) (L' := [some (.ref 89), some (.int x231), some (.int x232), some (.int x233), some (.int x234), some (.int x235), some (.int 5), some (.int 1)]) (st' := [.int x235, .int c239.1]) (h' := (HM P c239.2 T)) (cs' := 0) (sl' := 0) rfl ?_
                    rcases ai_ifE h with ⟨hc, h⟩ | ⟨hc, h⟩
                    · refine ev_ic_ne (t := 138) rfl rfl (fun c9 => absurd hc c9) (fun _ => ?_)
                      refine ev_go 2 (pc' := 139) (L' := [some (.ref 89), some (.int x231), some (.int x232), some (.int x233), some (.int x234), some (.int x235), some (.int 5), some (.int 1)]) (st' := [.int 1]) (h' := (HM P c239.2 T)) (cs' := 0) (sl' := 0) rfl ?_
                      obtain ⟨rfl, rfl⟩ := ai_smP h
                      exact ev_end rfl
                    · refine ev_ic_ne (t := 138) rfl rfl (fun _ => ?_) (fun c9 => absurd c9 hc)
                      refine ev_go 1 (pc' := 139) (L' := [some (.ref 89), some (.int x231), some (.int x232), some (.int x233), some (.int x234), some (.int x235), some (.int 5), some (.int 1)]) (st' := [.int 0]) (h' := (HM P c239.2 T)) (cs' := 0) (sl' := 0) rfl ?_
                      obtain ⟨rfl, rfl⟩ := ai_smP h
                      exact ev_end rfl
                · refine ev_if_eq (t := 114) rfl rfl (fun c9 => absurd c9 hc) (fun _ => ?_)
                  refine ev_go 5 (pc' := 106) (L' := [some (.ref 89), some (.int x231), some (.int x232), some (.int x233), some (.int x234), some (.int x235), some (.int 5), some (.int 1)]) (st' := [.int ((a_m_start c238.2) + 3), .ref 89]) (h' := (HM P c238.2 T)) (cs' := 0) (sl' := 0) rfl ?_
                  obtain ⟨c240, hq, h⟩ := ai_bdE h
                  refine ev_call (M' := mm_byteAt) (L' := [some (.ref 89), some (.int ((a_m_start c238.2) + 3))]) (rest := []) (rv := some (.int c240.1)) (h' := (HM P c240.2 T)) rfl (Em_byteAt_89 ((a_m_start c238.2) + 3) c238.2 _ _ hq P T) ?_
                  show ai_ev D1 mm_isNamed 109 [some (.ref 89), some (.int x231), some (.int x232), some (.int x233), some (.int x234), some (.int x235), some (.int 5), some (.int 1)] [.int c240.1] (HM P c240.2 T) 0 0 _
                  refine ev_go 1 (pc' := 111) (L' := [some (.ref 89), some (.int x231), some (.int x232), some (.int x233), some (.int x234), some (.int x235), some (.int 5), some (.int 1)]) (st' := [.int x234, .int c240.1]) (h' := (HM P c240.2 T)) (cs' := 0) (sl' := 0) rfl ?_
                  rcases ai_ifE h with ⟨hc, h⟩ | ⟨hc, h⟩
                  · refine ev_ic_ne (t := 138) rfl rfl (fun c9 => absurd hc c9) (fun _ => ?_)
                    refine ev_go 1 (pc' := 116) (L' := [some (.ref 89), some (.int x231), some (.int x232), some (.int x233), some (.int x234), some (.int x235), some (.int 5), some (.int 1)]) (st' := [.int x235]) (h' := (HM P c240.2 T)) (cs' := 0) (sl' := 0) rfl ?_
                    rcases ai_ifE h with ⟨hc, h⟩ | ⟨hc, h⟩
                    · refine ev_if_eq (t := 134) rfl rfl (fun _ => ?_) (fun c9 => absurd hc c9)
                      refine ev_go 2 (pc' := 139) (L' := [some (.ref 89), some (.int x231), some (.int x232), some (.int x233), some (.int x234), some (.int x235), some (.int 5), some (.int 1)]) (st' := [.int 1]) (h' := (HM P c240.2 T)) (cs' := 0) (sl' := 0) rfl ?_
                      obtain ⟨rfl, rfl⟩ := ai_smP h
                      exact ev_end rfl
                    · refine ev_if_eq (t := 134) rfl rfl (fun c9 => absurd c9 hc) (fun _ => ?_)
                      refine ev_go 5 (pc' := 126) (L' := [some (.ref 89), some (.int x231), some (.int x232), some (.int x233), some (.int x234), some (.int x235), some (.int 5), some (.int 1)]) (st' := [.int ((a_m_start c240.2) + 4), .ref 89]) (h' := (HM P c240.2 T)) (cs' := 0) (sl' := 0) rfl ?_
                      obtain ⟨c241, hq, h⟩ := ai_bdE h
                      refine ev_call (M' := mm_byteAt) (L' := [some (.ref 89), some (.int ((a_m_start c240.2) + 4))]) (rest := []) (rv := some (.int c241.1)) (h' := (HM P c241.2 T)) rfl (Em_byteAt_89 ((a_m_start c240.2) + 4) c240.2 _ _ hq P T) ?_
                      show ai_ev D1 mm_isNamed 129 [some (.ref 89), some (.int x231), some (.int x232), some (.int x233), some (.int x234), some (.int x235), some (.int 5), some (.int 1)] [.int c241.1] (HM P c241.2 T) 0 0 _
                      refine ev_go 1 (pc' := 131) (L' := [some (.ref 89), some (.int x231), some (.int x232), some (.int x233), some (.int x234), some (.int x235), some (.int 5), some (.int 1)]) (st' := [.int x235, .int c241.1]) (h' := (HM P c241.2 T)) (cs' := 0) (sl' := 0) rfl ?_
                      rcases ai_ifE h with ⟨hc, h⟩ | ⟨hc, h⟩
                      · refine ev_ic_ne (t := 138) rfl rfl (fun c9 => absurd hc c9) (fun _ => ?_)
                        refine ev_go 2 (pc' := 139) (L' := [some (.ref 89), some (.int x231), some (.int x232), some (.int x233), some (.int x234), some (.int x235), some (.int 5), some (.int 1)]) (st' := [.int 1]) (h' := (HM P c241.2 T)) (cs' := 0) (sl' := 0) rfl ?_
                        obtain ⟨rfl, rfl⟩ := ai_smP h
                        exact ev_end rfl
                      · refine ev_ic_ne (t := 138) rfl rfl (fun _ => ?_) (fun c9 => absurd c9 hc)
                        refine ev_go 1 (pc' := 139) (L' := [some (.ref 89), some (.int x231), some (.int x232), some (.int x233), some (.int x234), some (.int x235), some (.int 5), some (.int 1)]) (st' := [.int 0]) (h' := (HM P c241.2 T)) (cs' := 0) (sl' := 0) rfl ?_
                        obtain ⟨rfl, rfl⟩ := ai_smP h
                        exact ev_end rfl
                  · refine ev_ic_ne (t := 138) rfl rfl (fun _ => ?_) (fun c9 => absurd c9 hc)
                    refine ev_go 1 (pc' := 139) (L' := [some (.ref 89), some (.int x231), some (.int x232), some (.int x233), some (.int x234), some (.int x235), some (.int 5), some (.int 1)]) (st' := [.int 0]) (h' := (HM P c240.2 T)) (cs' := 0) (sl' := 0) rfl ?_
                    obtain ⟨rfl, rfl⟩ := ai_smP h
                    exact ev_end rfl
              · refine ev_ic_ne (t := 86) rfl rfl (fun _ => ?_) (fun c9 => absurd c9 hc)
                refine ev_go 5 (pc' := 139) (L' := [some (.ref 89), some (.int x231), some (.int x232), some (.int x233), some (.int x234), some (.int x235), some (.int 5), some (.int 0)]) (st' := [.int 0]) (h' := (HM P c238.2 T)) (cs' := 0) (sl' := 0) rfl ?_
                obtain ⟨rfl, rfl⟩ := ai_smP h
                exact ev_end rfl
            · refine ev_ic_ne (t := 86) rfl rfl (fun _ => ?_) (fun c9 => absurd c9 hc)
              refine ev_go 5 (pc' := 139) (L' := [some (.ref 89), some (.int x231), some (.int x232), some (.int x233), some (.int x234), some (.int x235), some (.int 5), some (.int 0)]) (st' := [.int 0]) (h' := (HM P c237.2 T)) (cs' := 0) (sl' := 0) rfl ?_
              obtain ⟨rfl, rfl⟩ := ai_smP h
              exact ev_end rfl
          · refine ev_ic_ne (t := 86) rfl rfl (fun _ => ?_) (fun c9 => absurd c9 hc)
            refine ev_go 5 (pc' := 139) (L' := [some (.ref 89), some (.int x231), some (.int x232), some (.int x233), some (.int x234), some (.int x235), some (.int 5), some (.int 0)]) (st' := [.int 0]) (h' := (HM P c236.2 T)) (cs' := 0) (sl' := 0) rfl ?_
            obtain ⟨rfl, rfl⟩ := ai_smP h
            exact ev_end rfl
        · refine ev_ic_ne (t := 86) rfl rfl (fun _ => ?_) (fun c9 => absurd c9 hc)
          refine ev_go 5 (pc' := 139) (L' := [some (.ref 89), some (.int x231), some (.int x232), some (.int x233), some (.int x234), some (.int x235), some (.int 5), some (.int 0)]) (st' := [.int 0]) (h' := (HM P w T)) (cs' := 0) (sl' := 0) rfl ?_
          obtain ⟨rfl, rfl⟩ := ai_smP h
          exact ev_end rfl
set_option maxHeartbeats 40000000 in
set_option maxRecDepth 100000 in
theorem Em_wordNow_89 (w : WM) (r : Int32) (w' : WM) (h : Fm_wordNow_89 w = some (r, w')) (P : Nat → ai_E) (T : ai_H) : ai_ev D1 mm_wordNow 0 [some (.ref 89)] [] (HM P w T) 0 0 (some (.int r), HM P w' T) := by
  unfold Fm_wordNow_89 at h
  refine ev_go 6 (pc' := 9) (L' := [some (.ref 89)]) (st' := [.int 0, .int 0, .int 97, .int 101, .int 115, .ref 89]) (h' := (HM P w T)) (cs' := 0) (sl' := 0) rfl ?_
  obtain ⟨c254, hq, h⟩ := ai_bdE h
  refine ev_call (M' := mm_isNamed) (L' := [some (.ref 89), some (.int 115), some (.int 101), some (.int 97), some (.int 0), some (.int 0), none, none]) (rest := []) (rv := some (.int c254.1)) (h' := (HM P c254.2 T)) rfl (Em_isNamed_89 115 101 97 0 0 w _ _ hq P T) ?_
  show ai_ev D1 mm_wordNow 12 [some (.ref 89)] [.int c254.1] (HM P c254.2 T) 0 0 _
  rcases ai_ifE h with ⟨hc, h⟩ | ⟨hc, h⟩
  · refine ev_if_eq (t := 17) rfl rfl (fun _ => ?_) (fun c9 => absurd hc c9)
    refine ev_go 6 (pc' := 28) (L' := [some (.ref 89)]) (st' := [.int 114, .int 101, .int 116, .int 97, .int 119, .ref 89]) (h' := (HM P c254.2 T)) (cs' := 0) (sl' := 0) rfl ?_
    obtain ⟨c255, hq, h⟩ := ai_bdE h
    refine ev_call (M' := mm_isNamed) (L' := [some (.ref 89), some (.int 119), some (.int 97), some (.int 116), some (.int 101), some (.int 114), none, none]) (rest := []) (rv := some (.int c255.1)) (h' := (HM P c255.2 T)) rfl (Em_isNamed_89 119 97 116 101 114 c254.2 _ _ hq P T) ?_
    show ai_ev D1 mm_wordNow 31 [some (.ref 89)] [.int c255.1] (HM P c255.2 T) 0 0 _
    rcases ai_ifE h with ⟨hc, h⟩ | ⟨hc, h⟩
    · refine ev_if_eq (t := 36) rfl rfl (fun _ => ?_) (fun c9 => absurd hc c9)
      refine ev_go 6 (pc' := 47) (L' := [some (.ref 89)]) (st' := [.int 107, .int 99, .int 105, .int 104, .int 116, .ref 89]) (h' := (HM P c255.2 T)) (cs' := 0) (sl' := 0) rfl ?_
      obtain ⟨c256, hq, h⟩ := ai_bdE h
      refine ev_call (M' := mm_isNamed) (L' := [some (.ref 89), some (.int 116), some (.int 104), some (.int 105), some (.int 99), some (.int 107), none, none]) (rest := []) (rv := some (.int c256.1)) (h' := (HM P c256.2 T)) rfl (Em_isNamed_89 116 104 105 99 107 c255.2 _ _ hq P T) ?_
      show ai_ev D1 mm_wordNow 50 [some (.ref 89)] [.int c256.1] (HM P c256.2 T) 0 0 _
      rcases ai_ifE h with ⟨hc, h⟩ | ⟨hc, h⟩
      · refine ev_if_eq (t := 55) rfl rfl (fun _ => ?_) (fun c9 => absurd hc c9)
        refine ev_go 6 (pc' := 65) (L' := [some (.ref 89)]) (st' := [.int 0, .int 110, .int 105, .int 107, .int 115, .ref 89]) (h' := (HM P c256.2 T)) (cs' := 0) (sl' := 0) rfl ?_
        obtain ⟨c257, hq, h⟩ := ai_bdE h
        refine ev_call (M' := mm_isNamed) (L' := [some (.ref 89), some (.int 115), some (.int 107), some (.int 105), some (.int 110), some (.int 0), none, none]) (rest := []) (rv := some (.int c257.1)) (h' := (HM P c257.2 T)) rfl (Em_isNamed_89 115 107 105 110 0 c256.2 _ _ hq P T) ?_
        show ai_ev D1 mm_wordNow 68 [some (.ref 89)] [.int c257.1] (HM P c257.2 T) 0 0 _
        rcases ai_ifE h with ⟨hc, h⟩ | ⟨hc, h⟩
        · refine ev_if_eq (t := 73) rfl rfl (fun _ => ?_) (fun c9 => absurd hc c9)
          refine ev_go 6 (pc' := 84) (L' := [some (.ref 89)]) (st' := [.int 103, .int 110, .int 105, .int 104, .int 116, .ref 89]) (h' := (HM P c257.2 T)) (cs' := 0) (sl' := 0) rfl ?_
          obtain ⟨c258, hq, h⟩ := ai_bdE h
          refine ev_call (M' := mm_isNamed) (L' := [some (.ref 89), some (.int 116), some (.int 104), some (.int 105), some (.int 110), some (.int 103), none, none]) (rest := []) (rv := some (.int c258.1)) (h' := (HM P c258.2 T)) rfl (Em_isNamed_89 116 104 105 110 103 c257.2 _ _ hq P T) ?_
          show ai_ev D1 mm_wordNow 87 [some (.ref 89)] [.int c258.1] (HM P c258.2 T) 0 0 _
          rcases ai_ifE h with ⟨hc, h⟩ | ⟨hc, h⟩
          · refine ev_if_eq (t := 92) rfl rfl (fun _ => ?_) (fun c9 => absurd hc c9)
            refine ev_go 6 (pc' := 102) (L' := [some (.ref 89)]) (st' := [.int 0, .int 116, .int 102, .int 105, .int 108, .ref 89]) (h' := (HM P c258.2 T)) (cs' := 0) (sl' := 0) rfl ?_
            obtain ⟨c259, hq, h⟩ := ai_bdE h
            refine ev_call (M' := mm_isNamed) (L' := [some (.ref 89), some (.int 108), some (.int 105), some (.int 102), some (.int 116), some (.int 0), none, none]) (rest := []) (rv := some (.int c259.1)) (h' := (HM P c259.2 T)) rfl (Em_isNamed_89 108 105 102 116 0 c258.2 _ _ hq P T) ?_
            show ai_ev D1 mm_wordNow 105 [some (.ref 89)] [.int c259.1] (HM P c259.2 T) 0 0 _
            rcases ai_ifE h with ⟨hc, h⟩ | ⟨hc, h⟩
            · refine ev_if_eq (t := 110) rfl rfl (fun _ => ?_) (fun c9 => absurd hc c9)
              refine ev_go 6 (pc' := 120) (L' := [some (.ref 89)]) (st' := [.int 0, .int 110, .int 119, .int 111, .int 116, .ref 89]) (h' := (HM P c259.2 T)) (cs' := 0) (sl' := 0) rfl ?_
              obtain ⟨c260, hq, h⟩ := ai_bdE h
              refine ev_call (M' := mm_isNamed) (L' := [some (.ref 89), some (.int 116), some (.int 111), some (.int 119), some (.int 110), some (.int 0), none, none]) (rest := []) (rv := some (.int c260.1)) (h' := (HM P c260.2 T)) rfl (Em_isNamed_89 116 111 119 110 0 c259.2 _ _ hq P T) ?_
              show ai_ev D1 mm_wordNow 123 [some (.ref 89)] [.int c260.1] (HM P c260.2 T) 0 0 _
              rcases ai_ifE h with ⟨hc, h⟩ | ⟨hc, h⟩
              · refine ev_if_eq (t := 131) rfl rfl (fun _ => ?_) (fun c9 => absurd hc c9)
                refine ev_go 6 (pc' := 140) (L' := [some (.ref 89)]) (st' := [.int 0, .int 0, .int 109, .int 97, .int 100, .ref 89]) (h' := (HM P c260.2 T)) (cs' := 0) (sl' := 0) rfl ?_
                obtain ⟨c261, hq, h⟩ := ai_bdE h
                refine ev_call (M' := mm_isNamed) (L' := [some (.ref 89), some (.int 100), some (.int 97), some (.int 109), some (.int 0), some (.int 0), none, none]) (rest := []) (rv := some (.int c261.1)) (h' := (HM P c261.2 T)) rfl (Em_isNamed_89 100 97 109 0 0 c260.2 _ _ hq P T) ?_
                show ai_ev D1 mm_wordNow 143 [some (.ref 89)] [.int c261.1] (HM P c261.2 T) 0 0 _
                rcases ai_ifE h with ⟨hc, h⟩ | ⟨hc, h⟩
                · refine ev_if_eq (t := 151) rfl rfl (fun _ => ?_) (fun c9 => absurd hc c9)
                  refine ev_go 1 (pc' := 152) (L' := [some (.ref 89)]) (st' := [.int (-1)]) (h' := (HM P c261.2 T)) (cs' := 0) (sl' := 0) rfl ?_
                  obtain ⟨rfl, rfl⟩ := ai_smP h
                  exact ev_end rfl
                · refine ev_if_eq (t := 151) rfl rfl (fun c9 => absurd c9 hc) (fun _ => ?_)
                  refine ev_go 2 (pc' := 152) (L' := [some (.ref 89)]) (st' := [.int 7]) (h' := (HM P c261.2 T)) (cs' := 0) (sl' := 0) rfl ?_
                  obtain ⟨rfl, rfl⟩ := ai_smP h
                  exact ev_end rfl
              · refine ev_if_eq (t := 131) rfl rfl (fun c9 => absurd c9 hc) (fun _ => ?_)
                refine ev_go 2 (pc' := 152) (L' := [some (.ref 89)]) (st' := [.int 6]) (h' := (HM P c260.2 T)) (cs' := 0) (sl' := 0) rfl ?_
                obtain ⟨rfl, rfl⟩ := ai_smP h
                exact ev_end rfl
            · refine ev_if_eq (t := 110) rfl rfl (fun c9 => absurd c9 hc) (fun _ => ?_)
              refine ev_go 1 (pc' := 109) (L' := [some (.ref 89)]) (st' := [.int 5]) (h' := (HM P c259.2 T)) (cs' := 0) (sl' := 0) rfl ?_
              obtain ⟨rfl, rfl⟩ := ai_smP h
              exact ev_end rfl
          · refine ev_if_eq (t := 92) rfl rfl (fun c9 => absurd c9 hc) (fun _ => ?_)
            refine ev_go 1 (pc' := 91) (L' := [some (.ref 89)]) (st' := [.int 4]) (h' := (HM P c258.2 T)) (cs' := 0) (sl' := 0) rfl ?_
            obtain ⟨rfl, rfl⟩ := ai_smP h
            exact ev_end rfl
        · refine ev_if_eq (t := 73) rfl rfl (fun c9 => absurd c9 hc) (fun _ => ?_)
          refine ev_go 1 (pc' := 72) (L' := [some (.ref 89)]) (st' := [.int 3]) (h' := (HM P c257.2 T)) (cs' := 0) (sl' := 0) rfl ?_
          obtain ⟨rfl, rfl⟩ := ai_smP h
          exact ev_end rfl
      · refine ev_if_eq (t := 55) rfl rfl (fun c9 => absurd c9 hc) (fun _ => ?_)
        refine ev_go 1 (pc' := 54) (L' := [some (.ref 89)]) (st' := [.int 2]) (h' := (HM P c256.2 T)) (cs' := 0) (sl' := 0) rfl ?_
        obtain ⟨rfl, rfl⟩ := ai_smP h
        exact ev_end rfl
    · refine ev_if_eq (t := 36) rfl rfl (fun c9 => absurd c9 hc) (fun _ => ?_)
      refine ev_go 1 (pc' := 35) (L' := [some (.ref 89)]) (st' := [.int 1]) (h' := (HM P c255.2 T)) (cs' := 0) (sl' := 0) rfl ?_
      obtain ⟨rfl, rfl⟩ := ai_smP h
      exact ev_end rfl
  · refine ev_if_eq (t := 17) rfl rfl (fun c9 => absurd c9 hc) (fun _ => ?_)
    refine ev_go 1 (pc' := 16) (L' := [some (.ref 89)]) (st' := [.int 0]) (h' := (HM P c254.2 T)) (cs' := 0) (sl' := 0) rfl ?_
    obtain ⟨rfl, rfl⟩ := ai_smP h
    exact ev_end rfl
set_option maxHeartbeats 40000000 in
set_option maxRecDepth 100000 in
theorem Em_manyOf (x265 : Int32) (r : Int32) (h : Fm_manyOf x265 = some r) (hh : ai_H) : ai_ev D1 mm_manyOf 0 [some (.int x265)] [] hh 0 0 (some (.int r), hh) := by
  unfold Fm_manyOf at h
  refine ev_go 1 (pc' := 1) (L' := [some (.int x265)]) (st' := [.int x265]) (h' := hh) (cs' := 0) (sl' := 0) rfl ?_
  rcases ai_ifE h with ⟨hc, h⟩ | ⟨hc, h⟩
  · refine ev_if_eq (t := 9) rfl rfl (fun _ => ?_) (fun c9 => absurd hc c9)
    refine ev_go 2 (pc' := 28) (L' := [some (.int x265)]) (st' := [.int 1]) (h' := hh) (cs' := 0) (sl' := 0) rfl ?_
    obtain rfl := Option.some.inj h
    exact ev_end rfl
  · refine ev_if_eq (t := 9) rfl rfl (fun c9 => absurd c9 hc) (fun _ => ?_)
    refine ev_go 2 (pc' := 6) (L' := [some (.int x265)]) (st' := [.int 5, .int x265]) (h' := hh) (cs' := 0) (sl' := 0) rfl ?_
    rcases ai_ifE h with ⟨hc, h⟩ | ⟨hc, h⟩
    · refine ev_ic_le (t := 13) rfl rfl (fun _ => ?_) (fun c9 => absurd hc c9)
      refine ev_go 2 (pc' := 15) (L' := [some (.int x265)]) (st' := [.int 1, .int x265]) (h' := hh) (cs' := 0) (sl' := 0) rfl ?_
      rcases ai_ifE h with ⟨hc, h⟩ | ⟨hc, h⟩
      · refine ev_ic_eq (t := 23) rfl rfl (fun _ => ?_) (fun c9 => absurd hc c9)
        refine ev_go 2 (pc' := 28) (L' := [some (.int x265)]) (st' := [.int 2]) (h' := hh) (cs' := 0) (sl' := 0) rfl ?_
        obtain rfl := Option.some.inj h
        exact ev_end rfl
      · refine ev_ic_eq (t := 23) rfl rfl (fun c9 => absurd c9 hc) (fun _ => ?_)
        refine ev_go 2 (pc' := 20) (L' := [some (.int x265)]) (st' := [.int 3, .int x265]) (h' := hh) (cs' := 0) (sl' := 0) rfl ?_
        rcases ai_ifE h with ⟨hc, h⟩ | ⟨hc, h⟩
        · refine ev_ic_ne (t := 27) rfl rfl (fun c9 => absurd hc c9) (fun _ => ?_)
          refine ev_go 2 (pc' := 28) (L' := [some (.int x265)]) (st' := [.int 2]) (h' := hh) (cs' := 0) (sl' := 0) rfl ?_
          obtain rfl := Option.some.inj h
          exact ev_end rfl
        · refine ev_ic_ne (t := 27) rfl rfl (fun _ => ?_) (fun c9 => absurd c9 hc)
          refine ev_go 1 (pc' := 28) (L' := [some (.int x265)]) (st' := [.int 3]) (h' := hh) (cs' := 0) (sl' := 0) rfl ?_
          obtain rfl := Option.some.inj h
          exact ev_end rfl
    · refine ev_ic_le (t := 13) rfl rfl (fun c9 => absurd c9 hc) (fun _ => ?_)
      refine ev_go 2 (pc' := 28) (L' := [some (.int x265)]) (st' := [.int 1]) (h' := hh) (cs' := 0) (sl' := 0) rfl ?_
      obtain rfl := Option.some.inj h
      exact ev_end rfl
set_option maxHeartbeats 40000000 in
set_option maxRecDepth 100000 in
theorem EGm_takesItem_89 : ∀ n : Nat, (∀ (y263 : Int32) (y264 : Int32) (w : WM) (r : Int32) (w' : WM), Gm_takesItem_89 n 0 y263 y264 0 w = some (r, w') → ∀ (P : Nat → ai_E) (T : ai_H) (o3 : Option Value), ai_ev D1 mm_takesItem 44 [some (.ref 89), some (.int y263), some (.int y264), o3] [] (HM P w T) 0 0 (some (.int r), HM P w' T)) ∧ (∀ (y271 : Int32) (y272 : Int32) (y273 : Int32) (w : WM) (r : Int32) (w' : WM), Gm_takesItem_89 n 1 y271 y272 y273 w = some (r, w') → ∀ (P : Nat → ai_E) (T : ai_H), ai_ev D1 mm_takesItem 93 [some (.ref 89), some (.int y271), some (.int y272), some (.int y273)] [] (HM P w T) 0 0 (some (.int r), HM P w' T)) := by
  intro n
  induction n with
  | zero =>
    exact ⟨(fun _ _ _ _ _ h => by cases h), (fun _ _ _ _ _ _ h => by cases h)⟩
  | succ n ih =>
    obtain ⟨ih0, ih1⟩ := ih
    refine ⟨?_, ?_⟩
    · intro y263 y264 w r w' h P T o3
      simp only [Gm_takesItem_89] at h
      refine ev_go 3 (pc' := 49) (L' := [some (.ref 89), some (.int y263), some (.int y264), o3]) (st' := [.int (a_m_word w), .int y264]) (h' := (HM P w T)) (cs' := 0) (sl' := 0) rfl ?_
      obtain ⟨c266, hq, h⟩ := ai_bdE h
      refine ev_call (M' := mm_manyOf) (L' := [some (.int (a_m_word w))]) (rest := [.int y264]) (rv := some (.int c266)) (h' := (HM P w T)) rfl (Em_manyOf (a_m_word w) _ hq (HM P w T)) ?_
      show ai_ev D1 mm_takesItem 52 [some (.ref 89), some (.int y263), some (.int y264), o3] [.int c266, .int y264] (HM P w T) 0 0 _
      rcases ai_ifE h with ⟨hc, h⟩ | ⟨hc, h⟩
      · refine ev_ic_ge (t := 137) rfl rfl (fun _ => ?_) (fun c9 => absurd hc c9)
        refine ev_go 1 (pc' := 138) (L' := [some (.ref 89), some (.int y263), some (.int y264), o3]) (st' := [.ref 89]) (h' := (HM P w T)) (cs' := 0) (sl' := 0) rfl ?_
        obtain ⟨c267, hq, h⟩ := ai_bdE h
        refine ev_call (M' := mm_token) (L' := [some (.ref 89)]) (rest := []) (rv := none) (h' := (HM P c267 T)) rfl (Em_token_89 n w _ hq P T) ?_
        show ai_ev D1 mm_takesItem 141 [some (.ref 89), some (.int y263), some (.int y264), o3] [] (HM P c267 T) 0 0 _
        refine ev_go 3 (pc' := 146) (L' := [some (.ref 89), some (.int y263), some (.int y264), o3]) (st' := [.int (a_m_start c267), .ref 89]) (h' := (HM P c267 T)) (cs' := 0) (sl' := 0) rfl ?_
        obtain ⟨c268, hq, h⟩ := ai_bdE h
        refine ev_call (M' := mm_byteAt) (L' := [some (.ref 89), some (.int (a_m_start c267))]) (rest := []) (rv := some (.int c268.1)) (h' := (HM P c268.2 T)) rfl (Em_byteAt_89 (a_m_start c267) c267 _ _ hq P T) ?_
        show ai_ev D1 mm_takesItem 149 [some (.ref 89), some (.int y263), some (.int y264), o3] [.int c268.1] (HM P c268.2 T) 0 0 _
        refine ev_go 1 (pc' := 151) (L' := [some (.ref 89), some (.int y263), some (.int y264), o3]) (st' := [.int 59, .int c268.1]) (h' := (HM P c268.2 T)) (cs' := 0) (sl' := 0) rfl ?_
        rcases ai_ifE h with ⟨hc, h⟩ | ⟨hc, h⟩
        · refine ev_ic_ne (t := 158) rfl rfl (fun c9 => absurd hc c9) (fun _ => ?_)
          refine ev_go 2 (pc' := 159) (L' := [some (.ref 89), some (.int y263), some (.int y264), o3]) (st' := [.int 1]) (h' := (HM P c268.2 T)) (cs' := 0) (sl' := 0) rfl ?_
          obtain ⟨rfl, rfl⟩ := ai_smP h
          exact ev_end rfl
        · refine ev_ic_ne (t := 158) rfl rfl (fun _ => ?_) (fun c9 => absurd c9 hc)
          refine ev_go 1 (pc' := 159) (L' := [some (.ref 89), some (.int y263), some (.int y264), o3]) (st' := [.int 0]) (h' := (HM P c268.2 T)) (cs' := 0) (sl' := 0) rfl ?_
          obtain ⟨rfl, rfl⟩ := ai_smP h
          exact ev_end rfl
      · refine ev_ic_ge (t := 137) rfl rfl (fun c9 => absurd c9 hc) (fun _ => ?_)
        refine ev_go 1 (pc' := 56) (L' := [some (.ref 89), some (.int y263), some (.int y264), o3]) (st' := [.ref 89]) (h' := (HM P w T)) (cs' := 0) (sl' := 0) rfl ?_
        obtain ⟨c269, hq, h⟩ := ai_bdE h
        refine ev_call (M' := mm_token) (L' := [some (.ref 89)]) (rest := []) (rv := none) (h' := (HM P c269 T)) rfl (Em_token_89 n w _ hq P T) ?_
        show ai_ev D1 mm_takesItem 59 [some (.ref 89), some (.int y263), some (.int y264), o3] [] (HM P c269 T) 0 0 _
        refine ev_go 2 (pc' := 63) (L' := [some (.ref 89), some (.int y263), some (.int y264), o3]) (st' := [.int (a_m_isFigures c269)]) (h' := (HM P c269 T)) (cs' := 0) (sl' := 0) rfl ?_
        rcases ai_ifE h with ⟨hc, h⟩ | ⟨hc, h⟩
        · refine ev_if_eq (t := 79) rfl rfl (fun _ => ?_) (fun c9 => absurd hc c9)
          refine ev_go 1 (pc' := 80) (L' := [some (.ref 89), some (.int y263), some (.int y264), o3]) (st' := [.int 0]) (h' := (HM P c269 T)) (cs' := 0) (sl' := 0) rfl ?_
          obtain ⟨rfl, rfl⟩ := ai_smP h
          exact ev_end rfl
        · refine ev_if_eq (t := 79) rfl rfl (fun c9 => absurd c9 hc) (fun _ => ?_)
          refine ev_go 6 (pc' := 76) (L' := [some (.ref 89), some (.int y263), some (.int y264), o3]) (st' := [.int 2, .int ((a_m_at c269) - (a_m_start c269))]) (h' := (HM P c269 T)) (cs' := 0) (sl' := 0) rfl ?_
          rcases ai_ifE h with ⟨hc, h⟩ | ⟨hc, h⟩
          · refine ev_ic_le (t := 81) rfl rfl (fun _ => ?_) (fun c9 => absurd hc c9)
            refine ev_go 4 (pc' := 87) (L' := [some (.ref 89), some (.int y263), some (.int y264), o3]) (st' := [.int 0, .int y264, .ref 94]) (h' := (HM P c269 T)) (cs' := 0) (sl' := 0) rfl ?_
            obtain ⟨q270, hq, h⟩ := ai_bdE h
            refine ev_iast rfl rfl hq ?_
            rw [HMs_94]
            refine ev_go 3 (pc' := 93) (L' := [some (.ref 89), some (.int y263), some (.int y264), some (.int (a_m_start c269))]) (st' := []) (h' := (HM P (u_m_numbers c269 q270) T)) (cs' := 0) (sl' := 0) rfl ?_
            exact ih1 _ _ _ _ _ _ h P T
          · refine ev_ic_le (t := 81) rfl rfl (fun c9 => absurd c9 hc) (fun _ => ?_)
            refine ev_go 1 (pc' := 80) (L' := [some (.ref 89), some (.int y263), some (.int y264), o3]) (st' := [.int 0]) (h' := (HM P c269 T)) (cs' := 0) (sl' := 0) rfl ?_
            obtain ⟨rfl, rfl⟩ := ai_smP h
            exact ev_end rfl
    · intro y271 y272 y273 w r w' h P T
      simp only [Gm_takesItem_89] at h
      refine ev_go 3 (pc' := 98) (L' := [some (.ref 89), some (.int y271), some (.int y272), some (.int y273)]) (st' := [.int (a_m_at w), .int y273]) (h' := (HM P w T)) (cs' := 0) (sl' := 0) rfl ?_
      rcases ai_ifE h with ⟨hc, h⟩ | ⟨hc, h⟩
      · refine ev_ic_ge (t := 131) rfl rfl (fun _ => ?_) (fun c9 => absurd hc c9)
        refine ev_go 2 (pc' := 44) (L' := [some (.ref 89), some (.int y271), some (.int (y272 + 1)), some (.int y273)]) (st' := []) (h' := (HM P w T)) (cs' := 0) (sl' := 0) rfl ?_
        exact ih0 _ _ _ _ _ h P T _
      · refine ev_ic_ge (t := 131) rfl rfl (fun c9 => absurd c9 hc) (fun _ => ?_)
        refine ev_go 7 (pc' := 113) (L' := [some (.ref 89), some (.int y271), some (.int y272), some (.int y273)]) (st' := [.int y272, .ref 94, .int 10, .int y272, .ref 94]) (h' := (HM P w T)) (cs' := 0) (sl' := 0) rfl ?_
        obtain ⟨v274, hq, h⟩ := ai_bdE h
        refine ev_iald rfl rfl hq ?_
        refine ev_go 3 (pc' := 117) (L' := [some (.ref 89), some (.int y271), some (.int y272), some (.int y273)]) (st' := [.int y273, .ref 89, .int (10 * v274), .int y272, .ref 94]) (h' := (HM P w T)) (cs' := 0) (sl' := 0) rfl ?_
        obtain ⟨c275, hq, h⟩ := ai_bdE h
        refine ev_call (M' := mm_byteAt) (L' := [some (.ref 89), some (.int y273)]) (rest := [.int (10 * v274), .int y272, .ref 94]) (rv := some (.int c275.1)) (h' := (HM P c275.2 T)) rfl (Em_byteAt_89 y273 w _ _ hq P T) ?_
        show ai_ev D1 mm_takesItem 120 [some (.ref 89), some (.int y271), some (.int y272), some (.int y273)] [.int c275.1, .int (10 * v274), .int y272, .ref 94] (HM P c275.2 T) 0 0 _
        refine ev_go 3 (pc' := 124) (L' := [some (.ref 89), some (.int y271), some (.int y272), some (.int y273)]) (st' := [.int (((10 * v274) + c275.1) - 48), .int y272, .ref 94]) (h' := (HM P c275.2 T)) (cs' := 0) (sl' := 0) rfl ?_
        obtain ⟨q276, hq, h⟩ := ai_bdE h
        refine ev_iast rfl rfl hq ?_
        rw [HMs_94]
        refine ev_go 2 (pc' := 93) (L' := [some (.ref 89), some (.int y271), some (.int y272), some (.int (y273 + 1))]) (st' := []) (h' := (HM P (u_m_numbers c275.2 q276) T)) (cs' := 0) (sl' := 0) rfl ?_
        exact ih1 _ _ _ _ _ _ h P T
set_option maxHeartbeats 40000000 in
set_option maxRecDepth 100000 in
theorem Em_takesItem_89 (n : Nat) (x230 : Int32) (w : WM) (r : Int32) (w' : WM) (h : Fm_takesItem_89 n x230 w = some (r, w')) (P : Nat → ai_E) (T : ai_H) : ai_ev D1 mm_takesItem 0 [some (.ref 89), some (.int x230), none, none] [] (HM P w T) 0 0 (some (.int r), HM P w' T) := by
  unfold Fm_takesItem_89 at h
  obtain ⟨ih0, ih1⟩ := EGm_takesItem_89 n
  refine ev_go 2 (pc' := 2) (L' := [some (.ref 89), some (.int x230), none, none]) (st' := [.ref 89, .ref 89]) (h' := (HM P w T)) (cs' := 0) (sl' := 0) rfl ?_
  obtain ⟨c262, hq, h⟩ := ai_bdE h
  refine ev_call (M' := mm_wordNow) (L' := [some (.ref 89)]) (rest := [.ref 89]) (rv := some (.int c262.1)) (h' := (HM P c262.2 T)) rfl (Em_wordNow_89 w _ _ hq P T) ?_
  show ai_ev D1 mm_takesItem 5 [some (.ref 89), some (.int x230), none, none] [.int c262.1, .ref 89] (HM P c262.2 T) 0 0 _
  refine ev_step rfl rfl rfl (PFM_8_159_89 rfl) ?_
  refine ev_go 3 (pc' := 13) (L' := [some (.ref 89), some (.int x230), none, none]) (st' := [.int (-1), .int c262.1]) (h' := (HM P (u_m_word c262.2 c262.1) T)) (cs' := 0) (sl' := 0) rfl ?_
  rcases ai_ifE h with ⟨hc, h⟩ | ⟨hc, h⟩
  · refine ev_ic_eq (t := 40) rfl rfl (fun _ => ?_) (fun c9 => absurd hc c9)
    refine ev_go 1 (pc' := 41) (L' := [some (.ref 89), some (.int x230), none, none]) (st' := [.int 0]) (h' := (HM P (u_m_word c262.2 c262.1) T)) (cs' := 0) (sl' := 0) rfl ?_
    obtain ⟨rfl, rfl⟩ := ai_smP h
    exact ev_end rfl
  · refine ev_ic_eq (t := 40) rfl rfl (fun c9 => absurd c9 hc) (fun _ => ?_)
    refine ev_go 2 (pc' := 20) (L' := [some (.ref 89), some (.int x230), none, none]) (st' := [.int c262.1]) (h' := (HM P (u_m_word c262.2 c262.1) T)) (cs' := 0) (sl' := 0) rfl ?_
    rcases ai_ifE h with ⟨hc, h⟩ | ⟨hc, h⟩
    · refine ev_if_ne (t := 27) rfl rfl (fun c9 => absurd hc c9) (fun _ => ?_)
      refine ev_go 3 (pc' := 29) (L' := [some (.ref 89), some (.int x230), none, none]) (st' := [.int x230, .int 1]) (h' := (HM P (u_m_word c262.2 c262.1) T)) (cs' := 0) (sl' := 0) rfl ?_
      rcases ai_ifE h with ⟨hc, h⟩ | ⟨hc, h⟩
      · refine ev_if_ne (t := 36) rfl rfl (fun c9 => absurd hc c9) (fun _ => ?_)
        refine ev_go 5 (pc' := 44) (L' := [some (.ref 89), some (.int x230), some (.int 0), none]) (st' := []) (h' := (HM P (u_m_word c262.2 c262.1) T)) (cs' := 0) (sl' := 0) rfl ?_
        exact ih0 _ _ _ _ _ h P T _
      · refine ev_if_ne (t := 36) rfl rfl (fun _ => ?_) (fun c9 => absurd c9 hc)
        refine ev_go 3 (pc' := 41) (L' := [some (.ref 89), some (.int x230), none, none]) (st' := [.int 0]) (h' := (HM P (u_m_word c262.2 c262.1) T)) (cs' := 0) (sl' := 0) rfl ?_
        obtain ⟨rfl, rfl⟩ := ai_smP h
        exact ev_end rfl
    · refine ev_if_ne (t := 27) rfl rfl (fun _ => ?_) (fun c9 => absurd c9 hc)
      refine ev_go 2 (pc' := 29) (L' := [some (.ref 89), some (.int x230), none, none]) (st' := [.int x230, .int 0]) (h' := (HM P (u_m_word c262.2 c262.1) T)) (cs' := 0) (sl' := 0) rfl ?_
      rcases ai_ifE h with ⟨hc, h⟩ | ⟨hc, h⟩
      · refine ev_if_ne (t := 36) rfl rfl (fun c9 => absurd hc c9) (fun _ => ?_)
        refine ev_go 4 (pc' := 41) (L' := [some (.ref 89), some (.int x230), none, none]) (st' := [.int 0]) (h' := (HM P (u_m_word c262.2 c262.1) T)) (cs' := 0) (sl' := 0) rfl ?_
        obtain ⟨rfl, rfl⟩ := ai_smP h
        exact ev_end rfl
      · refine ev_if_ne (t := 36) rfl rfl (fun _ => ?_) (fun c9 => absurd c9 hc)
        refine ev_go 4 (pc' := 44) (L' := [some (.ref 89), some (.int x230), some (.int 0), none]) (st' := []) (h' := (HM P (u_m_word c262.2 c262.1) T)) (cs' := 0) (sl' := 0) rfl ?_
        exact ih0 _ _ _ _ _ h P T _
set_option maxHeartbeats 40000000 in
set_option maxRecDepth 100000 in
theorem Em_done_89 (n : Nat) (w : WM) (r : Int32) (w' : WM) (h : Fm_done_89 n w = some (r, w')) (P : Nat → ai_E) (T : ai_H) : ai_ev D1 mm_done 0 [some (.ref 89)] [] (HM P w T) 0 0 (some (.int r), HM P w' T) := by
  unfold Fm_done_89 at h
  refine ev_go 2 (pc' := 4) (L' := [some (.ref 89)]) (st' := [.int (a_m_word w)]) (h' := (HM P w T)) (cs' := 0) (sl' := 0) rfl ?_
  rcases ai_ifE h with ⟨hc, h⟩ | ⟨hs0, h⟩
  · refine ev_swi (k := 0) (t := 48) rfl hc (by decide) (by decide) rfl rfl ?_
    refine ev_go 5 (pc' := 57) (L' := [some (.ref 89)]) (st' := [.int 0, .ref 94, .int 447, .ref 89]) (h' := (HM P w T)) (cs' := 0) (sl' := 0) rfl ?_
    obtain ⟨v279, hq, h⟩ := ai_bdE h
    refine ev_iald rfl rfl hq ?_
    obtain ⟨c280, hq, h⟩ := ai_bdE h
    refine ev_call (M' := mm_seaTo) (L' := [some (.ref 89), some (.int 447), some (.int v279), none]) (rest := []) (rv := some (.int c280.1)) (h' := (HM P c280.2 T)) rfl (Em_seaTo_89 n 447 v279 w _ _ hq P T) ?_
    show ai_ev D1 mm_done 61 [some (.ref 89)] [.int c280.1] (HM P c280.2 T) 0 0 _
    obtain ⟨rfl, rfl⟩ := ai_smP h
    exact ev_end rfl
  rcases ai_ifE h with ⟨hc, h⟩ | ⟨hs1, h⟩
  · refine ev_swi (k := 1) (t := 62) rfl hc (by decide) (by decide) rfl rfl ?_
    refine ev_go 5 (pc' := 71) (L' := [some (.ref 89)]) (st' := [.int 0, .ref 94, .int 447, .ref 89]) (h' := (HM P w T)) (cs' := 0) (sl' := 0) rfl ?_
    obtain ⟨v281, hq, h⟩ := ai_bdE h
    refine ev_iald rfl rfl hq ?_
    refine ev_go 3 (pc' := 77) (L' := [some (.ref 89)]) (st' := [.int 1, .ref 94, .int v281, .int 447, .ref 89]) (h' := (HM P w T)) (cs' := 0) (sl' := 0) rfl ?_
    obtain ⟨v282, hq, h⟩ := ai_bdE h
    refine ev_iald rfl rfl hq ?_
    obtain ⟨c283, hq, h⟩ := ai_bdE h
    refine ev_call (M' := mm_waterTo) (L' := [some (.ref 89), some (.int 447), some (.int v281), some (.int v282), none]) (rest := []) (rv := some (.int c283.1)) (h' := (HM P c283.2 T)) rfl (Em_waterTo_89 447 v281 v282 w _ _ hq P T) ?_
    show ai_ev D1 mm_done 81 [some (.ref 89)] [.int c283.1] (HM P c283.2 T) 0 0 _
    obtain ⟨rfl, rfl⟩ := ai_smP h
    exact ev_end rfl
  rcases ai_ifE h with ⟨hc, h⟩ | ⟨hs2, h⟩
  · refine ev_swi (k := 2) (t := 82) rfl hc (by decide) (by decide) rfl rfl ?_
    refine ev_go 5 (pc' := 91) (L' := [some (.ref 89)]) (st' := [.int 0, .ref 94, .int 447, .ref 89]) (h' := (HM P w T)) (cs' := 0) (sl' := 0) rfl ?_
    obtain ⟨v284, hq, h⟩ := ai_bdE h
    refine ev_iald rfl rfl hq ?_
    refine ev_go 3 (pc' := 97) (L' := [some (.ref 89)]) (st' := [.int 1, .ref 94, .int v284, .int 447, .ref 89]) (h' := (HM P w T)) (cs' := 0) (sl' := 0) rfl ?_
    obtain ⟨v285, hq, h⟩ := ai_bdE h
    refine ev_iald rfl rfl hq ?_
    refine ev_go 3 (pc' := 103) (L' := [some (.ref 89)]) (st' := [.int 2, .ref 94, .int v285, .int v284, .int 447, .ref 89]) (h' := (HM P w T)) (cs' := 0) (sl' := 0) rfl ?_
    obtain ⟨v286, hq, h⟩ := ai_bdE h
    refine ev_iald rfl rfl hq ?_
    obtain ⟨c287, hq, h⟩ := ai_bdE h
    refine ev_call (M' := mm_thickTo) (L' := [some (.ref 89), some (.int 447), some (.int v284), some (.int v285), some (.int v286)]) (rest := []) (rv := some (.int c287.1)) (h' := (HM P c287.2 T)) rfl (Em_thickTo_89 447 v284 v285 v286 w _ _ hq P T) ?_
    show ai_ev D1 mm_done 107 [some (.ref 89)] [.int c287.1] (HM P c287.2 T) 0 0 _
    obtain ⟨rfl, rfl⟩ := ai_smP h
    exact ev_end rfl
  rcases ai_ifE h with ⟨hc, h⟩ | ⟨hs3, h⟩
  · refine ev_swi (k := 3) (t := 108) rfl hc (by decide) (by decide) rfl rfl ?_
    refine ev_go 5 (pc' := 117) (L' := [some (.ref 89)]) (st' := [.int 0, .ref 94, .int 447, .ref 89]) (h' := (HM P w T)) (cs' := 0) (sl' := 0) rfl ?_
    obtain ⟨v288, hq, h⟩ := ai_bdE h
    refine ev_iald rfl rfl hq ?_
    refine ev_go 3 (pc' := 123) (L' := [some (.ref 89)]) (st' := [.int 1, .ref 94, .int v288, .int 447, .ref 89]) (h' := (HM P w T)) (cs' := 0) (sl' := 0) rfl ?_
    obtain ⟨v289, hq, h⟩ := ai_bdE h
    refine ev_iald rfl rfl hq ?_
    obtain ⟨c290, hq, h⟩ := ai_bdE h
    refine ev_call (M' := mm_skinTo) (L' := [some (.ref 89), some (.int 447), some (.int v288), some (.int v289)]) (rest := []) (rv := some (.int c290.1)) (h' := (HM P c290.2 T)) rfl (Em_skinTo_89 447 v288 v289 w _ _ hq P T) ?_
    show ai_ev D1 mm_done 127 [some (.ref 89)] [.int c290.1] (HM P c290.2 T) 0 0 _
    obtain ⟨rfl, rfl⟩ := ai_smP h
    exact ev_end rfl
  rcases ai_ifE h with ⟨hc, h⟩ | ⟨hs4, h⟩
  · refine ev_swi (k := 4) (t := 128) rfl hc (by decide) (by decide) rfl rfl ?_
    refine ev_go 5 (pc' := 137) (L' := [some (.ref 89)]) (st' := [.int 0, .ref 94, .int 447, .ref 89]) (h' := (HM P w T)) (cs' := 0) (sl' := 0) rfl ?_
    obtain ⟨v291, hq, h⟩ := ai_bdE h
    refine ev_iald rfl rfl hq ?_
    refine ev_go 3 (pc' := 143) (L' := [some (.ref 89)]) (st' := [.int 1, .ref 94, .int v291, .int 447, .ref 89]) (h' := (HM P w T)) (cs' := 0) (sl' := 0) rfl ?_
    obtain ⟨v292, hq, h⟩ := ai_bdE h
    refine ev_iald rfl rfl hq ?_
    refine ev_go 3 (pc' := 149) (L' := [some (.ref 89)]) (st' := [.int 2, .ref 94, .int v292, .int v291, .int 447, .ref 89]) (h' := (HM P w T)) (cs' := 0) (sl' := 0) rfl ?_
    obtain ⟨v293, hq, h⟩ := ai_bdE h
    refine ev_iald rfl rfl hq ?_
    obtain ⟨c294, hq, h⟩ := ai_bdE h
    refine ev_call (M' := mm_thingTo) (L' := [some (.ref 89), some (.int 447), some (.int v291), some (.int v292), some (.int v293), none]) (rest := []) (rv := some (.int c294.1)) (h' := (HM P c294.2 T)) rfl (Em_thingTo_89 447 v291 v292 v293 w _ _ hq P T) ?_
    show ai_ev D1 mm_done 153 [some (.ref 89)] [.int c294.1] (HM P c294.2 T) 0 0 _
    obtain ⟨rfl, rfl⟩ := ai_smP h
    exact ev_end rfl
  rcases ai_ifE h with ⟨hc, h⟩ | ⟨hs5, h⟩
  · refine ev_swi (k := 5) (t := 154) rfl hc (by decide) (by decide) rfl rfl ?_
    refine ev_go 5 (pc' := 163) (L' := [some (.ref 89)]) (st' := [.int 0, .ref 94, .int 447, .ref 89]) (h' := (HM P w T)) (cs' := 0) (sl' := 0) rfl ?_
    obtain ⟨v295, hq, h⟩ := ai_bdE h
    refine ev_iald rfl rfl hq ?_
    refine ev_go 3 (pc' := 169) (L' := [some (.ref 89)]) (st' := [.int 1, .ref 94, .int v295, .int 447, .ref 89]) (h' := (HM P w T)) (cs' := 0) (sl' := 0) rfl ?_
    obtain ⟨v296, hq, h⟩ := ai_bdE h
    refine ev_iald rfl rfl hq ?_
    refine ev_go 3 (pc' := 175) (L' := [some (.ref 89)]) (st' := [.int 2, .ref 94, .int v296, .int v295, .int 447, .ref 89]) (h' := (HM P w T)) (cs' := 0) (sl' := 0) rfl ?_
    obtain ⟨v297, hq, h⟩ := ai_bdE h
    refine ev_iald rfl rfl hq ?_
    obtain ⟨c298, hq, h⟩ := ai_bdE h
    refine ev_call (M' := mm_liftTo) (L' := [some (.ref 89), some (.int 447), some (.int v295), some (.int v296), some (.int v297), none]) (rest := []) (rv := some (.int c298.1)) (h' := (HM P c298.2 T)) rfl (Em_liftTo_89 447 v295 v296 v297 w _ _ hq P T) ?_
    show ai_ev D1 mm_done 179 [some (.ref 89)] [.int c298.1] (HM P c298.2 T) 0 0 _
    obtain ⟨rfl, rfl⟩ := ai_smP h
    exact ev_end rfl
  rcases ai_ifE h with ⟨hc, h⟩ | ⟨hs6, h⟩
  · refine ev_swi (k := 6) (t := 180) rfl hc (by decide) (by decide) rfl rfl ?_
    refine ev_go 5 (pc' := 189) (L' := [some (.ref 89)]) (st' := [.int 0, .ref 94, .int 447, .ref 89]) (h' := (HM P w T)) (cs' := 0) (sl' := 0) rfl ?_
    obtain ⟨v299, hq, h⟩ := ai_bdE h
    refine ev_iald rfl rfl hq ?_
    obtain ⟨c300, hq, h⟩ := ai_bdE h
    refine ev_call (M' := mm_townTo) (L' := [some (.ref 89), some (.int 447), some (.int v299), none, none]) (rest := []) (rv := some (.int c300.1)) (h' := (HM P c300.2 T)) rfl (Em_townTo_89 n 447 v299 w _ _ hq P T) ?_
    show ai_ev D1 mm_done 193 [some (.ref 89)] [.int c300.1] (HM P c300.2 T) 0 0 _
    obtain ⟨rfl, rfl⟩ := ai_smP h
    exact ev_end rfl
  refine ev_swo (t := 194) (lo := 0) (n := 7) rfl (sw_out 0 7 (fun k hk => by match k, hk with | 0, _ => exact hs0 | 1, _ => exact hs1 | 2, _ => exact hs2 | 3, _ => exact hs3 | 4, _ => exact hs4 | 5, _ => exact hs5 | 6, _ => exact hs6 | k + 7, hk => exact absurd hk (by omega))) ⟨rfl, by decide⟩ rfl ?_
  refine ev_go 5 (pc' := 203) (L' := [some (.ref 89)]) (st' := [.int 0, .ref 94, .int 447, .ref 89]) (h' := (HM P w T)) (cs' := 0) (sl' := 0) rfl ?_
  obtain ⟨v301, hq, h⟩ := ai_bdE h
  refine ev_iald rfl rfl hq ?_
  refine ev_go 1 (pc' := 205) (L' := [some (.ref 89)]) (st' := [.int 1, .int v301, .int 447, .ref 89]) (h' := (HM P w T)) (cs' := 0) (sl' := 0) rfl ?_
  obtain ⟨c302, hq, h⟩ := ai_bdE h
  refine ev_call (M' := mm_damTo) (L' := [some (.ref 89), some (.int 447), some (.int v301), some (.int 1)]) (rest := []) (rv := some (.int c302.1)) (h' := (HM P c302.2 T)) rfl (Em_damTo_89 447 v301 1 w _ _ hq P T) ?_
  show ai_ev D1 mm_done 208 [some (.ref 89)] [.int c302.1] (HM P c302.2 T) 0 0 _
  obtain ⟨rfl, rfl⟩ := ai_smP h
  exact ev_end rfl
set_option maxHeartbeats 40000000 in
set_option maxRecDepth 100000 in
theorem EGm_copy_89 : ∀ n : Nat, (∀ (y308 : Int32) (y309 : Int32) (y310 : Int32) (w : WM) (w' : WM), Gm_copy_89 n 0 y308 y309 y310 w = some w' → ∀ (P : Nat → ai_E) (T : ai_H), ai_ev D1 mm_copy 2 [some (.ref 89), some (.int y308), some (.int y309), some (.int y310)] [] (HM P w T) 0 0 (none, HM P w' T)) := by
  intro n
  induction n with
  | zero =>
    exact (fun _ _ _ _ _ h => by cases h)
  | succ n ih0 =>
    intro y308 y309 y310 w w' h P T
    simp only [Gm_copy_89] at h
    refine ev_go 2 (pc' := 6) (L' := [some (.ref 89), some (.int y308), some (.int y309), some (.int y310)]) (st' := [.int 149, .int y310]) (h' := (HM P w T)) (cs' := 0) (sl' := 0) rfl ?_
    rcases ai_ifE h with ⟨hc, h⟩ | ⟨hc, h⟩
    · refine ev_ic_ge (t := 31) rfl rfl (fun _ => ?_) (fun c9 => absurd hc c9)
      obtain rfl := Option.some.inj h
      exact ev_end rfl
    · refine ev_ic_ge (t := 31) rfl rfl (fun c9 => absurd c9 hc) (fun _ => ?_)
      refine ev_go 10 (pc' := 23) (L' := [some (.ref 89), some (.int y308), some (.int y309), some (.int y310)]) (st' := [.int (y308 + y310), .ref 90, .int (y309 + y310), .ref 90]) (h' := (HM P w T)) (cs' := 0) (sl' := 0) rfl ?_
      obtain ⟨v311, hq, h⟩ := ai_bdE h
      refine ev_iald rfl rfl hq ?_
      obtain ⟨q312, hq, h⟩ := ai_bdE h
      refine ev_iast rfl rfl hq ?_
      rw [HMs_90]
      refine ev_go 2 (pc' := 2) (L' := [some (.ref 89), some (.int y308), some (.int y309), some (.int (y310 + 1))]) (st' := []) (h' := (HM P (u_m_w w q312) T)) (cs' := 0) (sl' := 0) rfl ?_
      exact ih0 _ _ _ _ _ h P T
set_option maxHeartbeats 40000000 in
set_option maxRecDepth 100000 in
theorem Em_copy_89 (n : Nat) (x306 : Int32) (x307 : Int32) (w : WM) (w' : WM) (h : Fm_copy_89 n x306 x307 w = some w') (P : Nat → ai_E) (T : ai_H) : ai_ev D1 mm_copy 0 [some (.ref 89), some (.int x306), some (.int x307), none] [] (HM P w T) 0 0 (none, HM P w' T) := by
  unfold Fm_copy_89 at h
  have ih0 := EGm_copy_89 n
  refine ev_go 2 (pc' := 2) (L' := [some (.ref 89), some (.int x306), some (.int x307), some (.int 0)]) (st' := []) (h' := (HM P w T)) (cs' := 0) (sl' := 0) rfl ?_
  exact ih0 _ _ _ _ _ h P T
set_option maxHeartbeats 40000000 in
set_option maxRecDepth 100000 in
theorem EGm_read_89 : ∀ n : Nat, (∀ (y228 : Int32) (y229 : Int32) (w : WM) (r : Int32) (w' : WM), Gm_read_89 n 0 y228 y229 w = some (r, w') → ∀ (P : Nat → ai_E) (T : ai_H), ai_ev D1 mm_read 13 [some (.ref 89), some (.int y228), some (.int y229)] [] (HM P w T) 0 0 (some (.int r), HM P w' T)) := by
  intro n
  induction n with
  | zero =>
    exact (fun _ _ _ _ _ h => by cases h)
  | succ n ih0 =>
    intro y228 y229 w r w' h P T
    simp only [Gm_read_89] at h
    refine ev_go 4 (pc' := 21) (L' := [some (.ref 89), some (.int y228), some (.int y229)]) (st' := [.int (a_m_texted w), .int (a_m_start w)]) (h' := (HM P w T)) (cs' := 0) (sl' := 0) rfl ?_
    rcases ai_ifE h with ⟨hc, h⟩ | ⟨hc, h⟩
    · refine ev_ic_lt (t := 28) rfl rfl (fun _ => ?_) (fun c9 => absurd hc c9)
      refine ev_go 2 (pc' := 30) (L' := [some (.ref 89), some (.int y228), some (.int y229)]) (st' := [.int y228, .ref 89]) (h' := (HM P w T)) (cs' := 0) (sl' := 0) rfl ?_
      obtain ⟨c277, hq, h⟩ := ai_bdE h
      refine ev_call (M' := mm_takesItem) (L' := [some (.ref 89), some (.int y228), none, none]) (rest := []) (rv := some (.int c277.1)) (h' := (HM P c277.2 T)) rfl (Em_takesItem_89 n y228 w _ _ hq P T) ?_
      show ai_ev D1 mm_read 33 [some (.ref 89), some (.int y228), some (.int y229)] [.int c277.1] (HM P c277.2 T) 0 0 _
      rcases ai_ifE h with ⟨hc, h⟩ | ⟨hc, h⟩
      · refine ev_if_ne (t := 44) rfl rfl (fun c9 => absurd hc c9) (fun _ => ?_)
        refine ev_go 4 (pc' := 43) (L' := [some (.ref 89), some (.int y228), some (.int y229)]) (st' := [.int ((-10) - (a_m_start c277.2))]) (h' := (HM P c277.2 T)) (cs' := 0) (sl' := 0) rfl ?_
        obtain ⟨rfl, rfl⟩ := ai_smP h
        exact ev_end rfl
      · refine ev_if_ne (t := 44) rfl rfl (fun _ => ?_) (fun c9 => absurd c9 hc)
        refine ev_go 2 (pc' := 46) (L' := [some (.ref 89), some (.int y228), some (.int y229)]) (st' := [.int (-1), .int y229]) (h' := (HM P c277.2 T)) (cs' := 0) (sl' := 0) rfl ?_
        rcases ai_ifE h with ⟨hc, h⟩ | ⟨hc, h⟩
        · refine ev_ic_ne (t := 61) rfl rfl (fun c9 => absurd hc c9) (fun _ => ?_)
          refine ev_go 1 (pc' := 50) (L' := [some (.ref 89), some (.int y228), some (.int y229)]) (st' := [.ref 89]) (h' := (HM P c277.2 T)) (cs' := 0) (sl' := 0) rfl ?_
          obtain ⟨c303, hq, h⟩ := ai_bdE h
          refine ev_call (M' := mm_done) (L' := [some (.ref 89)]) (rest := []) (rv := some (.int c303.1)) (h' := (HM P c303.2 T)) rfl (Em_done_89 n c277.2 _ _ hq P T) ?_
          show ai_ev D1 mm_read 53 [some (.ref 89), some (.int y228), some (.int y229)] [.int c303.1] (HM P c303.2 T) 0 0 _
          refine ev_go 1 (pc' := 54) (L' := [some (.ref 89), some (.int y228), some (.int y229)]) (st' := [.int (-1), .int c303.1]) (h' := (HM P c303.2 T)) (cs' := 0) (sl' := 0) rfl ?_
          rcases ai_ifE h with ⟨hc, h⟩ | ⟨hc, h⟩
          · refine ev_ic_ge (t := 61) rfl rfl (fun _ => ?_) (fun c9 => absurd hc c9)
            refine ev_go 4 (pc' := 67) (L' := [some (.ref 89), some (.int (y228 + 1)), some (.int y229)]) (st' := [.ref 89]) (h' := (HM P c303.2 T)) (cs' := 0) (sl' := 0) rfl ?_
            obtain ⟨c304, hq, h⟩ := ai_bdE h
            refine ev_call (M' := mm_token) (L' := [some (.ref 89)]) (rest := []) (rv := none) (h' := (HM P c304 T)) rfl (Em_token_89 n c303.2 _ hq P T) ?_
            show ai_ev D1 mm_read 70 [some (.ref 89), some (.int (y228 + 1)), some (.int y229)] [] (HM P c304 T) 0 0 _
            refine ev_go 1 (pc' := 13) (L' := [some (.ref 89), some (.int (y228 + 1)), some (.int y229)]) (st' := []) (h' := (HM P c304 T)) (cs' := 0) (sl' := 0) rfl ?_
            exact ih0 _ _ _ _ _ h P T
          · refine ev_ic_ge (t := 61) rfl rfl (fun c9 => absurd c9 hc) (fun _ => ?_)
            refine ev_go 5 (pc' := 67) (L' := [some (.ref 89), some (.int (y228 + 1)), some (.int y228)]) (st' := [.ref 89]) (h' := (HM P c303.2 T)) (cs' := 0) (sl' := 0) rfl ?_
            obtain ⟨c305, hq, h⟩ := ai_bdE h
            refine ev_call (M' := mm_token) (L' := [some (.ref 89)]) (rest := []) (rv := none) (h' := (HM P c305 T)) rfl (Em_token_89 n c303.2 _ hq P T) ?_
            show ai_ev D1 mm_read 70 [some (.ref 89), some (.int (y228 + 1)), some (.int y228)] [] (HM P c305 T) 0 0 _
            refine ev_go 1 (pc' := 13) (L' := [some (.ref 89), some (.int (y228 + 1)), some (.int y228)]) (st' := []) (h' := (HM P c305 T)) (cs' := 0) (sl' := 0) rfl ?_
            exact ih0 _ _ _ _ _ h P T
        · refine ev_ic_ne (t := 61) rfl rfl (fun _ => ?_) (fun c9 => absurd c9 hc)
          refine ev_go 4 (pc' := 67) (L' := [some (.ref 89), some (.int (y228 + 1)), some (.int y229)]) (st' := [.ref 89]) (h' := (HM P c277.2 T)) (cs' := 0) (sl' := 0) rfl ?_
          obtain ⟨c278, hq, h⟩ := ai_bdE h
          refine ev_call (M' := mm_token) (L' := [some (.ref 89)]) (rest := []) (rv := none) (h' := (HM P c278 T)) rfl (Em_token_89 n c277.2 _ hq P T) ?_
          show ai_ev D1 mm_read 70 [some (.ref 89), some (.int (y228 + 1)), some (.int y229)] [] (HM P c278 T) 0 0 _
          refine ev_go 1 (pc' := 13) (L' := [some (.ref 89), some (.int (y228 + 1)), some (.int y229)]) (st' := []) (h' := (HM P c278 T)) (cs' := 0) (sl' := 0) rfl ?_
          exact ih0 _ _ _ _ _ h P T
    · refine ev_ic_lt (t := 28) rfl rfl (fun c9 => absurd c9 hc) (fun _ => ?_)
      refine ev_go 1 (pc' := 25) (L' := [some (.ref 89), some (.int y228), some (.int y229)]) (st' := [.int y228]) (h' := (HM P w T)) (cs' := 0) (sl' := 0) rfl ?_
      rcases ai_ifE h with ⟨hc, h⟩ | ⟨hc, h⟩
      · refine ev_if_ne (t := 73) rfl rfl (fun c9 => absurd hc c9) (fun _ => ?_)
        refine ev_go 2 (pc' := 30) (L' := [some (.ref 89), some (.int y228), some (.int y229)]) (st' := [.int y228, .ref 89]) (h' := (HM P w T)) (cs' := 0) (sl' := 0) rfl ?_
        obtain ⟨c314, hq, h⟩ := ai_bdE h
        refine ev_call (M' := mm_takesItem) (L' := [some (.ref 89), some (.int y228), none, none]) (rest := []) (rv := some (.int c314.1)) (h' := (HM P c314.2 T)) rfl (Em_takesItem_89 n y228 w _ _ hq P T) ?_
        show ai_ev D1 mm_read 33 [some (.ref 89), some (.int y228), some (.int y229)] [.int c314.1] (HM P c314.2 T) 0 0 _
        rcases ai_ifE h with ⟨hc, h⟩ | ⟨hc, h⟩
        · refine ev_if_ne (t := 44) rfl rfl (fun c9 => absurd hc c9) (fun _ => ?_)
          refine ev_go 4 (pc' := 43) (L' := [some (.ref 89), some (.int y228), some (.int y229)]) (st' := [.int ((-10) - (a_m_start c314.2))]) (h' := (HM P c314.2 T)) (cs' := 0) (sl' := 0) rfl ?_
          obtain ⟨rfl, rfl⟩ := ai_smP h
          exact ev_end rfl
        · refine ev_if_ne (t := 44) rfl rfl (fun _ => ?_) (fun c9 => absurd c9 hc)
          refine ev_go 2 (pc' := 46) (L' := [some (.ref 89), some (.int y228), some (.int y229)]) (st' := [.int (-1), .int y229]) (h' := (HM P c314.2 T)) (cs' := 0) (sl' := 0) rfl ?_
          rcases ai_ifE h with ⟨hc, h⟩ | ⟨hc, h⟩
          · refine ev_ic_ne (t := 61) rfl rfl (fun c9 => absurd hc c9) (fun _ => ?_)
            refine ev_go 1 (pc' := 50) (L' := [some (.ref 89), some (.int y228), some (.int y229)]) (st' := [.ref 89]) (h' := (HM P c314.2 T)) (cs' := 0) (sl' := 0) rfl ?_
            obtain ⟨c316, hq, h⟩ := ai_bdE h
            refine ev_call (M' := mm_done) (L' := [some (.ref 89)]) (rest := []) (rv := some (.int c316.1)) (h' := (HM P c316.2 T)) rfl (Em_done_89 n c314.2 _ _ hq P T) ?_
            show ai_ev D1 mm_read 53 [some (.ref 89), some (.int y228), some (.int y229)] [.int c316.1] (HM P c316.2 T) 0 0 _
            refine ev_go 1 (pc' := 54) (L' := [some (.ref 89), some (.int y228), some (.int y229)]) (st' := [.int (-1), .int c316.1]) (h' := (HM P c316.2 T)) (cs' := 0) (sl' := 0) rfl ?_
            rcases ai_ifE h with ⟨hc, h⟩ | ⟨hc, h⟩
            · refine ev_ic_ge (t := 61) rfl rfl (fun _ => ?_) (fun c9 => absurd hc c9)
              refine ev_go 4 (pc' := 67) (L' := [some (.ref 89), some (.int (y228 + 1)), some (.int y229)]) (st' := [.ref 89]) (h' := (HM P c316.2 T)) (cs' := 0) (sl' := 0) rfl ?_
              obtain ⟨c317, hq, h⟩ := ai_bdE h
              refine ev_call (M' := mm_token) (L' := [some (.ref 89)]) (rest := []) (rv := none) (h' := (HM P c317 T)) rfl (Em_token_89 n c316.2 _ hq P T) ?_
              show ai_ev D1 mm_read 70 [some (.ref 89), some (.int (y228 + 1)), some (.int y229)] [] (HM P c317 T) 0 0 _
              refine ev_go 1 (pc' := 13) (L' := [some (.ref 89), some (.int (y228 + 1)), some (.int y229)]) (st' := []) (h' := (HM P c317 T)) (cs' := 0) (sl' := 0) rfl ?_
              exact ih0 _ _ _ _ _ h P T
            · refine ev_ic_ge (t := 61) rfl rfl (fun c9 => absurd c9 hc) (fun _ => ?_)
              refine ev_go 5 (pc' := 67) (L' := [some (.ref 89), some (.int (y228 + 1)), some (.int y228)]) (st' := [.ref 89]) (h' := (HM P c316.2 T)) (cs' := 0) (sl' := 0) rfl ?_
              obtain ⟨c318, hq, h⟩ := ai_bdE h
              refine ev_call (M' := mm_token) (L' := [some (.ref 89)]) (rest := []) (rv := none) (h' := (HM P c318 T)) rfl (Em_token_89 n c316.2 _ hq P T) ?_
              show ai_ev D1 mm_read 70 [some (.ref 89), some (.int (y228 + 1)), some (.int y228)] [] (HM P c318 T) 0 0 _
              refine ev_go 1 (pc' := 13) (L' := [some (.ref 89), some (.int (y228 + 1)), some (.int y228)]) (st' := []) (h' := (HM P c318 T)) (cs' := 0) (sl' := 0) rfl ?_
              exact ih0 _ _ _ _ _ h P T
          · refine ev_ic_ne (t := 61) rfl rfl (fun _ => ?_) (fun c9 => absurd c9 hc)
            refine ev_go 4 (pc' := 67) (L' := [some (.ref 89), some (.int (y228 + 1)), some (.int y229)]) (st' := [.ref 89]) (h' := (HM P c314.2 T)) (cs' := 0) (sl' := 0) rfl ?_
            obtain ⟨c315, hq, h⟩ := ai_bdE h
            refine ev_call (M' := mm_token) (L' := [some (.ref 89)]) (rest := []) (rv := none) (h' := (HM P c315 T)) rfl (Em_token_89 n c314.2 _ hq P T) ?_
            show ai_ev D1 mm_read 70 [some (.ref 89), some (.int (y228 + 1)), some (.int y229)] [] (HM P c315 T) 0 0 _
            refine ev_go 1 (pc' := 13) (L' := [some (.ref 89), some (.int (y228 + 1)), some (.int y229)]) (st' := []) (h' := (HM P c315 T)) (cs' := 0) (sl' := 0) rfl ?_
            exact ih0 _ _ _ _ _ h P T
      · refine ev_if_ne (t := 73) rfl rfl (fun _ => ?_) (fun c9 => absurd c9 hc)
        refine ev_go 2 (pc' := 75) (L' := [some (.ref 89), some (.int y228), some (.int y229)]) (st' := [.int (-1), .int y229]) (h' := (HM P w T)) (cs' := 0) (sl' := 0) rfl ?_
        rcases ai_ifE h with ⟨hc, h⟩ | ⟨hc, h⟩
        · refine ev_ic_eq (t := 84) rfl rfl (fun _ => ?_) (fun c9 => absurd hc c9)
          refine ev_go 3 (pc' := 89) (L' := [some (.ref 89), some (.int y228), some (.int y229)]) (st' := [.int 0, .int 447, .ref 89]) (h' := (HM P w T)) (cs' := 0) (sl' := 0) rfl ?_
          obtain ⟨c313, hq, h⟩ := ai_bdE h
          refine ev_call (M' := mm_copy) (L' := [some (.ref 89), some (.int 447), some (.int 0), none]) (rest := []) (rv := none) (h' := (HM P c313 T)) rfl (Em_copy_89 n 447 0 w _ hq P T) ?_
          show ai_ev D1 mm_read 92 [some (.ref 89), some (.int y228), some (.int y229)] [] (HM P c313 T) 0 0 _
          refine ev_go 1 (pc' := 93) (L' := [some (.ref 89), some (.int y228), some (.int y229)]) (st' := [.int y228]) (h' := (HM P c313 T)) (cs' := 0) (sl' := 0) rfl ?_
          obtain ⟨rfl, rfl⟩ := ai_smP h
          exact ev_end rfl
        · refine ev_ic_eq (t := 84) rfl rfl (fun c9 => absurd c9 hc) (fun _ => ?_)
          refine ev_go 3 (pc' := 83) (L' := [some (.ref 89), some (.int y228), some (.int y229)]) (st' := [.int ((-1000) - y229)]) (h' := (HM P w T)) (cs' := 0) (sl' := 0) rfl ?_
          obtain ⟨rfl, rfl⟩ := ai_smP h
          exact ev_end rfl
set_option maxHeartbeats 40000000 in
set_option maxRecDepth 100000 in
theorem Em_read_89 (n : Nat) (w : WM) (r : Int32) (w' : WM) (h : Fm_read_89 n w = some (r, w')) (P : Nat → ai_E) (T : ai_H) : ai_ev D1 mm_read 0 [some (.ref 89), none, none] [] (HM P w T) 0 0 (some (.int r), HM P w' T) := by
  unfold Fm_read_89 at h
  have ih0 := EGm_read_89 n
  refine ev_go 2 (pc' := 2) (L' := [some (.ref 89), none, none]) (st' := [.int 0, .ref 89]) (h' := (HM P w T)) (cs' := 0) (sl' := 0) rfl ?_
  refine ev_step rfl rfl rfl (PFM_8_128_89 rfl) ?_
  refine ev_go 5 (pc' := 10) (L' := [some (.ref 89), some (.int 0), some (.int (-1))]) (st' := [.ref 89]) (h' := (HM P (u_m_at w 0) T)) (cs' := 0) (sl' := 0) rfl ?_
  obtain ⟨c227, hq, h⟩ := ai_bdE h
  refine ev_call (M' := mm_token) (L' := [some (.ref 89)]) (rest := []) (rv := none) (h' := (HM P c227 T)) rfl (Em_token_89 n (u_m_at w 0) _ hq P T) ?_
  show ai_ev D1 mm_read 13 [some (.ref 89), some (.int 0), some (.int (-1))] [] (HM P c227 T) 0 0 _
  exact ih0 _ _ _ _ _ h P T
set_option maxHeartbeats 40000000 in
set_option maxRecDepth 100000 in
theorem EGm_hours_89 : ∀ n : Nat, (∀ (y333 : Int32) (y334 : Int32) (w : WM) (r : Int32) (w' : WM), Gm_hours_89 n 0 y333 y334 w = some (r, w') → ∀ (P : Nat → ai_E) (T : ai_H), ai_ev D1 mm_hours 52 [some (.ref 89), some (.int y333), some (.int y334)] [] (HM P w T) 0 0 (some (.int r), HM P w' T)) := by
  intro n
  induction n with
  | zero =>
    exact (fun _ _ _ _ _ h => by cases h)
  | succ n ih0 =>
    intro y333 y334 w r w' h P T
    simp only [Gm_hours_89] at h
    refine ev_go 2 (pc' := 55) (L' := [some (.ref 89), some (.int y333), some (.int y334)]) (st' := [.int 9, .int y334]) (h' := (HM P w T)) (cs' := 0) (sl' := 0) rfl ?_
    rcases ai_ifE h with ⟨hc, h⟩ | ⟨hc, h⟩
    · refine ev_ic_ge (t := 86) rfl rfl (fun _ => ?_) (fun c9 => absurd hc c9)
      refine ev_go 4 (pc' := 93) (L' := [some (.ref 89), some (.int y333), some (.int y334)]) (st' := [.int 7, .ref 90, .int 7, .ref 90]) (h' := (HM P w T)) (cs' := 0) (sl' := 0) rfl ?_
      obtain ⟨v335, hq, h⟩ := ai_bdE h
      refine ev_iald rfl rfl hq ?_
      refine ev_go 2 (pc' := 96) (L' := [some (.ref 89), some (.int y333), some (.int y334)]) (st' := [.int (v335 - 1), .int 7, .ref 90]) (h' := (HM P w T)) (cs' := 0) (sl' := 0) rfl ?_
      obtain ⟨q336, hq, h⟩ := ai_bdE h
      refine ev_iast rfl rfl hq ?_
      rw [HMs_90]
      refine ev_go 6 (pc' := 110) (L' := [some (.ref 89), some (.int y333), some (.int y334)]) (st' := [.int 7, .ref 90, .int 139, .ref 90]) (h' := (HM P (u_m_w w q336) T)) (cs' := 0) (sl' := 0) rfl ?_
      obtain ⟨v337, hq, h⟩ := ai_bdE h
      refine ev_iald rfl rfl hq ?_
      refine ev_go 4 (pc' := 117) (L' := [some (.ref 89), some (.int y333), some (.int y334)]) (st' := [.int 1, .ref 90, .int (139 + v337), .ref 90]) (h' := (HM P (u_m_w w q336) T)) (cs' := 0) (sl' := 0) rfl ?_
      obtain ⟨v338, hq, h⟩ := ai_bdE h
      refine ev_iald rfl rfl hq ?_
      obtain ⟨q339, hq, h⟩ := ai_bdE h
      refine ev_iast rfl rfl hq ?_
      rw [HMs_90]
      refine ev_go 4 (pc' := 126) (L' := [some (.ref 89), some (.int y333), some (.int y334)]) (st' := [.int 7, .ref 90, .int 7, .ref 90]) (h' := (HM P (u_m_w (u_m_w w q336) q339) T)) (cs' := 0) (sl' := 0) rfl ?_
      obtain ⟨v340, hq, h⟩ := ai_bdE h
      refine ev_iald rfl rfl hq ?_
      refine ev_go 2 (pc' := 129) (L' := [some (.ref 89), some (.int y333), some (.int y334)]) (st' := [.int (v340 + 1), .int 7, .ref 90]) (h' := (HM P (u_m_w (u_m_w w q336) q339) T)) (cs' := 0) (sl' := 0) rfl ?_
      obtain ⟨q341, hq, h⟩ := ai_bdE h
      refine ev_iast rfl rfl hq ?_
      rw [HMs_90]
      refine ev_go 4 (pc' := 136) (L' := [some (.ref 89), some (.int y333), some (.int y334)]) (st' := [.int 1, .ref 90, .int 1, .ref 90]) (h' := (HM P (u_m_w (u_m_w (u_m_w w q336) q339) q341) T)) (cs' := 0) (sl' := 0) rfl ?_
      obtain ⟨v342, hq, h⟩ := ai_bdE h
      refine ev_iald rfl rfl hq ?_
      refine ev_go 2 (pc' := 139) (L' := [some (.ref 89), some (.int y333), some (.int y334)]) (st' := [.int (v342 + y333), .int 1, .ref 90]) (h' := (HM P (u_m_w (u_m_w (u_m_w w q336) q339) q341) T)) (cs' := 0) (sl' := 0) rfl ?_
      obtain ⟨q343, hq, h⟩ := ai_bdE h
      refine ev_iast rfl rfl hq ?_
      rw [HMs_90]
      refine ev_go 3 (pc' := 145) (L' := [some (.ref 89), some (.int y333), some (.int y334)]) (st' := [.int 1, .ref 90]) (h' := (HM P (u_m_w (u_m_w (u_m_w (u_m_w w q336) q339) q341) q343) T)) (cs' := 0) (sl' := 0) rfl ?_
      obtain ⟨v344, hq, h⟩ := ai_bdE h
      refine ev_iald rfl rfl hq ?_
      obtain ⟨rfl, rfl⟩ := ai_smP h
      exact ev_end rfl
    · refine ev_ic_ge (t := 86) rfl rfl (fun c9 => absurd c9 hc) (fun _ => ?_)
      refine ev_go 12 (pc' := 78) (L' := [some (.ref 89), some (.int y333), some (.int y334)]) (st' := [.int ((139 + y334) + 1), .ref 90, .int (139 + y334), .ref 90]) (h' := (HM P w T)) (cs' := 0) (sl' := 0) rfl ?_
      obtain ⟨v345, hq, h⟩ := ai_bdE h
      refine ev_iald rfl rfl hq ?_
      obtain ⟨q346, hq, h⟩ := ai_bdE h
      refine ev_iast rfl rfl hq ?_
      rw [HMs_90]
      refine ev_go 2 (pc' := 52) (L' := [some (.ref 89), some (.int y333), some (.int (y334 + 1))]) (st' := []) (h' := (HM P (u_m_w w q346) T)) (cs' := 0) (sl' := 0) rfl ?_
      exact ih0 _ _ _ _ _ h P T
set_option maxHeartbeats 40000000 in
set_option maxRecDepth 100000 in
theorem Em_hours_89 (n : Nat) (x319 : Int32) (w : WM) (r : Int32) (w' : WM) (h : Fm_hours_89 n x319 w = some (r, w')) (P : Nat → ai_E) (T : ai_H) : ai_ev D1 mm_hours 0 [some (.ref 89), some (.int x319), none] [] (HM P w T) 0 0 (some (.int r), HM P w' T) := by
  unfold Fm_hours_89 at h
  have ih0 := EGm_hours_89 n
  refine ev_go 4 (pc' := 6) (L' := [some (.ref 89), some (.int x319), none]) (st' := [.long 99, .long 1, .long (x319).toInt64]) (h' := (HM P w T)) (cs' := 0) (sl' := 0) rfl ?_
  obtain ⟨c320, hq, h⟩ := ai_bdE h
  refine ev_call (M' := mm_in) (L' := [some (.long (x319).toInt64), none, some (.long 1), none, some (.long 99), none]) (rest := []) (rv := some (.int c320)) (h' := (HM P w T)) rfl (Em_in (x319).toInt64 1 99 _ hq (HM P w T)) ?_
  show ai_ev D1 mm_hours 9 [some (.ref 89), some (.int x319), none] [.int c320] (HM P w T) 0 0 _
  rcases ai_ifE h with ⟨hc, h⟩ | ⟨hc, h⟩
  · refine ev_if_ne (t := 17) rfl rfl (fun c9 => absurd hc c9) (fun _ => ?_)
    refine ev_go 1 (pc' := 13) (L' := [some (.ref 89), some (.int x319), none]) (st' := [.ref 89]) (h' := (HM P w T)) (cs' := 0) (sl' := 0) rfl ?_
    obtain ⟨c332, hq, h⟩ := ai_bdE h
    refine ev_call (M' := mm_bad) (L' := [some (.ref 89)]) (rest := []) (rv := some (.int c332.1)) (h' := (HM P c332.2 T)) rfl (Em_bad_89 w _ _ hq P T) ?_
    show ai_ev D1 mm_hours 16 [some (.ref 89), some (.int x319), none] [.int c332.1] (HM P c332.2 T) 0 0 _
    obtain ⟨rfl, rfl⟩ := ai_smP h
    exact ev_end rfl
  · refine ev_if_ne (t := 17) rfl rfl (fun _ => ?_) (fun c9 => absurd c9 hc)
    refine ev_go 3 (pc' := 22) (L' := [some (.ref 89), some (.int x319), none]) (st' := [.int 1, .ref 90]) (h' := (HM P w T)) (cs' := 0) (sl' := 0) rfl ?_
    obtain ⟨v321, hq, h⟩ := ai_bdE h
    refine ev_iald rfl rfl hq ?_
    refine ev_go 3 (pc' := 28) (L' := [some (.ref 89), some (.int x319), none]) (st' := [.int 999, .int (v321 + x319)]) (h' := (HM P w T)) (cs' := 0) (sl' := 0) rfl ?_
    rcases ai_ifE h with ⟨hc, h⟩ | ⟨hc, h⟩
    · refine ev_ic_le (t := 38) rfl rfl (fun _ => ?_) (fun c9 => absurd hc c9)
      refine ev_go 3 (pc' := 44) (L' := [some (.ref 89), some (.int x319), none]) (st' := [.int 7, .ref 90]) (h' := (HM P w T)) (cs' := 0) (sl' := 0) rfl ?_
      obtain ⟨v322, hq, h⟩ := ai_bdE h
      refine ev_iald rfl rfl hq ?_
      refine ev_go 1 (pc' := 47) (L' := [some (.ref 89), some (.int x319), none]) (st' := [.int 10, .int v322]) (h' := (HM P w T)) (cs' := 0) (sl' := 0) rfl ?_
      rcases ai_ifE h with ⟨hc, h⟩ | ⟨hc, h⟩
      · refine ev_ic_ne (t := 97) rfl rfl (fun c9 => absurd hc c9) (fun _ => ?_)
        refine ev_go 2 (pc' := 52) (L' := [some (.ref 89), some (.int x319), some (.int 0)]) (st' := []) (h' := (HM P w T)) (cs' := 0) (sl' := 0) rfl ?_
        exact ih0 _ _ _ _ _ h P T
      · refine ev_ic_ne (t := 97) rfl rfl (fun _ => ?_) (fun c9 => absurd c9 hc)
        refine ev_go 6 (pc' := 110) (L' := [some (.ref 89), some (.int x319), none]) (st' := [.int 7, .ref 90, .int 139, .ref 90]) (h' := (HM P w T)) (cs' := 0) (sl' := 0) rfl ?_
        obtain ⟨v323, hq, h⟩ := ai_bdE h
        refine ev_iald rfl rfl hq ?_
        refine ev_go 4 (pc' := 117) (L' := [some (.ref 89), some (.int x319), none]) (st' := [.int 1, .ref 90, .int (139 + v323), .ref 90]) (h' := (HM P w T)) (cs' := 0) (sl' := 0) rfl ?_
        obtain ⟨v324, hq, h⟩ := ai_bdE h
        refine ev_iald rfl rfl hq ?_
        obtain ⟨q325, hq, h⟩ := ai_bdE h
        refine ev_iast rfl rfl hq ?_
        rw [HMs_90]
        refine ev_go 4 (pc' := 126) (L' := [some (.ref 89), some (.int x319), none]) (st' := [.int 7, .ref 90, .int 7, .ref 90]) (h' := (HM P (u_m_w w q325) T)) (cs' := 0) (sl' := 0) rfl ?_
        obtain ⟨v326, hq, h⟩ := ai_bdE h
        refine ev_iald rfl rfl hq ?_
        refine ev_go 2 (pc' := 129) (L' := [some (.ref 89), some (.int x319), none]) (st' := [.int (v326 + 1), .int 7, .ref 90]) (h' := (HM P (u_m_w w q325) T)) (cs' := 0) (sl' := 0) rfl ?_
        obtain ⟨q327, hq, h⟩ := ai_bdE h
        refine ev_iast rfl rfl hq ?_
        rw [HMs_90]
        refine ev_go 4 (pc' := 136) (L' := [some (.ref 89), some (.int x319), none]) (st' := [.int 1, .ref 90, .int 1, .ref 90]) (h' := (HM P (u_m_w (u_m_w w q325) q327) T)) (cs' := 0) (sl' := 0) rfl ?_
        obtain ⟨v328, hq, h⟩ := ai_bdE h
        refine ev_iald rfl rfl hq ?_
        refine ev_go 2 (pc' := 139) (L' := [some (.ref 89), some (.int x319), none]) (st' := [.int (v328 + x319), .int 1, .ref 90]) (h' := (HM P (u_m_w (u_m_w w q325) q327) T)) (cs' := 0) (sl' := 0) rfl ?_
        obtain ⟨q329, hq, h⟩ := ai_bdE h
        refine ev_iast rfl rfl hq ?_
        rw [HMs_90]
        refine ev_go 3 (pc' := 145) (L' := [some (.ref 89), some (.int x319), none]) (st' := [.int 1, .ref 90]) (h' := (HM P (u_m_w (u_m_w (u_m_w w q325) q327) q329) T)) (cs' := 0) (sl' := 0) rfl ?_
        obtain ⟨v330, hq, h⟩ := ai_bdE h
        refine ev_iald rfl rfl hq ?_
        obtain ⟨rfl, rfl⟩ := ai_smP h
        exact ev_end rfl
    · refine ev_ic_le (t := 38) rfl rfl (fun c9 => absurd c9 hc) (fun _ => ?_)
      refine ev_go 2 (pc' := 34) (L' := [some (.ref 89), some (.int x319), none]) (st' := [.int (-3), .ref 89]) (h' := (HM P w T)) (cs' := 0) (sl' := 0) rfl ?_
      obtain ⟨c331, hq, h⟩ := ai_bdE h
      refine ev_call (M' := mm_met) (L' := [some (.ref 89), some (.int (-3))]) (rest := []) (rv := some (.int c331.1)) (h' := (HM P c331.2 T)) rfl (Em_met_89 (-3) w _ _ hq P T) ?_
      show ai_ev D1 mm_hours 37 [some (.ref 89), some (.int x319), none] [.int c331.1] (HM P c331.2 T) 0 0 _
      obtain ⟨rfl, rfl⟩ := ai_smP h
      exact ev_end rfl
set_option maxHeartbeats 40000000 in
set_option maxRecDepth 100000 in
theorem Em_undo_89 (w : WM) (r : Int32) (w' : WM) (h : Fm_undo_89 w = some (r, w')) (P : Nat → ai_E) (T : ai_H) : ai_ev D1 mm_undo 0 [some (.ref 89)] [] (HM P w T) 0 0 (some (.int r), HM P w' T) := by
  unfold Fm_undo_89 at h
  refine ev_go 3 (pc' := 6) (L' := [some (.ref 89)]) (st' := [.int 7, .ref 90]) (h' := (HM P w T)) (cs' := 0) (sl' := 0) rfl ?_
  obtain ⟨v347, hq, h⟩ := ai_bdE h
  refine ev_iald rfl rfl hq ?_
  rcases ai_ifE h with ⟨hc, h⟩ | ⟨hc, h⟩
  · refine ev_if_ne (t := 17) rfl rfl (fun c9 => absurd hc c9) (fun _ => ?_)
    refine ev_go 2 (pc' := 13) (L' := [some (.ref 89)]) (st' := [.int (-3), .ref 89]) (h' := (HM P w T)) (cs' := 0) (sl' := 0) rfl ?_
    obtain ⟨c353, hq, h⟩ := ai_bdE h
    refine ev_call (M' := mm_met) (L' := [some (.ref 89), some (.int (-3))]) (rest := []) (rv := some (.int c353.1)) (h' := (HM P c353.2 T)) rfl (Em_met_89 (-3) w _ _ hq P T) ?_
    show ai_ev D1 mm_undo 16 [some (.ref 89)] [.int c353.1] (HM P c353.2 T) 0 0 _
    obtain ⟨rfl, rfl⟩ := ai_smP h
    exact ev_end rfl
  · refine ev_if_ne (t := 17) rfl rfl (fun _ => ?_) (fun c9 => absurd c9 hc)
    refine ev_go 4 (pc' := 24) (L' := [some (.ref 89)]) (st' := [.int 7, .ref 90, .int 7, .ref 90]) (h' := (HM P w T)) (cs' := 0) (sl' := 0) rfl ?_
    obtain ⟨v348, hq, h⟩ := ai_bdE h
    refine ev_iald rfl rfl hq ?_
    refine ev_go 2 (pc' := 27) (L' := [some (.ref 89)]) (st' := [.int (v348 - 1), .int 7, .ref 90]) (h' := (HM P w T)) (cs' := 0) (sl' := 0) rfl ?_
    obtain ⟨q349, hq, h⟩ := ai_bdE h
    refine ev_iast rfl rfl hq ?_
    rw [HMs_90]
    refine ev_go 9 (pc' := 46) (L' := [some (.ref 89)]) (st' := [.int 7, .ref 90, .int 139, .ref 90, .int 1, .ref 90]) (h' := (HM P (u_m_w w q349) T)) (cs' := 0) (sl' := 0) rfl ?_
    obtain ⟨v350, hq, h⟩ := ai_bdE h
    refine ev_iald rfl rfl hq ?_
    refine ev_go 1 (pc' := 48) (L' := [some (.ref 89)]) (st' := [.int (139 + v350), .ref 90, .int 1, .ref 90]) (h' := (HM P (u_m_w w q349) T)) (cs' := 0) (sl' := 0) rfl ?_
    obtain ⟨v351, hq, h⟩ := ai_bdE h
    refine ev_iald rfl rfl hq ?_
    obtain ⟨q352, hq, h⟩ := ai_bdE h
    refine ev_iast rfl rfl hq ?_
    rw [HMs_90]
    refine ev_go 1 (pc' := 51) (L' := [some (.ref 89)]) (st' := [.int 1]) (h' := (HM P (u_m_w (u_m_w w q349) q352) T)) (cs' := 0) (sl' := 0) rfl ?_
    obtain ⟨rfl, rfl⟩ := ai_smP h
    exact ev_end rfl
set_option maxHeartbeats 40000000 in
set_option maxRecDepth 100000 in
theorem Em_lay_89 (x359 : Int32) (w : WM) (w' : WM) (h : Fm_lay_89 x359 w = some w') (P : Nat → ai_E) (T : ai_H) : ai_ev D1 mm_lay 0 [some (.ref 89), some (.int x359)] [] (HM P w T) 0 0 (none, HM P w' T) := by
  unfold Fm_lay_89 at h
  refine ev_go 6 (pc' := 9) (L' := [some (.ref 89), some (.int x359)]) (st' := [.int (67 + x359), .ref 90, .ref 89]) (h' := (HM P w T)) (cs' := 0) (sl' := 0) rfl ?_
  obtain ⟨v360, hq, h⟩ := ai_bdE h
  refine ev_iald rfl rfl hq ?_
  refine ev_step rfl rfl rfl (PFM_8_177_89 rfl) ?_
  refine ev_go 6 (pc' := 22) (L' := [some (.ref 89), some (.int x359)]) (st' := [.int (73 + x359), .ref 90, .ref 89]) (h' := (HM P (u_m_kind w v360) T)) (cs' := 0) (sl' := 0) rfl ?_
  obtain ⟨v361, hq, h⟩ := ai_bdE h
  refine ev_iald rfl rfl hq ?_
  refine ev_step rfl rfl rfl (PFM_8_180_89 rfl) ?_
  refine ev_go 6 (pc' := 35) (L' := [some (.ref 89), some (.int x359)]) (st' := [.int (79 + x359), .ref 90, .ref 89]) (h' := (HM P (u_m_weight (u_m_kind w v360) v361) T)) (cs' := 0) (sl' := 0) rfl ?_
  obtain ⟨v362, hq, h⟩ := ai_bdE h
  refine ev_iald rfl rfl hq ?_
  refine ev_step rfl rfl rfl (PFM_8_183_89 rfl) ?_
  refine ev_go 6 (pc' := 48) (L' := [some (.ref 89), some (.int x359)]) (st' := [.int (85 + x359), .ref 90, .ref 89]) (h' := (HM P (u_m_volume (u_m_weight (u_m_kind w v360) v361) v362) T)) (cs' := 0) (sl' := 0) rfl ?_
  obtain ⟨v363, hq, h⟩ := ai_bdE h
  refine ev_iald rfl rfl hq ?_
  refine ev_step rfl rfl rfl (PFM_8_186_89 rfl) ?_
  refine ev_go 4 (pc' := 58) (L' := [some (.ref 89), some (.int x359)]) (st' := [.int 1, .ref 90, .ref 89]) (h' := (HM P (u_m_load (u_m_volume (u_m_weight (u_m_kind w v360) v361) v362) v363) T)) (cs' := 0) (sl' := 0) rfl ?_
  obtain ⟨v364, hq, h⟩ := ai_bdE h
  refine ev_iald rfl rfl hq ?_
  refine ev_step rfl rfl rfl (PFM_8_189_89 rfl) ?_
  refine ev_go 2 (pc' := 64) (L' := [some (.ref 89), some (.int x359)]) (st' := [.int 0, .ref 89]) (h' := (HM P (u_m_hour (u_m_load (u_m_volume (u_m_weight (u_m_kind w v360) v361) v362) v363) v364) T)) (cs' := 0) (sl' := 0) rfl ?_
  refine ev_step rfl rfl rfl (PFM_8_192_89 rfl) ?_
  obtain rfl := Option.some.inj h
  exact ev_end rfl
set_option maxHeartbeats 40000000 in
set_option maxRecDepth 100000 in
theorem Em_lesser (x366 : Int32) (x367 : Int32) (r : Int32) (h : Fm_lesser x366 x367 = some r) (hh : ai_H) : ai_ev D1 mm_lesser 0 [some (.int x366), some (.int x367)] [] hh 0 0 (some (.int r), hh) := by
  unfold Fm_lesser at h
  refine ev_go 2 (pc' := 2) (L' := [some (.int x366), some (.int x367)]) (st' := [.int x367, .int x366]) (h' := hh) (cs' := 0) (sl' := 0) rfl ?_
  rcases ai_ifE h with ⟨hc, h⟩ | ⟨hc, h⟩
  · refine ev_ic_ge (t := 9) rfl rfl (fun _ => ?_) (fun c9 => absurd hc c9)
    refine ev_go 1 (pc' := 10) (L' := [some (.int x366), some (.int x367)]) (st' := [.int x367]) (h' := hh) (cs' := 0) (sl' := 0) rfl ?_
    obtain rfl := Option.some.inj h
    exact ev_end rfl
  · refine ev_ic_ge (t := 9) rfl rfl (fun c9 => absurd c9 hc) (fun _ => ?_)
    refine ev_go 2 (pc' := 10) (L' := [some (.int x366), some (.int x367)]) (st' := [.int x366]) (h' := hh) (cs' := 0) (sl' := 0) rfl ?_
    obtain rfl := Option.some.inj h
    exact ev_end rfl
set_option maxHeartbeats 40000000 in
set_option maxRecDepth 100000 in
theorem Em_room_89 (w : WM) (r : Int32) (w' : WM) (h : Fm_room_89 w = some (r, w')) (P : Nat → ai_E) (T : ai_H) : ai_ev D1 mm_room 0 [some (.ref 89)] [] (HM P w T) 0 0 (some (.int r), HM P w' T) := by
  unfold Fm_room_89 at h
  refine ev_go 5 (pc' := 9) (L' := [some (.ref 89)]) (st' := [.int 2, .int (a_m_kind w), .int (a_m_volume w)]) (h' := (HM P w T)) (cs' := 0) (sl' := 0) rfl ?_
  rcases ai_ifE h with ⟨hc, h⟩ | ⟨hc, h⟩
  · refine ev_ic_eq (t := 20) rfl rfl (fun _ => ?_) (fun c9 => absurd hc c9)
    refine ev_go 3 (pc' := 47) (L' := [some (.ref 89)]) (st' := [.int ((a_m_volume w) + 1)]) (h' := (HM P w T)) (cs' := 0) (sl' := 0) rfl ?_
    obtain ⟨rfl, rfl⟩ := ai_smP h
    exact ev_end rfl
  · refine ev_ic_eq (t := 20) rfl rfl (fun c9 => absurd c9 hc) (fun _ => ?_)
    refine ev_go 3 (pc' := 17) (L' := [some (.ref 89)]) (st' := [.int 3, .int (a_m_kind w), .int (a_m_volume w)]) (h' := (HM P w T)) (cs' := 0) (sl' := 0) rfl ?_
    rcases ai_ifE h with ⟨hc, h⟩ | ⟨hc, h⟩
    · refine ev_ic_ne (t := 24) rfl rfl (fun c9 => absurd hc c9) (fun _ => ?_)
      refine ev_go 3 (pc' := 47) (L' := [some (.ref 89)]) (st' := [.int ((a_m_volume w) + 1)]) (h' := (HM P w T)) (cs' := 0) (sl' := 0) rfl ?_
      obtain ⟨rfl, rfl⟩ := ai_smP h
      exact ev_end rfl
    · refine ev_ic_ne (t := 24) rfl rfl (fun _ => ?_) (fun c9 => absurd c9 hc)
      refine ev_go 3 (pc' := 29) (L' := [some (.ref 89)]) (st' := [.int 4, .int (a_m_kind w), .int (a_m_volume w)]) (h' := (HM P w T)) (cs' := 0) (sl' := 0) rfl ?_
      rcases ai_ifE h with ⟨hc, h⟩ | ⟨hc, h⟩
      · refine ev_ic_ne (t := 45) rfl rfl (fun c9 => absurd hc c9) (fun _ => ?_)
        refine ev_go 5 (pc' := 39) (L' := [some (.ref 89)]) (st' := [.int 5, .int ((a_m_hour w) / 4), .int (a_m_volume w)]) (h' := (HM P w T)) (cs' := 0) (sl' := 0) rfl ?_
        obtain ⟨c368, hq, h⟩ := ai_bdE h
        refine ev_call (M' := mm_lesser) (L' := [some (.int ((a_m_hour w) / 4)), some (.int 5)]) (rest := [.int (a_m_volume w)]) (rv := some (.int c368)) (h' := (HM P w T)) rfl (Em_lesser ((a_m_hour w) / 4) 5 _ hq (HM P w T)) ?_
        show ai_ev D1 mm_room 42 [some (.ref 89)] [.int c368, .int (a_m_volume w)] (HM P w T) 0 0 _
        refine ev_go 2 (pc' := 47) (L' := [some (.ref 89)]) (st' := [.int ((a_m_volume w) + c368)]) (h' := (HM P w T)) (cs' := 0) (sl' := 0) rfl ?_
        obtain ⟨rfl, rfl⟩ := ai_smP h
        exact ev_end rfl
      · refine ev_ic_ne (t := 45) rfl rfl (fun _ => ?_) (fun c9 => absurd c9 hc)
        refine ev_go 2 (pc' := 47) (L' := [some (.ref 89)]) (st' := [.int ((a_m_volume w) + 0)]) (h' := (HM P w T)) (cs' := 0) (sl' := 0) rfl ?_
        obtain ⟨rfl, rfl⟩ := ai_smP h
        exact ev_end rfl
set_option maxHeartbeats 40000000 in
set_option maxRecDepth 100000 in
theorem Em_weighs_89 (w : WM) (r : Int32) (w' : WM) (h : Fm_weighs_89 w = some (r, w')) (P : Nat → ai_E) (T : ai_H) : ai_ev D1 mm_weighs 0 [some (.ref 89), none] [] (HM P w T) 0 0 (some (.int r), HM P w' T) := by
  unfold Fm_weighs_89 at h
  refine ev_go 5 (pc' := 9) (L' := [some (.ref 89), none]) (st' := [.int 1, .int (a_m_kind w), .int (a_m_weight w)]) (h' := (HM P w T)) (cs' := 0) (sl' := 0) rfl ?_
  rcases ai_ifE h with ⟨hc, h⟩ | ⟨hc, h⟩
  · refine ev_ic_eq (t := 28) rfl rfl (fun _ => ?_) (fun c9 => absurd hc c9)
    refine ev_go 9 (pc' := 44) (L' := [some (.ref 89), some (.int ((a_m_weight w) + (a_m_load w)))]) (st' := [.int 3, .int (a_m_kind w), .int ((a_m_weight w) + (a_m_load w))]) (h' := (HM P w T)) (cs' := 0) (sl' := 0) rfl ?_
    rcases ai_ifE h with ⟨hc, h⟩ | ⟨hc, h⟩
    · refine ev_ic_ne (t := 61) rfl rfl (fun c9 => absurd hc c9) (fun _ => ?_)
      refine ev_go 4 (pc' := 54) (L' := [some (.ref 89), some (.int ((a_m_weight w) + (a_m_load w)))]) (st' := [.int 10, .int (a_m_hour w), .int 2, .int ((a_m_weight w) + (a_m_load w))]) (h' := (HM P w T)) (cs' := 0) (sl' := 0) rfl ?_
      obtain ⟨c370, hq, h⟩ := ai_bdE h
      refine ev_call (M' := mm_lesser) (L' := [some (.int (a_m_hour w)), some (.int 10)]) (rest := [.int 2, .int ((a_m_weight w) + (a_m_load w))]) (rv := some (.int c370)) (h' := (HM P w T)) rfl (Em_lesser (a_m_hour w) 10 _ hq (HM P w T)) ?_
      show ai_ev D1 mm_weighs 57 [some (.ref 89), some (.int ((a_m_weight w) + (a_m_load w)))] [.int c370, .int 2, .int ((a_m_weight w) + (a_m_load w))] (HM P w T) 0 0 _
      refine ev_go 3 (pc' := 63) (L' := [some (.ref 89), some (.int ((a_m_weight w) + (a_m_load w)))]) (st' := [.int (((a_m_weight w) + (a_m_load w)) + (2 * c370))]) (h' := (HM P w T)) (cs' := 0) (sl' := 0) rfl ?_
      obtain ⟨rfl, rfl⟩ := ai_smP h
      exact ev_end rfl
    · refine ev_ic_ne (t := 61) rfl rfl (fun _ => ?_) (fun c9 => absurd c9 hc)
      refine ev_go 2 (pc' := 63) (L' := [some (.ref 89), some (.int ((a_m_weight w) + (a_m_load w)))]) (st' := [.int (((a_m_weight w) + (a_m_load w)) + 0)]) (h' := (HM P w T)) (cs' := 0) (sl' := 0) rfl ?_
      obtain ⟨rfl, rfl⟩ := ai_smP h
      exact ev_end rfl
  · refine ev_ic_eq (t := 28) rfl rfl (fun c9 => absurd c9 hc) (fun _ => ?_)
    refine ev_go 3 (pc' := 17) (L' := [some (.ref 89), none]) (st' := [.int 2, .int (a_m_kind w), .int (a_m_weight w)]) (h' := (HM P w T)) (cs' := 0) (sl' := 0) rfl ?_
    rcases ai_ifE h with ⟨hc, h⟩ | ⟨hc, h⟩
    · refine ev_ic_eq (t := 28) rfl rfl (fun _ => ?_) (fun c9 => absurd hc c9)
      refine ev_go 9 (pc' := 44) (L' := [some (.ref 89), some (.int ((a_m_weight w) + (a_m_load w)))]) (st' := [.int 3, .int (a_m_kind w), .int ((a_m_weight w) + (a_m_load w))]) (h' := (HM P w T)) (cs' := 0) (sl' := 0) rfl ?_
      rcases ai_ifE h with ⟨hc, h⟩ | ⟨hc, h⟩
      · refine ev_ic_ne (t := 61) rfl rfl (fun c9 => absurd hc c9) (fun _ => ?_)
        refine ev_go 4 (pc' := 54) (L' := [some (.ref 89), some (.int ((a_m_weight w) + (a_m_load w)))]) (st' := [.int 10, .int (a_m_hour w), .int 2, .int ((a_m_weight w) + (a_m_load w))]) (h' := (HM P w T)) (cs' := 0) (sl' := 0) rfl ?_
        obtain ⟨c371, hq, h⟩ := ai_bdE h
        refine ev_call (M' := mm_lesser) (L' := [some (.int (a_m_hour w)), some (.int 10)]) (rest := [.int 2, .int ((a_m_weight w) + (a_m_load w))]) (rv := some (.int c371)) (h' := (HM P w T)) rfl (Em_lesser (a_m_hour w) 10 _ hq (HM P w T)) ?_
        show ai_ev D1 mm_weighs 57 [some (.ref 89), some (.int ((a_m_weight w) + (a_m_load w)))] [.int c371, .int 2, .int ((a_m_weight w) + (a_m_load w))] (HM P w T) 0 0 _
        refine ev_go 3 (pc' := 63) (L' := [some (.ref 89), some (.int ((a_m_weight w) + (a_m_load w)))]) (st' := [.int (((a_m_weight w) + (a_m_load w)) + (2 * c371))]) (h' := (HM P w T)) (cs' := 0) (sl' := 0) rfl ?_
        obtain ⟨rfl, rfl⟩ := ai_smP h
        exact ev_end rfl
      · refine ev_ic_ne (t := 61) rfl rfl (fun _ => ?_) (fun c9 => absurd c9 hc)
        refine ev_go 2 (pc' := 63) (L' := [some (.ref 89), some (.int ((a_m_weight w) + (a_m_load w)))]) (st' := [.int (((a_m_weight w) + (a_m_load w)) + 0)]) (h' := (HM P w T)) (cs' := 0) (sl' := 0) rfl ?_
        obtain ⟨rfl, rfl⟩ := ai_smP h
        exact ev_end rfl
    · refine ev_ic_eq (t := 28) rfl rfl (fun c9 => absurd c9 hc) (fun _ => ?_)
      refine ev_go 3 (pc' := 25) (L' := [some (.ref 89), none]) (st' := [.int 3, .int (a_m_kind w), .int (a_m_weight w)]) (h' := (HM P w T)) (cs' := 0) (sl' := 0) rfl ?_
      rcases ai_ifE h with ⟨hc, h⟩ | ⟨hc, h⟩
      · refine ev_ic_ne (t := 35) rfl rfl (fun c9 => absurd hc c9) (fun _ => ?_)
        refine ev_go 9 (pc' := 44) (L' := [some (.ref 89), some (.int ((a_m_weight w) + (a_m_load w)))]) (st' := [.int 3, .int (a_m_kind w), .int ((a_m_weight w) + (a_m_load w))]) (h' := (HM P w T)) (cs' := 0) (sl' := 0) rfl ?_
        rcases ai_ifE h with ⟨hc, h⟩ | ⟨hc, h⟩
        · refine ev_ic_ne (t := 61) rfl rfl (fun c9 => absurd hc c9) (fun _ => ?_)
          refine ev_go 4 (pc' := 54) (L' := [some (.ref 89), some (.int ((a_m_weight w) + (a_m_load w)))]) (st' := [.int 10, .int (a_m_hour w), .int 2, .int ((a_m_weight w) + (a_m_load w))]) (h' := (HM P w T)) (cs' := 0) (sl' := 0) rfl ?_
          obtain ⟨c373, hq, h⟩ := ai_bdE h
          refine ev_call (M' := mm_lesser) (L' := [some (.int (a_m_hour w)), some (.int 10)]) (rest := [.int 2, .int ((a_m_weight w) + (a_m_load w))]) (rv := some (.int c373)) (h' := (HM P w T)) rfl (Em_lesser (a_m_hour w) 10 _ hq (HM P w T)) ?_
          show ai_ev D1 mm_weighs 57 [some (.ref 89), some (.int ((a_m_weight w) + (a_m_load w)))] [.int c373, .int 2, .int ((a_m_weight w) + (a_m_load w))] (HM P w T) 0 0 _
          refine ev_go 3 (pc' := 63) (L' := [some (.ref 89), some (.int ((a_m_weight w) + (a_m_load w)))]) (st' := [.int (((a_m_weight w) + (a_m_load w)) + (2 * c373))]) (h' := (HM P w T)) (cs' := 0) (sl' := 0) rfl ?_
          obtain ⟨rfl, rfl⟩ := ai_smP h
          exact ev_end rfl
        · refine ev_ic_ne (t := 61) rfl rfl (fun _ => ?_) (fun c9 => absurd c9 hc)
          refine ev_go 2 (pc' := 63) (L' := [some (.ref 89), some (.int ((a_m_weight w) + (a_m_load w)))]) (st' := [.int (((a_m_weight w) + (a_m_load w)) + 0)]) (h' := (HM P w T)) (cs' := 0) (sl' := 0) rfl ?_
          obtain ⟨rfl, rfl⟩ := ai_smP h
          exact ev_end rfl
      · refine ev_ic_ne (t := 35) rfl rfl (fun _ => ?_) (fun c9 => absurd c9 hc)
        refine ev_go 7 (pc' := 44) (L' := [some (.ref 89), some (.int ((a_m_weight w) + 0))]) (st' := [.int 3, .int (a_m_kind w), .int ((a_m_weight w) + 0)]) (h' := (HM P w T)) (cs' := 0) (sl' := 0) rfl ?_
        rcases ai_ifE h with ⟨hc, h⟩ | ⟨hc, h⟩
        · refine ev_ic_ne (t := 61) rfl rfl (fun c9 => absurd hc c9) (fun _ => ?_)
          refine ev_go 4 (pc' := 54) (L' := [some (.ref 89), some (.int ((a_m_weight w) + 0))]) (st' := [.int 10, .int (a_m_hour w), .int 2, .int ((a_m_weight w) + 0)]) (h' := (HM P w T)) (cs' := 0) (sl' := 0) rfl ?_
          obtain ⟨c372, hq, h⟩ := ai_bdE h
          refine ev_call (M' := mm_lesser) (L' := [some (.int (a_m_hour w)), some (.int 10)]) (rest := [.int 2, .int ((a_m_weight w) + 0)]) (rv := some (.int c372)) (h' := (HM P w T)) rfl (Em_lesser (a_m_hour w) 10 _ hq (HM P w T)) ?_
          show ai_ev D1 mm_weighs 57 [some (.ref 89), some (.int ((a_m_weight w) + 0))] [.int c372, .int 2, .int ((a_m_weight w) + 0)] (HM P w T) 0 0 _
          refine ev_go 3 (pc' := 63) (L' := [some (.ref 89), some (.int ((a_m_weight w) + 0))]) (st' := [.int (((a_m_weight w) + 0) + (2 * c372))]) (h' := (HM P w T)) (cs' := 0) (sl' := 0) rfl ?_
          obtain ⟨rfl, rfl⟩ := ai_smP h
          exact ev_end rfl
        · refine ev_ic_ne (t := 61) rfl rfl (fun _ => ?_) (fun c9 => absurd c9 hc)
          refine ev_go 2 (pc' := 63) (L' := [some (.ref 89), some (.int ((a_m_weight w) + 0))]) (st' := [.int (((a_m_weight w) + 0) + 0)]) (h' := (HM P w T)) (cs' := 0) (sl' := 0) rfl ?_
          obtain ⟨rfl, rfl⟩ := ai_smP h
          exact ev_end rfl
set_option maxHeartbeats 40000000 in
set_option maxRecDepth 100000 in
theorem Em_of_89 (x354 : Int32) (x355 : Int32) (w : WM) (r : Int32) (w' : WM) (h : Fm_of_89 x354 x355 w = some (r, w')) (P : Nat → ai_E) (T : ai_H) : ai_ev D1 mm_of 0 [some (.ref 89), some (.int x354), some (.int x355)] [] (HM P w T) 0 0 (some (.int r), HM P w' T) := by
  unfold Fm_of_89 at h
  refine ev_go 2 (pc' := 2) (L' := [some (.ref 89), some (.int x354), some (.int x355)]) (st' := [.int x354, .ref 89]) (h' := (HM P w T)) (cs' := 0) (sl' := 0) rfl ?_
  obtain ⟨c356, hq, h⟩ := ai_bdE h
  refine ev_call (M' := mm_isThing) (L' := [some (.ref 89), some (.int x354)]) (rest := []) (rv := some (.int c356.1)) (h' := (HM P c356.2 T)) rfl (Em_isThing_89 x354 w _ _ hq P T) ?_
  show ai_ev D1 mm_of 5 [some (.ref 89), some (.int x354), some (.int x355)] [.int c356.1] (HM P c356.2 T) 0 0 _
  rcases ai_ifE h with ⟨hc, h⟩ | ⟨hc, h⟩
  · refine ev_if_eq (t := 20) rfl rfl (fun _ => ?_) (fun c9 => absurd hc c9)
    refine ev_go 1 (pc' := 21) (L' := [some (.ref 89), some (.int x354), some (.int x355)]) (st' := [.ref 89]) (h' := (HM P c356.2 T)) (cs' := 0) (sl' := 0) rfl ?_
    obtain ⟨c357, hq, h⟩ := ai_bdE h
    refine ev_call (M' := mm_bad) (L' := [some (.ref 89)]) (rest := []) (rv := some (.int c357.1)) (h' := (HM P c357.2 T)) rfl (Em_bad_89 c356.2 _ _ hq P T) ?_
    show ai_ev D1 mm_of 24 [some (.ref 89), some (.int x354), some (.int x355)] [.int c357.1] (HM P c357.2 T) 0 0 _
    obtain ⟨rfl, rfl⟩ := ai_smP h
    exact ev_end rfl
  · refine ev_if_eq (t := 20) rfl rfl (fun c9 => absurd c9 hc) (fun _ => ?_)
    refine ev_go 4 (pc' := 14) (L' := [some (.ref 89), some (.int x354), some (.int x355)]) (st' := [.long 2, .long 0, .long (x355).toInt64]) (h' := (HM P c356.2 T)) (cs' := 0) (sl' := 0) rfl ?_
    obtain ⟨c358, hq, h⟩ := ai_bdE h
    refine ev_call (M' := mm_in) (L' := [some (.long (x355).toInt64), none, some (.long 0), none, some (.long 2), none]) (rest := []) (rv := some (.int c358)) (h' := (HM P c356.2 T)) rfl (Em_in (x355).toInt64 0 2 _ hq (HM P c356.2 T)) ?_
    show ai_ev D1 mm_of 17 [some (.ref 89), some (.int x354), some (.int x355)] [.int c358] (HM P c356.2 T) 0 0 _
    rcases ai_ifE h with ⟨hc, h⟩ | ⟨hc, h⟩
    · refine ev_if_ne (t := 25) rfl rfl (fun c9 => absurd hc c9) (fun _ => ?_)
      refine ev_go 1 (pc' := 21) (L' := [some (.ref 89), some (.int x354), some (.int x355)]) (st' := [.ref 89]) (h' := (HM P c356.2 T)) (cs' := 0) (sl' := 0) rfl ?_
      obtain ⟨c375, hq, h⟩ := ai_bdE h
      refine ev_call (M' := mm_bad) (L' := [some (.ref 89)]) (rest := []) (rv := some (.int c375.1)) (h' := (HM P c375.2 T)) rfl (Em_bad_89 c356.2 _ _ hq P T) ?_
      show ai_ev D1 mm_of 24 [some (.ref 89), some (.int x354), some (.int x355)] [.int c375.1] (HM P c375.2 T) 0 0 _
      obtain ⟨rfl, rfl⟩ := ai_smP h
      exact ev_end rfl
    · refine ev_if_ne (t := 25) rfl rfl (fun _ => ?_) (fun c9 => absurd c9 hc)
      refine ev_go 2 (pc' := 27) (L' := [some (.ref 89), some (.int x354), some (.int x355)]) (st' := [.int x354, .ref 89]) (h' := (HM P c356.2 T)) (cs' := 0) (sl' := 0) rfl ?_
      obtain ⟨c365, hq, h⟩ := ai_bdE h
      refine ev_call (M' := mm_lay) (L' := [some (.ref 89), some (.int x354)]) (rest := []) (rv := none) (h' := (HM P c365 T)) rfl (Em_lay_89 x354 c356.2 _ hq P T) ?_
      show ai_ev D1 mm_of 30 [some (.ref 89), some (.int x354), some (.int x355)] [] (HM P c365 T) 0 0 _
      refine ev_go 1 (pc' := 31) (L' := [some (.ref 89), some (.int x354), some (.int x355)]) (st' := [.int x355]) (h' := (HM P c365 T)) (cs' := 0) (sl' := 0) rfl ?_
      rcases ai_ifE h with ⟨hc, h⟩ | ⟨hc, h⟩
      · refine ev_if_ne (t := 41) rfl rfl (fun c9 => absurd hc c9) (fun _ => ?_)
        refine ev_go 3 (pc' := 57) (L' := [some (.ref 89), some (.int x354), some (.int x355)]) (st' := [.int (a_m_kind c365)]) (h' := (HM P c365 T)) (cs' := 0) (sl' := 0) rfl ?_
        obtain ⟨rfl, rfl⟩ := ai_smP h
        exact ev_end rfl
      · refine ev_if_ne (t := 41) rfl rfl (fun _ => ?_) (fun c9 => absurd c9 hc)
        refine ev_go 2 (pc' := 43) (L' := [some (.ref 89), some (.int x354), some (.int x355)]) (st' := [.int 1, .int x355]) (h' := (HM P c365 T)) (cs' := 0) (sl' := 0) rfl ?_
        rcases ai_ifE h with ⟨hc, h⟩ | ⟨hc, h⟩
        · refine ev_ic_ne (t := 53) rfl rfl (fun c9 => absurd hc c9) (fun _ => ?_)
          refine ev_go 1 (pc' := 47) (L' := [some (.ref 89), some (.int x354), some (.int x355)]) (st' := [.ref 89]) (h' := (HM P c365 T)) (cs' := 0) (sl' := 0) rfl ?_
          obtain ⟨c374, hq, h⟩ := ai_bdE h
          refine ev_call (M' := mm_weighs) (L' := [some (.ref 89), none]) (rest := []) (rv := some (.int c374.1)) (h' := (HM P c374.2 T)) rfl (Em_weighs_89 c365 _ _ hq P T) ?_
          show ai_ev D1 mm_of 50 [some (.ref 89), some (.int x354), some (.int x355)] [.int c374.1] (HM P c374.2 T) 0 0 _
          refine ev_go 1 (pc' := 57) (L' := [some (.ref 89), some (.int x354), some (.int x355)]) (st' := [.int c374.1]) (h' := (HM P c374.2 T)) (cs' := 0) (sl' := 0) rfl ?_
          obtain ⟨rfl, rfl⟩ := ai_smP h
          exact ev_end rfl
        · refine ev_ic_ne (t := 53) rfl rfl (fun _ => ?_) (fun c9 => absurd c9 hc)
          refine ev_go 1 (pc' := 54) (L' := [some (.ref 89), some (.int x354), some (.int x355)]) (st' := [.ref 89]) (h' := (HM P c365 T)) (cs' := 0) (sl' := 0) rfl ?_
          obtain ⟨c369, hq, h⟩ := ai_bdE h
          refine ev_call (M' := mm_room) (L' := [some (.ref 89)]) (rest := []) (rv := some (.int c369.1)) (h' := (HM P c369.2 T)) rfl (Em_room_89 c365 _ _ hq P T) ?_
          show ai_ev D1 mm_of 57 [some (.ref 89), some (.int x354), some (.int x355)] [.int c369.1] (HM P c369.2 T) 0 0 _
          obtain ⟨rfl, rfl⟩ := ai_smP h
          exact ev_end rfl
set_option maxHeartbeats 40000000 in
set_option maxRecDepth 100000 in
theorem Em_isCell_89 (x380 : Int32) (w : WM) (r : Int32) (w' : WM) (h : Fm_isCell_89 x380 w = some (r, w')) (P : Nat → ai_E) (T : ai_H) : ai_ev D1 mm_isCell 0 [some (.ref 89), some (.int x380)] [] (HM P w T) 0 0 (some (.int r), HM P w' T) := by
  unfold Fm_isCell_89 at h
  refine ev_go 3 (pc' := 3) (L' := [some (.ref 89), some (.int x380)]) (st' := [.int x380, .int 0, .ref 89]) (h' := (HM P w T)) (cs' := 0) (sl' := 0) rfl ?_
  obtain ⟨c381, hq, h⟩ := ai_bdE h
  refine ev_call (M' := mm_isCellOf) (L' := [some (.ref 89), some (.int 0), some (.int x380)]) (rest := []) (rv := some (.int c381.1)) (h' := (HM P c381.2 T)) rfl (Em_isCellOf_89 0 x380 w _ _ hq P T) ?_
  show ai_ev D1 mm_isCell 6 [some (.ref 89), some (.int x380)] [.int c381.1] (HM P c381.2 T) 0 0 _
  obtain ⟨hv, h⟩ := ai_ifS h
  obtain ⟨rfl, rfl⟩ := ai_smP h
  exact ev_zend rfl rfl rfl hv
set_option maxHeartbeats 40000000 in
set_option maxRecDepth 100000 in
theorem Em_thickIn_89 (x385 : Int32) (x386 : Int32) (x387 : Int32) (w : WM) (r : Int32) (w' : WM) (h : Fm_thickIn_89 x385 x386 x387 w = some (r, w')) (P : Nat → ai_E) (T : ai_H) : ai_ev D1 mm_thickIn 0 [some (.ref 89), some (.int x385), some (.int x386), some (.int x387), none] [] (HM P w T) 0 0 (some (.int r), HM P w' T) := by
  unfold Fm_thickIn_89 at h
  refine ev_go 9 (pc' := 13) (L' := [some (.ref 89), some (.int x385), some (.int x386), some (.int x387), none]) (st' := [.int ((40 + (6 * x385)) + x386), .ref 90]) (h' := (HM P w T)) (cs' := 0) (sl' := 0) rfl ?_
  obtain ⟨v388, hq, h⟩ := ai_bdE h
  refine ev_iald rfl rfl hq ?_
  refine ev_go 11 (pc' := 30) (L' := [some (.ref 89), some (.int x385), some (.int x386), some (.int x387), none]) (st' := [.int ((16 + (6 * x385)) + (x387 - x387 / 6 * 6)), .ref 90, .int v388]) (h' := (HM P w T)) (cs' := 0) (sl' := 0) rfl ?_
  obtain ⟨v389, hq, h⟩ := ai_bdE h
  refine ev_iald rfl rfl hq ?_
  refine ev_go 3 (pc' := 36) (L' := [some (.ref 89), some (.int x385), some (.int x386), some (.int x387), some (.int (v388 + v389))]) (st' := [.int (v388 + v389)]) (h' := (HM P w T)) (cs' := 0) (sl' := 0) rfl ?_
  rcases ai_ifE h with ⟨hc, h⟩ | ⟨hc, h⟩
  · refine ev_if_ge (t := 43) rfl rfl (fun _ => ?_) (fun c9 => absurd hc c9)
    refine ev_go 1 (pc' := 45) (L' := [some (.ref 89), some (.int x385), some (.int x386), some (.int x387), some (.int (v388 + v389))]) (st' := [.int (v388 + v389)]) (h' := (HM P w T)) (cs' := 0) (sl' := 0) rfl ?_
    obtain ⟨rfl, rfl⟩ := ai_smP h
    exact ev_end rfl
  · refine ev_if_ge (t := 43) rfl rfl (fun c9 => absurd c9 hc) (fun _ => ?_)
    refine ev_go 2 (pc' := 45) (L' := [some (.ref 89), some (.int x385), some (.int x386), some (.int x387), some (.int (v388 + v389))]) (st' := [.int 0]) (h' := (HM P w T)) (cs' := 0) (sl' := 0) rfl ?_
    obtain ⟨rfl, rfl⟩ := ai_smP h
    exact ev_end rfl
set_option maxHeartbeats 40000000 in
set_option maxRecDepth 100000 in
theorem Em_deep_89 (x376 : Int32) (x377 : Int32) (w : WM) (r : Int32) (w' : WM) (h : Fm_deep_89 x376 x377 w = some (r, w')) (P : Nat → ai_E) (T : ai_H) : ai_ev D1 mm_deep 0 [some (.ref 89), some (.int x376), some (.int x377)] [] (HM P w T) 0 0 (some (.int r), HM P w' T) := by
  unfold Fm_deep_89 at h
  refine ev_go 1 (pc' := 1) (L' := [some (.ref 89), some (.int x376), some (.int x377)]) (st' := [.int x376]) (h' := (HM P w T)) (cs' := 0) (sl' := 0) rfl ?_
  obtain ⟨c378, hq, h⟩ := ai_bdE h
  refine ev_call (M' := mm_isLayer) (L' := [some (.int x376)]) (rest := []) (rv := some (.int c378)) (h' := (HM P w T)) rfl (Em_isLayer x376 _ hq (HM P w T)) ?_
  show ai_ev D1 mm_deep 4 [some (.ref 89), some (.int x376), some (.int x377)] [.int c378] (HM P w T) 0 0 _
  rcases ai_ifE h with ⟨hc, h⟩ | ⟨hc, h⟩
  · refine ev_if_eq (t := 30) rfl rfl (fun _ => ?_) (fun c9 => absurd hc c9)
    refine ev_go 1 (pc' := 31) (L' := [some (.ref 89), some (.int x376), some (.int x377)]) (st' := [.ref 89]) (h' := (HM P w T)) (cs' := 0) (sl' := 0) rfl ?_
    obtain ⟨c379, hq, h⟩ := ai_bdE h
    refine ev_call (M' := mm_bad) (L' := [some (.ref 89)]) (rest := []) (rv := some (.int c379.1)) (h' := (HM P c379.2 T)) rfl (Em_bad_89 w _ _ hq P T) ?_
    show ai_ev D1 mm_deep 34 [some (.ref 89), some (.int x376), some (.int x377)] [.int c379.1] (HM P c379.2 T) 0 0 _
    obtain ⟨rfl, rfl⟩ := ai_smP h
    exact ev_end rfl
  · refine ev_if_eq (t := 30) rfl rfl (fun c9 => absurd c9 hc) (fun _ => ?_)
    refine ev_go 2 (pc' := 9) (L' := [some (.ref 89), some (.int x376), some (.int x377)]) (st' := [.int x377, .ref 89]) (h' := (HM P w T)) (cs' := 0) (sl' := 0) rfl ?_
    obtain ⟨c382, hq, h⟩ := ai_bdE h
    refine ev_call (M' := mm_isCell) (L' := [some (.ref 89), some (.int x377)]) (rest := []) (rv := some (.int c382.1)) (h' := (HM P c382.2 T)) rfl (Em_isCell_89 x377 w _ _ hq P T) ?_
    show ai_ev D1 mm_deep 12 [some (.ref 89), some (.int x376), some (.int x377)] [.int c382.1] (HM P c382.2 T) 0 0 _
    rcases ai_ifE h with ⟨hc, h⟩ | ⟨hc, h⟩
    · refine ev_if_eq (t := 30) rfl rfl (fun _ => ?_) (fun c9 => absurd hc c9)
      refine ev_go 1 (pc' := 31) (L' := [some (.ref 89), some (.int x376), some (.int x377)]) (st' := [.ref 89]) (h' := (HM P c382.2 T)) (cs' := 0) (sl' := 0) rfl ?_
      obtain ⟨c383, hq, h⟩ := ai_bdE h
      refine ev_call (M' := mm_bad) (L' := [some (.ref 89)]) (rest := []) (rv := some (.int c383.1)) (h' := (HM P c383.2 T)) rfl (Em_bad_89 c382.2 _ _ hq P T) ?_
      show ai_ev D1 mm_deep 34 [some (.ref 89), some (.int x376), some (.int x377)] [.int c383.1] (HM P c383.2 T) 0 0 _
      obtain ⟨rfl, rfl⟩ := ai_smP h
      exact ev_end rfl
    · refine ev_if_eq (t := 30) rfl rfl (fun c9 => absurd c9 hc) (fun _ => ?_)
      refine ev_go 6 (pc' := 23) (L' := [some (.ref 89), some (.int x376), some (.int x377)]) (st' := [.int 1, .ref 90, .int x377, .int x376, .ref 89]) (h' := (HM P c382.2 T)) (cs' := 0) (sl' := 0) rfl ?_
      obtain ⟨v384, hq, h⟩ := ai_bdE h
      refine ev_iald rfl rfl hq ?_
      obtain ⟨c390, hq, h⟩ := ai_bdE h
      refine ev_call (M' := mm_thickIn) (L' := [some (.ref 89), some (.int x376), some (.int x377), some (.int v384), none]) (rest := []) (rv := some (.int c390.1)) (h' := (HM P c390.2 T)) rfl (Em_thickIn_89 x376 x377 v384 c382.2 _ _ hq P T) ?_
      show ai_ev D1 mm_deep 27 [some (.ref 89), some (.int x376), some (.int x377)] [.int c390.1] (HM P c390.2 T) 0 0 _
      refine ev_go 1 (pc' := 34) (L' := [some (.ref 89), some (.int x376), some (.int x377)]) (st' := [.int c390.1]) (h' := (HM P c390.2 T)) (cs' := 0) (sl' := 0) rfl ?_
      obtain ⟨rfl, rfl⟩ := ai_smP h
      exact ev_end rfl
set_option maxHeartbeats 40000000 in
set_option maxRecDepth 100000 in
theorem Em_breaks_89 (x425 : Int32) (w : WM) (r : Int32) (w' : WM) (h : Fm_breaks_89 x425 w = some (r, w')) (P : Nat → ai_E) (T : ai_H) : ai_ev D1 mm_breaks 0 [some (.ref 89), some (.int x425), none] [] (HM P w T) 0 0 (some (.int r), HM P w' T) := by
  unfold Fm_breaks_89 at h
  refine ev_go 3 (pc' := 5) (L' := [some (.ref 89), some (.int x425), none]) (st' := [.int x425, .int (a_m_torn w)]) (h' := (HM P w T)) (cs' := 0) (sl' := 0) rfl ?_
  obtain ⟨c426, hq, h⟩ := ai_bdE h
  refine ev_call (M' := mm_has) (L' := [some (.int (a_m_torn w)), some (.int x425)]) (rest := []) (rv := some (.int c426)) (h' := (HM P w T)) rfl (Em_has (a_m_torn w) x425 _ hq (HM P w T)) ?_
  show ai_ev D1 mm_breaks 8 [some (.ref 89), some (.int x425), none] [.int c426] (HM P w T) 0 0 _
  rcases ai_ifE h with ⟨hc, h⟩ | ⟨hc, h⟩
  · refine ev_if_eq (t := 13) rfl rfl (fun _ => ?_) (fun c9 => absurd hc c9)
    refine ev_go 5 (pc' := 21) (L' := [some (.ref 89), some (.int x425), none]) (st' := [.int (64 + x425), .ref 90]) (h' := (HM P w T)) (cs' := 0) (sl' := 0) rfl ?_
    obtain ⟨v427, hq, h⟩ := ai_bdE h
    refine ev_iald rfl rfl hq ?_
    refine ev_go 4 (pc' := 28) (L' := [some (.ref 89), some (.int x425), some (.int v427)]) (st' := [.int 3, .int (a_m_kind w)]) (h' := (HM P w T)) (cs' := 0) (sl' := 0) rfl ?_
    rcases ai_ifE h with ⟨hc, h⟩ | ⟨hc, h⟩
    · refine ev_ic_eq (t := 64) rfl rfl (fun _ => ?_) (fun c9 => absurd hc c9)
      refine ev_go 2 (pc' := 69) (L' := [some (.ref 89), some (.int x425), some (.int v427)]) (st' := [.int 1]) (h' := (HM P w T)) (cs' := 0) (sl' := 0) rfl ?_
      obtain ⟨rfl, rfl⟩ := ai_smP h
      exact ev_end rfl
    · refine ev_ic_eq (t := 64) rfl rfl (fun c9 => absurd c9 hc) (fun _ => ?_)
      refine ev_go 3 (pc' := 36) (L' := [some (.ref 89), some (.int x425), some (.int v427)]) (st' := [.int 5, .int (a_m_kind w)]) (h' := (HM P w T)) (cs' := 0) (sl' := 0) rfl ?_
      rcases ai_ifE h with ⟨hc, h⟩ | ⟨hc, h⟩
      · refine ev_ic_eq (t := 68) rfl rfl (fun _ => ?_) (fun c9 => absurd hc c9)
        refine ev_go 1 (pc' := 69) (L' := [some (.ref 89), some (.int x425), some (.int v427)]) (st' := [.int 0]) (h' := (HM P w T)) (cs' := 0) (sl' := 0) rfl ?_
        obtain ⟨rfl, rfl⟩ := ai_smP h
        exact ev_end rfl
      · refine ev_ic_eq (t := 68) rfl rfl (fun c9 => absurd c9 hc) (fun _ => ?_)
        refine ev_go 4 (pc' := 45) (L' := [some (.ref 89), some (.int x425), some (.int v427)]) (st' := [.int 2, .int (a_m_kind w), .int v427]) (h' := (HM P w T)) (cs' := 0) (sl' := 0) rfl ?_
        rcases ai_ifE h with ⟨hc, h⟩ | ⟨hc, h⟩
        · refine ev_ic_ne (t := 57) rfl rfl (fun c9 => absurd hc c9) (fun _ => ?_)
          refine ev_go 1 (pc' := 49) (L' := [some (.ref 89), some (.int x425), some (.int v427)]) (st' := [.ref 89, .int v427]) (h' := (HM P w T)) (cs' := 0) (sl' := 0) rfl ?_
          obtain ⟨c429, hq, h⟩ := ai_bdE h
          refine ev_call (M' := mm_weighs) (L' := [some (.ref 89), none]) (rest := [.int v427]) (rv := some (.int c429.1)) (h' := (HM P c429.2 T)) rfl (Em_weighs_89 w _ _ hq P T) ?_
          show ai_ev D1 mm_breaks 52 [some (.ref 89), some (.int x425), some (.int v427)] [.int c429.1, .int v427] (HM P c429.2 T) 0 0 _
          refine ev_go 3 (pc' := 61) (L' := [some (.ref 89), some (.int x425), some (.int v427)]) (st' := [.int (c429.1 / 2), .int v427]) (h' := (HM P c429.2 T)) (cs' := 0) (sl' := 0) rfl ?_
          rcases ai_ifE h with ⟨hc, h⟩ | ⟨hc, h⟩
          · refine ev_ic_ge (t := 68) rfl rfl (fun _ => ?_) (fun c9 => absurd hc c9)
            refine ev_go 1 (pc' := 69) (L' := [some (.ref 89), some (.int x425), some (.int v427)]) (st' := [.int 0]) (h' := (HM P c429.2 T)) (cs' := 0) (sl' := 0) rfl ?_
            obtain ⟨rfl, rfl⟩ := ai_smP h
            exact ev_end rfl
          · refine ev_ic_ge (t := 68) rfl rfl (fun c9 => absurd c9 hc) (fun _ => ?_)
            refine ev_go 2 (pc' := 69) (L' := [some (.ref 89), some (.int x425), some (.int v427)]) (st' := [.int 1]) (h' := (HM P c429.2 T)) (cs' := 0) (sl' := 0) rfl ?_
            obtain ⟨rfl, rfl⟩ := ai_smP h
            exact ev_end rfl
        · refine ev_ic_ne (t := 57) rfl rfl (fun _ => ?_) (fun c9 => absurd c9 hc)
          refine ev_go 1 (pc' := 58) (L' := [some (.ref 89), some (.int x425), some (.int v427)]) (st' := [.ref 89, .int v427]) (h' := (HM P w T)) (cs' := 0) (sl' := 0) rfl ?_
          obtain ⟨c428, hq, h⟩ := ai_bdE h
          refine ev_call (M' := mm_weighs) (L' := [some (.ref 89), none]) (rest := [.int v427]) (rv := some (.int c428.1)) (h' := (HM P c428.2 T)) rfl (Em_weighs_89 w _ _ hq P T) ?_
          show ai_ev D1 mm_breaks 61 [some (.ref 89), some (.int x425), some (.int v427)] [.int c428.1, .int v427] (HM P c428.2 T) 0 0 _
          rcases ai_ifE h with ⟨hc, h⟩ | ⟨hc, h⟩
          · refine ev_ic_ge (t := 68) rfl rfl (fun _ => ?_) (fun c9 => absurd hc c9)
            refine ev_go 1 (pc' := 69) (L' := [some (.ref 89), some (.int x425), some (.int v427)]) (st' := [.int 0]) (h' := (HM P c428.2 T)) (cs' := 0) (sl' := 0) rfl ?_
            obtain ⟨rfl, rfl⟩ := ai_smP h
            exact ev_end rfl
          · refine ev_ic_ge (t := 68) rfl rfl (fun c9 => absurd c9 hc) (fun _ => ?_)
            refine ev_go 2 (pc' := 69) (L' := [some (.ref 89), some (.int x425), some (.int v427)]) (st' := [.int 1]) (h' := (HM P c428.2 T)) (cs' := 0) (sl' := 0) rfl ?_
            obtain ⟨rfl, rfl⟩ := ai_smP h
            exact ev_end rfl
  · refine ev_if_eq (t := 13) rfl rfl (fun c9 => absurd c9 hc) (fun _ => ?_)
    refine ev_go 1 (pc' := 12) (L' := [some (.ref 89), some (.int x425), none]) (st' := [.int 1]) (h' := (HM P w T)) (cs' := 0) (sl' := 0) rfl ?_
    obtain ⟨rfl, rfl⟩ := ai_smP h
    exact ev_end rfl
set_option maxHeartbeats 40000000 in
set_option maxRecDepth 100000 in
theorem EGm_comesDown_89 : ∀ n : Nat, (∀ (y401 : Int32) (y402 : Int32) (y403 : Int32) (w : WM) (w' : WM), Gm_comesDown_89 n 0 y401 y402 y403 w = some w' → ∀ (P : Nat → ai_E) (T : ai_H) (o4 : Option Value), ai_ev D1 mm_comesDown 29 [some (.ref 89), some (.int y401), some (.int y402), some (.int y403), o4] [] (HM P w T) 0 0 (none, HM P w' T)) := by
  intro n
  induction n with
  | zero =>
    exact (fun _ _ _ _ _ h => by cases h)
  | succ n ih0 =>
    intro y401 y402 y403 w w' h P T o4
    simp only [Gm_comesDown_89] at h
    refine ev_go 2 (pc' := 31) (L' := [some (.ref 89), some (.int y401), some (.int y402), some (.int y403), o4]) (st' := [.int 4, .int y403]) (h' := (HM P w T)) (cs' := 0) (sl' := 0) rfl ?_
    rcases ai_ifE h with ⟨hc, h⟩ | ⟨hc, h⟩
    · refine ev_ic_ge (t := 198) rfl rfl (fun _ => ?_) (fun c9 => absurd hc c9)
      obtain rfl := Option.some.inj h
      exact ev_end rfl
    · refine ev_ic_ge (t := 198) rfl rfl (fun c9 => absurd c9 hc) (fun _ => ?_)
      refine ev_go 3 (pc' := 39) (L' := [some (.ref 89), some (.int y401), some (.int y402), some (.int y403), o4]) (st' := [.int 4, .int (a_m_restsIn w)]) (h' := (HM P w T)) (cs' := 0) (sl' := 0) rfl ?_
      rcases ai_ifE h with ⟨hc, h⟩ | ⟨hc, h⟩
      · refine ev_ic_ne (t := 198) rfl rfl (fun c9 => absurd hc c9) (fun _ => ?_)
        refine ev_go 3 (pc' := 47) (L' := [some (.ref 89), some (.int y401), some (.int y402), some (.int y403), o4]) (st' := [.int (-1), .int (a_m_stops w)]) (h' := (HM P w T)) (cs' := 0) (sl' := 0) rfl ?_
        rcases ai_ifE h with ⟨hc, h⟩ | ⟨hc, h⟩
        · refine ev_ic_ne (t := 198) rfl rfl (fun c9 => absurd hc c9) (fun _ => ?_)
          refine ev_go 5 (pc' := 57) (L' := [some (.ref 89), some (.int y401), some (.int y402), some (.int y403), o4]) (st' := [.int (a_m_hour w), .int y401, .int y403, .ref 89]) (h' := (HM P w T)) (cs' := 0) (sl' := 0) rfl ?_
          obtain ⟨c404, hq, h⟩ := ai_bdE h
          refine ev_call (M' := mm_thickIn) (L' := [some (.ref 89), some (.int y403), some (.int y401), some (.int (a_m_hour w)), none]) (rest := []) (rv := some (.int c404.1)) (h' := (HM P c404.2 T)) rfl (Em_thickIn_89 y403 y401 (a_m_hour w) w _ _ hq P T) ?_
          show ai_ev D1 mm_comesDown 60 [some (.ref 89), some (.int y401), some (.int y402), some (.int y403), o4] [.int c404.1] (HM P c404.2 T) 0 0 _
          refine ev_go 2 (pc' := 64) (L' := [some (.ref 89), some (.int y401), some (.int y402), some (.int y403), some (.int c404.1)]) (st' := [.int c404.1]) (h' := (HM P c404.2 T)) (cs' := 0) (sl' := 0) rfl ?_
          rcases ai_ifE h with ⟨hc, h⟩ | ⟨hc, h⟩
          · refine ev_if_le (t := 97) rfl rfl (fun _ => ?_) (fun c9 => absurd hc c9)
            refine ev_go 1 (pc' := 99) (L' := [some (.ref 89), some (.int y401), some (.int y402), some (.int y403), some (.int c404.1)]) (st' := [.int c404.1]) (h' := (HM P c404.2 T)) (cs' := 0) (sl' := 0) rfl ?_
            rcases ai_ifE h with ⟨hc, h⟩ | ⟨hc, h⟩
            · refine ev_if_le (t := 192) rfl rfl (fun _ => ?_) (fun c9 => absurd hc c9)
              refine ev_go 2 (pc' := 29) (L' := [some (.ref 89), some (.int y401), some (.int y402), some (.int (y403 + 1)), some (.int c404.1)]) (st' := []) (h' := (HM P c404.2 T)) (cs' := 0) (sl' := 0) rfl ?_
              exact ih0 _ _ _ _ _ h P T _
            · refine ev_if_le (t := 192) rfl rfl (fun c9 => absurd c9 hc) (fun _ => ?_)
              refine ev_go 5 (pc' := 109) (L' := [some (.ref 89), some (.int y401), some (.int y402), some (.int y403), some (.int c404.1)]) (st' := [.int (-1), .int y402, .int (a_m_broken c404.2), .ref 89]) (h' := (HM P c404.2 T)) (cs' := 0) (sl' := 0) rfl ?_
              rcases ai_ifE h with ⟨hc, h⟩ | ⟨hc, h⟩
              · refine ev_ic_eq (t := 125) rfl rfl (fun _ => ?_) (fun c9 => absurd hc c9)
                refine ev_go 3 (pc' := 135) (L' := [some (.ref 89), some (.int y401), some (.int y402), some (.int y403), some (.int c404.1)]) (st' := [.int ((a_m_broken c404.2) ||| 0), .ref 89]) (h' := (HM P c404.2 T)) (cs' := 0) (sl' := 0) rfl ?_
                refine ev_step rfl rfl rfl (PFM_8_207_89 rfl) ?_
                refine ev_go 1 (pc' := 139) (L' := [some (.ref 89), some (.int y401), some (.int y402), some (.int y403), some (.int c404.1)]) (st' := [.ref 89]) (h' := (HM P (u_m_broken c404.2 ((a_m_broken c404.2) ||| 0)) T)) (cs' := 0) (sl' := 0) rfl ?_
                obtain ⟨c405, hq, h⟩ := ai_bdE h
                refine ev_call (M' := mm_weighs) (L' := [some (.ref 89), none]) (rest := []) (rv := some (.int c405.1)) (h' := (HM P c405.2 T)) rfl (Em_weighs_89 (u_m_broken c404.2 ((a_m_broken c404.2) ||| 0)) _ _ hq P T) ?_
                show ai_ev D1 mm_comesDown 142 [some (.ref 89), some (.int y401), some (.int y402), some (.int y403), some (.int c404.1)] [.int c405.1] (HM P c405.2 T) 0 0 _
                refine ev_go 1 (pc' := 143) (L' := [some (.ref 89), some (.int y401), some (.int y402), some (.int y403), some (.int c404.1)]) (st' := [.ref 89, .int c405.1]) (h' := (HM P c405.2 T)) (cs' := 0) (sl' := 0) rfl ?_
                obtain ⟨c406, hq, h⟩ := ai_bdE h
                refine ev_call (M' := mm_room) (L' := [some (.ref 89)]) (rest := [.int c405.1]) (rv := some (.int c406.1)) (h' := (HM P c406.2 T)) rfl (Em_room_89 c405.2 _ _ hq P T) ?_
                show ai_ev D1 mm_comesDown 146 [some (.ref 89), some (.int y401), some (.int y402), some (.int y403), some (.int c404.1)] [.int c406.1, .int c405.1] (HM P c406.2 T) 0 0 _
                refine ev_go 5 (pc' := 154) (L' := [some (.ref 89), some (.int y401), some (.int y402), some (.int y403), some (.int c404.1)]) (st' := [.int (8 + y403), .ref 90, .int c406.1, .int c405.1]) (h' := (HM P c406.2 T)) (cs' := 0) (sl' := 0) rfl ?_
                obtain ⟨v407, hq, h⟩ := ai_bdE h
                refine ev_iald rfl rfl hq ?_
                refine ev_go 1 (pc' := 156) (L' := [some (.ref 89), some (.int y401), some (.int y402), some (.int y403), some (.int c404.1)]) (st' := [.int (c406.1 * v407), .int c405.1]) (h' := (HM P c406.2 T)) (cs' := 0) (sl' := 0) rfl ?_
                rcases ai_ifE h with ⟨hc, h⟩ | ⟨hc, h⟩
                · refine ev_ic_gt (t := 167) rfl rfl (fun _ => ?_) (fun c9 => absurd hc c9)
                  refine ev_go 7 (pc' := 176) (L' := [some (.ref 89), some (.int y401), some (.int y402), some (.int y403), some (.int c404.1)]) (st' := [.int ((a_m_passes c406.2) ||| (1 <<< (y403 &&& 31))), .ref 89]) (h' := (HM P c406.2 T)) (cs' := 0) (sl' := 0) rfl ?_
                  refine ev_step rfl rfl rfl (PFM_8_210_89 rfl) ?_
                  refine ev_go 5 (pc' := 187) (L' := [some (.ref 89), some (.int y401), some (.int y402), some (.int y403), some (.int c404.1)]) (st' := [.int ((a_m_down c406.2) + c404.1), .ref 89]) (h' := (HM P (u_m_passes c406.2 ((a_m_passes c406.2) ||| (1 <<< (y403 &&& 31)))) T)) (cs' := 0) (sl' := 0) rfl ?_
                  refine ev_step rfl rfl rfl (PFM_8_204_89 rfl) ?_
                  refine ev_go 4 (pc' := 29) (L' := [some (.ref 89), some (.int y401), some (.int y403), some (.int (y403 + 1)), some (.int c404.1)]) (st' := []) (h' := (HM P (u_m_down (u_m_passes c406.2 ((a_m_passes c406.2) ||| (1 <<< (y403 &&& 31)))) ((a_m_down c406.2) + c404.1)) T)) (cs' := 0) (sl' := 0) rfl ?_
                  exact ih0 _ _ _ _ _ h P T _
                · refine ev_ic_gt (t := 167) rfl rfl (fun c9 => absurd c9 hc) (fun _ => ?_)
                  refine ev_go 2 (pc' := 161) (L' := [some (.ref 89), some (.int y401), some (.int y402), some (.int y403), some (.int c404.1)]) (st' := [.int y403, .ref 89]) (h' := (HM P c406.2 T)) (cs' := 0) (sl' := 0) rfl ?_
                  refine ev_step rfl rfl rfl (PFM_8_201_89 rfl) ?_
                  refine ev_go 3 (pc' := 29) (L' := [some (.ref 89), some (.int y401), some (.int y402), some (.int (y403 + 1)), some (.int c404.1)]) (st' := []) (h' := (HM P (u_m_restsIn c406.2 y403) T)) (cs' := 0) (sl' := 0) rfl ?_
                  exact ih0 _ _ _ _ _ h P T _
              · refine ev_ic_eq (t := 125) rfl rfl (fun c9 => absurd c9 hc) (fun _ => ?_)
                refine ev_go 5 (pc' := 119) (L' := [some (.ref 89), some (.int y401), some (.int y402), some (.int y403), some (.int c404.1)]) (st' := [.int (y403 - 1), .int (a_m_torn c404.2), .int (a_m_broken c404.2), .ref 89]) (h' := (HM P c404.2 T)) (cs' := 0) (sl' := 0) rfl ?_
                obtain ⟨c408, hq, h⟩ := ai_bdE h
                refine ev_call (M' := mm_has) (L' := [some (.int (a_m_torn c404.2)), some (.int (y403 - 1))]) (rest := [.int (a_m_broken c404.2), .ref 89]) (rv := some (.int c408)) (h' := (HM P c404.2 T)) rfl (Em_has (a_m_torn c404.2) (y403 - 1) _ hq (HM P c404.2 T)) ?_
                show ai_ev D1 mm_comesDown 122 [some (.ref 89), some (.int y401), some (.int y402), some (.int y403), some (.int c404.1)] [.int c408, .int (a_m_broken c404.2), .ref 89] (HM P c404.2 T) 0 0 _
                rcases ai_ifE h with ⟨hc, h⟩ | ⟨hc, h⟩
                · refine ev_if_eq (t := 129) rfl rfl (fun _ => ?_) (fun c9 => absurd hc c9)
                  refine ev_go 6 (pc' := 135) (L' := [some (.ref 89), some (.int y401), some (.int y402), some (.int y403), some (.int c404.1)]) (st' := [.int ((a_m_broken c404.2) ||| (1 <<< ((y403 - 1) &&& 31))), .ref 89]) (h' := (HM P c404.2 T)) (cs' := 0) (sl' := 0) rfl ?_
                  refine ev_step rfl rfl rfl (PFM_8_207_89 rfl) ?_
                  refine ev_go 1 (pc' := 139) (L' := [some (.ref 89), some (.int y401), some (.int y402), some (.int y403), some (.int c404.1)]) (st' := [.ref 89]) (h' := (HM P (u_m_broken c404.2 ((a_m_broken c404.2) ||| (1 <<< ((y403 - 1) &&& 31)))) T)) (cs' := 0) (sl' := 0) rfl ?_
                  obtain ⟨c409, hq, h⟩ := ai_bdE h
                  refine ev_call (M' := mm_weighs) (L' := [some (.ref 89), none]) (rest := []) (rv := some (.int c409.1)) (h' := (HM P c409.2 T)) rfl (Em_weighs_89 (u_m_broken c404.2 ((a_m_broken c404.2) ||| (1 <<< ((y403 - 1) &&& 31)))) _ _ hq P T) ?_
                  show ai_ev D1 mm_comesDown 142 [some (.ref 89), some (.int y401), some (.int y402), some (.int y403), some (.int c404.1)] [.int c409.1] (HM P c409.2 T) 0 0 _
                  refine ev_go 1 (pc' := 143) (L' := [some (.ref 89), some (.int y401), some (.int y402), some (.int y403), some (.int c404.1)]) (st' := [.ref 89, .int c409.1]) (h' := (HM P c409.2 T)) (cs' := 0) (sl' := 0) rfl ?_
                  obtain ⟨c410, hq, h⟩ := ai_bdE h
                  refine ev_call (M' := mm_room) (L' := [some (.ref 89)]) (rest := [.int c409.1]) (rv := some (.int c410.1)) (h' := (HM P c410.2 T)) rfl (Em_room_89 c409.2 _ _ hq P T) ?_
                  show ai_ev D1 mm_comesDown 146 [some (.ref 89), some (.int y401), some (.int y402), some (.int y403), some (.int c404.1)] [.int c410.1, .int c409.1] (HM P c410.2 T) 0 0 _
                  refine ev_go 5 (pc' := 154) (L' := [some (.ref 89), some (.int y401), some (.int y402), some (.int y403), some (.int c404.1)]) (st' := [.int (8 + y403), .ref 90, .int c410.1, .int c409.1]) (h' := (HM P c410.2 T)) (cs' := 0) (sl' := 0) rfl ?_
                  obtain ⟨v411, hq, h⟩ := ai_bdE h
                  refine ev_iald rfl rfl hq ?_
                  refine ev_go 1 (pc' := 156) (L' := [some (.ref 89), some (.int y401), some (.int y402), some (.int y403), some (.int c404.1)]) (st' := [.int (c410.1 * v411), .int c409.1]) (h' := (HM P c410.2 T)) (cs' := 0) (sl' := 0) rfl ?_
                  rcases ai_ifE h with ⟨hc, h⟩ | ⟨hc, h⟩
                  · refine ev_ic_gt (t := 167) rfl rfl (fun _ => ?_) (fun c9 => absurd hc c9)
                    refine ev_go 7 (pc' := 176) (L' := [some (.ref 89), some (.int y401), some (.int y402), some (.int y403), some (.int c404.1)]) (st' := [.int ((a_m_passes c410.2) ||| (1 <<< (y403 &&& 31))), .ref 89]) (h' := (HM P c410.2 T)) (cs' := 0) (sl' := 0) rfl ?_
                    refine ev_step rfl rfl rfl (PFM_8_210_89 rfl) ?_
                    refine ev_go 5 (pc' := 187) (L' := [some (.ref 89), some (.int y401), some (.int y402), some (.int y403), some (.int c404.1)]) (st' := [.int ((a_m_down c410.2) + c404.1), .ref 89]) (h' := (HM P (u_m_passes c410.2 ((a_m_passes c410.2) ||| (1 <<< (y403 &&& 31)))) T)) (cs' := 0) (sl' := 0) rfl ?_
                    refine ev_step rfl rfl rfl (PFM_8_204_89 rfl) ?_
                    refine ev_go 4 (pc' := 29) (L' := [some (.ref 89), some (.int y401), some (.int y403), some (.int (y403 + 1)), some (.int c404.1)]) (st' := []) (h' := (HM P (u_m_down (u_m_passes c410.2 ((a_m_passes c410.2) ||| (1 <<< (y403 &&& 31)))) ((a_m_down c410.2) + c404.1)) T)) (cs' := 0) (sl' := 0) rfl ?_
                    exact ih0 _ _ _ _ _ h P T _
                  · refine ev_ic_gt (t := 167) rfl rfl (fun c9 => absurd c9 hc) (fun _ => ?_)
                    refine ev_go 2 (pc' := 161) (L' := [some (.ref 89), some (.int y401), some (.int y402), some (.int y403), some (.int c404.1)]) (st' := [.int y403, .ref 89]) (h' := (HM P c410.2 T)) (cs' := 0) (sl' := 0) rfl ?_
                    refine ev_step rfl rfl rfl (PFM_8_201_89 rfl) ?_
                    refine ev_go 3 (pc' := 29) (L' := [some (.ref 89), some (.int y401), some (.int y402), some (.int (y403 + 1)), some (.int c404.1)]) (st' := []) (h' := (HM P (u_m_restsIn c410.2 y403) T)) (cs' := 0) (sl' := 0) rfl ?_
                    exact ih0 _ _ _ _ _ h P T _
                · refine ev_if_eq (t := 129) rfl rfl (fun c9 => absurd c9 hc) (fun _ => ?_)
                  refine ev_go 3 (pc' := 135) (L' := [some (.ref 89), some (.int y401), some (.int y402), some (.int y403), some (.int c404.1)]) (st' := [.int ((a_m_broken c404.2) ||| 0), .ref 89]) (h' := (HM P c404.2 T)) (cs' := 0) (sl' := 0) rfl ?_
                  refine ev_step rfl rfl rfl (PFM_8_207_89 rfl) ?_
                  refine ev_go 1 (pc' := 139) (L' := [some (.ref 89), some (.int y401), some (.int y402), some (.int y403), some (.int c404.1)]) (st' := [.ref 89]) (h' := (HM P (u_m_broken c404.2 ((a_m_broken c404.2) ||| 0)) T)) (cs' := 0) (sl' := 0) rfl ?_
                  obtain ⟨c412, hq, h⟩ := ai_bdE h
                  refine ev_call (M' := mm_weighs) (L' := [some (.ref 89), none]) (rest := []) (rv := some (.int c412.1)) (h' := (HM P c412.2 T)) rfl (Em_weighs_89 (u_m_broken c404.2 ((a_m_broken c404.2) ||| 0)) _ _ hq P T) ?_
                  show ai_ev D1 mm_comesDown 142 [some (.ref 89), some (.int y401), some (.int y402), some (.int y403), some (.int c404.1)] [.int c412.1] (HM P c412.2 T) 0 0 _
                  refine ev_go 1 (pc' := 143) (L' := [some (.ref 89), some (.int y401), some (.int y402), some (.int y403), some (.int c404.1)]) (st' := [.ref 89, .int c412.1]) (h' := (HM P c412.2 T)) (cs' := 0) (sl' := 0) rfl ?_
                  obtain ⟨c413, hq, h⟩ := ai_bdE h
                  refine ev_call (M' := mm_room) (L' := [some (.ref 89)]) (rest := [.int c412.1]) (rv := some (.int c413.1)) (h' := (HM P c413.2 T)) rfl (Em_room_89 c412.2 _ _ hq P T) ?_
                  show ai_ev D1 mm_comesDown 146 [some (.ref 89), some (.int y401), some (.int y402), some (.int y403), some (.int c404.1)] [.int c413.1, .int c412.1] (HM P c413.2 T) 0 0 _
                  refine ev_go 5 (pc' := 154) (L' := [some (.ref 89), some (.int y401), some (.int y402), some (.int y403), some (.int c404.1)]) (st' := [.int (8 + y403), .ref 90, .int c413.1, .int c412.1]) (h' := (HM P c413.2 T)) (cs' := 0) (sl' := 0) rfl ?_
                  obtain ⟨v414, hq, h⟩ := ai_bdE h
                  refine ev_iald rfl rfl hq ?_
                  refine ev_go 1 (pc' := 156) (L' := [some (.ref 89), some (.int y401), some (.int y402), some (.int y403), some (.int c404.1)]) (st' := [.int (c413.1 * v414), .int c412.1]) (h' := (HM P c413.2 T)) (cs' := 0) (sl' := 0) rfl ?_
                  rcases ai_ifE h with ⟨hc, h⟩ | ⟨hc, h⟩
                  · refine ev_ic_gt (t := 167) rfl rfl (fun _ => ?_) (fun c9 => absurd hc c9)
                    refine ev_go 7 (pc' := 176) (L' := [some (.ref 89), some (.int y401), some (.int y402), some (.int y403), some (.int c404.1)]) (st' := [.int ((a_m_passes c413.2) ||| (1 <<< (y403 &&& 31))), .ref 89]) (h' := (HM P c413.2 T)) (cs' := 0) (sl' := 0) rfl ?_
                    refine ev_step rfl rfl rfl (PFM_8_210_89 rfl) ?_
                    refine ev_go 5 (pc' := 187) (L' := [some (.ref 89), some (.int y401), some (.int y402), some (.int y403), some (.int c404.1)]) (st' := [.int ((a_m_down c413.2) + c404.1), .ref 89]) (h' := (HM P (u_m_passes c413.2 ((a_m_passes c413.2) ||| (1 <<< (y403 &&& 31)))) T)) (cs' := 0) (sl' := 0) rfl ?_
                    refine ev_step rfl rfl rfl (PFM_8_204_89 rfl) ?_
                    refine ev_go 4 (pc' := 29) (L' := [some (.ref 89), some (.int y401), some (.int y403), some (.int (y403 + 1)), some (.int c404.1)]) (st' := []) (h' := (HM P (u_m_down (u_m_passes c413.2 ((a_m_passes c413.2) ||| (1 <<< (y403 &&& 31)))) ((a_m_down c413.2) + c404.1)) T)) (cs' := 0) (sl' := 0) rfl ?_
                    exact ih0 _ _ _ _ _ h P T _
                  · refine ev_ic_gt (t := 167) rfl rfl (fun c9 => absurd c9 hc) (fun _ => ?_)
                    refine ev_go 2 (pc' := 161) (L' := [some (.ref 89), some (.int y401), some (.int y402), some (.int y403), some (.int c404.1)]) (st' := [.int y403, .ref 89]) (h' := (HM P c413.2 T)) (cs' := 0) (sl' := 0) rfl ?_
                    refine ev_step rfl rfl rfl (PFM_8_201_89 rfl) ?_
                    refine ev_go 3 (pc' := 29) (L' := [some (.ref 89), some (.int y401), some (.int y402), some (.int (y403 + 1)), some (.int c404.1)]) (st' := []) (h' := (HM P (u_m_restsIn c413.2 y403) T)) (cs' := 0) (sl' := 0) rfl ?_
                    exact ih0 _ _ _ _ _ h P T _
          · refine ev_if_le (t := 97) rfl rfl (fun c9 => absurd c9 hc) (fun _ => ?_)
            refine ev_go 2 (pc' := 69) (L' := [some (.ref 89), some (.int y401), some (.int y402), some (.int y403), some (.int c404.1)]) (st' := [.int (-1), .int y402]) (h' := (HM P c404.2 T)) (cs' := 0) (sl' := 0) rfl ?_
            rcases ai_ifE h with ⟨hc, h⟩ | ⟨hc, h⟩
            · refine ev_ic_eq (t := 97) rfl rfl (fun _ => ?_) (fun c9 => absurd hc c9)
              refine ev_go 1 (pc' := 99) (L' := [some (.ref 89), some (.int y401), some (.int y402), some (.int y403), some (.int c404.1)]) (st' := [.int c404.1]) (h' := (HM P c404.2 T)) (cs' := 0) (sl' := 0) rfl ?_
              rcases ai_ifE h with ⟨hc, h⟩ | ⟨hc, h⟩
              · refine ev_if_le (t := 192) rfl rfl (fun _ => ?_) (fun c9 => absurd hc c9)
                refine ev_go 2 (pc' := 29) (L' := [some (.ref 89), some (.int y401), some (.int y402), some (.int (y403 + 1)), some (.int c404.1)]) (st' := []) (h' := (HM P c404.2 T)) (cs' := 0) (sl' := 0) rfl ?_
                exact ih0 _ _ _ _ _ h P T _
              · refine ev_if_le (t := 192) rfl rfl (fun c9 => absurd c9 hc) (fun _ => ?_)
                refine ev_go 5 (pc' := 109) (L' := [some (.ref 89), some (.int y401), some (.int y402), some (.int y403), some (.int c404.1)]) (st' := [.int (-1), .int y402, .int (a_m_broken c404.2), .ref 89]) (h' := (HM P c404.2 T)) (cs' := 0) (sl' := 0) rfl ?_
                rcases ai_ifE h with ⟨hc, h⟩ | ⟨hc, h⟩
                · refine ev_ic_eq (t := 125) rfl rfl (fun _ => ?_) (fun c9 => absurd hc c9)
                  refine ev_go 3 (pc' := 135) (L' := [some (.ref 89), some (.int y401), some (.int y402), some (.int y403), some (.int c404.1)]) (st' := [.int ((a_m_broken c404.2) ||| 0), .ref 89]) (h' := (HM P c404.2 T)) (cs' := 0) (sl' := 0) rfl ?_
                  refine ev_step rfl rfl rfl (PFM_8_207_89 rfl) ?_
                  refine ev_go 1 (pc' := 139) (L' := [some (.ref 89), some (.int y401), some (.int y402), some (.int y403), some (.int c404.1)]) (st' := [.ref 89]) (h' := (HM P (u_m_broken c404.2 ((a_m_broken c404.2) ||| 0)) T)) (cs' := 0) (sl' := 0) rfl ?_
                  obtain ⟨c415, hq, h⟩ := ai_bdE h
                  refine ev_call (M' := mm_weighs) (L' := [some (.ref 89), none]) (rest := []) (rv := some (.int c415.1)) (h' := (HM P c415.2 T)) rfl (Em_weighs_89 (u_m_broken c404.2 ((a_m_broken c404.2) ||| 0)) _ _ hq P T) ?_
                  show ai_ev D1 mm_comesDown 142 [some (.ref 89), some (.int y401), some (.int y402), some (.int y403), some (.int c404.1)] [.int c415.1] (HM P c415.2 T) 0 0 _
                  refine ev_go 1 (pc' := 143) (L' := [some (.ref 89), some (.int y401), some (.int y402), some (.int y403), some (.int c404.1)]) (st' := [.ref 89, .int c415.1]) (h' := (HM P c415.2 T)) (cs' := 0) (sl' := 0) rfl ?_
                  obtain ⟨c416, hq, h⟩ := ai_bdE h
                  refine ev_call (M' := mm_room) (L' := [some (.ref 89)]) (rest := [.int c415.1]) (rv := some (.int c416.1)) (h' := (HM P c416.2 T)) rfl (Em_room_89 c415.2 _ _ hq P T) ?_
                  show ai_ev D1 mm_comesDown 146 [some (.ref 89), some (.int y401), some (.int y402), some (.int y403), some (.int c404.1)] [.int c416.1, .int c415.1] (HM P c416.2 T) 0 0 _
                  refine ev_go 5 (pc' := 154) (L' := [some (.ref 89), some (.int y401), some (.int y402), some (.int y403), some (.int c404.1)]) (st' := [.int (8 + y403), .ref 90, .int c416.1, .int c415.1]) (h' := (HM P c416.2 T)) (cs' := 0) (sl' := 0) rfl ?_
                  obtain ⟨v417, hq, h⟩ := ai_bdE h
                  refine ev_iald rfl rfl hq ?_
                  refine ev_go 1 (pc' := 156) (L' := [some (.ref 89), some (.int y401), some (.int y402), some (.int y403), some (.int c404.1)]) (st' := [.int (c416.1 * v417), .int c415.1]) (h' := (HM P c416.2 T)) (cs' := 0) (sl' := 0) rfl ?_
                  rcases ai_ifE h with ⟨hc, h⟩ | ⟨hc, h⟩
                  · refine ev_ic_gt (t := 167) rfl rfl (fun _ => ?_) (fun c9 => absurd hc c9)
                    refine ev_go 7 (pc' := 176) (L' := [some (.ref 89), some (.int y401), some (.int y402), some (.int y403), some (.int c404.1)]) (st' := [.int ((a_m_passes c416.2) ||| (1 <<< (y403 &&& 31))), .ref 89]) (h' := (HM P c416.2 T)) (cs' := 0) (sl' := 0) rfl ?_
                    refine ev_step rfl rfl rfl (PFM_8_210_89 rfl) ?_
                    refine ev_go 5 (pc' := 187) (L' := [some (.ref 89), some (.int y401), some (.int y402), some (.int y403), some (.int c404.1)]) (st' := [.int ((a_m_down c416.2) + c404.1), .ref 89]) (h' := (HM P (u_m_passes c416.2 ((a_m_passes c416.2) ||| (1 <<< (y403 &&& 31)))) T)) (cs' := 0) (sl' := 0) rfl ?_
                    refine ev_step rfl rfl rfl (PFM_8_204_89 rfl) ?_
                    refine ev_go 4 (pc' := 29) (L' := [some (.ref 89), some (.int y401), some (.int y403), some (.int (y403 + 1)), some (.int c404.1)]) (st' := []) (h' := (HM P (u_m_down (u_m_passes c416.2 ((a_m_passes c416.2) ||| (1 <<< (y403 &&& 31)))) ((a_m_down c416.2) + c404.1)) T)) (cs' := 0) (sl' := 0) rfl ?_
                    exact ih0 _ _ _ _ _ h P T _
                  · refine ev_ic_gt (t := 167) rfl rfl (fun c9 => absurd c9 hc) (fun _ => ?_)
                    refine ev_go 2 (pc' := 161) (L' := [some (.ref 89), some (.int y401), some (.int y402), some (.int y403), some (.int c404.1)]) (st' := [.int y403, .ref 89]) (h' := (HM P c416.2 T)) (cs' := 0) (sl' := 0) rfl ?_
                    refine ev_step rfl rfl rfl (PFM_8_201_89 rfl) ?_
                    refine ev_go 3 (pc' := 29) (L' := [some (.ref 89), some (.int y401), some (.int y402), some (.int (y403 + 1)), some (.int c404.1)]) (st' := []) (h' := (HM P (u_m_restsIn c416.2 y403) T)) (cs' := 0) (sl' := 0) rfl ?_
                    exact ih0 _ _ _ _ _ h P T _
                · refine ev_ic_eq (t := 125) rfl rfl (fun c9 => absurd c9 hc) (fun _ => ?_)
                  refine ev_go 5 (pc' := 119) (L' := [some (.ref 89), some (.int y401), some (.int y402), some (.int y403), some (.int c404.1)]) (st' := [.int (y403 - 1), .int (a_m_torn c404.2), .int (a_m_broken c404.2), .ref 89]) (h' := (HM P c404.2 T)) (cs' := 0) (sl' := 0) rfl ?_
                  obtain ⟨c418, hq, h⟩ := ai_bdE h
                  refine ev_call (M' := mm_has) (L' := [some (.int (a_m_torn c404.2)), some (.int (y403 - 1))]) (rest := [.int (a_m_broken c404.2), .ref 89]) (rv := some (.int c418)) (h' := (HM P c404.2 T)) rfl (Em_has (a_m_torn c404.2) (y403 - 1) _ hq (HM P c404.2 T)) ?_
                  show ai_ev D1 mm_comesDown 122 [some (.ref 89), some (.int y401), some (.int y402), some (.int y403), some (.int c404.1)] [.int c418, .int (a_m_broken c404.2), .ref 89] (HM P c404.2 T) 0 0 _
                  rcases ai_ifE h with ⟨hc, h⟩ | ⟨hc, h⟩
                  · refine ev_if_eq (t := 129) rfl rfl (fun _ => ?_) (fun c9 => absurd hc c9)
                    refine ev_go 6 (pc' := 135) (L' := [some (.ref 89), some (.int y401), some (.int y402), some (.int y403), some (.int c404.1)]) (st' := [.int ((a_m_broken c404.2) ||| (1 <<< ((y403 - 1) &&& 31))), .ref 89]) (h' := (HM P c404.2 T)) (cs' := 0) (sl' := 0) rfl ?_
                    refine ev_step rfl rfl rfl (PFM_8_207_89 rfl) ?_
                    refine ev_go 1 (pc' := 139) (L' := [some (.ref 89), some (.int y401), some (.int y402), some (.int y403), some (.int c404.1)]) (st' := [.ref 89]) (h' := (HM P (u_m_broken c404.2 ((a_m_broken c404.2) ||| (1 <<< ((y403 - 1) &&& 31)))) T)) (cs' := 0) (sl' := 0) rfl ?_
                    obtain ⟨c419, hq, h⟩ := ai_bdE h
                    refine ev_call (M' := mm_weighs) (L' := [some (.ref 89), none]) (rest := []) (rv := some (.int c419.1)) (h' := (HM P c419.2 T)) rfl (Em_weighs_89 (u_m_broken c404.2 ((a_m_broken c404.2) ||| (1 <<< ((y403 - 1) &&& 31)))) _ _ hq P T) ?_
                    show ai_ev D1 mm_comesDown 142 [some (.ref 89), some (.int y401), some (.int y402), some (.int y403), some (.int c404.1)] [.int c419.1] (HM P c419.2 T) 0 0 _
                    refine ev_go 1 (pc' := 143) (L' := [some (.ref 89), some (.int y401), some (.int y402), some (.int y403), some (.int c404.1)]) (st' := [.ref 89, .int c419.1]) (h' := (HM P c419.2 T)) (cs' := 0) (sl' := 0) rfl ?_
                    obtain ⟨c420, hq, h⟩ := ai_bdE h
                    refine ev_call (M' := mm_room) (L' := [some (.ref 89)]) (rest := [.int c419.1]) (rv := some (.int c420.1)) (h' := (HM P c420.2 T)) rfl (Em_room_89 c419.2 _ _ hq P T) ?_
                    show ai_ev D1 mm_comesDown 146 [some (.ref 89), some (.int y401), some (.int y402), some (.int y403), some (.int c404.1)] [.int c420.1, .int c419.1] (HM P c420.2 T) 0 0 _
                    refine ev_go 5 (pc' := 154) (L' := [some (.ref 89), some (.int y401), some (.int y402), some (.int y403), some (.int c404.1)]) (st' := [.int (8 + y403), .ref 90, .int c420.1, .int c419.1]) (h' := (HM P c420.2 T)) (cs' := 0) (sl' := 0) rfl ?_
                    obtain ⟨v421, hq, h⟩ := ai_bdE h
                    refine ev_iald rfl rfl hq ?_
                    refine ev_go 1 (pc' := 156) (L' := [some (.ref 89), some (.int y401), some (.int y402), some (.int y403), some (.int c404.1)]) (st' := [.int (c420.1 * v421), .int c419.1]) (h' := (HM P c420.2 T)) (cs' := 0) (sl' := 0) rfl ?_
                    rcases ai_ifE h with ⟨hc, h⟩ | ⟨hc, h⟩
                    · refine ev_ic_gt (t := 167) rfl rfl (fun _ => ?_) (fun c9 => absurd hc c9)
                      refine ev_go 7 (pc' := 176) (L' := [some (.ref 89), some (.int y401), some (.int y402), some (.int y403), some (.int c404.1)]) (st' := [.int ((a_m_passes c420.2) ||| (1 <<< (y403 &&& 31))), .ref 89]) (h' := (HM P c420.2 T)) (cs' := 0) (sl' := 0) rfl ?_
                      refine ev_step rfl rfl rfl (PFM_8_210_89 rfl) ?_
                      refine ev_go 5 (pc' := 187) (L' := [some (.ref 89), some (.int y401), some (.int y402), some (.int y403), some (.int c404.1)]) (st' := [.int ((a_m_down c420.2) + c404.1), .ref 89]) (h' := (HM P (u_m_passes c420.2 ((a_m_passes c420.2) ||| (1 <<< (y403 &&& 31)))) T)) (cs' := 0) (sl' := 0) rfl ?_
                      refine ev_step rfl rfl rfl (PFM_8_204_89 rfl) ?_
                      refine ev_go 4 (pc' := 29) (L' := [some (.ref 89), some (.int y401), some (.int y403), some (.int (y403 + 1)), some (.int c404.1)]) (st' := []) (h' := (HM P (u_m_down (u_m_passes c420.2 ((a_m_passes c420.2) ||| (1 <<< (y403 &&& 31)))) ((a_m_down c420.2) + c404.1)) T)) (cs' := 0) (sl' := 0) rfl ?_
                      exact ih0 _ _ _ _ _ h P T _
                    · refine ev_ic_gt (t := 167) rfl rfl (fun c9 => absurd c9 hc) (fun _ => ?_)
                      refine ev_go 2 (pc' := 161) (L' := [some (.ref 89), some (.int y401), some (.int y402), some (.int y403), some (.int c404.1)]) (st' := [.int y403, .ref 89]) (h' := (HM P c420.2 T)) (cs' := 0) (sl' := 0) rfl ?_
                      refine ev_step rfl rfl rfl (PFM_8_201_89 rfl) ?_
                      refine ev_go 3 (pc' := 29) (L' := [some (.ref 89), some (.int y401), some (.int y402), some (.int (y403 + 1)), some (.int c404.1)]) (st' := []) (h' := (HM P (u_m_restsIn c420.2 y403) T)) (cs' := 0) (sl' := 0) rfl ?_
                      exact ih0 _ _ _ _ _ h P T _
                  · refine ev_if_eq (t := 129) rfl rfl (fun c9 => absurd c9 hc) (fun _ => ?_)
                    refine ev_go 3 (pc' := 135) (L' := [some (.ref 89), some (.int y401), some (.int y402), some (.int y403), some (.int c404.1)]) (st' := [.int ((a_m_broken c404.2) ||| 0), .ref 89]) (h' := (HM P c404.2 T)) (cs' := 0) (sl' := 0) rfl ?_
                    refine ev_step rfl rfl rfl (PFM_8_207_89 rfl) ?_
                    refine ev_go 1 (pc' := 139) (L' := [some (.ref 89), some (.int y401), some (.int y402), some (.int y403), some (.int c404.1)]) (st' := [.ref 89]) (h' := (HM P (u_m_broken c404.2 ((a_m_broken c404.2) ||| 0)) T)) (cs' := 0) (sl' := 0) rfl ?_
                    obtain ⟨c422, hq, h⟩ := ai_bdE h
                    refine ev_call (M' := mm_weighs) (L' := [some (.ref 89), none]) (rest := []) (rv := some (.int c422.1)) (h' := (HM P c422.2 T)) rfl (Em_weighs_89 (u_m_broken c404.2 ((a_m_broken c404.2) ||| 0)) _ _ hq P T) ?_
                    show ai_ev D1 mm_comesDown 142 [some (.ref 89), some (.int y401), some (.int y402), some (.int y403), some (.int c404.1)] [.int c422.1] (HM P c422.2 T) 0 0 _
                    refine ev_go 1 (pc' := 143) (L' := [some (.ref 89), some (.int y401), some (.int y402), some (.int y403), some (.int c404.1)]) (st' := [.ref 89, .int c422.1]) (h' := (HM P c422.2 T)) (cs' := 0) (sl' := 0) rfl ?_
                    obtain ⟨c423, hq, h⟩ := ai_bdE h
                    refine ev_call (M' := mm_room) (L' := [some (.ref 89)]) (rest := [.int c422.1]) (rv := some (.int c423.1)) (h' := (HM P c423.2 T)) rfl (Em_room_89 c422.2 _ _ hq P T) ?_
                    show ai_ev D1 mm_comesDown 146 [some (.ref 89), some (.int y401), some (.int y402), some (.int y403), some (.int c404.1)] [.int c423.1, .int c422.1] (HM P c423.2 T) 0 0 _
                    refine ev_go 5 (pc' := 154) (L' := [some (.ref 89), some (.int y401), some (.int y402), some (.int y403), some (.int c404.1)]) (st' := [.int (8 + y403), .ref 90, .int c423.1, .int c422.1]) (h' := (HM P c423.2 T)) (cs' := 0) (sl' := 0) rfl ?_
                    obtain ⟨v424, hq, h⟩ := ai_bdE h
                    refine ev_iald rfl rfl hq ?_
                    refine ev_go 1 (pc' := 156) (L' := [some (.ref 89), some (.int y401), some (.int y402), some (.int y403), some (.int c404.1)]) (st' := [.int (c423.1 * v424), .int c422.1]) (h' := (HM P c423.2 T)) (cs' := 0) (sl' := 0) rfl ?_
                    rcases ai_ifE h with ⟨hc, h⟩ | ⟨hc, h⟩
                    · refine ev_ic_gt (t := 167) rfl rfl (fun _ => ?_) (fun c9 => absurd hc c9)
                      refine ev_go 7 (pc' := 176) (L' := [some (.ref 89), some (.int y401), some (.int y402), some (.int y403), some (.int c404.1)]) (st' := [.int ((a_m_passes c423.2) ||| (1 <<< (y403 &&& 31))), .ref 89]) (h' := (HM P c423.2 T)) (cs' := 0) (sl' := 0) rfl ?_
                      refine ev_step rfl rfl rfl (PFM_8_210_89 rfl) ?_
                      refine ev_go 5 (pc' := 187) (L' := [some (.ref 89), some (.int y401), some (.int y402), some (.int y403), some (.int c404.1)]) (st' := [.int ((a_m_down c423.2) + c404.1), .ref 89]) (h' := (HM P (u_m_passes c423.2 ((a_m_passes c423.2) ||| (1 <<< (y403 &&& 31)))) T)) (cs' := 0) (sl' := 0) rfl ?_
                      refine ev_step rfl rfl rfl (PFM_8_204_89 rfl) ?_
                      refine ev_go 4 (pc' := 29) (L' := [some (.ref 89), some (.int y401), some (.int y403), some (.int (y403 + 1)), some (.int c404.1)]) (st' := []) (h' := (HM P (u_m_down (u_m_passes c423.2 ((a_m_passes c423.2) ||| (1 <<< (y403 &&& 31)))) ((a_m_down c423.2) + c404.1)) T)) (cs' := 0) (sl' := 0) rfl ?_
                      exact ih0 _ _ _ _ _ h P T _
                    · refine ev_ic_gt (t := 167) rfl rfl (fun c9 => absurd c9 hc) (fun _ => ?_)
                      refine ev_go 2 (pc' := 161) (L' := [some (.ref 89), some (.int y401), some (.int y402), some (.int y403), some (.int c404.1)]) (st' := [.int y403, .ref 89]) (h' := (HM P c423.2 T)) (cs' := 0) (sl' := 0) rfl ?_
                      refine ev_step rfl rfl rfl (PFM_8_201_89 rfl) ?_
                      refine ev_go 3 (pc' := 29) (L' := [some (.ref 89), some (.int y401), some (.int y402), some (.int (y403 + 1)), some (.int c404.1)]) (st' := []) (h' := (HM P (u_m_restsIn c423.2 y403) T)) (cs' := 0) (sl' := 0) rfl ?_
                      exact ih0 _ _ _ _ _ h P T _
            · refine ev_ic_eq (t := 97) rfl rfl (fun c9 => absurd c9 hc) (fun _ => ?_)
              refine ev_go 4 (pc' := 76) (L' := [some (.ref 89), some (.int y401), some (.int y402), some (.int y403), some (.int c404.1)]) (st' := [.int (y403 - 1), .ref 89]) (h' := (HM P c404.2 T)) (cs' := 0) (sl' := 0) rfl ?_
              obtain ⟨c430, hq, h⟩ := ai_bdE h
              refine ev_call (M' := mm_breaks) (L' := [some (.ref 89), some (.int (y403 - 1)), none]) (rest := []) (rv := some (.int c430.1)) (h' := (HM P c430.2 T)) rfl (Em_breaks_89 (y403 - 1) c404.2 _ _ hq P T) ?_
              show ai_ev D1 mm_comesDown 79 [some (.ref 89), some (.int y401), some (.int y402), some (.int y403), some (.int c404.1)] [.int c430.1] (HM P c430.2 T) 0 0 _
              rcases ai_ifE h with ⟨hc, h⟩ | ⟨hc, h⟩
              · refine ev_if_ne (t := 97) rfl rfl (fun c9 => absurd hc c9) (fun _ => ?_)
                refine ev_go 4 (pc' := 86) (L' := [some (.ref 89), some (.int y401), some (.int y402), some (.int y403), some (.int c404.1)]) (st' := [.int (y403 - 1), .ref 89]) (h' := (HM P c430.2 T)) (cs' := 0) (sl' := 0) rfl ?_
                refine ev_step rfl rfl rfl (PFM_8_213_89 rfl) ?_
                refine ev_go 2 (pc' := 91) (L' := [some (.ref 89), some (.int y401), some (.int y402), some (.int y403), some (.int c404.1)]) (st' := [.int y402, .ref 89]) (h' := (HM P (u_m_stops c430.2 (y403 - 1)) T)) (cs' := 0) (sl' := 0) rfl ?_
                refine ev_step rfl rfl rfl (PFM_8_201_89 rfl) ?_
                refine ev_go 3 (pc' := 29) (L' := [some (.ref 89), some (.int y401), some (.int y402), some (.int (y403 + 1)), some (.int c404.1)]) (st' := []) (h' := (HM P (u_m_restsIn (u_m_stops c430.2 (y403 - 1)) y402) T)) (cs' := 0) (sl' := 0) rfl ?_
                exact ih0 _ _ _ _ _ h P T _
              · refine ev_if_ne (t := 97) rfl rfl (fun _ => ?_) (fun c9 => absurd c9 hc)
                refine ev_go 1 (pc' := 99) (L' := [some (.ref 89), some (.int y401), some (.int y402), some (.int y403), some (.int c404.1)]) (st' := [.int c404.1]) (h' := (HM P c430.2 T)) (cs' := 0) (sl' := 0) rfl ?_
                rcases ai_ifE h with ⟨hc, h⟩ | ⟨hc, h⟩
                · refine ev_if_le (t := 192) rfl rfl (fun _ => ?_) (fun c9 => absurd hc c9)
                  refine ev_go 2 (pc' := 29) (L' := [some (.ref 89), some (.int y401), some (.int y402), some (.int (y403 + 1)), some (.int c404.1)]) (st' := []) (h' := (HM P c430.2 T)) (cs' := 0) (sl' := 0) rfl ?_
                  exact ih0 _ _ _ _ _ h P T _
                · refine ev_if_le (t := 192) rfl rfl (fun c9 => absurd c9 hc) (fun _ => ?_)
                  refine ev_go 5 (pc' := 109) (L' := [some (.ref 89), some (.int y401), some (.int y402), some (.int y403), some (.int c404.1)]) (st' := [.int (-1), .int y402, .int (a_m_broken c430.2), .ref 89]) (h' := (HM P c430.2 T)) (cs' := 0) (sl' := 0) rfl ?_
                  rcases ai_ifE h with ⟨hc, h⟩ | ⟨hc, h⟩
                  · refine ev_ic_eq (t := 125) rfl rfl (fun _ => ?_) (fun c9 => absurd hc c9)
                    refine ev_go 3 (pc' := 135) (L' := [some (.ref 89), some (.int y401), some (.int y402), some (.int y403), some (.int c404.1)]) (st' := [.int ((a_m_broken c430.2) ||| 0), .ref 89]) (h' := (HM P c430.2 T)) (cs' := 0) (sl' := 0) rfl ?_
                    refine ev_step rfl rfl rfl (PFM_8_207_89 rfl) ?_
                    refine ev_go 1 (pc' := 139) (L' := [some (.ref 89), some (.int y401), some (.int y402), some (.int y403), some (.int c404.1)]) (st' := [.ref 89]) (h' := (HM P (u_m_broken c430.2 ((a_m_broken c430.2) ||| 0)) T)) (cs' := 0) (sl' := 0) rfl ?_
                    obtain ⟨c431, hq, h⟩ := ai_bdE h
                    refine ev_call (M' := mm_weighs) (L' := [some (.ref 89), none]) (rest := []) (rv := some (.int c431.1)) (h' := (HM P c431.2 T)) rfl (Em_weighs_89 (u_m_broken c430.2 ((a_m_broken c430.2) ||| 0)) _ _ hq P T) ?_
                    show ai_ev D1 mm_comesDown 142 [some (.ref 89), some (.int y401), some (.int y402), some (.int y403), some (.int c404.1)] [.int c431.1] (HM P c431.2 T) 0 0 _
                    refine ev_go 1 (pc' := 143) (L' := [some (.ref 89), some (.int y401), some (.int y402), some (.int y403), some (.int c404.1)]) (st' := [.ref 89, .int c431.1]) (h' := (HM P c431.2 T)) (cs' := 0) (sl' := 0) rfl ?_
                    obtain ⟨c432, hq, h⟩ := ai_bdE h
                    refine ev_call (M' := mm_room) (L' := [some (.ref 89)]) (rest := [.int c431.1]) (rv := some (.int c432.1)) (h' := (HM P c432.2 T)) rfl (Em_room_89 c431.2 _ _ hq P T) ?_
                    show ai_ev D1 mm_comesDown 146 [some (.ref 89), some (.int y401), some (.int y402), some (.int y403), some (.int c404.1)] [.int c432.1, .int c431.1] (HM P c432.2 T) 0 0 _
                    refine ev_go 5 (pc' := 154) (L' := [some (.ref 89), some (.int y401), some (.int y402), some (.int y403), some (.int c404.1)]) (st' := [.int (8 + y403), .ref 90, .int c432.1, .int c431.1]) (h' := (HM P c432.2 T)) (cs' := 0) (sl' := 0) rfl ?_
                    obtain ⟨v433, hq, h⟩ := ai_bdE h
                    refine ev_iald rfl rfl hq ?_
                    refine ev_go 1 (pc' := 156) (L' := [some (.ref 89), some (.int y401), some (.int y402), some (.int y403), some (.int c404.1)]) (st' := [.int (c432.1 * v433), .int c431.1]) (h' := (HM P c432.2 T)) (cs' := 0) (sl' := 0) rfl ?_
                    rcases ai_ifE h with ⟨hc, h⟩ | ⟨hc, h⟩
                    · refine ev_ic_gt (t := 167) rfl rfl (fun _ => ?_) (fun c9 => absurd hc c9)
                      refine ev_go 7 (pc' := 176) (L' := [some (.ref 89), some (.int y401), some (.int y402), some (.int y403), some (.int c404.1)]) (st' := [.int ((a_m_passes c432.2) ||| (1 <<< (y403 &&& 31))), .ref 89]) (h' := (HM P c432.2 T)) (cs' := 0) (sl' := 0) rfl ?_
                      refine ev_step rfl rfl rfl (PFM_8_210_89 rfl) ?_
                      refine ev_go 5 (pc' := 187) (L' := [some (.ref 89), some (.int y401), some (.int y402), some (.int y403), some (.int c404.1)]) (st' := [.int ((a_m_down c432.2) + c404.1), .ref 89]) (h' := (HM P (u_m_passes c432.2 ((a_m_passes c432.2) ||| (1 <<< (y403 &&& 31)))) T)) (cs' := 0) (sl' := 0) rfl ?_
                      refine ev_step rfl rfl rfl (PFM_8_204_89 rfl) ?_
                      refine ev_go 4 (pc' := 29) (L' := [some (.ref 89), some (.int y401), some (.int y403), some (.int (y403 + 1)), some (.int c404.1)]) (st' := []) (h' := (HM P (u_m_down (u_m_passes c432.2 ((a_m_passes c432.2) ||| (1 <<< (y403 &&& 31)))) ((a_m_down c432.2) + c404.1)) T)) (cs' := 0) (sl' := 0) rfl ?_
                      exact ih0 _ _ _ _ _ h P T _
                    · refine ev_ic_gt (t := 167) rfl rfl (fun c9 => absurd c9 hc) (fun _ => ?_)
                      refine ev_go 2 (pc' := 161) (L' := [some (.ref 89), some (.int y401), some (.int y402), some (.int y403), some (.int c404.1)]) (st' := [.int y403, .ref 89]) (h' := (HM P c432.2 T)) (cs' := 0) (sl' := 0) rfl ?_
                      refine ev_step rfl rfl rfl (PFM_8_201_89 rfl) ?_
                      refine ev_go 3 (pc' := 29) (L' := [some (.ref 89), some (.int y401), some (.int y402), some (.int (y403 + 1)), some (.int c404.1)]) (st' := []) (h' := (HM P (u_m_restsIn c432.2 y403) T)) (cs' := 0) (sl' := 0) rfl ?_
                      exact ih0 _ _ _ _ _ h P T _
                  · refine ev_ic_eq (t := 125) rfl rfl (fun c9 => absurd c9 hc) (fun _ => ?_)
                    refine ev_go 5 (pc' := 119) (L' := [some (.ref 89), some (.int y401), some (.int y402), some (.int y403), some (.int c404.1)]) (st' := [.int (y403 - 1), .int (a_m_torn c430.2), .int (a_m_broken c430.2), .ref 89]) (h' := (HM P c430.2 T)) (cs' := 0) (sl' := 0) rfl ?_
                    obtain ⟨c434, hq, h⟩ := ai_bdE h
                    refine ev_call (M' := mm_has) (L' := [some (.int (a_m_torn c430.2)), some (.int (y403 - 1))]) (rest := [.int (a_m_broken c430.2), .ref 89]) (rv := some (.int c434)) (h' := (HM P c430.2 T)) rfl (Em_has (a_m_torn c430.2) (y403 - 1) _ hq (HM P c430.2 T)) ?_
                    show ai_ev D1 mm_comesDown 122 [some (.ref 89), some (.int y401), some (.int y402), some (.int y403), some (.int c404.1)] [.int c434, .int (a_m_broken c430.2), .ref 89] (HM P c430.2 T) 0 0 _
                    rcases ai_ifE h with ⟨hc, h⟩ | ⟨hc, h⟩
                    · refine ev_if_eq (t := 129) rfl rfl (fun _ => ?_) (fun c9 => absurd hc c9)
                      refine ev_go 6 (pc' := 135) (L' := [some (.ref 89), some (.int y401), some (.int y402), some (.int y403), some (.int c404.1)]) (st' := [.int ((a_m_broken c430.2) ||| (1 <<< ((y403 - 1) &&& 31))), .ref 89]) (h' := (HM P c430.2 T)) (cs' := 0) (sl' := 0) rfl ?_
                      refine ev_step rfl rfl rfl (PFM_8_207_89 rfl) ?_
                      refine ev_go 1 (pc' := 139) (L' := [some (.ref 89), some (.int y401), some (.int y402), some (.int y403), some (.int c404.1)]) (st' := [.ref 89]) (h' := (HM P (u_m_broken c430.2 ((a_m_broken c430.2) ||| (1 <<< ((y403 - 1) &&& 31)))) T)) (cs' := 0) (sl' := 0) rfl ?_
                      obtain ⟨c435, hq, h⟩ := ai_bdE h
                      refine ev_call (M' := mm_weighs) (L' := [some (.ref 89), none]) (rest := []) (rv := some (.int c435.1)) (h' := (HM P c435.2 T)) rfl (Em_weighs_89 (u_m_broken c430.2 ((a_m_broken c430.2) ||| (1 <<< ((y403 - 1) &&& 31)))) _ _ hq P T) ?_
                      show ai_ev D1 mm_comesDown 142 [some (.ref 89), some (.int y401), some (.int y402), some (.int y403), some (.int c404.1)] [.int c435.1] (HM P c435.2 T) 0 0 _
                      refine ev_go 1 (pc' := 143) (L' := [some (.ref 89), some (.int y401), some (.int y402), some (.int y403), some (.int c404.1)]) (st' := [.ref 89, .int c435.1]) (h' := (HM P c435.2 T)) (cs' := 0) (sl' := 0) rfl ?_
                      obtain ⟨c436, hq, h⟩ := ai_bdE h
                      refine ev_call (M' := mm_room) (L' := [some (.ref 89)]) (rest := [.int c435.1]) (rv := some (.int c436.1)) (h' := (HM P c436.2 T)) rfl (Em_room_89 c435.2 _ _ hq P T) ?_
                      show ai_ev D1 mm_comesDown 146 [some (.ref 89), some (.int y401), some (.int y402), some (.int y403), some (.int c404.1)] [.int c436.1, .int c435.1] (HM P c436.2 T) 0 0 _
                      refine ev_go 5 (pc' := 154) (L' := [some (.ref 89), some (.int y401), some (.int y402), some (.int y403), some (.int c404.1)]) (st' := [.int (8 + y403), .ref 90, .int c436.1, .int c435.1]) (h' := (HM P c436.2 T)) (cs' := 0) (sl' := 0) rfl ?_
                      obtain ⟨v437, hq, h⟩ := ai_bdE h
                      refine ev_iald rfl rfl hq ?_
                      refine ev_go 1 (pc' := 156) (L' := [some (.ref 89), some (.int y401), some (.int y402), some (.int y403), some (.int c404.1)]) (st' := [.int (c436.1 * v437), .int c435.1]) (h' := (HM P c436.2 T)) (cs' := 0) (sl' := 0) rfl ?_
                      rcases ai_ifE h with ⟨hc, h⟩ | ⟨hc, h⟩
                      · refine ev_ic_gt (t := 167) rfl rfl (fun _ => ?_) (fun c9 => absurd hc c9)
                        refine ev_go 7 (pc' := 176) (L' := [some (.ref 89), some (.int y401), some (.int y402), some (.int y403), some (.int c404.1)]) (st' := [.int ((a_m_passes c436.2) ||| (1 <<< (y403 &&& 31))), .ref 89]) (h' := (HM P c436.2 T)) (cs' := 0) (sl' := 0) rfl ?_
                        refine ev_step rfl rfl rfl (PFM_8_210_89 rfl) ?_
                        refine ev_go 5 (pc' := 187) (L' := [some (.ref 89), some (.int y401), some (.int y402), some (.int y403), some (.int c404.1)]) (st' := [.int ((a_m_down c436.2) + c404.1), .ref 89]) (h' := (HM P (u_m_passes c436.2 ((a_m_passes c436.2) ||| (1 <<< (y403 &&& 31)))) T)) (cs' := 0) (sl' := 0) rfl ?_
                        refine ev_step rfl rfl rfl (PFM_8_204_89 rfl) ?_
                        refine ev_go 4 (pc' := 29) (L' := [some (.ref 89), some (.int y401), some (.int y403), some (.int (y403 + 1)), some (.int c404.1)]) (st' := []) (h' := (HM P (u_m_down (u_m_passes c436.2 ((a_m_passes c436.2) ||| (1 <<< (y403 &&& 31)))) ((a_m_down c436.2) + c404.1)) T)) (cs' := 0) (sl' := 0) rfl ?_
                        exact ih0 _ _ _ _ _ h P T _
                      · refine ev_ic_gt (t := 167) rfl rfl (fun c9 => absurd c9 hc) (fun _ => ?_)
                        refine ev_go 2 (pc' := 161) (L' := [some (.ref 89), some (.int y401), some (.int y402), some (.int y403), some (.int c404.1)]) (st' := [.int y403, .ref 89]) (h' := (HM P c436.2 T)) (cs' := 0) (sl' := 0) rfl ?_
                        refine ev_step rfl rfl rfl (PFM_8_201_89 rfl) ?_
                        refine ev_go 3 (pc' := 29) (L' := [some (.ref 89), some (.int y401), some (.int y402), some (.int (y403 + 1)), some (.int c404.1)]) (st' := []) (h' := (HM P (u_m_restsIn c436.2 y403) T)) (cs' := 0) (sl' := 0) rfl ?_
                        exact ih0 _ _ _ _ _ h P T _
                    · refine ev_if_eq (t := 129) rfl rfl (fun c9 => absurd c9 hc) (fun _ => ?_)
                      refine ev_go 3 (pc' := 135) (L' := [some (.ref 89), some (.int y401), some (.int y402), some (.int y403), some (.int c404.1)]) (st' := [.int ((a_m_broken c430.2) ||| 0), .ref 89]) (h' := (HM P c430.2 T)) (cs' := 0) (sl' := 0) rfl ?_
                      refine ev_step rfl rfl rfl (PFM_8_207_89 rfl) ?_
                      refine ev_go 1 (pc' := 139) (L' := [some (.ref 89), some (.int y401), some (.int y402), some (.int y403), some (.int c404.1)]) (st' := [.ref 89]) (h' := (HM P (u_m_broken c430.2 ((a_m_broken c430.2) ||| 0)) T)) (cs' := 0) (sl' := 0) rfl ?_
                      obtain ⟨c438, hq, h⟩ := ai_bdE h
                      refine ev_call (M' := mm_weighs) (L' := [some (.ref 89), none]) (rest := []) (rv := some (.int c438.1)) (h' := (HM P c438.2 T)) rfl (Em_weighs_89 (u_m_broken c430.2 ((a_m_broken c430.2) ||| 0)) _ _ hq P T) ?_
                      show ai_ev D1 mm_comesDown 142 [some (.ref 89), some (.int y401), some (.int y402), some (.int y403), some (.int c404.1)] [.int c438.1] (HM P c438.2 T) 0 0 _
                      refine ev_go 1 (pc' := 143) (L' := [some (.ref 89), some (.int y401), some (.int y402), some (.int y403), some (.int c404.1)]) (st' := [.ref 89, .int c438.1]) (h' := (HM P c438.2 T)) (cs' := 0) (sl' := 0) rfl ?_
                      obtain ⟨c439, hq, h⟩ := ai_bdE h
                      refine ev_call (M' := mm_room) (L' := [some (.ref 89)]) (rest := [.int c438.1]) (rv := some (.int c439.1)) (h' := (HM P c439.2 T)) rfl (Em_room_89 c438.2 _ _ hq P T) ?_
                      show ai_ev D1 mm_comesDown 146 [some (.ref 89), some (.int y401), some (.int y402), some (.int y403), some (.int c404.1)] [.int c439.1, .int c438.1] (HM P c439.2 T) 0 0 _
                      refine ev_go 5 (pc' := 154) (L' := [some (.ref 89), some (.int y401), some (.int y402), some (.int y403), some (.int c404.1)]) (st' := [.int (8 + y403), .ref 90, .int c439.1, .int c438.1]) (h' := (HM P c439.2 T)) (cs' := 0) (sl' := 0) rfl ?_
                      obtain ⟨v440, hq, h⟩ := ai_bdE h
                      refine ev_iald rfl rfl hq ?_
                      refine ev_go 1 (pc' := 156) (L' := [some (.ref 89), some (.int y401), some (.int y402), some (.int y403), some (.int c404.1)]) (st' := [.int (c439.1 * v440), .int c438.1]) (h' := (HM P c439.2 T)) (cs' := 0) (sl' := 0) rfl ?_
                      rcases ai_ifE h with ⟨hc, h⟩ | ⟨hc, h⟩
                      · refine ev_ic_gt (t := 167) rfl rfl (fun _ => ?_) (fun c9 => absurd hc c9)
                        refine ev_go 7 (pc' := 176) (L' := [some (.ref 89), some (.int y401), some (.int y402), some (.int y403), some (.int c404.1)]) (st' := [.int ((a_m_passes c439.2) ||| (1 <<< (y403 &&& 31))), .ref 89]) (h' := (HM P c439.2 T)) (cs' := 0) (sl' := 0) rfl ?_
                        refine ev_step rfl rfl rfl (PFM_8_210_89 rfl) ?_
                        refine ev_go 5 (pc' := 187) (L' := [some (.ref 89), some (.int y401), some (.int y402), some (.int y403), some (.int c404.1)]) (st' := [.int ((a_m_down c439.2) + c404.1), .ref 89]) (h' := (HM P (u_m_passes c439.2 ((a_m_passes c439.2) ||| (1 <<< (y403 &&& 31)))) T)) (cs' := 0) (sl' := 0) rfl ?_
                        refine ev_step rfl rfl rfl (PFM_8_204_89 rfl) ?_
                        refine ev_go 4 (pc' := 29) (L' := [some (.ref 89), some (.int y401), some (.int y403), some (.int (y403 + 1)), some (.int c404.1)]) (st' := []) (h' := (HM P (u_m_down (u_m_passes c439.2 ((a_m_passes c439.2) ||| (1 <<< (y403 &&& 31)))) ((a_m_down c439.2) + c404.1)) T)) (cs' := 0) (sl' := 0) rfl ?_
                        exact ih0 _ _ _ _ _ h P T _
                      · refine ev_ic_gt (t := 167) rfl rfl (fun c9 => absurd c9 hc) (fun _ => ?_)
                        refine ev_go 2 (pc' := 161) (L' := [some (.ref 89), some (.int y401), some (.int y402), some (.int y403), some (.int c404.1)]) (st' := [.int y403, .ref 89]) (h' := (HM P c439.2 T)) (cs' := 0) (sl' := 0) rfl ?_
                        refine ev_step rfl rfl rfl (PFM_8_201_89 rfl) ?_
                        refine ev_go 3 (pc' := 29) (L' := [some (.ref 89), some (.int y401), some (.int y402), some (.int (y403 + 1)), some (.int c404.1)]) (st' := []) (h' := (HM P (u_m_restsIn c439.2 y403) T)) (cs' := 0) (sl' := 0) rfl ?_
                        exact ih0 _ _ _ _ _ h P T _
        · refine ev_ic_ne (t := 198) rfl rfl (fun _ => ?_) (fun c9 => absurd c9 hc)
          obtain rfl := Option.some.inj h
          exact ev_end rfl
      · refine ev_ic_ne (t := 198) rfl rfl (fun _ => ?_) (fun c9 => absurd c9 hc)
        obtain rfl := Option.some.inj h
        exact ev_end rfl
set_option maxHeartbeats 40000000 in
set_option maxRecDepth 100000 in
theorem Em_comesDown_89 (n : Nat) (x400 : Int32) (w : WM) (w' : WM) (h : Fm_comesDown_89 n x400 w = some w') (P : Nat → ai_E) (T : ai_H) : ai_ev D1 mm_comesDown 0 [some (.ref 89), some (.int x400), none, none, none] [] (HM P w T) 0 0 (none, HM P w' T) := by
  unfold Fm_comesDown_89 at h
  have ih0 := EGm_comesDown_89 n
  refine ev_go 2 (pc' := 2) (L' := [some (.ref 89), some (.int x400), none, none, none]) (st' := [.int 4, .ref 89]) (h' := (HM P w T)) (cs' := 0) (sl' := 0) rfl ?_
  refine ev_step rfl rfl rfl (PFM_8_201_89 rfl) ?_
  refine ev_go 2 (pc' := 7) (L' := [some (.ref 89), some (.int x400), none, none, none]) (st' := [.int 0, .ref 89]) (h' := (HM P (u_m_restsIn w 4) T)) (cs' := 0) (sl' := 0) rfl ?_
  refine ev_step rfl rfl rfl (PFM_8_204_89 rfl) ?_
  refine ev_go 2 (pc' := 12) (L' := [some (.ref 89), some (.int x400), none, none, none]) (st' := [.int 0, .ref 89]) (h' := (HM P (u_m_down (u_m_restsIn w 4) 0) T)) (cs' := 0) (sl' := 0) rfl ?_
  refine ev_step rfl rfl rfl (PFM_8_207_89 rfl) ?_
  refine ev_go 2 (pc' := 17) (L' := [some (.ref 89), some (.int x400), none, none, none]) (st' := [.int 0, .ref 89]) (h' := (HM P (u_m_broken (u_m_down (u_m_restsIn w 4) 0) 0) T)) (cs' := 0) (sl' := 0) rfl ?_
  refine ev_step rfl rfl rfl (PFM_8_210_89 rfl) ?_
  refine ev_go 2 (pc' := 22) (L' := [some (.ref 89), some (.int x400), none, none, none]) (st' := [.int (-1), .ref 89]) (h' := (HM P (u_m_passes (u_m_broken (u_m_down (u_m_restsIn w 4) 0) 0) 0) T)) (cs' := 0) (sl' := 0) rfl ?_
  refine ev_step rfl rfl rfl (PFM_8_213_89 rfl) ?_
  refine ev_go 4 (pc' := 29) (L' := [some (.ref 89), some (.int x400), some (.int (-1)), some (.int 0), none]) (st' := []) (h' := (HM P (u_m_stops (u_m_passes (u_m_broken (u_m_down (u_m_restsIn w 4) 0) 0) 0) (-1)) T)) (cs' := 0) (sl' := 0) rfl ?_
  exact ih0 _ _ _ _ _ h P T _
set_option maxHeartbeats 40000000 in
set_option maxRecDepth 100000 in
theorem Em_rests_89 (n : Nat) (x391 : Int32) (x392 : Int32) (x393 : Int32) (w : WM) (r : Int32) (w' : WM) (h : Fm_rests_89 n x391 x392 x393 w = some (r, w')) (P : Nat → ai_E) (T : ai_H) : ai_ev D1 mm_rests 0 [some (.ref 89), some (.int x391), some (.int x392), some (.int x393)] [] (HM P w T) 0 0 (some (.int r), HM P w' T) := by
  unfold Fm_rests_89 at h
  refine ev_go 2 (pc' := 2) (L' := [some (.ref 89), some (.int x391), some (.int x392), some (.int x393)]) (st' := [.int x391, .ref 89]) (h' := (HM P w T)) (cs' := 0) (sl' := 0) rfl ?_
  obtain ⟨c394, hq, h⟩ := ai_bdE h
  refine ev_call (M' := mm_isThing) (L' := [some (.ref 89), some (.int x391)]) (rest := []) (rv := some (.int c394.1)) (h' := (HM P c394.2 T)) rfl (Em_isThing_89 x391 w _ _ hq P T) ?_
  show ai_ev D1 mm_rests 5 [some (.ref 89), some (.int x391), some (.int x392), some (.int x393)] [.int c394.1] (HM P c394.2 T) 0 0 _
  rcases ai_ifE h with ⟨hc, h⟩ | ⟨hc, h⟩
  · refine ev_if_eq (t := 28) rfl rfl (fun _ => ?_) (fun c9 => absurd hc c9)
    refine ev_go 1 (pc' := 29) (L' := [some (.ref 89), some (.int x391), some (.int x392), some (.int x393)]) (st' := [.ref 89]) (h' := (HM P c394.2 T)) (cs' := 0) (sl' := 0) rfl ?_
    obtain ⟨c395, hq, h⟩ := ai_bdE h
    refine ev_call (M' := mm_bad) (L' := [some (.ref 89)]) (rest := []) (rv := some (.int c395.1)) (h' := (HM P c395.2 T)) rfl (Em_bad_89 c394.2 _ _ hq P T) ?_
    show ai_ev D1 mm_rests 32 [some (.ref 89), some (.int x391), some (.int x392), some (.int x393)] [.int c395.1] (HM P c395.2 T) 0 0 _
    obtain ⟨rfl, rfl⟩ := ai_smP h
    exact ev_end rfl
  · refine ev_if_eq (t := 28) rfl rfl (fun c9 => absurd c9 hc) (fun _ => ?_)
    refine ev_go 2 (pc' := 10) (L' := [some (.ref 89), some (.int x391), some (.int x392), some (.int x393)]) (st' := [.int x392, .ref 89]) (h' := (HM P c394.2 T)) (cs' := 0) (sl' := 0) rfl ?_
    obtain ⟨c396, hq, h⟩ := ai_bdE h
    refine ev_call (M' := mm_isCell) (L' := [some (.ref 89), some (.int x392)]) (rest := []) (rv := some (.int c396.1)) (h' := (HM P c396.2 T)) rfl (Em_isCell_89 x392 c394.2 _ _ hq P T) ?_
    show ai_ev D1 mm_rests 13 [some (.ref 89), some (.int x391), some (.int x392), some (.int x393)] [.int c396.1] (HM P c396.2 T) 0 0 _
    rcases ai_ifE h with ⟨hc, h⟩ | ⟨hc, h⟩
    · refine ev_if_eq (t := 28) rfl rfl (fun _ => ?_) (fun c9 => absurd hc c9)
      refine ev_go 1 (pc' := 29) (L' := [some (.ref 89), some (.int x391), some (.int x392), some (.int x393)]) (st' := [.ref 89]) (h' := (HM P c396.2 T)) (cs' := 0) (sl' := 0) rfl ?_
      obtain ⟨c397, hq, h⟩ := ai_bdE h
      refine ev_call (M' := mm_bad) (L' := [some (.ref 89)]) (rest := []) (rv := some (.int c397.1)) (h' := (HM P c397.2 T)) rfl (Em_bad_89 c396.2 _ _ hq P T) ?_
      show ai_ev D1 mm_rests 32 [some (.ref 89), some (.int x391), some (.int x392), some (.int x393)] [.int c397.1] (HM P c397.2 T) 0 0 _
      obtain ⟨rfl, rfl⟩ := ai_smP h
      exact ev_end rfl
    · refine ev_if_eq (t := 28) rfl rfl (fun c9 => absurd c9 hc) (fun _ => ?_)
      refine ev_go 4 (pc' := 22) (L' := [some (.ref 89), some (.int x391), some (.int x392), some (.int x393)]) (st' := [.long 2, .long 0, .long (x393).toInt64]) (h' := (HM P c396.2 T)) (cs' := 0) (sl' := 0) rfl ?_
      obtain ⟨c398, hq, h⟩ := ai_bdE h
      refine ev_call (M' := mm_in) (L' := [some (.long (x393).toInt64), none, some (.long 0), none, some (.long 2), none]) (rest := []) (rv := some (.int c398)) (h' := (HM P c396.2 T)) rfl (Em_in (x393).toInt64 0 2 _ hq (HM P c396.2 T)) ?_
      show ai_ev D1 mm_rests 25 [some (.ref 89), some (.int x391), some (.int x392), some (.int x393)] [.int c398] (HM P c396.2 T) 0 0 _
      rcases ai_ifE h with ⟨hc, h⟩ | ⟨hc, h⟩
      · refine ev_if_ne (t := 33) rfl rfl (fun c9 => absurd hc c9) (fun _ => ?_)
        refine ev_go 1 (pc' := 29) (L' := [some (.ref 89), some (.int x391), some (.int x392), some (.int x393)]) (st' := [.ref 89]) (h' := (HM P c396.2 T)) (cs' := 0) (sl' := 0) rfl ?_
        obtain ⟨c442, hq, h⟩ := ai_bdE h
        refine ev_call (M' := mm_bad) (L' := [some (.ref 89)]) (rest := []) (rv := some (.int c442.1)) (h' := (HM P c442.2 T)) rfl (Em_bad_89 c396.2 _ _ hq P T) ?_
        show ai_ev D1 mm_rests 32 [some (.ref 89), some (.int x391), some (.int x392), some (.int x393)] [.int c442.1] (HM P c442.2 T) 0 0 _
        obtain ⟨rfl, rfl⟩ := ai_smP h
        exact ev_end rfl
      · refine ev_if_ne (t := 33) rfl rfl (fun _ => ?_) (fun c9 => absurd c9 hc)
        refine ev_go 2 (pc' := 35) (L' := [some (.ref 89), some (.int x391), some (.int x392), some (.int x393)]) (st' := [.int x391, .ref 89]) (h' := (HM P c396.2 T)) (cs' := 0) (sl' := 0) rfl ?_
        obtain ⟨c399, hq, h⟩ := ai_bdE h
        refine ev_call (M' := mm_lay) (L' := [some (.ref 89), some (.int x391)]) (rest := []) (rv := none) (h' := (HM P c399 T)) rfl (Em_lay_89 x391 c396.2 _ hq P T) ?_
        show ai_ev D1 mm_rests 38 [some (.ref 89), some (.int x391), some (.int x392), some (.int x393)] [] (HM P c399 T) 0 0 _
        refine ev_go 2 (pc' := 40) (L' := [some (.ref 89), some (.int x391), some (.int x392), some (.int x393)]) (st' := [.int x392, .ref 89]) (h' := (HM P c399 T)) (cs' := 0) (sl' := 0) rfl ?_
        obtain ⟨c441, hq, h⟩ := ai_bdE h
        refine ev_call (M' := mm_comesDown) (L' := [some (.ref 89), some (.int x392), none, none, none]) (rest := []) (rv := none) (h' := (HM P c441 T)) rfl (Em_comesDown_89 n x392 c399 _ hq P T) ?_
        show ai_ev D1 mm_rests 43 [some (.ref 89), some (.int x391), some (.int x392), some (.int x393)] [] (HM P c441 T) 0 0 _
        refine ev_go 1 (pc' := 44) (L' := [some (.ref 89), some (.int x391), some (.int x392), some (.int x393)]) (st' := [.int x393]) (h' := (HM P c441 T)) (cs' := 0) (sl' := 0) rfl ?_
        rcases ai_ifE h with ⟨hc, h⟩ | ⟨hc, h⟩
        · refine ev_if_ne (t := 54) rfl rfl (fun c9 => absurd hc c9) (fun _ => ?_)
          refine ev_go 3 (pc' := 70) (L' := [some (.ref 89), some (.int x391), some (.int x392), some (.int x393)]) (st' := [.int (a_m_restsIn c441)]) (h' := (HM P c441 T)) (cs' := 0) (sl' := 0) rfl ?_
          obtain ⟨rfl, rfl⟩ := ai_smP h
          exact ev_end rfl
        · refine ev_if_ne (t := 54) rfl rfl (fun _ => ?_) (fun c9 => absurd c9 hc)
          refine ev_go 2 (pc' := 56) (L' := [some (.ref 89), some (.int x391), some (.int x392), some (.int x393)]) (st' := [.int 1, .int x393]) (h' := (HM P c441 T)) (cs' := 0) (sl' := 0) rfl ?_
          rcases ai_ifE h with ⟨hc, h⟩ | ⟨hc, h⟩
          · refine ev_ic_ne (t := 66) rfl rfl (fun c9 => absurd hc c9) (fun _ => ?_)
            refine ev_go 3 (pc' := 70) (L' := [some (.ref 89), some (.int x391), some (.int x392), some (.int x393)]) (st' := [.int (a_m_down c441)]) (h' := (HM P c441 T)) (cs' := 0) (sl' := 0) rfl ?_
            obtain ⟨rfl, rfl⟩ := ai_smP h
            exact ev_end rfl
          · refine ev_ic_ne (t := 66) rfl rfl (fun _ => ?_) (fun c9 => absurd c9 hc)
            refine ev_go 2 (pc' := 70) (L' := [some (.ref 89), some (.int x391), some (.int x392), some (.int x393)]) (st' := [.int (a_m_broken c441)]) (h' := (HM P c441 T)) (cs' := 0) (sl' := 0) rfl ?_
            obtain ⟨rfl, rfl⟩ := ai_smP h
            exact ev_end rfl
