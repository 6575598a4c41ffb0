set_option maxHeartbeats 40000000 in
set_option maxRecDepth 100000 in
theorem Em_part_89 (x909 : Int32) (w : WM) (r : Int64) (w' : WM) (h : Fm_part_89 x909 w = some (r, w')) (P : Nat → ai_E) (T : ai_H) : ai_ev D1 mm_part 0 [some (.ref 89), some (.int x909)] [] (HM P w T) 0 0 (some (.long r), HM P w' T) := by
  unfold Fm_part_89 at h
  refine ev_go 1 (pc' := 1) (L' := [some (.ref 89), some (.int x909)]) (st' := [.int x909]) (h' := (HM P w T)) (cs' := 0) (sl' := 0) rfl ?_
  rcases ai_ifE h with ⟨hc, h⟩ | ⟨hc, h⟩
  · refine ev_if_ne (t := 11) rfl rfl (fun c9 => absurd hc c9) (fun _ => ?_)
    refine ev_go 3 (pc' := 28) (L' := [some (.ref 89), some (.int x909)]) (st' := [.long (a_m_above w)]) (h' := (HM P w T)) (cs' := 0) (sl' := 0) rfl ?_
    obtain ⟨rfl, rfl⟩ := ai_smP h
    exact ev_end rfl
  · refine ev_if_ne (t := 11) rfl rfl (fun _ => ?_) (fun c9 => absurd c9 hc)
    refine ev_go 2 (pc' := 13) (L' := [some (.ref 89), some (.int x909)]) (st' := [.int 1, .int x909]) (h' := (HM P w T)) (cs' := 0) (sl' := 0) rfl ?_
    rcases ai_ifE h with ⟨hc, h⟩ | ⟨hc, h⟩
    · refine ev_ic_ne (t := 23) rfl rfl (fun c9 => absurd hc c9) (fun _ => ?_)
      refine ev_go 3 (pc' := 28) (L' := [some (.ref 89), some (.int x909)]) (st' := [.long (a_m_below w)]) (h' := (HM P w T)) (cs' := 0) (sl' := 0) rfl ?_
      obtain ⟨rfl, rfl⟩ := ai_smP h
      exact ev_end rfl
    · refine ev_ic_ne (t := 23) rfl rfl (fun _ => ?_) (fun c9 => absurd c9 hc)
      refine ev_go 1 (pc' := 24) (L' := [some (.ref 89), some (.int x909)]) (st' := [.ref 89]) (h' := (HM P w T)) (cs' := 0) (sl' := 0) rfl ?_
      obtain ⟨c910, hq, h⟩ := ai_bdE h
      refine ev_call (M' := mm_bad) (L' := [some (.ref 89)]) (rest := []) (rv := some (.int c910.1)) (h' := (HM P c910.2 T)) rfl (Em_bad_89 w _ _ hq P T) ?_
      show ai_ev D1 mm_part 27 [some (.ref 89), some (.int x909)] [.int c910.1] (HM P c910.2 T) 0 0 _
      refine ev_go 1 (pc' := 28) (L' := [some (.ref 89), some (.int x909)]) (st' := [.long (c910.1).toInt64]) (h' := (HM P c910.2 T)) (cs' := 0) (sl' := 0) rfl ?_
      obtain ⟨rfl, rfl⟩ := ai_smP h
      exact ev_end rfl
set_option maxHeartbeats 40000000 in
set_option maxRecDepth 100000 in
theorem Em_image_89 (n : Nat) (x911 : Int32) (w : WM) (r : Int32) (w' : WM) (h : Fm_image_89 n x911 w = some (r, w')) (P : Nat → ai_E) (T : ai_H) : ai_ev D1 mm_image 0 [some (.ref 89), some (.int x911)] [] (HM P w T) 0 0 (some (.int r), HM P w' T) := by
  unfold Fm_image_89 at h
  refine ev_go 4 (pc' := 4) (L' := [some (.ref 89), some (.int x911)]) (st' := [.long 1, .long 0, .long (x911).toInt64]) (h' := (HM P w T)) (cs' := 0) (sl' := 0) rfl ?_
  obtain ⟨c912, hq, h⟩ := ai_bdE h
  refine ev_call (M' := mm_in) (L' := [some (.long (x911).toInt64), none, some (.long 0), none, some (.long 1), none]) (rest := []) (rv := some (.int c912)) (h' := (HM P w T)) rfl (Em_in (x911).toInt64 0 1 _ hq (HM P w T)) ?_
  show ai_ev D1 mm_image 7 [some (.ref 89), some (.int x911)] [.int c912] (HM P w T) 0 0 _
  rcases ai_ifE h with ⟨hc, h⟩ | ⟨hc, h⟩
  · refine ev_if_ne (t := 15) rfl rfl (fun c9 => absurd hc c9) (fun _ => ?_)
    refine ev_go 1 (pc' := 11) (L' := [some (.ref 89), some (.int x911)]) (st' := [.ref 89]) (h' := (HM P w T)) (cs' := 0) (sl' := 0) rfl ?_
    obtain ⟨c915, hq, h⟩ := ai_bdE h
    refine ev_call (M' := mm_bad) (L' := [some (.ref 89)]) (rest := []) (rv := some (.int c915.1)) (h' := (HM P c915.2 T)) rfl (Em_bad_89 w _ _ hq P T) ?_
    show ai_ev D1 mm_image 14 [some (.ref 89), some (.int x911)] [.int c915.1] (HM P c915.2 T) 0 0 _
    obtain ⟨rfl, rfl⟩ := ai_smP h
    exact ev_end rfl
  · refine ev_if_ne (t := 15) rfl rfl (fun _ => ?_) (fun c9 => absurd c9 hc)
    refine ev_go 7 (pc' := 24) (L' := [some (.ref 89), some (.int x911)]) (st' := [.int (149 * (1 + x911)), .int 0, .ref 89]) (h' := (HM P w T)) (cs' := 0) (sl' := 0) rfl ?_
    obtain ⟨c913, hq, h⟩ := ai_bdE h
    refine ev_call (M' := mm_copy) (L' := [some (.ref 89), some (.int 0), some (.int (149 * (1 + x911))), none]) (rest := []) (rv := none) (h' := (HM P c913 T)) rfl (Em_copy_89 n 0 (149 * (1 + x911)) w _ hq P T) ?_
    show ai_ev D1 mm_image 27 [some (.ref 89), some (.int x911)] [] (HM P c913 T) 0 0 _
    refine ev_go 4 (pc' := 33) (L' := [some (.ref 89), some (.int x911)]) (st' := [.int 1, .int x911, .ref 91]) (h' := (HM P c913 T)) (cs' := 0) (sl' := 0) rfl ?_
    obtain ⟨q914, hq, h⟩ := ai_bdE h
    refine ev_zast rfl rfl hq ?_
    rw [HMs_91]
    refine ev_go 1 (pc' := 35) (L' := [some (.ref 89), some (.int x911)]) (st' := [.int 1]) (h' := (HM P (u_m_isKept c913 q914) T)) (cs' := 0) (sl' := 0) rfl ?_
    obtain ⟨rfl, rfl⟩ := ai_smP h
    exact ev_end rfl
set_option maxHeartbeats 40000000 in
set_option maxRecDepth 100000 in
theorem Em_from_89 (n : Nat) (x916 : Int32) (w : WM) (r : Int32) (w' : WM) (h : Fm_from_89 n x916 w = some (r, w')) (P : Nat → ai_E) (T : ai_H) : ai_ev D1 mm_from 0 [some (.ref 89), some (.int x916)] [] (HM P w T) 0 0 (some (.int r), HM P w' T) := by
  unfold Fm_from_89 at h
  refine ev_go 4 (pc' := 4) (L' := [some (.ref 89), some (.int x916)]) (st' := [.long 1, .long 0, .long (x916).toInt64]) (h' := (HM P w T)) (cs' := 0) (sl' := 0) rfl ?_
  obtain ⟨c917, hq, h⟩ := ai_bdE h
  refine ev_call (M' := mm_in) (L' := [some (.long (x916).toInt64), none, some (.long 0), none, some (.long 1), none]) (rest := []) (rv := some (.int c917)) (h' := (HM P w T)) rfl (Em_in (x916).toInt64 0 1 _ hq (HM P w T)) ?_
  show ai_ev D1 mm_from 7 [some (.ref 89), some (.int x916)] [.int c917] (HM P w T) 0 0 _
  rcases ai_ifE h with ⟨hc, h⟩ | ⟨hc, h⟩
  · refine ev_if_ne (t := 15) rfl rfl (fun c9 => absurd hc c9) (fun _ => ?_)
    refine ev_go 1 (pc' := 11) (L' := [some (.ref 89), some (.int x916)]) (st' := [.ref 89]) (h' := (HM P w T)) (cs' := 0) (sl' := 0) rfl ?_
    obtain ⟨c921, hq, h⟩ := ai_bdE h
    refine ev_call (M' := mm_bad) (L' := [some (.ref 89)]) (rest := []) (rv := some (.int c921.1)) (h' := (HM P c921.2 T)) rfl (Em_bad_89 w _ _ hq P T) ?_
    show ai_ev D1 mm_from 14 [some (.ref 89), some (.int x916)] [.int c921.1] (HM P c921.2 T) 0 0 _
    obtain ⟨rfl, rfl⟩ := ai_smP h
    exact ev_end rfl
  · refine ev_if_ne (t := 15) rfl rfl (fun _ => ?_) (fun c9 => absurd c9 hc)
    refine ev_go 3 (pc' := 20) (L' := [some (.ref 89), some (.int x916)]) (st' := [.int x916, .ref 91]) (h' := (HM P w T)) (cs' := 0) (sl' := 0) rfl ?_
    obtain ⟨v918, hq, h⟩ := ai_bdE h
    refine ev_zald rfl rfl hq ?_
    rcases ai_ifE h with ⟨hc, h⟩ | ⟨hc, h⟩
    · refine ev_if_ne (t := 31) rfl rfl (fun c9 => absurd hc c9) (fun _ => ?_)
      refine ev_go 2 (pc' := 27) (L' := [some (.ref 89), some (.int x916)]) (st' := [.int (-3), .ref 89]) (h' := (HM P w T)) (cs' := 0) (sl' := 0) rfl ?_
      obtain ⟨c920, hq, h⟩ := ai_bdE h
      refine ev_call (M' := mm_met) (L' := [some (.ref 89), some (.int (-3))]) (rest := []) (rv := some (.int c920.1)) (h' := (HM P c920.2 T)) rfl (Em_met_89 (-3) w _ _ hq P T) ?_
      show ai_ev D1 mm_from 30 [some (.ref 89), some (.int x916)] [.int c920.1] (HM P c920.2 T) 0 0 _
      obtain ⟨rfl, rfl⟩ := ai_smP h
      exact ev_end rfl
    · refine ev_if_ne (t := 31) rfl rfl (fun _ => ?_) (fun c9 => absurd c9 hc)
      refine ev_go 7 (pc' := 40) (L' := [some (.ref 89), some (.int x916)]) (st' := [.int 0, .int (149 * (1 + x916)), .ref 89]) (h' := (HM P w T)) (cs' := 0) (sl' := 0) rfl ?_
      obtain ⟨c919, hq, h⟩ := ai_bdE h
      refine ev_call (M' := mm_copy) (L' := [some (.ref 89), some (.int (149 * (1 + x916))), some (.int 0), none]) (rest := []) (rv := none) (h' := (HM P c919 T)) rfl (Em_copy_89 n (149 * (1 + x916)) 0 w _ hq P T) ?_
      show ai_ev D1 mm_from 43 [some (.ref 89), some (.int x916)] [] (HM P c919 T) 0 0 _
      refine ev_go 1 (pc' := 44) (L' := [some (.ref 89), some (.int x916)]) (st' := [.int 1]) (h' := (HM P c919 T)) (cs' := 0) (sl' := 0) rfl ?_
      obtain ⟨rfl, rfl⟩ := ai_smP h
      exact ev_end rfl
set_option maxHeartbeats 40000000 in
set_option maxRecDepth 100000 in
theorem Em_status_89 (x922 : Int32) (w : WM) (r : Int32) (w' : WM) (h : Fm_status_89 x922 w = some (r, w')) (P : Nat → ai_E) (T : ai_H) : ai_ev D1 mm_status 0 [some (.ref 89), some (.int x922)] [] (HM P w T) 0 0 (some (.int r), HM P w' T) := by
  unfold Fm_status_89 at h
  refine ev_go 4 (pc' := 6) (L' := [some (.ref 89), some (.int x922)]) (st' := [.long 2, .long 0, .long (x922).toInt64]) (h' := (HM P w T)) (cs' := 0) (sl' := 0) rfl ?_
  obtain ⟨c923, hq, h⟩ := ai_bdE h
  refine ev_call (M' := mm_in) (L' := [some (.long (x922).toInt64), none, some (.long 0), none, some (.long 2), none]) (rest := []) (rv := some (.int c923)) (h' := (HM P w T)) rfl (Em_in (x922).toInt64 0 2 _ hq (HM P w T)) ?_
  show ai_ev D1 mm_status 9 [some (.ref 89), some (.int x922)] [.int c923] (HM P w T) 0 0 _
  rcases ai_ifE h with ⟨hc, h⟩ | ⟨hc, h⟩
  · refine ev_if_eq (t := 21) rfl rfl (fun _ => ?_) (fun c9 => absurd hc c9)
    refine ev_go 2 (pc' := 23) (L' := [some (.ref 89), some (.int x922)]) (st' := [.int (-1), .ref 89]) (h' := (HM P w T)) (cs' := 0) (sl' := 0) rfl ?_
    obtain ⟨c924, hq, h⟩ := ai_bdE h
    refine ev_call (M' := mm_badAs) (L' := [some (.ref 89), some (.int (-1))]) (rest := []) (rv := some (.int c924.1)) (h' := (HM P c924.2 T)) rfl (Em_badAs_89 (-1) w _ _ hq P T) ?_
    show ai_ev D1 mm_status 26 [some (.ref 89), some (.int x922)] [.int c924.1] (HM P c924.2 T) 0 0 _
    obtain ⟨rfl, rfl⟩ := ai_smP h
    exact ev_end rfl
  · refine ev_if_eq (t := 21) rfl rfl (fun c9 => absurd c9 hc) (fun _ => ?_)
    refine ev_go 3 (pc' := 17) (L' := [some (.ref 89), some (.int x922)]) (st' := [.int x922, .ref 93]) (h' := (HM P w T)) (cs' := 0) (sl' := 0) rfl ?_
    obtain ⟨v925, hq, h⟩ := ai_bdE h
    refine ev_iald rfl rfl hq ?_
    refine ev_go 1 (pc' := 26) (L' := [some (.ref 89), some (.int x922)]) (st' := [.int v925]) (h' := (HM P w T)) (cs' := 0) (sl' := 0) rfl ?_
    obtain ⟨rfl, rfl⟩ := ai_smP h
    exact ev_end rfl
set_option maxHeartbeats 40000000 in
set_option maxRecDepth 100000 in
theorem Em_countOf_89 (x929 : Int32) (w : WM) (r : Int32) (w' : WM) (h : Fm_countOf_89 x929 w = some (r, w')) (P : Nat → ai_E) (T : ai_H) : ai_ev D1 mm_countOf 0 [some (.ref 89), some (.int x929)] [] (HM P w T) 0 0 (some (.int r), HM P w' T) := by
  unfold Fm_countOf_89 at h
  refine ev_go 1 (pc' := 1) (L' := [some (.ref 89), some (.int x929)]) (st' := [.int x929]) (h' := (HM P w T)) (cs' := 0) (sl' := 0) rfl ?_
  rcases ai_ifE h with ⟨hc, h⟩ | ⟨hs0, h⟩
  · refine ev_swi (k := 0) (t := 48) rfl hc (by decide) (by decide) rfl rfl ?_
    refine ev_go 3 (pc' := 53) (L' := [some (.ref 89), some (.int x929)]) (st' := [.int 0, .ref 90]) (h' := (HM P w T)) (cs' := 0) (sl' := 0) rfl ?_
    obtain ⟨v930, hq, h⟩ := ai_bdE h
    refine ev_iald rfl rfl hq ?_
    obtain ⟨rfl, rfl⟩ := ai_smP h
    exact ev_end rfl
  rcases ai_ifE h with ⟨hc, h⟩ | ⟨hs1, h⟩
  · refine ev_swi (k := 1) (t := 55) rfl hc (by decide) (by decide) rfl rfl ?_
    refine ev_go 3 (pc' := 60) (L' := [some (.ref 89), some (.int x929)]) (st' := [.int 1, .ref 90]) (h' := (HM P w T)) (cs' := 0) (sl' := 0) rfl ?_
    obtain ⟨v931, hq, h⟩ := ai_bdE h
    refine ev_iald rfl rfl hq ?_
    obtain ⟨rfl, rfl⟩ := ai_smP h
    exact ev_end rfl
  rcases ai_ifE h with ⟨hc, h⟩ | ⟨hs2, h⟩
  · refine ev_swi (k := 2) (t := 62) rfl hc (by decide) (by decide) rfl rfl ?_
    refine ev_go 3 (pc' := 67) (L' := [some (.ref 89), some (.int x929)]) (st' := [.int 2, .ref 90]) (h' := (HM P w T)) (cs' := 0) (sl' := 0) rfl ?_
    obtain ⟨v932, hq, h⟩ := ai_bdE h
    refine ev_iald rfl rfl hq ?_
    obtain ⟨rfl, rfl⟩ := ai_smP h
    exact ev_end rfl
  rcases ai_ifE h with ⟨hc, h⟩ | ⟨hs3, h⟩
  · refine ev_swi (k := 3) (t := 69) rfl hc (by decide) (by decide) rfl rfl ?_
    refine ev_go 3 (pc' := 74) (L' := [some (.ref 89), some (.int x929)]) (st' := [.int 3, .ref 90]) (h' := (HM P w T)) (cs' := 0) (sl' := 0) rfl ?_
    obtain ⟨v933, hq, h⟩ := ai_bdE h
    refine ev_iald rfl rfl hq ?_
    obtain ⟨rfl, rfl⟩ := ai_smP h
    exact ev_end rfl
  rcases ai_ifE h with ⟨hc, h⟩ | ⟨hs4, h⟩
  · refine ev_swi (k := 4) (t := 76) rfl hc (by decide) (by decide) rfl rfl ?_
    refine ev_go 3 (pc' := 81) (L' := [some (.ref 89), some (.int x929)]) (st' := [.int 4, .ref 90]) (h' := (HM P w T)) (cs' := 0) (sl' := 0) rfl ?_
    obtain ⟨v934, hq, h⟩ := ai_bdE h
    refine ev_iald rfl rfl hq ?_
    obtain ⟨rfl, rfl⟩ := ai_smP h
    exact ev_end rfl
  rcases ai_ifE h with ⟨hc, h⟩ | ⟨hs5, h⟩
  · refine ev_swi (k := 5) (t := 83) rfl hc (by decide) (by decide) rfl rfl ?_
    refine ev_go 3 (pc' := 88) (L' := [some (.ref 89), some (.int x929)]) (st' := [.int 5, .ref 90]) (h' := (HM P w T)) (cs' := 0) (sl' := 0) rfl ?_
    obtain ⟨v935, hq, h⟩ := ai_bdE h
    refine ev_iald rfl rfl hq ?_
    obtain ⟨rfl, rfl⟩ := ai_smP h
    exact ev_end rfl
  rcases ai_ifE h with ⟨hc, h⟩ | ⟨hs6, h⟩
  · refine ev_swi (k := 6) (t := 90) rfl hc (by decide) (by decide) rfl rfl ?_
    refine ev_go 3 (pc' := 96) (L' := [some (.ref 89), some (.int x929)]) (st' := [.int 6, .ref 90]) (h' := (HM P w T)) (cs' := 0) (sl' := 0) rfl ?_
    obtain ⟨v936, hq, h⟩ := ai_bdE h
    refine ev_iald rfl rfl hq ?_
    obtain ⟨rfl, rfl⟩ := ai_smP h
    exact ev_end rfl
  rcases ai_ifE h with ⟨hc, h⟩ | ⟨hs7, h⟩
  · refine ev_swi (k := 7) (t := 98) rfl hc (by decide) (by decide) rfl rfl ?_
    refine ev_go 3 (pc' := 104) (L' := [some (.ref 89), some (.int x929)]) (st' := [.int 7, .ref 90]) (h' := (HM P w T)) (cs' := 0) (sl' := 0) rfl ?_
    obtain ⟨v937, hq, h⟩ := ai_bdE h
    refine ev_iald rfl rfl hq ?_
    obtain ⟨rfl, rfl⟩ := ai_smP h
    exact ev_end rfl
  refine ev_swo (t := 106) (lo := 0) (n := 8) rfl (sw_out 0 8 (fun k hk => by match k, hk with | 0, _ => exact hs0 | 1, _ => exact hs1 | 2, _ => exact hs2 | 3, _ => exact hs3 | 4, _ => exact hs4 | 5, _ => exact hs5 | 6, _ => exact hs6 | 7, _ => exact hs7 | k + 8, hk => exact absurd hk (by omega))) ⟨rfl, by decide⟩ rfl ?_
  refine ev_go 2 (pc' := 110) (L' := [some (.ref 89), some (.int x929)]) (st' := [.int (a_m_texted w)]) (h' := (HM P w T)) (cs' := 0) (sl' := 0) rfl ?_
  obtain ⟨rfl, rfl⟩ := ai_smP h
  exact ev_end rfl
set_option maxHeartbeats 40000000 in
set_option maxRecDepth 100000 in
theorem Em_count_89 (x926 : Int32) (w : WM) (r : Int32) (w' : WM) (h : Fm_count_89 x926 w = some (r, w')) (P : Nat → ai_E) (T : ai_H) : ai_ev D1 mm_count 0 [some (.ref 89), some (.int x926)] [] (HM P w T) 0 0 (some (.int r), HM P w' T) := by
  unfold Fm_count_89 at h
  refine ev_go 4 (pc' := 6) (L' := [some (.ref 89), some (.int x926)]) (st' := [.long 8, .long 0, .long (x926).toInt64]) (h' := (HM P w T)) (cs' := 0) (sl' := 0) rfl ?_
  obtain ⟨c927, hq, h⟩ := ai_bdE h
  refine ev_call (M' := mm_in) (L' := [some (.long (x926).toInt64), none, some (.long 0), none, some (.long 8), none]) (rest := []) (rv := some (.int c927)) (h' := (HM P w T)) rfl (Em_in (x926).toInt64 0 8 _ hq (HM P w T)) ?_
  show ai_ev D1 mm_count 9 [some (.ref 89), some (.int x926)] [.int c927] (HM P w T) 0 0 _
  rcases ai_ifE h with ⟨hc, h⟩ | ⟨hc, h⟩
  · refine ev_if_eq (t := 20) rfl rfl (fun _ => ?_) (fun c9 => absurd hc c9)
    refine ev_go 1 (pc' := 21) (L' := [some (.ref 89), some (.int x926)]) (st' := [.ref 89]) (h' := (HM P w T)) (cs' := 0) (sl' := 0) rfl ?_
    obtain ⟨c928, hq, h⟩ := ai_bdE h
    refine ev_call (M' := mm_bad) (L' := [some (.ref 89)]) (rest := []) (rv := some (.int c928.1)) (h' := (HM P c928.2 T)) rfl (Em_bad_89 w _ _ hq P T) ?_
    show ai_ev D1 mm_count 24 [some (.ref 89), some (.int x926)] [.int c928.1] (HM P c928.2 T) 0 0 _
    obtain ⟨rfl, rfl⟩ := ai_smP h
    exact ev_end rfl
  · refine ev_if_eq (t := 20) rfl rfl (fun c9 => absurd c9 hc) (fun _ => ?_)
    refine ev_go 2 (pc' := 14) (L' := [some (.ref 89), some (.int x926)]) (st' := [.int x926, .ref 89]) (h' := (HM P w T)) (cs' := 0) (sl' := 0) rfl ?_
    obtain ⟨c938, hq, h⟩ := ai_bdE h
    refine ev_call (M' := mm_countOf) (L' := [some (.ref 89), some (.int x926)]) (rest := []) (rv := some (.int c938.1)) (h' := (HM P c938.2 T)) rfl (Em_countOf_89 x926 w _ _ hq P T) ?_
    show ai_ev D1 mm_count 17 [some (.ref 89), some (.int x926)] [.int c938.1] (HM P c938.2 T) 0 0 _
    refine ev_go 1 (pc' := 24) (L' := [some (.ref 89), some (.int x926)]) (st' := [.int c938.1]) (h' := (HM P c938.2 T)) (cs' := 0) (sl' := 0) rfl ?_
    obtain ⟨rfl, rfl⟩ := ai_smP h
    exact ev_end rfl
set_option maxHeartbeats 40000000 in
set_option maxRecDepth 100000 in
theorem Em_mix_89 (x942 : Int64) (w : WM) (w' : WM) (h : Fm_mix_89 x942 w = some w') (P : Nat → ai_E) (T : ai_H) : ai_ev D1 mm_mix 0 [some (.ref 89), some (.long x942), none] [] (HM P w T) 0 0 (none, HM P w' T) := by
  unfold Fm_mix_89 at h
  refine ev_go 7 (pc' := 11) (L' := [some (.ref 89), some (.long x942), none]) (st' := [.long ((31 * (a_m_h w)) + x942), .ref 89]) (h' := (HM P w T)) (cs' := 0) (sl' := 0) rfl ?_
  refine ev_step rfl rfl rfl (PFM_8_298_89 rfl) ?_
  obtain rfl := Option.some.inj h
  exact ev_end rfl
set_option maxHeartbeats 40000000 in
set_option maxRecDepth 100000 in
theorem EGm_mixSea_89 : ∀ n : Nat, (∀ (y940 : Int32) (w : WM) (w' : WM), Gm_mixSea_89 n 0 y940 0 w = some w' → ∀ (P : Nat → ai_E) (T : ai_H) (o2 : Option Value), ai_ev D1 mm_mixSea 2 [some (.ref 89), some (.int y940), o2] [] (HM P w T) 0 0 (none, HM P w' T)) ∧ (∀ (y949 : Int32) (y950 : Int32) (w : WM) (w' : WM), Gm_mixSea_89 n 1 y949 y950 w = some w' → ∀ (P : Nat → ai_E) (T : ai_H), ai_ev D1 mm_mixSea 37 [some (.ref 89), some (.int y949), some (.int y950)] [] (HM P w T) 0 0 (none, HM P w' T)) ∧ (∀ (y955 : Int32) (y956 : Int32) (w : WM) (w' : WM), Gm_mixSea_89 n 2 y955 y956 w = some w' → ∀ (P : Nat → ai_E) (T : ai_H), ai_ev D1 mm_mixSea 70 [some (.ref 89), some (.int y955), some (.int y956)] [] (HM P w T) 0 0 (none, HM P w' T)) ∧ (∀ (y946 : Int32) (w : WM) (w' : WM), Gm_mixSea_89 n 3 y946 0 w = some w' → ∀ (P : Nat → ai_E) (T : ai_H) (o2 : Option Value), ai_ev D1 mm_mixSea 113 [some (.ref 89), some (.int y946), o2] [] (HM P w T) 0 0 (none, HM P w' T)) ∧ (∀ (y953 : Int32) (w : WM) (w' : WM), Gm_mixSea_89 n 4 y953 0 w = some w' → ∀ (P : Nat → ai_E) (T : ai_H) (o2 : Option Value), ai_ev D1 mm_mixSea 140 [some (.ref 89), some (.int y953), o2] [] (HM P w T) 0 0 (none, HM P w' T)) ∧ (∀ (y960 : Int32) (y961 : Int32) (w : WM) (w' : WM), Gm_mixSea_89 n 5 y960 y961 w = some w' → ∀ (P : Nat → ai_E) (T : ai_H), ai_ev D1 mm_mixSea 152 [some (.ref 89), some (.int y960), some (.int y961)] [] (HM P w T) 0 0 (none, HM P w' T)) := by
  intro n
  induction n with
  | zero =>
    exact ⟨(fun _ _ _ h => by cases h), (fun _ _ _ _ h => by cases h), (fun _ _ _ _ h => by cases h), (fun _ _ _ h => by cases h), (fun _ _ _ h => by cases h), (fun _ _ _ _ h => by cases h)⟩
  | succ n ih =>
    obtain ⟨ih0, ih1, ih2, ih3, ih4, ih5⟩ := ih
    refine ⟨?_, ?_, ?_, ?_, ?_, ?_⟩
    · intro y940 w w' h P T o2
      simp only [Gm_mixSea_89] at h
      refine ev_go 2 (pc' := 4) (L' := [some (.ref 89), some (.int y940), o2]) (st' := [.int 4, .int y940]) (h' := (HM P w T)) (cs' := 0) (sl' := 0) rfl ?_
      rcases ai_ifE h with ⟨hc, h⟩ | ⟨hc, h⟩
      · refine ev_ic_ge (t := 111) rfl rfl (fun _ => ?_) (fun c9 => absurd hc c9)
        refine ev_go 2 (pc' := 113) (L' := [some (.ref 89), some (.int 0), o2]) (st' := []) (h' := (HM P w T)) (cs' := 0) (sl' := 0) rfl ?_
        exact ih3 _ _ _ h P T _
      · refine ev_ic_ge (t := 111) rfl rfl (fun c9 => absurd c9 hc) (fun _ => ?_)
        refine ev_go 6 (pc' := 16) (L' := [some (.ref 89), some (.int y940), o2]) (st' := [.int (8 + y940), .ref 90, .ref 89]) (h' := (HM P w T)) (cs' := 0) (sl' := 0) rfl ?_
        obtain ⟨v941, hq, h⟩ := ai_bdE h
        refine ev_iald rfl rfl hq ?_
        refine ev_go 1 (pc' := 18) (L' := [some (.ref 89), some (.int y940), o2]) (st' := [.long (v941).toInt64, .ref 89]) (h' := (HM P w T)) (cs' := 0) (sl' := 0) rfl ?_
        obtain ⟨c943, hq, h⟩ := ai_bdE h
        refine ev_call (M' := mm_mix) (L' := [some (.ref 89), some (.long (v941).toInt64), none]) (rest := []) (rv := none) (h' := (HM P c943 T)) rfl (Em_mix_89 (v941).toInt64 w _ hq P T) ?_
        show ai_ev D1 mm_mixSea 21 [some (.ref 89), some (.int y940), o2] [] (HM P c943 T) 0 0 _
        refine ev_go 6 (pc' := 30) (L' := [some (.ref 89), some (.int y940), o2]) (st' := [.int (12 + y940), .ref 90, .ref 89]) (h' := (HM P c943 T)) (cs' := 0) (sl' := 0) rfl ?_
        obtain ⟨v944, hq, h⟩ := ai_bdE h
        refine ev_iald rfl rfl hq ?_
        refine ev_go 1 (pc' := 32) (L' := [some (.ref 89), some (.int y940), o2]) (st' := [.long (v944).toInt64, .ref 89]) (h' := (HM P c943 T)) (cs' := 0) (sl' := 0) rfl ?_
        obtain ⟨c945, hq, h⟩ := ai_bdE h
        refine ev_call (M' := mm_mix) (L' := [some (.ref 89), some (.long (v944).toInt64), none]) (rest := []) (rv := none) (h' := (HM P c945 T)) rfl (Em_mix_89 (v944).toInt64 c943 _ hq P T) ?_
        show ai_ev D1 mm_mixSea 35 [some (.ref 89), some (.int y940), o2] [] (HM P c945 T) 0 0 _
        refine ev_go 2 (pc' := 37) (L' := [some (.ref 89), some (.int y940), some (.int 0)]) (st' := []) (h' := (HM P c945 T)) (cs' := 0) (sl' := 0) rfl ?_
        exact ih1 _ _ _ _ h P T
    · intro y949 y950 w w' h P T
      simp only [Gm_mixSea_89] at h
      refine ev_go 2 (pc' := 40) (L' := [some (.ref 89), some (.int y949), some (.int y950)]) (st' := [.int 6, .int y950]) (h' := (HM P w T)) (cs' := 0) (sl' := 0) rfl ?_
      rcases ai_ifE h with ⟨hc, h⟩ | ⟨hc, h⟩
      · refine ev_ic_ge (t := 68) rfl rfl (fun _ => ?_) (fun c9 => absurd hc c9)
        refine ev_go 2 (pc' := 70) (L' := [some (.ref 89), some (.int y949), some (.int 0)]) (st' := []) (h' := (HM P w T)) (cs' := 0) (sl' := 0) rfl ?_
        exact ih2 _ _ _ _ h P T
      · refine ev_ic_ge (t := 68) rfl rfl (fun c9 => absurd c9 hc) (fun _ => ?_)
        refine ev_go 10 (pc' := 57) (L' := [some (.ref 89), some (.int y949), some (.int y950)]) (st' := [.int ((16 + (6 * y949)) + y950), .ref 90, .ref 89]) (h' := (HM P w T)) (cs' := 0) (sl' := 0) rfl ?_
        obtain ⟨v951, hq, h⟩ := ai_bdE h
        refine ev_iald rfl rfl hq ?_
        refine ev_go 1 (pc' := 59) (L' := [some (.ref 89), some (.int y949), some (.int y950)]) (st' := [.long (v951).toInt64, .ref 89]) (h' := (HM P w T)) (cs' := 0) (sl' := 0) rfl ?_
        obtain ⟨c952, hq, h⟩ := ai_bdE h
        refine ev_call (M' := mm_mix) (L' := [some (.ref 89), some (.long (v951).toInt64), none]) (rest := []) (rv := none) (h' := (HM P c952 T)) rfl (Em_mix_89 (v951).toInt64 w _ hq P T) ?_
        show ai_ev D1 mm_mixSea 62 [some (.ref 89), some (.int y949), some (.int y950)] [] (HM P c952 T) 0 0 _
        refine ev_go 2 (pc' := 37) (L' := [some (.ref 89), some (.int y949), some (.int (y950 + 1))]) (st' := []) (h' := (HM P c952 T)) (cs' := 0) (sl' := 0) rfl ?_
        exact ih1 _ _ _ _ h P T
    · intro y955 y956 w w' h P T
      simp only [Gm_mixSea_89] at h
      refine ev_go 4 (pc' := 76) (L' := [some (.ref 89), some (.int y955), some (.int y956)]) (st' := [.int 0, .ref 90, .int y956]) (h' := (HM P w T)) (cs' := 0) (sl' := 0) rfl ?_
      obtain ⟨v957, hq, h⟩ := ai_bdE h
      refine ev_iald rfl rfl hq ?_
      rcases ai_ifE h with ⟨hc, h⟩ | ⟨hc, h⟩
      · refine ev_ic_ge (t := 105) rfl rfl (fun _ => ?_) (fun c9 => absurd hc c9)
        refine ev_go 2 (pc' := 2) (L' := [some (.ref 89), some (.int (y955 + 1)), some (.int y956)]) (st' := []) (h' := (HM P w T)) (cs' := 0) (sl' := 0) rfl ?_
        exact ih0 _ _ _ h P T _
      · refine ev_ic_ge (t := 105) rfl rfl (fun c9 => absurd c9 hc) (fun _ => ?_)
        refine ev_go 10 (pc' := 94) (L' := [some (.ref 89), some (.int y955), some (.int y956)]) (st' := [.int ((40 + (6 * y955)) + y956), .ref 90, .ref 89]) (h' := (HM P w T)) (cs' := 0) (sl' := 0) rfl ?_
        obtain ⟨v958, hq, h⟩ := ai_bdE h
        refine ev_iald rfl rfl hq ?_
        refine ev_go 1 (pc' := 96) (L' := [some (.ref 89), some (.int y955), some (.int y956)]) (st' := [.long (v958).toInt64, .ref 89]) (h' := (HM P w T)) (cs' := 0) (sl' := 0) rfl ?_
        obtain ⟨c959, hq, h⟩ := ai_bdE h
        refine ev_call (M' := mm_mix) (L' := [some (.ref 89), some (.long (v958).toInt64), none]) (rest := []) (rv := none) (h' := (HM P c959 T)) rfl (Em_mix_89 (v958).toInt64 w _ hq P T) ?_
        show ai_ev D1 mm_mixSea 99 [some (.ref 89), some (.int y955), some (.int y956)] [] (HM P c959 T) 0 0 _
        refine ev_go 2 (pc' := 70) (L' := [some (.ref 89), some (.int y955), some (.int (y956 + 1))]) (st' := []) (h' := (HM P c959 T)) (cs' := 0) (sl' := 0) rfl ?_
        exact ih2 _ _ _ _ h P T
    · intro y946 w w' h P T o2
      simp only [Gm_mixSea_89] at h
      refine ev_go 2 (pc' := 115) (L' := [some (.ref 89), some (.int y946), o2]) (st' := [.int 3, .int y946]) (h' := (HM P w T)) (cs' := 0) (sl' := 0) rfl ?_
      rcases ai_ifE h with ⟨hc, h⟩ | ⟨hc, h⟩
      · refine ev_ic_ge (t := 138) rfl rfl (fun _ => ?_) (fun c9 => absurd hc c9)
        refine ev_go 2 (pc' := 140) (L' := [some (.ref 89), some (.int 0), o2]) (st' := []) (h' := (HM P w T)) (cs' := 0) (sl' := 0) rfl ?_
        exact ih4 _ _ _ h P T _
      · refine ev_ic_ge (t := 138) rfl rfl (fun c9 => absurd c9 hc) (fun _ => ?_)
        refine ev_go 6 (pc' := 127) (L' := [some (.ref 89), some (.int y946), o2]) (st' := [.int (64 + y946), .ref 90, .ref 89]) (h' := (HM P w T)) (cs' := 0) (sl' := 0) rfl ?_
        obtain ⟨v947, hq, h⟩ := ai_bdE h
        refine ev_iald rfl rfl hq ?_
        refine ev_go 1 (pc' := 129) (L' := [some (.ref 89), some (.int y946), o2]) (st' := [.long (v947).toInt64, .ref 89]) (h' := (HM P w T)) (cs' := 0) (sl' := 0) rfl ?_
        obtain ⟨c948, hq, h⟩ := ai_bdE h
        refine ev_call (M' := mm_mix) (L' := [some (.ref 89), some (.long (v947).toInt64), none]) (rest := []) (rv := none) (h' := (HM P c948 T)) rfl (Em_mix_89 (v947).toInt64 w _ hq P T) ?_
        show ai_ev D1 mm_mixSea 132 [some (.ref 89), some (.int y946), o2] [] (HM P c948 T) 0 0 _
        refine ev_go 2 (pc' := 113) (L' := [some (.ref 89), some (.int (y946 + 1)), o2]) (st' := []) (h' := (HM P c948 T)) (cs' := 0) (sl' := 0) rfl ?_
        exact ih3 _ _ _ h P T _
    · intro y953 w w' h P T o2
      simp only [Gm_mixSea_89] at h
      refine ev_go 4 (pc' := 146) (L' := [some (.ref 89), some (.int y953), o2]) (st' := [.int 2, .ref 90, .int y953]) (h' := (HM P w T)) (cs' := 0) (sl' := 0) rfl ?_
      obtain ⟨v954, hq, h⟩ := ai_bdE h
      refine ev_iald rfl rfl hq ?_
      rcases ai_ifE h with ⟨hc, h⟩ | ⟨hc, h⟩
      · refine ev_ic_ge (t := 188) rfl rfl (fun _ => ?_) (fun c9 => absurd hc c9)
        obtain rfl := Option.some.inj h
        exact ev_end rfl
      · refine ev_ic_ge (t := 188) rfl rfl (fun c9 => absurd c9 hc) (fun _ => ?_)
        refine ev_go 2 (pc' := 152) (L' := [some (.ref 89), some (.int y953), some (.int 0)]) (st' := []) (h' := (HM P w T)) (cs' := 0) (sl' := 0) rfl ?_
        exact ih5 _ _ _ _ h P T
    · intro y960 y961 w w' h P T
      simp only [Gm_mixSea_89] at h
      refine ev_go 2 (pc' := 154) (L' := [some (.ref 89), some (.int y960), some (.int y961)]) (st' := [.int 4, .int y961]) (h' := (HM P w T)) (cs' := 0) (sl' := 0) rfl ?_
      rcases ai_ifE h with ⟨hc, h⟩ | ⟨hc, h⟩
      · refine ev_ic_ge (t := 182) rfl rfl (fun _ => ?_) (fun c9 => absurd hc c9)
        refine ev_go 2 (pc' := 140) (L' := [some (.ref 89), some (.int (y960 + 1)), some (.int y961)]) (st' := []) (h' := (HM P w T)) (cs' := 0) (sl' := 0) rfl ?_
        exact ih4 _ _ _ h P T _
      · refine ev_ic_ge (t := 182) rfl rfl (fun c9 => absurd c9 hc) (fun _ => ?_)
        refine ev_go 10 (pc' := 171) (L' := [some (.ref 89), some (.int y960), some (.int y961)]) (st' := [.int ((67 + (6 * y961)) + y960), .ref 90, .ref 89]) (h' := (HM P w T)) (cs' := 0) (sl' := 0) rfl ?_
        obtain ⟨v962, hq, h⟩ := ai_bdE h
        refine ev_iald rfl rfl hq ?_
        refine ev_go 1 (pc' := 173) (L' := [some (.ref 89), some (.int y960), some (.int y961)]) (st' := [.long (v962).toInt64, .ref 89]) (h' := (HM P w T)) (cs' := 0) (sl' := 0) rfl ?_
        obtain ⟨c963, hq, h⟩ := ai_bdE h
        refine ev_call (M' := mm_mix) (L' := [some (.ref 89), some (.long (v962).toInt64), none]) (rest := []) (rv := none) (h' := (HM P c963 T)) rfl (Em_mix_89 (v962).toInt64 w _ hq P T) ?_
        show ai_ev D1 mm_mixSea 176 [some (.ref 89), some (.int y960), some (.int y961)] [] (HM P c963 T) 0 0 _
        refine ev_go 2 (pc' := 152) (L' := [some (.ref 89), some (.int y960), some (.int (y961 + 1))]) (st' := []) (h' := (HM P c963 T)) (cs' := 0) (sl' := 0) rfl ?_
        exact ih5 _ _ _ _ h P T
set_option maxHeartbeats 40000000 in
set_option maxRecDepth 100000 in
theorem Em_mixSea_89 (n : Nat) (w : WM) (w' : WM) (h : Fm_mixSea_89 n w = some w') (P : Nat → ai_E) (T : ai_H) : ai_ev D1 mm_mixSea 0 [some (.ref 89), none, none] [] (HM P w T) 0 0 (none, HM P w' T) := by
  unfold Fm_mixSea_89 at h
  obtain ⟨ih0, ih1, ih2, ih3, ih4, ih5⟩ := EGm_mixSea_89 n
  refine ev_go 2 (pc' := 2) (L' := [some (.ref 89), some (.int 0), none]) (st' := []) (h' := (HM P w T)) (cs' := 0) (sl' := 0) rfl ?_
  exact ih0 _ _ _ h P T _
set_option maxHeartbeats 40000000 in
set_option maxRecDepth 100000 in
theorem EGm_digest_89 : ∀ n : Nat, (∀ (y939 : Int32) (w : WM) (r : Int64) (w' : WM), Gm_digest_89 n 0 y939 w = some (r, w') → ∀ (P : Nat → ai_E) (T : ai_H), ai_ev D1 mm_digest 9 [some (.ref 89), some (.int y939)] [] (HM P w T) 0 0 (some (.long r), HM P w' T)) ∧ (∀ (y967 : Int32) (w : WM) (r : Int64) (w' : WM), Gm_digest_89 n 1 y967 w = some (r, w') → ∀ (P : Nat → ai_E) (T : ai_H), ai_ev D1 mm_digest 37 [some (.ref 89), some (.int y967)] [] (HM P w T) 0 0 (some (.long r), HM P w' T)) ∧ (∀ (y975 : Int32) (w : WM) (r : Int64) (w' : WM), Gm_digest_89 n 2 y975 w = some (r, w') → ∀ (P : Nat → ai_E) (T : ai_H), ai_ev D1 mm_digest 97 [some (.ref 89), some (.int y975)] [] (HM P w T) 0 0 (some (.long r), HM P w' T)) ∧ (∀ (y979 : Int32) (w : WM) (r : Int64) (w' : WM), Gm_digest_89 n 3 y979 w = some (r, w') → ∀ (P : Nat → ai_E) (T : ai_H), ai_ev D1 mm_digest 129 [some (.ref 89), some (.int y979)] [] (HM P w T) 0 0 (some (.long r), HM P w' T)) := by
  intro n
  induction n with
  | zero =>
    exact ⟨(fun _ _ _ _ h => by cases h), (fun _ _ _ _ h => by cases h), (fun _ _ _ _ h => by cases h), (fun _ _ _ _ h => by cases h)⟩
  | succ n ih =>
    obtain ⟨ih0, ih1, ih2, ih3⟩ := ih
    refine ⟨?_, ?_, ?_, ?_⟩
    · intro y939 w r w' h P T
      simp only [Gm_digest_89] at h
      refine ev_go 2 (pc' := 12) (L' := [some (.ref 89), some (.int y939)]) (st' := [.int 9, .int y939]) (h' := (HM P w T)) (cs' := 0) (sl' := 0) rfl ?_
      rcases ai_ifE h with ⟨hc, h⟩ | ⟨hc, h⟩
      · refine ev_ic_ge (t := 31) rfl rfl (fun _ => ?_) (fun c9 => absurd hc c9)
        refine ev_go 1 (pc' := 32) (L' := [some (.ref 89), some (.int y939)]) (st' := [.ref 89]) (h' := (HM P w T)) (cs' := 0) (sl' := 0) rfl ?_
        obtain ⟨c964, hq, h⟩ := ai_bdE h
        refine ev_call (M' := mm_mixSea) (L' := [some (.ref 89), none, none]) (rest := []) (rv := none) (h' := (HM P c964 T)) rfl (Em_mixSea_89 n w _ hq P T) ?_
        show ai_ev D1 mm_digest 35 [some (.ref 89), some (.int y939)] [] (HM P c964 T) 0 0 _
        refine ev_go 2 (pc' := 37) (L' := [some (.ref 89), some (.int 0)]) (st' := []) (h' := (HM P c964 T)) (cs' := 0) (sl' := 0) rfl ?_
        exact ih1 _ _ _ _ h P T
      · refine ev_ic_ge (t := 31) rfl rfl (fun c9 => absurd c9 hc) (fun _ => ?_)
        refine ev_go 3 (pc' := 18) (L' := [some (.ref 89), some (.int y939)]) (st' := [.int y939, .ref 89, .ref 89]) (h' := (HM P w T)) (cs' := 0) (sl' := 0) rfl ?_
        obtain ⟨c965, hq, h⟩ := ai_bdE h
        refine ev_call (M' := mm_countOf) (L' := [some (.ref 89), some (.int y939)]) (rest := [.ref 89]) (rv := some (.int c965.1)) (h' := (HM P c965.2 T)) rfl (Em_countOf_89 y939 w _ _ hq P T) ?_
        show ai_ev D1 mm_digest 21 [some (.ref 89), some (.int y939)] [.int c965.1, .ref 89] (HM P c965.2 T) 0 0 _
        refine ev_go 1 (pc' := 22) (L' := [some (.ref 89), some (.int y939)]) (st' := [.long (c965.1).toInt64, .ref 89]) (h' := (HM P c965.2 T)) (cs' := 0) (sl' := 0) rfl ?_
        obtain ⟨c966, hq, h⟩ := ai_bdE h
        refine ev_call (M' := mm_mix) (L' := [some (.ref 89), some (.long (c965.1).toInt64), none]) (rest := []) (rv := none) (h' := (HM P c966 T)) rfl (Em_mix_89 (c965.1).toInt64 c965.2 _ hq P T) ?_
        show ai_ev D1 mm_digest 25 [some (.ref 89), some (.int y939)] [] (HM P c966 T) 0 0 _
        refine ev_go 2 (pc' := 9) (L' := [some (.ref 89), some (.int (y939 + 1))]) (st' := []) (h' := (HM P c966 T)) (cs' := 0) (sl' := 0) rfl ?_
        exact ih0 _ _ _ _ h P T
    · intro y967 w r w' h P T
      simp only [Gm_digest_89] at h
      refine ev_go 4 (pc' := 43) (L' := [some (.ref 89), some (.int y967)]) (st' := [.int 3, .ref 90, .int y967]) (h' := (HM P w T)) (cs' := 0) (sl' := 0) rfl ?_
      obtain ⟨v968, hq, h⟩ := ai_bdE h
      refine ev_iald rfl rfl hq ?_
      rcases ai_ifE h with ⟨hc, h⟩ | ⟨hc, h⟩
      · refine ev_ic_ge (t := 95) rfl rfl (fun _ => ?_) (fun c9 => absurd hc c9)
        refine ev_go 2 (pc' := 97) (L' := [some (.ref 89), some (.int 0)]) (st' := []) (h' := (HM P w T)) (cs' := 0) (sl' := 0) rfl ?_
        exact ih2 _ _ _ _ h P T
      · refine ev_ic_ge (t := 95) rfl rfl (fun c9 => absurd c9 hc) (fun _ => ?_)
        refine ev_go 6 (pc' := 56) (L' := [some (.ref 89), some (.int y967)]) (st' := [.int (91 + y967), .ref 90, .ref 89]) (h' := (HM P w T)) (cs' := 0) (sl' := 0) rfl ?_
        obtain ⟨v969, hq, h⟩ := ai_bdE h
        refine ev_iald rfl rfl hq ?_
        refine ev_go 1 (pc' := 58) (L' := [some (.ref 89), some (.int y967)]) (st' := [.long (v969).toInt64, .ref 89]) (h' := (HM P w T)) (cs' := 0) (sl' := 0) rfl ?_
        obtain ⟨c970, hq, h⟩ := ai_bdE h
        refine ev_call (M' := mm_mix) (L' := [some (.ref 89), some (.long (v969).toInt64), none]) (rest := []) (rv := none) (h' := (HM P c970 T)) rfl (Em_mix_89 (v969).toInt64 w _ hq P T) ?_
        show ai_ev D1 mm_digest 61 [some (.ref 89), some (.int y967)] [] (HM P c970 T) 0 0 _
        refine ev_go 6 (pc' := 70) (L' := [some (.ref 89), some (.int y967)]) (st' := [.int (101 + y967), .ref 90, .ref 89]) (h' := (HM P c970 T)) (cs' := 0) (sl' := 0) rfl ?_
        obtain ⟨v971, hq, h⟩ := ai_bdE h
        refine ev_iald rfl rfl hq ?_
        refine ev_go 1 (pc' := 72) (L' := [some (.ref 89), some (.int y967)]) (st' := [.long (v971).toInt64, .ref 89]) (h' := (HM P c970 T)) (cs' := 0) (sl' := 0) rfl ?_
        obtain ⟨c972, hq, h⟩ := ai_bdE h
        refine ev_call (M' := mm_mix) (L' := [some (.ref 89), some (.long (v971).toInt64), none]) (rest := []) (rv := none) (h' := (HM P c972 T)) rfl (Em_mix_89 (v971).toInt64 c970 _ hq P T) ?_
        show ai_ev D1 mm_digest 75 [some (.ref 89), some (.int y967)] [] (HM P c972 T) 0 0 _
        refine ev_go 6 (pc' := 84) (L' := [some (.ref 89), some (.int y967)]) (st' := [.int (111 + y967), .ref 90, .ref 89]) (h' := (HM P c972 T)) (cs' := 0) (sl' := 0) rfl ?_
        obtain ⟨v973, hq, h⟩ := ai_bdE h
        refine ev_iald rfl rfl hq ?_
        refine ev_go 1 (pc' := 86) (L' := [some (.ref 89), some (.int y967)]) (st' := [.long (v973).toInt64, .ref 89]) (h' := (HM P c972 T)) (cs' := 0) (sl' := 0) rfl ?_
        obtain ⟨c974, hq, h⟩ := ai_bdE h
        refine ev_call (M' := mm_mix) (L' := [some (.ref 89), some (.long (v973).toInt64), none]) (rest := []) (rv := none) (h' := (HM P c974 T)) rfl (Em_mix_89 (v973).toInt64 c972 _ hq P T) ?_
        show ai_ev D1 mm_digest 89 [some (.ref 89), some (.int y967)] [] (HM P c974 T) 0 0 _
        refine ev_go 2 (pc' := 37) (L' := [some (.ref 89), some (.int (y967 + 1))]) (st' := []) (h' := (HM P c974 T)) (cs' := 0) (sl' := 0) rfl ?_
        exact ih1 _ _ _ _ h P T
    · intro y975 w r w' h P T
      simp only [Gm_digest_89] at h
      refine ev_go 4 (pc' := 103) (L' := [some (.ref 89), some (.int y975)]) (st' := [.int 4, .ref 90, .int y975]) (h' := (HM P w T)) (cs' := 0) (sl' := 0) rfl ?_
      obtain ⟨v976, hq, h⟩ := ai_bdE h
      refine ev_iald rfl rfl hq ?_
      rcases ai_ifE h with ⟨hc, h⟩ | ⟨hc, h⟩
      · refine ev_ic_ge (t := 127) rfl rfl (fun _ => ?_) (fun c9 => absurd hc c9)
        refine ev_go 2 (pc' := 129) (L' := [some (.ref 89), some (.int 0)]) (st' := []) (h' := (HM P w T)) (cs' := 0) (sl' := 0) rfl ?_
        exact ih3 _ _ _ _ h P T
      · refine ev_ic_ge (t := 127) rfl rfl (fun c9 => absurd c9 hc) (fun _ => ?_)
        refine ev_go 6 (pc' := 116) (L' := [some (.ref 89), some (.int y975)]) (st' := [.int (121 + y975), .ref 90, .ref 89]) (h' := (HM P w T)) (cs' := 0) (sl' := 0) rfl ?_
        obtain ⟨v977, hq, h⟩ := ai_bdE h
        refine ev_iald rfl rfl hq ?_
        refine ev_go 1 (pc' := 118) (L' := [some (.ref 89), some (.int y975)]) (st' := [.long (v977).toInt64, .ref 89]) (h' := (HM P w T)) (cs' := 0) (sl' := 0) rfl ?_
        obtain ⟨c978, hq, h⟩ := ai_bdE h
        refine ev_call (M' := mm_mix) (L' := [some (.ref 89), some (.long (v977).toInt64), none]) (rest := []) (rv := none) (h' := (HM P c978 T)) rfl (Em_mix_89 (v977).toInt64 w _ hq P T) ?_
        show ai_ev D1 mm_digest 121 [some (.ref 89), some (.int y975)] [] (HM P c978 T) 0 0 _
        refine ev_go 2 (pc' := 97) (L' := [some (.ref 89), some (.int (y975 + 1))]) (st' := []) (h' := (HM P c978 T)) (cs' := 0) (sl' := 0) rfl ?_
        exact ih2 _ _ _ _ h P T
    · intro y979 w r w' h P T
      simp only [Gm_digest_89] at h
      refine ev_go 4 (pc' := 136) (L' := [some (.ref 89), some (.int y979)]) (st' := [.int 6, .ref 90, .int y979]) (h' := (HM P w T)) (cs' := 0) (sl' := 0) rfl ?_
      obtain ⟨v980, hq, h⟩ := ai_bdE h
      refine ev_iald rfl rfl hq ?_
      rcases ai_ifE h with ⟨hc, h⟩ | ⟨hc, h⟩
      · refine ev_ic_ge (t := 175) rfl rfl (fun _ => ?_) (fun c9 => absurd hc c9)
        refine ev_go 3 (pc' := 180) (L' := [some (.ref 89), some (.int y979)]) (st' := [.long (a_m_above w), .ref 89]) (h' := (HM P w T)) (cs' := 0) (sl' := 0) rfl ?_
        obtain ⟨c981, hq, h⟩ := ai_bdE h
        refine ev_call (M' := mm_mix) (L' := [some (.ref 89), some (.long (a_m_above w)), none]) (rest := []) (rv := none) (h' := (HM P c981 T)) rfl (Em_mix_89 (a_m_above w) w _ hq P T) ?_
        show ai_ev D1 mm_digest 183 [some (.ref 89), some (.int y979)] [] (HM P c981 T) 0 0 _
        refine ev_go 3 (pc' := 188) (L' := [some (.ref 89), some (.int y979)]) (st' := [.long (a_m_below c981), .ref 89]) (h' := (HM P c981 T)) (cs' := 0) (sl' := 0) rfl ?_
        obtain ⟨c982, hq, h⟩ := ai_bdE h
        refine ev_call (M' := mm_mix) (L' := [some (.ref 89), some (.long (a_m_below c981)), none]) (rest := []) (rv := none) (h' := (HM P c982 T)) rfl (Em_mix_89 (a_m_below c981) c981 _ hq P T) ?_
        show ai_ev D1 mm_digest 191 [some (.ref 89), some (.int y979)] [] (HM P c982 T) 0 0 _
        refine ev_go 2 (pc' := 195) (L' := [some (.ref 89), some (.int y979)]) (st' := [.long (a_m_h c982)]) (h' := (HM P c982 T)) (cs' := 0) (sl' := 0) rfl ?_
        obtain ⟨rfl, rfl⟩ := ai_smP h
        exact ev_end rfl
      · refine ev_ic_ge (t := 175) rfl rfl (fun c9 => absurd c9 hc) (fun _ => ?_)
        refine ev_go 6 (pc' := 149) (L' := [some (.ref 89), some (.int y979)]) (st' := [.int (127 + y979), .ref 90, .ref 89]) (h' := (HM P w T)) (cs' := 0) (sl' := 0) rfl ?_
        obtain ⟨v983, hq, h⟩ := ai_bdE h
        refine ev_iald rfl rfl hq ?_
        refine ev_go 1 (pc' := 151) (L' := [some (.ref 89), some (.int y979)]) (st' := [.long (v983).toInt64, .ref 89]) (h' := (HM P w T)) (cs' := 0) (sl' := 0) rfl ?_
        obtain ⟨c984, hq, h⟩ := ai_bdE h
        refine ev_call (M' := mm_mix) (L' := [some (.ref 89), some (.long (v983).toInt64), none]) (rest := []) (rv := none) (h' := (HM P c984 T)) rfl (Em_mix_89 (v983).toInt64 w _ hq P T) ?_
        show ai_ev D1 mm_digest 154 [some (.ref 89), some (.int y979)] [] (HM P c984 T) 0 0 _
        refine ev_go 6 (pc' := 164) (L' := [some (.ref 89), some (.int y979)]) (st' := [.int (133 + y979), .ref 90, .ref 89]) (h' := (HM P c984 T)) (cs' := 0) (sl' := 0) rfl ?_
        obtain ⟨v985, hq, h⟩ := ai_bdE h
        refine ev_iald rfl rfl hq ?_
        refine ev_go 1 (pc' := 166) (L' := [some (.ref 89), some (.int y979)]) (st' := [.long (v985).toInt64, .ref 89]) (h' := (HM P c984 T)) (cs' := 0) (sl' := 0) rfl ?_
        obtain ⟨c986, hq, h⟩ := ai_bdE h
        refine ev_call (M' := mm_mix) (L' := [some (.ref 89), some (.long (v985).toInt64), none]) (rest := []) (rv := none) (h' := (HM P c986 T)) rfl (Em_mix_89 (v985).toInt64 c984 _ hq P T) ?_
        show ai_ev D1 mm_digest 169 [some (.ref 89), some (.int y979)] [] (HM P c986 T) 0 0 _
        refine ev_go 2 (pc' := 129) (L' := [some (.ref 89), some (.int (y979 + 1))]) (st' := []) (h' := (HM P c986 T)) (cs' := 0) (sl' := 0) rfl ?_
        exact ih3 _ _ _ _ h P T
set_option maxHeartbeats 40000000 in
set_option maxRecDepth 100000 in
theorem Em_digest_89 (n : Nat) (w : WM) (r : Int64) (w' : WM) (h : Fm_digest_89 n w = some (r, w')) (P : Nat → ai_E) (T : ai_H) : ai_ev D1 mm_digest 0 [some (.ref 89), none] [] (HM P w T) 0 0 (some (.long r), HM P w' T) := by
  unfold Fm_digest_89 at h
  obtain ⟨ih0, ih1, ih2, ih3⟩ := EGm_digest_89 n
  refine ev_go 2 (pc' := 4) (L' := [some (.ref 89), none]) (st' := [.long 887, .ref 89]) (h' := (HM P w T)) (cs' := 0) (sl' := 0) rfl ?_
  refine ev_step rfl rfl rfl (PFM_8_298_89 rfl) ?_
  refine ev_go 2 (pc' := 9) (L' := [some (.ref 89), some (.int 0)]) (st' := []) (h' := (HM P (u_m_h w 887) T)) (cs' := 0) (sl' := 0) rfl ?_
  exact ih0 _ _ _ _ h P T
set_option maxHeartbeats 40000000 in
set_option maxRecDepth 100000 in
theorem Ef_within (x989 : Int32) (x990 : Int32) (x991 : Int32) (r : Int32) (h : Ff_within x989 x990 x991 = some r) (hh : ai_H) : ai_ev D1 mf_within 0 [some (.int x989), some (.int x990), some (.int x991)] [] hh 0 0 (some (.int r), hh) := by
  unfold Ff_within at h
  refine ev_go 2 (pc' := 2) (L' := [some (.int x989), some (.int x990), some (.int x991)]) (st' := [.int x990, .int x989]) (h' := hh) (cs' := 0) (sl' := 0) rfl ?_
  rcases ai_ifE h with ⟨hc, h⟩ | ⟨hc, h⟩
  · refine ev_ic_lt (t := 14) rfl rfl (fun _ => ?_) (fun c9 => absurd hc c9)
    refine ev_go 1 (pc' := 15) (L' := [some (.int x989), some (.int x990), some (.int x991)]) (st' := [.int 0]) (h' := hh) (cs' := 0) (sl' := 0) rfl ?_
    obtain rfl := Option.some.inj h
    exact ev_end rfl
  · refine ev_ic_lt (t := 14) rfl rfl (fun c9 => absurd c9 hc) (fun _ => ?_)
    refine ev_go 2 (pc' := 7) (L' := [some (.int x989), some (.int x990), some (.int x991)]) (st' := [.int x991, .int x989]) (h' := hh) (cs' := 0) (sl' := 0) rfl ?_
    rcases ai_ifE h with ⟨hc, h⟩ | ⟨hc, h⟩
    · refine ev_ic_gt (t := 14) rfl rfl (fun _ => ?_) (fun c9 => absurd hc c9)
      refine ev_go 1 (pc' := 15) (L' := [some (.int x989), some (.int x990), some (.int x991)]) (st' := [.int 0]) (h' := hh) (cs' := 0) (sl' := 0) rfl ?_
      obtain rfl := Option.some.inj h
      exact ev_end rfl
    · refine ev_ic_gt (t := 14) rfl rfl (fun c9 => absurd c9 hc) (fun _ => ?_)
      refine ev_go 2 (pc' := 15) (L' := [some (.int x989), some (.int x990), some (.int x991)]) (st' := [.int 1]) (h' := hh) (cs' := 0) (sl' := 0) rfl ?_
      obtain rfl := Option.some.inj h
      exact ev_end rfl
set_option maxHeartbeats 40000000 in
set_option maxRecDepth 100000 in
theorem EGarr_fill_3 : ∀ n : Nat, (∀ (y995 : Int32) (y996 : Int32) (y997 : Int32) (w : WX) (w' : WX), Garr_fill_3 n 0 y995 y996 y997 w = some w' → ∀ (T : ai_H), ai_ev D1 marr_fill 5 [some (.ref 3), some (.int y995), some (.int y996), some (.int y997)] [] (HX w T) 0 0 (none, HX w' T)) := by
  intro n
  induction n with
  | zero =>
    exact (fun _ _ _ _ _ h => by cases h)
  | succ n ih0 =>
    intro y995 y996 y997 w w' h T
    simp only [Garr_fill_3] at h
    refine ev_go 2 (pc' := 7) (L' := [some (.ref 3), some (.int y995), some (.int y996), some (.int y997)]) (st' := [.int y997, .int y996]) (h' := (HX w T)) (cs' := 0) (sl' := 0) rfl ?_
    rcases ai_ifE h with ⟨hc, h⟩ | ⟨hc, h⟩
    · refine ev_ic_ge (t := 20) rfl rfl (fun _ => ?_) (fun c9 => absurd hc c9)
      obtain rfl := Option.some.inj h
      exact ev_end rfl
    · refine ev_ic_ge (t := 20) rfl rfl (fun c9 => absurd c9 hc) (fun _ => ?_)
      refine ev_go 3 (pc' := 13) (L' := [some (.ref 3), some (.int y995), some (.int y996), some (.int y997)]) (st' := [.int y995, .int y996, .ref 3]) (h' := (HX w T)) (cs' := 0) (sl' := 0) rfl ?_
      obtain ⟨q998, hq, h⟩ := ai_bdE h
      refine ev_iast rfl rfl hq ?_
      rw [HXs_3]
      refine ev_go 2 (pc' := 5) (L' := [some (.ref 3), some (.int y995), some (.int (y996 + 1)), some (.int y997)]) (st' := []) (h' := (HX (u_s1_currents w q998) T)) (cs' := 0) (sl' := 0) rfl ?_
      exact ih0 _ _ _ _ _ h T
set_option maxHeartbeats 40000000 in
set_option maxRecDepth 100000 in
theorem Earr_fill_3 (n : Nat) (x994 : Int32) (w : WX) (w' : WX) (h : Farr_fill_3 n x994 w = some w') (T : ai_H) : ai_ev D1 marr_fill 0 [some (.ref 3), some (.int x994), none, none] [] (HX w T) 0 0 (none, HX w' T) := by
  unfold Farr_fill_3 at h
  have ih0 := EGarr_fill_3 n
  refine ev_go 5 (pc' := 5) (L' := [some (.ref 3), some (.int x994), some (.int 0), some (.int (Int32.ofNat (List.length (a_s1_currents w))))]) (st' := []) (h' := (HX w T)) (cs' := 0) (sl' := 0) rfl ?_
  exact ih0 _ _ _ _ _ h T
set_option maxHeartbeats 40000000 in
set_option maxRecDepth 100000 in
theorem EGarr_fill_4 : ∀ n : Nat, (∀ (y1001 : Int32) (y1002 : Int32) (y1003 : Int32) (w : WX) (w' : WX), Garr_fill_4 n 0 y1001 y1002 y1003 w = some w' → ∀ (T : ai_H), ai_ev D1 marr_fill 5 [some (.ref 4), some (.int y1001), some (.int y1002), some (.int y1003)] [] (HX w T) 0 0 (none, HX w' T)) := by
  intro n
  induction n with
  | zero =>
    exact (fun _ _ _ _ _ h => by cases h)
  | succ n ih0 =>
    intro y1001 y1002 y1003 w w' h T
    simp only [Garr_fill_4] at h
    refine ev_go 2 (pc' := 7) (L' := [some (.ref 4), some (.int y1001), some (.int y1002), some (.int y1003)]) (st' := [.int y1003, .int y1002]) (h' := (HX w T)) (cs' := 0) (sl' := 0) rfl ?_
    rcases ai_ifE h with ⟨hc, h⟩ | ⟨hc, h⟩
    · refine ev_ic_ge (t := 20) rfl rfl (fun _ => ?_) (fun c9 => absurd hc c9)
      obtain rfl := Option.some.inj h
      exact ev_end rfl
    · refine ev_ic_ge (t := 20) rfl rfl (fun c9 => absurd c9 hc) (fun _ => ?_)
      refine ev_go 3 (pc' := 13) (L' := [some (.ref 4), some (.int y1001), some (.int y1002), some (.int y1003)]) (st' := [.int y1001, .int y1002, .ref 4]) (h' := (HX w T)) (cs' := 0) (sl' := 0) rfl ?_
      obtain ⟨q1004, hq, h⟩ := ai_bdE h
      refine ev_iast rfl rfl hq ?_
      rw [HXs_4]
      refine ev_go 2 (pc' := 5) (L' := [some (.ref 4), some (.int y1001), some (.int (y1002 + 1)), some (.int y1003)]) (st' := []) (h' := (HX (u_s1_tides w q1004) T)) (cs' := 0) (sl' := 0) rfl ?_
      exact ih0 _ _ _ _ _ h T
set_option maxHeartbeats 40000000 in
set_option maxRecDepth 100000 in
theorem Earr_fill_4 (n : Nat) (x1000 : Int32) (w : WX) (w' : WX) (h : Farr_fill_4 n x1000 w = some w') (T : ai_H) : ai_ev D1 marr_fill 0 [some (.ref 4), some (.int x1000), none, none] [] (HX w T) 0 0 (none, HX w' T) := by
  unfold Farr_fill_4 at h
  have ih0 := EGarr_fill_4 n
  refine ev_go 5 (pc' := 5) (L' := [some (.ref 4), some (.int x1000), some (.int 0), some (.int (Int32.ofNat (List.length (a_s1_tides w))))]) (st' := []) (h' := (HX w T)) (cs' := 0) (sl' := 0) rfl ?_
  exact ih0 _ _ _ _ _ h T
set_option maxHeartbeats 40000000 in
set_option maxRecDepth 100000 in
theorem EGarr_fill_5 : ∀ n : Nat, (∀ (y1007 : Int32) (y1008 : Int32) (y1009 : Int32) (w : WX) (w' : WX), Garr_fill_5 n 0 y1007 y1008 y1009 w = some w' → ∀ (T : ai_H), ai_ev D1 marr_fill 5 [some (.ref 5), some (.int y1007), some (.int y1008), some (.int y1009)] [] (HX w T) 0 0 (none, HX w' T)) := by
  intro n
  induction n with
  | zero =>
    exact (fun _ _ _ _ _ h => by cases h)
  | succ n ih0 =>
    intro y1007 y1008 y1009 w w' h T
    simp only [Garr_fill_5] at h
    refine ev_go 2 (pc' := 7) (L' := [some (.ref 5), some (.int y1007), some (.int y1008), some (.int y1009)]) (st' := [.int y1009, .int y1008]) (h' := (HX w T)) (cs' := 0) (sl' := 0) rfl ?_
    rcases ai_ifE h with ⟨hc, h⟩ | ⟨hc, h⟩
    · refine ev_ic_ge (t := 20) rfl rfl (fun _ => ?_) (fun c9 => absurd hc c9)
      obtain rfl := Option.some.inj h
      exact ev_end rfl
    · refine ev_ic_ge (t := 20) rfl rfl (fun c9 => absurd c9 hc) (fun _ => ?_)
      refine ev_go 3 (pc' := 13) (L' := [some (.ref 5), some (.int y1007), some (.int y1008), some (.int y1009)]) (st' := [.int y1007, .int y1008, .ref 5]) (h' := (HX w T)) (cs' := 0) (sl' := 0) rfl ?_
      obtain ⟨q1010, hq, h⟩ := ai_bdE h
      refine ev_iast rfl rfl hq ?_
      rw [HXs_5]
      refine ev_go 2 (pc' := 5) (L' := [some (.ref 5), some (.int y1007), some (.int (y1008 + 1)), some (.int y1009)]) (st' := []) (h' := (HX (u_s1_thicks w q1010) T)) (cs' := 0) (sl' := 0) rfl ?_
      exact ih0 _ _ _ _ _ h T
set_option maxHeartbeats 40000000 in
set_option maxRecDepth 100000 in
theorem Earr_fill_5 (n : Nat) (x1006 : Int32) (w : WX) (w' : WX) (h : Farr_fill_5 n x1006 w = some w') (T : ai_H) : ai_ev D1 marr_fill 0 [some (.ref 5), some (.int x1006), none, none] [] (HX w T) 0 0 (none, HX w' T) := by
  unfold Farr_fill_5 at h
  have ih0 := EGarr_fill_5 n
  refine ev_go 5 (pc' := 5) (L' := [some (.ref 5), some (.int x1006), some (.int 0), some (.int (Int32.ofNat (List.length (a_s1_thicks w))))]) (st' := []) (h' := (HX w T)) (cs' := 0) (sl' := 0) rfl ?_
  exact ih0 _ _ _ _ _ h T
set_option maxHeartbeats 40000000 in
set_option maxRecDepth 100000 in
theorem EGarr_fill_6 : ∀ n : Nat, (∀ (y1013 : Int32) (y1014 : Int32) (y1015 : Int32) (w : WX) (w' : WX), Garr_fill_6 n 0 y1013 y1014 y1015 w = some w' → ∀ (T : ai_H), ai_ev D1 marr_fill 5 [some (.ref 6), some (.int y1013), some (.int y1014), some (.int y1015)] [] (HX w T) 0 0 (none, HX w' T)) := by
  intro n
  induction n with
  | zero =>
    exact (fun _ _ _ _ _ h => by cases h)
  | succ n ih0 =>
    intro y1013 y1014 y1015 w w' h T
    simp only [Garr_fill_6] at h
    refine ev_go 2 (pc' := 7) (L' := [some (.ref 6), some (.int y1013), some (.int y1014), some (.int y1015)]) (st' := [.int y1015, .int y1014]) (h' := (HX w T)) (cs' := 0) (sl' := 0) rfl ?_
    rcases ai_ifE h with ⟨hc, h⟩ | ⟨hc, h⟩
    · refine ev_ic_ge (t := 20) rfl rfl (fun _ => ?_) (fun c9 => absurd hc c9)
      obtain rfl := Option.some.inj h
      exact ev_end rfl
    · refine ev_ic_ge (t := 20) rfl rfl (fun c9 => absurd c9 hc) (fun _ => ?_)
      refine ev_go 3 (pc' := 13) (L' := [some (.ref 6), some (.int y1013), some (.int y1014), some (.int y1015)]) (st' := [.int y1013, .int y1014, .ref 6]) (h' := (HX w T)) (cs' := 0) (sl' := 0) rfl ?_
      obtain ⟨q1016, hq, h⟩ := ai_bdE h
      refine ev_iast rfl rfl hq ?_
      rw [HXs_6]
      refine ev_go 2 (pc' := 5) (L' := [some (.ref 6), some (.int y1013), some (.int (y1014 + 1)), some (.int y1015)]) (st' := []) (h' := (HX (u_s1_skins w q1016) T)) (cs' := 0) (sl' := 0) rfl ?_
      exact ih0 _ _ _ _ _ h T
set_option maxHeartbeats 40000000 in
set_option maxRecDepth 100000 in
theorem Earr_fill_6 (n : Nat) (x1012 : Int32) (w : WX) (w' : WX) (h : Farr_fill_6 n x1012 w = some w') (T : ai_H) : ai_ev D1 marr_fill 0 [some (.ref 6), some (.int x1012), none, none] [] (HX w T) 0 0 (none, HX w' T) := by
  unfold Farr_fill_6 at h
  have ih0 := EGarr_fill_6 n
  refine ev_go 5 (pc' := 5) (L' := [some (.ref 6), some (.int x1012), some (.int 0), some (.int (Int32.ofNat (List.length (a_s1_skins w))))]) (st' := []) (h' := (HX w T)) (cs' := 0) (sl' := 0) rfl ?_
  exact ih0 _ _ _ _ _ h T
set_option maxHeartbeats 40000000 in
set_option maxRecDepth 100000 in
theorem Esea_startAnew_1 (n : Nat) (x988 : Int32) (w : WX) (r : Int32) (w' : WX) (h : Fsea_startAnew_1 n x988 w = some (r, w')) (T : ai_H) : ai_ev D1 msea_startAnew 0 [some (.ref 1), some (.int x988), none] [] (HX w T) 0 0 (some (.int r), HX w' T) := by
  unfold Fsea_startAnew_1 at h
  refine ev_go 3 (pc' := 4) (L' := [some (.ref 1), some (.int x988), none]) (st' := [.int 6, .int 1, .int x988]) (h' := (HX w T)) (cs' := 0) (sl' := 0) rfl ?_
  obtain ⟨c992, hq, h⟩ := ai_bdE h
  refine ev_call (M' := mf_within) (L' := [some (.int x988), some (.int 1), some (.int 6)]) (rest := []) (rv := some (.int c992)) (h' := (HX w T)) rfl (Ef_within x988 1 6 _ hq (HX w T)) ?_
  show ai_ev D1 msea_startAnew 7 [some (.ref 1), some (.int x988), none] [.int c992] (HX w T) 0 0 _
  rcases ai_ifE h with ⟨hc, h⟩ | ⟨hc, h⟩
  · refine ev_if_ne (t := 13) rfl rfl (fun c9 => absurd hc c9) (fun _ => ?_)
    refine ev_go 1 (pc' := 12) (L' := [some (.ref 1), some (.int x988), none]) (st' := [.int (-2)]) (h' := (HX w T)) (cs' := 0) (sl' := 0) rfl ?_
    obtain ⟨rfl, rfl⟩ := ai_smP h
    exact ev_end rfl
  · refine ev_if_ne (t := 13) rfl rfl (fun _ => ?_) (fun c9 => absurd c9 hc)
    refine ev_go 5 (pc' := 20) (L' := [some (.ref 1), some (.int x988), some (.int (a_s1_cells w))]) (st' := [.int x988, .ref 1]) (h' := (HX w T)) (cs' := 0) (sl' := 0) rfl ?_
    refine ev_step rfl rfl rfl (PFX_2_9_1 rfl) ?_
    refine ev_go 2 (pc' := 25) (L' := [some (.ref 1), some (.int x988), some (.int (a_s1_cells w))]) (st' := [.int 0, .ref 1]) (h' := (HX (u_s1_cells w x988) T)) (cs' := 0) (sl' := 0) rfl ?_
    refine ev_step rfl rfl rfl (PFX_2_15_1 rfl) ?_
    refine ev_go 2 (pc' := 30) (L' := [some (.ref 1), some (.int x988), some (.int (a_s1_cells w))]) (st' := [.int 0, .ref 1]) (h' := (HX (u_s1_hour (u_s1_cells w x988) 0) T)) (cs' := 0) (sl' := 0) rfl ?_
    refine ev_step rfl rfl rfl (PFX_2_18_1 rfl) ?_
    refine ev_go 6 (pc' := 43) (L' := [some (.ref 1), some (.int x988), some (.int (a_s1_cells w))]) (st' := [.int 4, .int 0, .ref 2, .int 0, .retAddr 0]) (h' := (HX (u_s1_dams (u_s1_hour (u_s1_cells w x988) 0) 0) T)) (cs' := 0) (sl' := 0) rfl ?_
    obtain ⟨q993, hq, h⟩ := ai_bdE h
    refine ev_cpx rfl rfl rfl rfl rfl rfl hq ?_
    rw [HXs_2]
    refine ev_go 3 (pc' := 51) (L' := [some (.ref 1), some (.int x988), some (.int (a_s1_cells w))]) (st' := [.int 0, .ref 3]) (h' := (HX (u_s1_densities (u_s1_dams (u_s1_hour (u_s1_cells w x988) 0) 0) q993) T)) (cs' := 0) (sl' := 0) rfl ?_
    obtain ⟨c999, hq, h⟩ := ai_bdE h
    refine ev_call (M' := marr_fill) (L' := [some (.ref 3), some (.int 0), none, none]) (rest := []) (rv := none) (h' := (HX c999 T)) rfl (Earr_fill_3 n 0 (u_s1_densities (u_s1_dams (u_s1_hour (u_s1_cells w x988) 0) 0) q993) _ hq T) ?_
    show ai_ev D1 msea_startAnew 54 [some (.ref 1), some (.int x988), some (.int (a_s1_cells w))] [] (HX c999 T) 0 0 _
    refine ev_go 3 (pc' := 59) (L' := [some (.ref 1), some (.int x988), some (.int (a_s1_cells w))]) (st' := [.int 0, .ref 4]) (h' := (HX c999 T)) (cs' := 0) (sl' := 0) rfl ?_
    obtain ⟨c1005, hq, h⟩ := ai_bdE h
    refine ev_call (M' := marr_fill) (L' := [some (.ref 4), some (.int 0), none, none]) (rest := []) (rv := none) (h' := (HX c1005 T)) rfl (Earr_fill_4 n 0 c999 _ hq T) ?_
    show ai_ev D1 msea_startAnew 62 [some (.ref 1), some (.int x988), some (.int (a_s1_cells w))] [] (HX c1005 T) 0 0 _
    refine ev_go 3 (pc' := 67) (L' := [some (.ref 1), some (.int x988), some (.int (a_s1_cells w))]) (st' := [.int 3, .ref 5]) (h' := (HX c1005 T)) (cs' := 0) (sl' := 0) rfl ?_
    obtain ⟨c1011, hq, h⟩ := ai_bdE h
    refine ev_call (M' := marr_fill) (L' := [some (.ref 5), some (.int 3), none, none]) (rest := []) (rv := none) (h' := (HX c1011 T)) rfl (Earr_fill_5 n 3 c1005 _ hq T) ?_
    show ai_ev D1 msea_startAnew 70 [some (.ref 1), some (.int x988), some (.int (a_s1_cells w))] [] (HX c1011 T) 0 0 _
    refine ev_go 3 (pc' := 75) (L' := [some (.ref 1), some (.int x988), some (.int (a_s1_cells w))]) (st' := [.int 0, .ref 6]) (h' := (HX c1011 T)) (cs' := 0) (sl' := 0) rfl ?_
    obtain ⟨c1017, hq, h⟩ := ai_bdE h
    refine ev_call (M' := marr_fill) (L' := [some (.ref 6), some (.int 0), none, none]) (rest := []) (rv := none) (h' := (HX c1017 T)) rfl (Earr_fill_6 n 0 c1011 _ hq T) ?_
    show ai_ev D1 msea_startAnew 78 [some (.ref 1), some (.int x988), some (.int (a_s1_cells w))] [] (HX c1017 T) 0 0 _
    refine ev_go 3 (pc' := 83) (L' := [some (.ref 1), some (.int x988), some (.int (a_s1_cells w))]) (st' := [.int 0, .ref 7]) (h' := (HX c1017 T)) (cs' := 0) (sl' := 0) rfl ?_
    refine ev_step rfl rfl rfl (PFX_2_95_7 rfl) ?_
    refine ev_go 3 (pc' := 91) (L' := [some (.ref 1), some (.int x988), some (.int (a_s1_cells w))]) (st' := [.int 0, .ref 12]) (h' := (HX (u_s1things_count c1017 0) T)) (cs' := 0) (sl' := 0) rfl ?_
    refine ev_step rfl rfl rfl (PFX_2_98_12 rfl) ?_
    refine ev_go 2 (pc' := 96) (L' := [some (.ref 1), some (.int x988), some (.int (a_s1_cells w))]) (st' := [.int 0, .ref 1]) (h' := (HX (u_s1lifts_count (u_s1things_count c1017 0) 0) T)) (cs' := 0) (sl' := 0) rfl ?_
    refine ev_step rfl rfl rfl (PFX_2_51_1 rfl) ?_
    refine ev_go 2 (pc' := 101) (L' := [some (.ref 1), some (.int x988), some (.int (a_s1_cells w))]) (st' := [.int 0, .ref 1]) (h' := (HX (u_s1_towns (u_s1lifts_count (u_s1things_count c1017 0) 0) 0) T)) (cs' := 0) (sl' := 0) rfl ?_
    refine ev_step rfl rfl rfl (PFX_2_57_1 rfl) ?_
    refine ev_go 2 (pc' := 106) (L' := [some (.ref 1), some (.int x988), some (.int (a_s1_cells w))]) (st' := [.int 0, .ref 1]) (h' := (HX (u_s1_drops (u_s1_towns (u_s1lifts_count (u_s1things_count c1017 0) 0) 0) 0) T)) (cs' := 0) (sl' := 0) rfl ?_
    refine ev_step rfl rfl rfl (PFX_2_66_1 rfl) ?_
    refine ev_go 1 (pc' := 110) (L' := [some (.ref 1), some (.int x988), some (.int (a_s1_cells w))]) (st' := [.int (a_s1_cells w)]) (h' := (HX (u_s1_undos (u_s1_drops (u_s1_towns (u_s1lifts_count (u_s1things_count c1017 0) 0) 0) 0) 0) T)) (cs' := 0) (sl' := 0) rfl ?_
    obtain ⟨rfl, rfl⟩ := ai_smP h
    exact ev_end rfl
set_option maxHeartbeats 40000000 in
set_option maxRecDepth 100000 in
theorem Ef_counted_0 (x1019 : Int32) (w : WX) (r : Int32) (w' : WX) (h : Ff_counted_0 x1019 w = some (r, w')) (T : ai_H) : ai_ev D1 mf_counted 0 [some (.ref 0), some (.int x1019)] [] (HX w T) 0 0 (some (.int r), HX w' T) := by
  unfold Ff_counted_0 at h
  refine ev_go 2 (pc' := 3) (L' := [some (.ref 0), some (.int x1019)]) (st' := [.int (-2), .int x1019]) (h' := (HX w T)) (cs' := 0) (sl' := 0) rfl ?_
  rcases ai_ifE h with ⟨hc, h⟩ | ⟨hc, h⟩
  · refine ev_ic_ne (t := 19) rfl rfl (fun c9 => absurd hc c9) (fun _ => ?_)
    refine ev_go 5 (pc' := 13) (L' := [some (.ref 0), some (.int x1019)]) (st' := [.int ((a_f_refusedBad w) + 1), .ref 0]) (h' := (HX w T)) (cs' := 0) (sl' := 0) rfl ?_
    refine ev_step rfl rfl rfl (PFX_7_68_0 rfl) ?_
    refine ev_go 2 (pc' := 55) (L' := [some (.ref 0), some (.int x1019)]) (st' := [.int x1019]) (h' := (HX (u_f_refusedBad w ((a_f_refusedBad w) + 1)) T)) (cs' := 0) (sl' := 0) rfl ?_
    obtain ⟨rfl, rfl⟩ := ai_smP h
    exact ev_end rfl
  · refine ev_ic_ne (t := 19) rfl rfl (fun _ => ?_) (fun c9 => absurd c9 hc)
    refine ev_go 2 (pc' := 22) (L' := [some (.ref 0), some (.int x1019)]) (st' := [.int (-3), .int x1019]) (h' := (HX w T)) (cs' := 0) (sl' := 0) rfl ?_
    rcases ai_ifE h with ⟨hc, h⟩ | ⟨hc, h⟩
    · refine ev_ic_ne (t := 38) rfl rfl (fun c9 => absurd hc c9) (fun _ => ?_)
      refine ev_go 5 (pc' := 32) (L' := [some (.ref 0), some (.int x1019)]) (st' := [.int ((a_f_refusedNo w) + 1), .ref 0]) (h' := (HX w T)) (cs' := 0) (sl' := 0) rfl ?_
      refine ev_step rfl rfl rfl (PFX_7_72_0 rfl) ?_
      refine ev_go 2 (pc' := 55) (L' := [some (.ref 0), some (.int x1019)]) (st' := [.int x1019]) (h' := (HX (u_f_refusedNo w ((a_f_refusedNo w) + 1)) T)) (cs' := 0) (sl' := 0) rfl ?_
      obtain ⟨rfl, rfl⟩ := ai_smP h
      exact ev_end rfl
    · refine ev_ic_ne (t := 38) rfl rfl (fun _ => ?_) (fun c9 => absurd c9 hc)
      refine ev_go 2 (pc' := 41) (L' := [some (.ref 0), some (.int x1019)]) (st' := [.int (-4), .int x1019]) (h' := (HX w T)) (cs' := 0) (sl' := 0) rfl ?_
      rcases ai_ifE h with ⟨hc, h⟩ | ⟨hc, h⟩
      · refine ev_ic_ne (t := 54) rfl rfl (fun c9 => absurd hc c9) (fun _ => ?_)
        refine ev_go 5 (pc' := 51) (L' := [some (.ref 0), some (.int x1019)]) (st' := [.int ((a_f_refusedFull w) + 1), .ref 0]) (h' := (HX w T)) (cs' := 0) (sl' := 0) rfl ?_
        refine ev_step rfl rfl rfl (PFX_7_75_0 rfl) ?_
        refine ev_go 1 (pc' := 55) (L' := [some (.ref 0), some (.int x1019)]) (st' := [.int x1019]) (h' := (HX (u_f_refusedFull w ((a_f_refusedFull w) + 1)) T)) (cs' := 0) (sl' := 0) rfl ?_
        obtain ⟨rfl, rfl⟩ := ai_smP h
        exact ev_end rfl
      · refine ev_ic_ne (t := 54) rfl rfl (fun _ => ?_) (fun c9 => absurd c9 hc)
        refine ev_go 1 (pc' := 55) (L' := [some (.ref 0), some (.int x1019)]) (st' := [.int x1019]) (h' := (HX w T)) (cs' := 0) (sl' := 0) rfl ?_
        obtain ⟨rfl, rfl⟩ := ai_smP h
        exact ev_end rfl
