set_option maxHeartbeats 40000000 in
set_option maxRecDepth 100000 in
theorem EGsea_digestRows_1 : ∀ n : Nat, (∀ (y2010 : Int64) (y2011 : Int64) (y2012 : Int32) (w : WX) (r : Int64) (w' : WX), Gsea_digestRows_1 n 0 y2012 y2010 y2011 w = some (r, w') → ∀ (T : ai_H), ai_ev D1 msea_digestRows 5 [some (.ref 1), some (.long y2010), none, some (.long y2011), none, some (.int y2012)] [] (HX w T) 0 0 (some (.long r), HX w' T)) ∧ (∀ (y2017 : Int64) (y2018 : Int64) (y2019 : Int32) (w : WX) (r : Int64) (w' : WX), Gsea_digestRows_1 n 1 y2019 y2017 y2018 w = some (r, w') → ∀ (T : ai_H), ai_ev D1 msea_digestRows 98 [some (.ref 1), some (.long y2017), none, some (.long y2018), none, some (.int y2019)] [] (HX w T) 0 0 (some (.long r), HX w' T)) ∧ (∀ (y2023 : Int64) (y2024 : Int64) (y2025 : Int32) (w : WX) (r : Int64) (w' : WX), Gsea_digestRows_1 n 2 y2025 y2023 y2024 w = some (r, w') → ∀ (T : ai_H), ai_ev D1 msea_digestRows 173 [some (.ref 1), some (.long y2023), none, some (.long y2024), none, some (.int y2025)] [] (HX w T) 0 0 (some (.long r), HX w' T)) ∧ (∀ (y2027 : Int64) (y2028 : Int64) (y2029 : Int32) (w : WX) (r : Int64) (w' : WX), Gsea_digestRows_1 n 3 y2029 y2027 y2028 w = some (r, w') → ∀ (T : ai_H), ai_ev D1 msea_digestRows 206 [some (.ref 1), some (.long y2027), none, some (.long y2028), none, some (.int y2029)] [] (HX w T) 0 0 (some (.long r), HX w' T)) := by
  intro n
  induction n with
  | zero =>
    exact ⟨(fun _ _ _ _ _ _ h => by cases h), (fun _ _ _ _ _ _ h => by cases h), (fun _ _ _ _ _ _ h => by cases h), (fun _ _ _ _ _ _ h => by cases h)⟩
  | succ n ih =>
    obtain ⟨ih0, ih1, ih2, ih3⟩ := ih
    refine ⟨?_, ?_, ?_, ?_⟩
    · intro y2010 y2011 y2012 w r w' h T
      simp only [Gsea_digestRows_1] at h
      refine ev_go 4 (pc' := 14) (L' := [some (.ref 1), some (.long y2010), none, some (.long y2011), none, some (.int y2012)]) (st' := [.int (a_s1things_count w), .int y2012]) (h' := (HX w T)) (cs' := 0) (sl' := 0) rfl ?_
      rcases ai_ifE h with ⟨hc, h⟩ | ⟨hc, h⟩
      · refine ev_ic_ge (t := 95) rfl rfl (fun _ => ?_) (fun c9 => absurd hc c9)
        refine ev_go 2 (pc' := 98) (L' := [some (.ref 1), some (.long y2010), none, some (.long y2011), none, some (.int 0)]) (st' := []) (h' := (HX w T)) (cs' := 0) (sl' := 0) rfl ?_
        exact ih1 _ _ _ _ _ _ h T
      · refine ev_ic_ge (t := 95) rfl rfl (fun c9 => absurd c9 hc) (fun _ => ?_)
        refine ev_go 7 (pc' := 31) (L' := [some (.ref 1), some (.long y2010), none, some (.long y2011), none, some (.int y2012)]) (st' := [.int y2012, .ref 8, .long (31 * y2011)]) (h' := (HX w T)) (cs' := 0) (sl' := 0) rfl ?_
        obtain ⟨v2013, hq, h⟩ := ai_bdE h
        refine ev_iald rfl rfl hq ?_
        refine ev_go 10 (pc' := 49) (L' := [some (.ref 1), some (.long y2010), none, some (.long ((31 * y2011) + (v2013).toInt64)), none, some (.int y2012)]) (st' := [.int y2012, .ref 9, .long (31 * ((31 * y2011) + (v2013).toInt64))]) (h' := (HX w T)) (cs' := 0) (sl' := 0) rfl ?_
        obtain ⟨v2014, hq, h⟩ := ai_bdE h
        refine ev_iald rfl rfl hq ?_
        refine ev_go 10 (pc' := 67) (L' := [some (.ref 1), some (.long y2010), none, some (.long ((31 * ((31 * y2011) + (v2013).toInt64)) + (v2014).toInt64)), none, some (.int y2012)]) (st' := [.int y2012, .ref 10, .long (31 * ((31 * ((31 * y2011) + (v2013).toInt64)) + (v2014).toInt64))]) (h' := (HX w T)) (cs' := 0) (sl' := 0) rfl ?_
        obtain ⟨v2015, hq, h⟩ := ai_bdE h
        refine ev_iald rfl rfl hq ?_
        refine ev_go 10 (pc' := 85) (L' := [some (.ref 1), some (.long y2010), none, some (.long ((31 * ((31 * ((31 * y2011) + (v2013).toInt64)) + (v2014).toInt64)) + (v2015).toInt64)), none, some (.int y2012)]) (st' := [.int y2012, .ref 11, .long (31 * ((31 * ((31 * ((31 * y2011) + (v2013).toInt64)) + (v2014).toInt64)) + (v2015).toInt64))]) (h' := (HX w T)) (cs' := 0) (sl' := 0) rfl ?_
        obtain ⟨v2016, hq, h⟩ := ai_bdE h
        refine ev_iald rfl rfl hq ?_
        refine ev_go 5 (pc' := 5) (L' := [some (.ref 1), some (.long y2010), none, some (.long ((31 * ((31 * ((31 * ((31 * y2011) + (v2013).toInt64)) + (v2014).toInt64)) + (v2015).toInt64)) + (v2016).toInt64)), none, some (.int (y2012 + 1))]) (st' := []) (h' := (HX w T)) (cs' := 0) (sl' := 0) rfl ?_
        exact ih0 _ _ _ _ _ _ h T
    · intro y2017 y2018 y2019 w r w' h T
      simp only [Gsea_digestRows_1] at h
      refine ev_go 4 (pc' := 107) (L' := [some (.ref 1), some (.long y2017), none, some (.long y2018), none, some (.int y2019)]) (st' := [.int (a_s1lifts_count w), .int y2019]) (h' := (HX w T)) (cs' := 0) (sl' := 0) rfl ?_
      rcases ai_ifE h with ⟨hc, h⟩ | ⟨hc, h⟩
      · refine ev_ic_ge (t := 170) rfl rfl (fun _ => ?_) (fun c9 => absurd hc c9)
        refine ev_go 2 (pc' := 173) (L' := [some (.ref 1), some (.long y2017), none, some (.long y2018), none, some (.int 0)]) (st' := []) (h' := (HX w T)) (cs' := 0) (sl' := 0) rfl ?_
        exact ih2 _ _ _ _ _ _ h T
      · refine ev_ic_ge (t := 170) rfl rfl (fun c9 => absurd c9 hc) (fun _ => ?_)
        refine ev_go 7 (pc' := 124) (L' := [some (.ref 1), some (.long y2017), none, some (.long y2018), none, some (.int y2019)]) (st' := [.int y2019, .ref 13, .long (31 * y2018)]) (h' := (HX w T)) (cs' := 0) (sl' := 0) rfl ?_
        obtain ⟨v2020, hq, h⟩ := ai_bdE h
        refine ev_iald rfl rfl hq ?_
        refine ev_go 10 (pc' := 142) (L' := [some (.ref 1), some (.long y2017), none, some (.long ((31 * y2018) + (v2020).toInt64)), none, some (.int y2019)]) (st' := [.int y2019, .ref 14, .long (31 * ((31 * y2018) + (v2020).toInt64))]) (h' := (HX w T)) (cs' := 0) (sl' := 0) rfl ?_
        obtain ⟨v2021, hq, h⟩ := ai_bdE h
        refine ev_iald rfl rfl hq ?_
        refine ev_go 10 (pc' := 160) (L' := [some (.ref 1), some (.long y2017), none, some (.long ((31 * ((31 * y2018) + (v2020).toInt64)) + (v2021).toInt64)), none, some (.int y2019)]) (st' := [.int y2019, .ref 15, .long (31 * ((31 * ((31 * y2018) + (v2020).toInt64)) + (v2021).toInt64))]) (h' := (HX w T)) (cs' := 0) (sl' := 0) rfl ?_
        obtain ⟨v2022, hq, h⟩ := ai_bdE h
        refine ev_iald rfl rfl hq ?_
        refine ev_go 5 (pc' := 98) (L' := [some (.ref 1), some (.long y2017), none, some (.long ((31 * ((31 * ((31 * y2018) + (v2020).toInt64)) + (v2021).toInt64)) + (v2022).toInt64)), none, some (.int (y2019 + 1))]) (st' := []) (h' := (HX w T)) (cs' := 0) (sl' := 0) rfl ?_
        exact ih1 _ _ _ _ _ _ h T
    · intro y2023 y2024 y2025 w r w' h T
      simp only [Gsea_digestRows_1] at h
      refine ev_go 3 (pc' := 179) (L' := [some (.ref 1), some (.long y2023), none, some (.long y2024), none, some (.int y2025)]) (st' := [.int (a_s1_towns w), .int y2025]) (h' := (HX w T)) (cs' := 0) (sl' := 0) rfl ?_
      rcases ai_ifE h with ⟨hc, h⟩ | ⟨hc, h⟩
      · refine ev_ic_ge (t := 203) rfl rfl (fun _ => ?_) (fun c9 => absurd hc c9)
        refine ev_go 2 (pc' := 206) (L' := [some (.ref 1), some (.long y2023), none, some (.long y2024), none, some (.int 0)]) (st' := []) (h' := (HX w T)) (cs' := 0) (sl' := 0) rfl ?_
        exact ih3 _ _ _ _ _ _ h T
      · refine ev_ic_ge (t := 203) rfl rfl (fun c9 => absurd c9 hc) (fun _ => ?_)
        refine ev_go 6 (pc' := 193) (L' := [some (.ref 1), some (.long y2023), none, some (.long y2024), none, some (.int y2025)]) (st' := [.int y2025, .ref 16, .long (31 * y2024)]) (h' := (HX w T)) (cs' := 0) (sl' := 0) rfl ?_
        obtain ⟨v2026, hq, h⟩ := ai_bdE h
        refine ev_iald rfl rfl hq ?_
        refine ev_go 5 (pc' := 173) (L' := [some (.ref 1), some (.long y2023), none, some (.long ((31 * y2024) + (v2026).toInt64)), none, some (.int (y2025 + 1))]) (st' := []) (h' := (HX w T)) (cs' := 0) (sl' := 0) rfl ?_
        exact ih2 _ _ _ _ _ _ h T
    · intro y2027 y2028 y2029 w r w' h T
      simp only [Gsea_digestRows_1] at h
      refine ev_go 3 (pc' := 212) (L' := [some (.ref 1), some (.long y2027), none, some (.long y2028), none, some (.int y2029)]) (st' := [.int (a_s1_drops w), .int y2029]) (h' := (HX w T)) (cs' := 0) (sl' := 0) rfl ?_
      rcases ai_ifE h with ⟨hc, h⟩ | ⟨hc, h⟩
      · refine ev_ic_ge (t := 251) rfl rfl (fun _ => ?_) (fun c9 => absurd hc c9)
        refine ev_go 1 (pc' := 252) (L' := [some (.ref 1), some (.long y2027), none, some (.long y2028), none, some (.int y2029)]) (st' := [.long y2028]) (h' := (HX w T)) (cs' := 0) (sl' := 0) rfl ?_
        obtain ⟨rfl, rfl⟩ := ai_smP h
        exact ev_end rfl
      · refine ev_ic_ge (t := 251) rfl rfl (fun c9 => absurd c9 hc) (fun _ => ?_)
        refine ev_go 6 (pc' := 226) (L' := [some (.ref 1), some (.long y2027), none, some (.long y2028), none, some (.int y2029)]) (st' := [.int y2029, .ref 17, .long (31 * y2028)]) (h' := (HX w T)) (cs' := 0) (sl' := 0) rfl ?_
        obtain ⟨v2030, hq, h⟩ := ai_bdE h
        refine ev_iald rfl rfl hq ?_
        refine ev_go 9 (pc' := 241) (L' := [some (.ref 1), some (.long y2027), none, some (.long ((31 * y2028) + (v2030).toInt64)), none, some (.int y2029)]) (st' := [.int y2029, .ref 18, .long (31 * ((31 * y2028) + (v2030).toInt64))]) (h' := (HX w T)) (cs' := 0) (sl' := 0) rfl ?_
        obtain ⟨v2031, hq, h⟩ := ai_bdE h
        refine ev_iald rfl rfl hq ?_
        refine ev_go 5 (pc' := 206) (L' := [some (.ref 1), some (.long y2027), none, some (.long ((31 * ((31 * y2028) + (v2030).toInt64)) + (v2031).toInt64)), none, some (.int (y2029 + 1))]) (st' := []) (h' := (HX w T)) (cs' := 0) (sl' := 0) rfl ?_
        exact ih3 _ _ _ _ _ _ h T
set_option maxHeartbeats 40000000 in
set_option maxRecDepth 100000 in
theorem Esea_digestRows_1 (n : Nat) (x2009 : Int64) (w : WX) (r : Int64) (w' : WX) (h : Fsea_digestRows_1 n x2009 w = some (r, w')) (T : ai_H) : ai_ev D1 msea_digestRows 0 [some (.ref 1), some (.long x2009), none, none, none, none] [] (HX w T) 0 0 (some (.long r), HX w' T) := by
  unfold Fsea_digestRows_1 at h
  obtain ⟨ih0, ih1, ih2, ih3⟩ := EGsea_digestRows_1 n
  refine ev_go 4 (pc' := 5) (L' := [some (.ref 1), some (.long x2009), none, some (.long x2009), none, some (.int 0)]) (st' := []) (h' := (HX w T)) (cs' := 0) (sl' := 0) rfl ?_
  exact ih0 _ _ _ _ _ _ h T
set_option maxHeartbeats 40000000 in
set_option maxRecDepth 100000 in
theorem EGf_digest_0 : ∀ n : Nat, (∀ (y1986 : Int64) (y1987 : Int32) (w : WX) (r : Int64) (w' : WX), Gf_digest_0 n 0 y1987 y1986 w = some (r, w') → ∀ (T : ai_H), ai_ev D1 mf_digest 6 [some (.ref 0), some (.long y1986), none, some (.int y1987)] [] (HX w T) 0 0 (some (.long r), HX w' T)) := by
  intro n
  induction n with
  | zero =>
    exact (fun _ _ _ _ _ h => by cases h)
  | succ n ih0 =>
    intro y1986 y1987 w r w' h T
    simp only [Gf_digest_0] at h
    refine ev_go 2 (pc' := 9) (L' := [some (.ref 0), some (.long y1986), none, some (.int y1987)]) (st' := [.int 8, .int y1987]) (h' := (HX w T)) (cs' := 0) (sl' := 0) rfl ?_
    rcases ai_ifE h with ⟨hc, h⟩ | ⟨hc, h⟩
    · refine ev_ic_ge (t := 34) rfl rfl (fun _ => ?_) (fun c9 => absurd hc c9)
      refine ev_go 12 (pc' := 54) (L' := [some (.ref 0), some (.long ((31 * y1986) + ((a_text_length w)).toInt64)), none, some (.int y1987)]) (st' := [.long ((31 * y1986) + ((a_text_length w)).toInt64), .ref 1]) (h' := (HX w T)) (cs' := 0) (sl' := 0) rfl ?_
      obtain ⟨c2008, hq, h⟩ := ai_bdE h
      refine ev_call (M' := msea_digestWaters) (L' := [some (.ref 1), some (.long ((31 * y1986) + ((a_text_length w)).toInt64)), none, none, none, none, none]) (rest := []) (rv := some (.long c2008.1)) (h' := (HX c2008.2 T)) rfl (Esea_digestWaters_1 n ((31 * y1986) + ((a_text_length w)).toInt64) w _ _ hq T) ?_
      show ai_ev D1 mf_digest 57 [some (.ref 0), some (.long ((31 * y1986) + ((a_text_length w)).toInt64)), none, some (.int y1987)] [.long c2008.1] (HX c2008.2 T) 0 0 _
      refine ev_go 4 (pc' := 63) (L' := [some (.ref 0), some (.long c2008.1), none, some (.int y1987)]) (st' := [.long c2008.1, .ref 1]) (h' := (HX c2008.2 T)) (cs' := 0) (sl' := 0) rfl ?_
      obtain ⟨c2032, hq, h⟩ := ai_bdE h
      refine ev_call (M' := msea_digestRows) (L' := [some (.ref 1), some (.long c2008.1), none, none, none, none]) (rest := []) (rv := some (.long c2032.1)) (h' := (HX c2032.2 T)) rfl (Esea_digestRows_1 n c2008.1 c2008.2 _ _ hq T) ?_
      show ai_ev D1 mf_digest 66 [some (.ref 0), some (.long c2008.1), none, some (.int y1987)] [.long c2032.1] (HX c2032.2 T) 0 0 _
      refine ev_go 14 (pc' := 88) (L' := [some (.ref 0), some (.long ((31 * c2032.1) + (a_f_above c2032.2))), none, some (.int y1987)]) (st' := [.long ((31 * ((31 * c2032.1) + (a_f_above c2032.2))) + (a_f_below c2032.2))]) (h' := (HX c2032.2 T)) (cs' := 0) (sl' := 0) rfl ?_
      obtain ⟨rfl, rfl⟩ := ai_smP h
      exact ev_end rfl
    · refine ev_ic_ge (t := 34) rfl rfl (fun c9 => absurd c9 hc) (fun _ => ?_)
      refine ev_go 6 (pc' := 22) (L' := [some (.ref 0), some (.long y1986), none, some (.int y1987)]) (st' := [.int y1987, .ref 1, .long (31 * y1986)]) (h' := (HX w T)) (cs' := 0) (sl' := 0) rfl ?_
      obtain ⟨c2033, hq, h⟩ := ai_bdE h
      refine ev_call (M' := msea_countOf) (L' := [some (.ref 1), some (.int y1987)]) (rest := [.long (31 * y1986)]) (rv := some (.int c2033.1)) (h' := (HX c2033.2 T)) rfl (Esea_countOf_1 y1987 w _ _ hq T) ?_
      show ai_ev D1 mf_digest 25 [some (.ref 0), some (.long y1986), none, some (.int y1987)] [.int c2033.1, .long (31 * y1986)] (HX c2033.2 T) 0 0 _
      refine ev_go 5 (pc' := 6) (L' := [some (.ref 0), some (.long ((31 * y1986) + (c2033.1).toInt64)), none, some (.int (y1987 + 1))]) (st' := []) (h' := (HX c2033.2 T)) (cs' := 0) (sl' := 0) rfl ?_
      exact ih0 _ _ _ _ _ h T
set_option maxHeartbeats 40000000 in
set_option maxRecDepth 100000 in
theorem Ef_digest_0 (n : Nat) (w : WX) (r : Int64) (w' : WX) (h : Ff_digest_0 n w = some (r, w')) (T : ai_H) : ai_ev D1 mf_digest 0 [some (.ref 0), none, none, none] [] (HX w T) 0 0 (some (.long r), HX w' T) := by
  unfold Ff_digest_0 at h
  have ih0 := EGf_digest_0 n
  refine ev_go 4 (pc' := 6) (L' := [some (.ref 0), some (.long 887), none, some (.int 0)]) (st' := []) (h' := (HX w T)) (cs' := 0) (sl' := 0) rfl ?_
  exact ih0 _ _ _ _ _ h T
