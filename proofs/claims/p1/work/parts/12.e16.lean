set_option maxHeartbeats 40000000 in
set_option maxRecDepth 100000 in
theorem EGsea_digestRows_1 : ∀ n : Nat, (∀ (y1757 : Int64) (y1758 : Int64) (y1759 : Int32) (w : WX) (r : Int64) (w' : WX), Gsea_digestRows_1 n 0 y1759 y1757 y1758 w = some (r, w') → ∀ (T : ai_H), ai_ev D1 msea_digestRows 5 [some (.ref 1), some (.long y1757), none, some (.long y1758), none, some (.int y1759)] [] (HX w T) 0 0 (some (.long r), HX w' T)) ∧ (∀ (y1764 : Int64) (y1765 : Int64) (y1766 : Int32) (w : WX) (r : Int64) (w' : WX), Gsea_digestRows_1 n 1 y1766 y1764 y1765 w = some (r, w') → ∀ (T : ai_H), ai_ev D1 msea_digestRows 98 [some (.ref 1), some (.long y1764), none, some (.long y1765), none, some (.int y1766)] [] (HX w T) 0 0 (some (.long r), HX w' T)) ∧ (∀ (y1770 : Int64) (y1771 : Int64) (y1772 : Int32) (w : WX) (r : Int64) (w' : WX), Gsea_digestRows_1 n 2 y1772 y1770 y1771 w = some (r, w') → ∀ (T : ai_H), ai_ev D1 msea_digestRows 173 [some (.ref 1), some (.long y1770), none, some (.long y1771), none, some (.int y1772)] [] (HX w T) 0 0 (some (.long r), HX w' T)) ∧ (∀ (y1774 : Int64) (y1775 : Int64) (y1776 : Int32) (w : WX) (r : Int64) (w' : WX), Gsea_digestRows_1 n 3 y1776 y1774 y1775 w = some (r, w') → ∀ (T : ai_H), ai_ev D1 msea_digestRows 206 [some (.ref 1), some (.long y1774), none, some (.long y1775), none, some (.int y1776)] [] (HX w T) 0 0 (some (.long r), HX w' T)) := by
  intro n
  induction n with
  | zero =>
    exact ⟨(fun _ _ _ _ _ _ h => by cases h), (fun _ _ _ _ _ _ h => by cases h), (fun _ _ _ _ _ _ h => by cases h), (fun _ _ _ _ _ _ h => by cases h)⟩
  | succ n ih =>
    obtain ⟨ih0, ih1, ih2, ih3⟩ := ih
    refine ⟨?_, ?_, ?_, ?_⟩
    · intro y1757 y1758 y1759 w r w' h T
      simp only [Gsea_digestRows_1] at h
      refine ev_go 4 (pc' := 14) (L' := [some (.ref 1), some (.long y1757), none, some (.long y1758), none, some (.int y1759)]) (st' := [.int (a_s1things_count w), .int y1759]) (h' := (HX w T)) (cs' := 0) (sl' := 0) rfl ?_
      rcases ai_ifE h with ⟨hc, h⟩ | ⟨hc, h⟩
      · refine ev_ic_ge (t := 95) rfl rfl (fun _ => ?_) (fun c9 => absurd hc c9)
        refine ev_go 2 (pc' := 98) (L' := [some (.ref 1), some (.long y1757), none, some (.long y1758), none, some (.int 0)]) (st' := []) (h' := (HX w T)) (cs' := 0) (sl' := 0) rfl ?_
        exact ih1 _ _ _ _ _ _ h T _ _
      · refine ev_ic_ge (t := 95) rfl rfl (fun c9 => absurd c9 hc) (fun _ => ?_)
        refine ev_go 7 (pc' := 31) (L' := [some (.ref 1), some (.long y1757), none, some (.long y1758), none, some (.int y1759)]) (st' := [.int y1759, .ref 8, .long (31 * y1758)]) (h' := (HX w T)) (cs' := 0) (sl' := 0) rfl ?_
        obtain ⟨v1760, hq, h⟩ := ai_bdE h
        refine ev_iald rfl rfl hq ?_
        refine ev_go 10 (pc' := 49) (L' := [some (.ref 1), some (.long y1757), none, some (.long ((31 * y1758) + (v1760).toInt64)), none, some (.int y1759)]) (st' := [.int y1759, .ref 9, .long (31 * ((31 * y1758) + (v1760).toInt64))]) (h' := (HX w T)) (cs' := 0) (sl' := 0) rfl ?_
        obtain ⟨v1761, hq, h⟩ := ai_bdE h
        refine ev_iald rfl rfl hq ?_
        refine ev_go 10 (pc' := 67) (L' := [some (.ref 1), some (.long y1757), none, some (.long ((31 * ((31 * y1758) + (v1760).toInt64)) + (v1761).toInt64)), none, some (.int y1759)]) (st' := [.int y1759, .ref 10, .long (31 * ((31 * ((31 * y1758) + (v1760).toInt64)) + (v1761).toInt64))]) (h' := (HX w T)) (cs' := 0) (sl' := 0) rfl ?_
        obtain ⟨v1762, hq, h⟩ := ai_bdE h
        refine ev_iald rfl rfl hq ?_
        refine ev_go 10 (pc' := 85) (L' := [some (.ref 1), some (.long y1757), none, some (.long ((31 * ((31 * ((31 * y1758) + (v1760).toInt64)) + (v1761).toInt64)) + (v1762).toInt64)), none, some (.int y1759)]) (st' := [.int y1759, .ref 11, .long (31 * ((31 * ((31 * ((31 * y1758) + (v1760).toInt64)) + (v1761).toInt64)) + (v1762).toInt64))]) (h' := (HX w T)) (cs' := 0) (sl' := 0) rfl ?_
        obtain ⟨v1763, hq, h⟩ := ai_bdE h
        refine ev_iald rfl rfl hq ?_
        refine ev_go 5 (pc' := 5) (L' := [some (.ref 1), some (.long y1757), none, some (.long ((31 * ((31 * ((31 * ((31 * y1758) + (v1760).toInt64)) + (v1761).toInt64)) + (v1762).toInt64)) + (v1763).toInt64)), none, some (.int (y1759 + 1))]) (st' := []) (h' := (HX w T)) (cs' := 0) (sl' := 0) rfl ?_
        exact ih0 _ _ _ _ _ _ h T _ _
    · intro y1764 y1765 y1766 w r w' h T
      simp only [Gsea_digestRows_1] at h
      refine ev_go 4 (pc' := 107) (L' := [some (.ref 1), some (.long y1764), none, some (.long y1765), none, some (.int y1766)]) (st' := [.int (a_s1lifts_count w), .int y1766]) (h' := (HX w T)) (cs' := 0) (sl' := 0) rfl ?_
      rcases ai_ifE h with ⟨hc, h⟩ | ⟨hc, h⟩
      · refine ev_ic_ge (t := 170) rfl rfl (fun _ => ?_) (fun c9 => absurd hc c9)
        refine ev_go 2 (pc' := 173) (L' := [some (.ref 1), some (.long y1764), none, some (.long y1765), none, some (.int 0)]) (st' := []) (h' := (HX w T)) (cs' := 0) (sl' := 0) rfl ?_
        exact ih2 _ _ _ _ _ _ h T _ _
      · refine ev_ic_ge (t := 170) rfl rfl (fun c9 => absurd c9 hc) (fun _ => ?_)
        refine ev_go 7 (pc' := 124) (L' := [some (.ref 1), some (.long y1764), none, some (.long y1765), none, some (.int y1766)]) (st' := [.int y1766, .ref 13, .long (31 * y1765)]) (h' := (HX w T)) (cs' := 0) (sl' := 0) rfl ?_
        obtain ⟨v1767, hq, h⟩ := ai_bdE h
        refine ev_iald rfl rfl hq ?_
        refine ev_go 10 (pc' := 142) (L' := [some (.ref 1), some (.long y1764), none, some (.long ((31 * y1765) + (v1767).toInt64)), none, some (.int y1766)]) (st' := [.int y1766, .ref 14, .long (31 * ((31 * y1765) + (v1767).toInt64))]) (h' := (HX w T)) (cs' := 0) (sl' := 0) rfl ?_
        obtain ⟨v1768, hq, h⟩ := ai_bdE h
        refine ev_iald rfl rfl hq ?_
        refine ev_go 10 (pc' := 160) (L' := [some (.ref 1), some (.long y1764), none, some (.long ((31 * ((31 * y1765) + (v1767).toInt64)) + (v1768).toInt64)), none, some (.int y1766)]) (st' := [.int y1766, .ref 15, .long (31 * ((31 * ((31 * y1765) + (v1767).toInt64)) + (v1768).toInt64))]) (h' := (HX w T)) (cs' := 0) (sl' := 0) rfl ?_
        obtain ⟨v1769, hq, h⟩ := ai_bdE h
        refine ev_iald rfl rfl hq ?_
        refine ev_go 5 (pc' := 98) (L' := [some (.ref 1), some (.long y1764), none, some (.long ((31 * ((31 * ((31 * y1765) + (v1767).toInt64)) + (v1768).toInt64)) + (v1769).toInt64)), none, some (.int (y1766 + 1))]) (st' := []) (h' := (HX w T)) (cs' := 0) (sl' := 0) rfl ?_
        exact ih1 _ _ _ _ _ _ h T _ _
    · intro y1770 y1771 y1772 w r w' h T
      simp only [Gsea_digestRows_1] at h
      refine ev_go 3 (pc' := 179) (L' := [some (.ref 1), some (.long y1770), none, some (.long y1771), none, some (.int y1772)]) (st' := [.int (a_s1_towns w), .int y1772]) (h' := (HX w T)) (cs' := 0) (sl' := 0) rfl ?_
      rcases ai_ifE h with ⟨hc, h⟩ | ⟨hc, h⟩
      · refine ev_ic_ge (t := 203) rfl rfl (fun _ => ?_) (fun c9 => absurd hc c9)
        refine ev_go 2 (pc' := 206) (L' := [some (.ref 1), some (.long y1770), none, some (.long y1771), none, some (.int 0)]) (st' := []) (h' := (HX w T)) (cs' := 0) (sl' := 0) rfl ?_
        exact ih3 _ _ _ _ _ _ h T _ _
      · refine ev_ic_ge (t := 203) rfl rfl (fun c9 => absurd c9 hc) (fun _ => ?_)
        refine ev_go 6 (pc' := 193) (L' := [some (.ref 1), some (.long y1770), none, some (.long y1771), none, some (.int y1772)]) (st' := [.int y1772, .ref 16, .long (31 * y1771)]) (h' := (HX w T)) (cs' := 0) (sl' := 0) rfl ?_
        obtain ⟨v1773, hq, h⟩ := ai_bdE h
        refine ev_iald rfl rfl hq ?_
        refine ev_go 5 (pc' := 173) (L' := [some (.ref 1), some (.long y1770), none, some (.long ((31 * y1771) + (v1773).toInt64)), none, some (.int (y1772 + 1))]) (st' := []) (h' := (HX w T)) (cs' := 0) (sl' := 0) rfl ?_
        exact ih2 _ _ _ _ _ _ h T _ _
    · intro y1774 y1775 y1776 w r w' h T
      simp only [Gsea_digestRows_1] at h
      refine ev_go 3 (pc' := 212) (L' := [some (.ref 1), some (.long y1774), none, some (.long y1775), none, some (.int y1776)]) (st' := [.int (a_s1_drops w), .int y1776]) (h' := (HX w T)) (cs' := 0) (sl' := 0) rfl ?_
      rcases ai_ifE h with ⟨hc, h⟩ | ⟨hc, h⟩
      · refine ev_ic_ge (t := 251) rfl rfl (fun _ => ?_) (fun c9 => absurd hc c9)
        refine ev_go 1 (pc' := 252) (L' := [some (.ref 1), some (.long y1774), none, some (.long y1775), none, some (.int y1776)]) (st' := [.long y1775]) (h' := (HX w T)) (cs' := 0) (sl' := 0) rfl ?_
        obtain ⟨rfl, rfl⟩ := ai_smP h
        exact ev_end rfl
      · refine ev_ic_ge (t := 251) rfl rfl (fun c9 => absurd c9 hc) (fun _ => ?_)
        refine ev_go 6 (pc' := 226) (L' := [some (.ref 1), some (.long y1774), none, some (.long y1775), none, some (.int y1776)]) (st' := [.int y1776, .ref 17, .long (31 * y1775)]) (h' := (HX w T)) (cs' := 0) (sl' := 0) rfl ?_
        obtain ⟨v1777, hq, h⟩ := ai_bdE h
        refine ev_iald rfl rfl hq ?_
        refine ev_go 9 (pc' := 241) (L' := [some (.ref 1), some (.long y1774), none, some (.long ((31 * y1775) + (v1777).toInt64)), none, some (.int y1776)]) (st' := [.int y1776, .ref 18, .long (31 * ((31 * y1775) + (v1777).toInt64))]) (h' := (HX w T)) (cs' := 0) (sl' := 0) rfl ?_
        obtain ⟨v1778, hq, h⟩ := ai_bdE h
        refine ev_iald rfl rfl hq ?_
        refine ev_go 5 (pc' := 206) (L' := [some (.ref 1), some (.long y1774), none, some (.long ((31 * ((31 * y1775) + (v1777).toInt64)) + (v1778).toInt64)), none, some (.int (y1776 + 1))]) (st' := []) (h' := (HX w T)) (cs' := 0) (sl' := 0) rfl ?_
        exact ih3 _ _ _ _ _ _ h T _ _
set_option maxHeartbeats 40000000 in
set_option maxRecDepth 100000 in
theorem Esea_digestRows_1 (n : Nat) (x1756 : Int64) (w : WX) (r : Int64) (w' : WX) (h : Fsea_digestRows_1 n x1756 w = some (r, w')) (T : ai_H) : ai_ev D1 msea_digestRows 0 [some (.ref 1), some (.long x1756), none, none, none, none] [] (HX w T) 0 0 (some (.long r), HX w' T) := by
  unfold Fsea_digestRows_1 at h
  obtain ⟨ih0, ih1, ih2, ih3⟩ := EGsea_digestRows_1 n
  refine ev_go 4 (pc' := 5) (L' := [some (.ref 1), some (.long x1756), none, some (.long x1756), none, some (.int 0)]) (st' := []) (h' := (HX w T)) (cs' := 0) (sl' := 0) rfl ?_
  exact ih0 _ _ _ _ _ _ h T _ _
set_option maxHeartbeats 40000000 in
set_option maxRecDepth 100000 in
theorem EGf_digest_0 : ∀ n : Nat, (∀ (y1733 : Int64) (y1734 : Int32) (w : WX) (r : Int64) (w' : WX), Gf_digest_0 n 0 y1734 y1733 w = some (r, w') → ∀ (T : ai_H), ai_ev D1 mf_digest 6 [some (.ref 0), some (.long y1733), none, some (.int y1734)] [] (HX w T) 0 0 (some (.long r), HX w' T)) := by
  intro n
  induction n with
  | zero =>
    exact (fun _ _ _ _ _ h => by cases h)
  | succ n ih0 =>
    intro y1733 y1734 w r w' h T
    simp only [Gf_digest_0] at h
    refine ev_go 2 (pc' := 9) (L' := [some (.ref 0), some (.long y1733), none, some (.int y1734)]) (st' := [.int 8, .int y1734]) (h' := (HX w T)) (cs' := 0) (sl' := 0) rfl ?_
    rcases ai_ifE h with ⟨hc, h⟩ | ⟨hc, h⟩
    · refine ev_ic_ge (t := 34) rfl rfl (fun _ => ?_) (fun c9 => absurd hc c9)
      refine ev_go 12 (pc' := 54) (L' := [some (.ref 0), some (.long ((31 * y1733) + ((a_text_length w)).toInt64)), none, some (.int y1734)]) (st' := [.long ((31 * y1733) + ((a_text_length w)).toInt64), .ref 1]) (h' := (HX w T)) (cs' := 0) (sl' := 0) rfl ?_
      obtain ⟨c1755, hq, h⟩ := ai_bdE h
      refine ev_call (M' := msea_digestWaters) (L' := [some (.ref 1), some (.long ((31 * y1733) + ((a_text_length w)).toInt64)), none, none, none, none, none]) (rest := []) (rv := some (.long c1755.1)) (h' := (HX c1755.2 T)) rfl (Esea_digestWaters_1 n ((31 * y1733) + ((a_text_length w)).toInt64) w _ _ hq T) ?_
      show ai_ev D1 mf_digest 57 [some (.ref 0), some (.long ((31 * y1733) + ((a_text_length w)).toInt64)), none, some (.int y1734)] [.long c1755.1] (HX c1755.2 T) 0 0 _
      refine ev_go 4 (pc' := 63) (L' := [some (.ref 0), some (.long c1755.1), none, some (.int y1734)]) (st' := [.long c1755.1, .ref 1]) (h' := (HX c1755.2 T)) (cs' := 0) (sl' := 0) rfl ?_
      obtain ⟨c1779, hq, h⟩ := ai_bdE h
      refine ev_call (M' := msea_digestRows) (L' := [some (.ref 1), some (.long c1755.1), none, none, none, none]) (rest := []) (rv := some (.long c1779.1)) (h' := (HX c1779.2 T)) rfl (Esea_digestRows_1 n c1755.1 c1755.2 _ _ hq T) ?_
      show ai_ev D1 mf_digest 66 [some (.ref 0), some (.long c1755.1), none, some (.int y1734)] [.long c1779.1] (HX c1779.2 T) 0 0 _
      refine ev_go 14 (pc' := 88) (L' := [some (.ref 0), some (.long ((31 * c1779.1) + (a_f_above c1779.2))), none, some (.int y1734)]) (st' := [.long ((31 * ((31 * c1779.1) + (a_f_above c1779.2))) + (a_f_below c1779.2))]) (h' := (HX c1779.2 T)) (cs' := 0) (sl' := 0) rfl ?_
      obtain ⟨rfl, rfl⟩ := ai_smP h
      exact ev_end rfl
    · refine ev_ic_ge (t := 34) rfl rfl (fun c9 => absurd c9 hc) (fun _ => ?_)
      refine ev_go 6 (pc' := 22) (L' := [some (.ref 0), some (.long y1733), none, some (.int y1734)]) (st' := [.int y1734, .ref 1, .long (31 * y1733)]) (h' := (HX w T)) (cs' := 0) (sl' := 0) rfl ?_
      obtain ⟨c1780, hq, h⟩ := ai_bdE h
      refine ev_call (M' := msea_countOf) (L' := [some (.ref 1), some (.int y1734)]) (rest := [.long (31 * y1733)]) (rv := some (.int c1780.1)) (h' := (HX c1780.2 T)) rfl (Esea_countOf_1 y1734 w _ _ hq T) ?_
      show ai_ev D1 mf_digest 25 [some (.ref 0), some (.long y1733), none, some (.int y1734)] [.int c1780.1, .long (31 * y1733)] (HX c1780.2 T) 0 0 _
      refine ev_go 5 (pc' := 6) (L' := [some (.ref 0), some (.long ((31 * y1733) + (c1780.1).toInt64)), none, some (.int (y1734 + 1))]) (st' := []) (h' := (HX c1780.2 T)) (cs' := 0) (sl' := 0) rfl ?_
      exact ih0 _ _ _ _ _ h T _
set_option maxHeartbeats 40000000 in
set_option maxRecDepth 100000 in
theorem Ef_digest_0 (n : Nat) (w : WX) (r : Int64) (w' : WX) (h : Ff_digest_0 n w = some (r, w')) (T : ai_H) : ai_ev D1 mf_digest 0 [some (.ref 0), none, none, none] [] (HX w T) 0 0 (some (.long r), HX w' T) := by
  unfold Ff_digest_0 at h
  have ih0 := EGf_digest_0 n
  refine ev_go 4 (pc' := 6) (L' := [some (.ref 0), some (.long 887), none, some (.int 0)]) (st' := []) (h' := (HX w T)) (cs' := 0) (sl' := 0) rfl ?_
  exact ih0 _ _ _ _ _ h T _
