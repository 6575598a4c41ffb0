set_option maxHeartbeats 40000000 in
set_option maxRecDepth 100000 in
theorem EGsea_sweetInAll_1 : ∀ n : Nat, (∀ (y1775 : Int32) (y1776 : Int32) (w : WX) (r : Int32) (w' : WX), Gsea_sweetInAll_1 n 0 y1775 y1776 w = some (r, w') → ∀ (T : ai_H), ai_ev D1 msea_sweetInAll 4 [some (.ref 1), some (.int y1775), some (.int y1776)] [] (HX w T) 0 0 (some (.int r), HX w' T)) := by
  intro n
  induction n with
  | zero =>
    exact (fun _ _ _ _ _ h => by cases h)
  | succ n ih0 =>
    intro y1775 y1776 w r w' h T
    simp only [Gsea_sweetInAll_1] at h
    refine ev_go 3 (pc' := 9) (L' := [some (.ref 1), some (.int y1775), some (.int y1776)]) (st' := [.int (a_s1_cells w), .int y1776]) (h' := (HX w T)) (cs' := 0) (sl' := 0) rfl ?_
    rcases ai_ifE h with ⟨hc, h⟩ | ⟨hc, h⟩
    · refine ev_ic_ge (t := 31) rfl rfl (fun _ => ?_) (fun c9 => absurd hc c9)
      refine ev_go 1 (pc' := 32) (L' := [some (.ref 1), some (.int y1775), some (.int y1776)]) (st' := [.int y1775]) (h' := (HX w T)) (cs' := 0) (sl' := 0) rfl ?_
      obtain ⟨rfl, rfl⟩ := ai_smP h
      exact ev_end rfl
    · refine ev_ic_ge (t := 31) rfl rfl (fun c9 => absurd c9 hc) (fun _ => ?_)
      refine ev_go 6 (pc' := 20) (L' := [some (.ref 1), some (.int y1775), some (.int y1776)]) (st' := [.int (a_s1_hour w), .int y1776, .int 0, .ref 1, .int y1775]) (h' := (HX w T)) (cs' := 0) (sl' := 0) rfl ?_
      obtain ⟨c1777, hq, h⟩ := ai_bdE h
      refine ev_call (M' := msea_thickAt) (L' := [some (.ref 1), some (.int 0), some (.int y1776), some (.int (a_s1_hour w))]) (rest := [.int y1775]) (rv := some (.int c1777.1)) (h' := (HX c1777.2 T)) rfl (Esea_thickAt_1 0 y1776 (a_s1_hour w) w _ _ hq T) ?_
      show ai_ev D1 msea_sweetInAll 23 [some (.ref 1), some (.int y1775), some (.int y1776)] [.int c1777.1, .int y1775] (HX c1777.2 T) 0 0 _
      refine ev_go 4 (pc' := 4) (L' := [some (.ref 1), some (.int (y1775 + c1777.1)), some (.int (y1776 + 1))]) (st' := []) (h' := (HX c1777.2 T)) (cs' := 0) (sl' := 0) rfl ?_
      exact ih0 _ _ _ _ _ h T
set_option maxHeartbeats 40000000 in
set_option maxRecDepth 100000 in
theorem Esea_sweetInAll_1 (n : Nat) (w : WX) (r : Int32) (w' : WX) (h : Fsea_sweetInAll_1 n w = some (r, w')) (T : ai_H) : ai_ev D1 msea_sweetInAll 0 [some (.ref 1), none, none] [] (HX w T) 0 0 (some (.int r), HX w' T) := by
  unfold Fsea_sweetInAll_1 at h
  have ih0 := EGsea_sweetInAll_1 n
  refine ev_go 4 (pc' := 4) (L' := [some (.ref 1), some (.int 0), some (.int 0)]) (st' := []) (h' := (HX w T)) (cs' := 0) (sl' := 0) rfl ?_
  exact ih0 _ _ _ _ _ h T
set_option maxHeartbeats 40000000 in
set_option maxRecDepth 100000 in
theorem Ef_tapped (x1794 : Int32) (x1795 : Int32) (x1796 : Int32) (r : Int32) (h : Ff_tapped x1794 x1795 x1796 = some r) (hh : ai_H) : ai_ev D1 mf_tapped 0 [some (.int x1794), some (.int x1795), some (.int x1796)] [] hh 0 0 (some (.int r), hh) := by
  unfold Ff_tapped at h
  refine ev_go 11 (pc' := 13) (L' := [some (.int x1794), some (.int x1795), some (.int x1796)]) (st' := [.int (x1794 - (2 * (if 0 < ((x1794 + x1795) - x1796) then ((x1794 + x1795) - x1796) else 0)))]) (h' := hh) (cs' := 0) (sl' := 0) rfl ?_
  obtain rfl := Option.some.inj h
  exact ev_end rfl
set_option maxHeartbeats 40000000 in
set_option maxRecDepth 100000 in
theorem EGf_isBestTap : ∀ n : Nat, (∀ (y1798 : Int32) (y1799 : Int32) (y1800 : Int32) (y1801 : Int32) (y1802 : Int32) (r : Int32), Gf_isBestTap n 0 y1798 y1799 y1800 y1801 y1802 = some r → ∀ (hh : ai_H), ai_ev D1 mf_isBestTap 10 [some (.int y1798), some (.int y1799), some (.int y1800), some (.int y1801), some (.int y1802)] [] hh 0 0 (some (.int r), hh)) := by
  intro n
  induction n with
  | zero =>
    exact (fun _ _ _ _ _ _ h => by cases h)
  | succ n ih0 =>
    intro y1798 y1799 y1800 y1801 y1802 r h hh
    simp only [Gf_isBestTap] at h
    refine ev_go 2 (pc' := 14) (L' := [some (.int y1798), some (.int y1799), some (.int y1800), some (.int y1801), some (.int y1802)]) (st' := [.int 9, .int y1802]) (h' := hh) (cs' := 0) (sl' := 0) rfl ?_
    rcases ai_ifE h with ⟨hc, h⟩ | ⟨hc, h⟩
    · refine ev_ic_gt (t := 36) rfl rfl (fun _ => ?_) (fun c9 => absurd hc c9)
      refine ev_go 1 (pc' := 37) (L' := [some (.int y1798), some (.int y1799), some (.int y1800), some (.int y1801), some (.int y1802)]) (st' := [.int 1]) (h' := hh) (cs' := 0) (sl' := 0) rfl ?_
      obtain rfl := Option.some.inj h
      exact ev_end rfl
    · refine ev_ic_gt (t := 36) rfl rfl (fun c9 => absurd c9 hc) (fun _ => ?_)
      refine ev_go 3 (pc' := 21) (L' := [some (.int y1798), some (.int y1799), some (.int y1800), some (.int y1801), some (.int y1802)]) (st' := [.int y1800, .int y1799, .int y1802]) (h' := hh) (cs' := 0) (sl' := 0) rfl ?_
      obtain ⟨c1803, hq, h⟩ := ai_bdE h
      refine ev_call (M' := mf_tapped) (L' := [some (.int y1802), some (.int y1799), some (.int y1800)]) (rest := []) (rv := some (.int c1803)) (h' := hh) rfl (Ef_tapped y1802 y1799 y1800 _ hq hh) ?_
      show ai_ev D1 mf_isBestTap 24 [some (.int y1798), some (.int y1799), some (.int y1800), some (.int y1801), some (.int y1802)] [.int c1803] hh 0 0 _
      refine ev_go 1 (pc' := 25) (L' := [some (.int y1798), some (.int y1799), some (.int y1800), some (.int y1801), some (.int y1802)]) (st' := [.int y1801, .int c1803]) (h' := hh) (cs' := 0) (sl' := 0) rfl ?_
      rcases ai_ifE h with ⟨hc, h⟩ | ⟨hc, h⟩
      · refine ev_ic_le (t := 30) rfl rfl (fun _ => ?_) (fun c9 => absurd hc c9)
        refine ev_go 2 (pc' := 10) (L' := [some (.int y1798), some (.int y1799), some (.int y1800), some (.int y1801), some (.int (y1802 + 1))]) (st' := []) (h' := hh) (cs' := 0) (sl' := 0) rfl ?_
        exact ih0 _ _ _ _ _ _ h hh
      · refine ev_ic_le (t := 30) rfl rfl (fun c9 => absurd c9 hc) (fun _ => ?_)
        refine ev_go 1 (pc' := 29) (L' := [some (.int y1798), some (.int y1799), some (.int y1800), some (.int y1801), some (.int y1802)]) (st' := [.int 0]) (h' := hh) (cs' := 0) (sl' := 0) rfl ?_
        obtain rfl := Option.some.inj h
        exact ev_end rfl
set_option maxHeartbeats 40000000 in
set_option maxRecDepth 100000 in
theorem Ef_isBestTap (n : Nat) (x1791 : Int32) (x1792 : Int32) (x1793 : Int32) (r : Int32) (h : Ff_isBestTap n x1791 x1792 x1793 = some r) (hh : ai_H) : ai_ev D1 mf_isBestTap 0 [some (.int x1791), some (.int x1792), some (.int x1793), none, none] [] hh 0 0 (some (.int r), hh) := by
  unfold Ff_isBestTap at h
  have ih0 := EGf_isBestTap n
  refine ev_go 3 (pc' := 3) (L' := [some (.int x1791), some (.int x1792), some (.int x1793), none, none]) (st' := [.int x1793, .int x1792, .int x1791]) (h' := hh) (cs' := 0) (sl' := 0) rfl ?_
  obtain ⟨c1797, hq, h⟩ := ai_bdE h
  refine ev_call (M' := mf_tapped) (L' := [some (.int x1791), some (.int x1792), some (.int x1793)]) (rest := []) (rv := some (.int c1797)) (h' := hh) rfl (Ef_tapped x1791 x1792 x1793 _ hq hh) ?_
  show ai_ev D1 mf_isBestTap 6 [some (.int x1791), some (.int x1792), some (.int x1793), none, none] [.int c1797] hh 0 0 _
  refine ev_go 3 (pc' := 10) (L' := [some (.int x1791), some (.int x1792), some (.int x1793), some (.int c1797), some (.int 0)]) (st' := []) (h' := hh) (cs' := 0) (sl' := 0) rfl ?_
  exact ih0 _ _ _ _ _ _ h hh
set_option maxHeartbeats 40000000 in
set_option maxRecDepth 100000 in
theorem EGf_tap_0 : ∀ n : Nat, (∀ (y1780 : Int32) (y1781 : Int32) (y1782 : Int32) (y1783 : Int32) (y1784 : Int32) (w : WX) (r : Int32) (w' : WX), Gf_tap_0 n 0 y1780 y1781 y1782 y1783 y1784 0 w = some (r, w') → ∀ (T : ai_H) (o6 : Option Value), ai_ev D1 mf_tap 32 [some (.ref 0), some (.int y1780), some (.int y1781), some (.int y1782), some (.int y1783), some (.int y1784), o6] [] (HX w T) 0 0 (some (.int r), HX w' T)) ∧ (∀ (y1785 : Int32) (y1786 : Int32) (y1787 : Int32) (y1788 : Int32) (y1789 : Int32) (y1790 : Int32) (w : WX) (r : Int32) (w' : WX), Gf_tap_0 n 1 y1785 y1786 y1787 y1788 y1789 y1790 w = some (r, w') → ∀ (T : ai_H), ai_ev D1 mf_tap 42 [some (.ref 0), some (.int y1785), some (.int y1786), some (.int y1787), some (.int y1788), some (.int y1789), some (.int y1790)] [] (HX w T) 0 0 (some (.int r), HX w' T)) := by
  intro n
  induction n with
  | zero =>
    exact ⟨(fun _ _ _ _ _ _ _ _ h => by cases h), (fun _ _ _ _ _ _ _ _ _ h => by cases h)⟩
  | succ n ih =>
    obtain ⟨ih0, ih1⟩ := ih
    refine ⟨?_, ?_⟩
    · intro y1780 y1781 y1782 y1783 y1784 w r w' h T o6
      simp only [Gf_tap_0] at h
      refine ev_go 2 (pc' := 36) (L' := [some (.ref 0), some (.int y1780), some (.int y1781), some (.int y1782), some (.int y1783), some (.int y1784), o6]) (st' := [.int 9, .int y1784]) (h' := (HX w T)) (cs' := 0) (sl' := 0) rfl ?_
      rcases ai_ifE h with ⟨hc, h⟩ | ⟨hc, h⟩
      · refine ev_ic_gt (t := 107) rfl rfl (fun _ => ?_) (fun c9 => absurd hc c9)
        refine ev_go 1 (pc' := 108) (L' := [some (.ref 0), some (.int y1780), some (.int y1781), some (.int y1782), some (.int y1783), some (.int y1784), o6]) (st' := [.int y1780]) (h' := (HX w T)) (cs' := 0) (sl' := 0) rfl ?_
        rcases ai_ifE h with ⟨hc, h⟩ | ⟨hc, h⟩
        · refine ev_if_ne (t := 115) rfl rfl (fun c9 => absurd hc c9) (fun _ => ?_)
          refine ev_go 2 (pc' := 117) (L' := [some (.ref 0), some (.int y1780), some (.int y1781), some (.int y1782), some (.int y1783), some (.int y1784), o6]) (st' := [.int y1782]) (h' := (HX w T)) (cs' := 0) (sl' := 0) rfl ?_
          obtain ⟨rfl, rfl⟩ := ai_smP h
          exact ev_end rfl
        · refine ev_if_ne (t := 115) rfl rfl (fun _ => ?_) (fun c9 => absurd c9 hc)
          refine ev_go 1 (pc' := 117) (L' := [some (.ref 0), some (.int y1780), some (.int y1781), some (.int y1782), some (.int y1783), some (.int y1784), o6]) (st' := [.int y1783]) (h' := (HX w T)) (cs' := 0) (sl' := 0) rfl ?_
          obtain ⟨rfl, rfl⟩ := ai_smP h
          exact ev_end rfl
      · refine ev_ic_gt (t := 107) rfl rfl (fun c9 => absurd c9 hc) (fun _ => ?_)
        refine ev_go 2 (pc' := 42) (L' := [some (.ref 0), some (.int y1780), some (.int y1781), some (.int y1782), some (.int y1783), some (.int y1784), some (.int 0)]) (st' := []) (h' := (HX w T)) (cs' := 0) (sl' := 0) rfl ?_
        exact ih1 _ _ _ _ _ _ _ _ _ h T
    · intro y1785 y1786 y1787 y1788 y1789 y1790 w r w' h T
      simp only [Gf_tap_0] at h
      refine ev_go 2 (pc' := 46) (L' := [some (.ref 0), some (.int y1785), some (.int y1786), some (.int y1787), some (.int y1788), some (.int y1789), some (.int y1790)]) (st' := [.int 9, .int y1790]) (h' := (HX w T)) (cs' := 0) (sl' := 0) rfl ?_
      rcases ai_ifE h with ⟨hc, h⟩ | ⟨hc, h⟩
      · refine ev_ic_gt (t := 101) rfl rfl (fun _ => ?_) (fun c9 => absurd hc c9)
        refine ev_go 2 (pc' := 32) (L' := [some (.ref 0), some (.int y1785), some (.int y1786), some (.int y1787), some (.int y1788), some (.int (y1789 + 1)), some (.int y1790)]) (st' := []) (h' := (HX w T)) (cs' := 0) (sl' := 0) rfl ?_
        exact ih0 _ _ _ _ _ _ _ _ h T _
      · refine ev_ic_gt (t := 101) rfl rfl (fun c9 => absurd c9 hc) (fun _ => ?_)
        refine ev_go 3 (pc' := 54) (L' := [some (.ref 0), some (.int y1785), some (.int y1786), some (.int y1787), some (.int y1788), some (.int y1789), some (.int y1790)]) (st' := [.int y1786, .int y1790, .int y1789]) (h' := (HX w T)) (cs' := 0) (sl' := 0) rfl ?_
        obtain ⟨c1804, hq, h⟩ := ai_bdE h
        refine ev_call (M' := mf_isBestTap) (L' := [some (.int y1789), some (.int y1790), some (.int y1786), none, none]) (rest := []) (rv := some (.int c1804)) (h' := (HX w T)) rfl (Ef_isBestTap n y1789 y1790 y1786 _ hq (HX w T)) ?_
        show ai_ev D1 mf_tap 57 [some (.ref 0), some (.int y1785), some (.int y1786), some (.int y1787), some (.int y1788), some (.int y1789), some (.int y1790)] [.int c1804] (HX w T) 0 0 _
        rcases ai_ifE h with ⟨hc, h⟩ | ⟨hc, h⟩
        · refine ev_if_eq (t := 95) rfl rfl (fun _ => ?_) (fun c9 => absurd hc c9)
          refine ev_go 2 (pc' := 42) (L' := [some (.ref 0), some (.int y1785), some (.int y1786), some (.int y1787), some (.int y1788), some (.int y1789), some (.int (y1790 + 1))]) (st' := []) (h' := (HX w T)) (cs' := 0) (sl' := 0) rfl ?_
          exact ih1 _ _ _ _ _ _ _ _ _ h T
        · refine ev_if_eq (t := 95) rfl rfl (fun c9 => absurd c9 hc) (fun _ => ?_)
          refine ev_go 3 (pc' := 65) (L' := [some (.ref 0), some (.int y1785), some (.int y1786), some (.int y1787), some (.int y1788), some (.int y1789), some (.int y1790)]) (st' := [.int y1786, .int y1789, .int y1790]) (h' := (HX w T)) (cs' := 0) (sl' := 0) rfl ?_
          obtain ⟨c1805, hq, h⟩ := ai_bdE h
          refine ev_call (M' := mf_isBestTap) (L' := [some (.int y1790), some (.int y1789), some (.int y1786), none, none]) (rest := []) (rv := some (.int c1805)) (h' := (HX w T)) rfl (Ef_isBestTap n y1790 y1789 y1786 _ hq (HX w T)) ?_
          show ai_ev D1 mf_tap 68 [some (.ref 0), some (.int y1785), some (.int y1786), some (.int y1787), some (.int y1788), some (.int y1789), some (.int y1790)] [.int c1805] (HX w T) 0 0 _
          rcases ai_ifE h with ⟨hc, h⟩ | ⟨hc, h⟩
          · refine ev_if_eq (t := 95) rfl rfl (fun _ => ?_) (fun c9 => absurd hc c9)
            refine ev_go 2 (pc' := 42) (L' := [some (.ref 0), some (.int y1785), some (.int y1786), some (.int y1787), some (.int y1788), some (.int y1789), some (.int (y1790 + 1))]) (st' := []) (h' := (HX w T)) (cs' := 0) (sl' := 0) rfl ?_
            exact ih1 _ _ _ _ _ _ _ _ _ h T
          · refine ev_if_eq (t := 95) rfl rfl (fun c9 => absurd c9 hc) (fun _ => ?_)
            refine ev_go 3 (pc' := 77) (L' := [some (.ref 0), some (.int y1785), some (.int y1786), some (.int (y1787 + 1)), some (.int y1788), some (.int y1789), some (.int y1790)]) (st' := [.int (-1), .int y1788]) (h' := (HX w T)) (cs' := 0) (sl' := 0) rfl ?_
            rcases ai_ifE h with ⟨hc, h⟩ | ⟨hc, h⟩
            · refine ev_ic_ne (t := 91) rfl rfl (fun c9 => absurd hc c9) (fun _ => ?_)
              refine ev_go 9 (pc' := 42) (L' := [some (.ref 0), some (.int y1785), some (.int y1786), some (.int (y1787 + 1)), some (.int ((10 * y1789) + y1790)), some (.int y1789), some (.int (y1790 + 1))]) (st' := []) (h' := (HX w T)) (cs' := 0) (sl' := 0) rfl ?_
              exact ih1 _ _ _ _ _ _ _ _ _ h T
            · refine ev_ic_ne (t := 91) rfl rfl (fun _ => ?_) (fun c9 => absurd c9 hc)
              refine ev_go 4 (pc' := 42) (L' := [some (.ref 0), some (.int y1785), some (.int y1786), some (.int (y1787 + 1)), some (.int y1788), some (.int y1789), some (.int (y1790 + 1))]) (st' := []) (h' := (HX w T)) (cs' := 0) (sl' := 0) rfl ?_
              exact ih1 _ _ _ _ _ _ _ _ _ h T
set_option maxHeartbeats 40000000 in
set_option maxRecDepth 100000 in
theorem Ef_tap_0 (n : Nat) (x1773 : Int32) (w : WX) (r : Int32) (w' : WX) (h : Ff_tap_0 n x1773 w = some (r, w')) (T : ai_H) : ai_ev D1 mf_tap 0 [some (.ref 0), some (.int x1773), none, none, none, none, none] [] (HX w T) 0 0 (some (.int r), HX w' T) := by
  unfold Ff_tap_0 at h
  obtain ⟨ih0, ih1⟩ := EGf_tap_0 n
  refine ev_go 3 (pc' := 3) (L' := [some (.ref 0), some (.int x1773), none, none, none, none, none]) (st' := [.int 1, .int 0, .int x1773]) (h' := (HX w T)) (cs' := 0) (sl' := 0) rfl ?_
  obtain ⟨c1774, hq, h⟩ := ai_bdE h
  refine ev_call (M' := mf_within) (L' := [some (.int x1773), some (.int 0), some (.int 1)]) (rest := []) (rv := some (.int c1774)) (h' := (HX w T)) rfl (Ef_within x1773 0 1 _ hq (HX w T)) ?_
  show ai_ev D1 mf_tap 6 [some (.ref 0), some (.int x1773), none, none, none, none, none] [.int c1774] (HX w T) 0 0 _
  rcases ai_ifE h with ⟨hc, h⟩ | ⟨hc, h⟩
  · refine ev_if_ne (t := 16) rfl rfl (fun c9 => absurd hc c9) (fun _ => ?_)
    refine ev_go 2 (pc' := 12) (L' := [some (.ref 0), some (.int x1773), none, none, none, none, none]) (st' := [.int (-10), .ref 0]) (h' := (HX w T)) (cs' := 0) (sl' := 0) rfl ?_
    obtain ⟨c1779, hq, h⟩ := ai_bdE h
    refine ev_call (M' := mf_bad) (L' := [some (.ref 0), some (.int (-10))]) (rest := []) (rv := some (.int c1779.1)) (h' := (HX c1779.2 T)) rfl (Ef_bad_0 (-10) w _ _ hq T) ?_
    show ai_ev D1 mf_tap 15 [some (.ref 0), some (.int x1773), none, none, none, none, none] [.int c1779.1] (HX c1779.2 T) 0 0 _
    obtain ⟨rfl, rfl⟩ := ai_smP h
    exact ev_end rfl
  · refine ev_if_ne (t := 16) rfl rfl (fun _ => ?_) (fun c9 => absurd c9 hc)
    refine ev_go 2 (pc' := 20) (L' := [some (.ref 0), some (.int x1773), none, none, none, none, none]) (st' := [.ref 1]) (h' := (HX w T)) (cs' := 0) (sl' := 0) rfl ?_
    obtain ⟨c1778, hq, h⟩ := ai_bdE h
    refine ev_call (M' := msea_sweetInAll) (L' := [some (.ref 1), none, none]) (rest := []) (rv := some (.int c1778.1)) (h' := (HX c1778.2 T)) rfl (Esea_sweetInAll_1 n w _ _ hq T) ?_
    show ai_ev D1 mf_tap 23 [some (.ref 0), some (.int x1773), none, none, none, none, none] [.int c1778.1] (HX c1778.2 T) 0 0 _
    refine ev_go 7 (pc' := 32) (L' := [some (.ref 0), some (.int x1773), some (.int c1778.1), some (.int 0), some (.int (-1)), some (.int 0), none]) (st' := []) (h' := (HX c1778.2 T)) (cs' := 0) (sl' := 0) rfl ?_
    exact ih0 _ _ _ _ _ _ _ _ h T _
set_option maxHeartbeats 40000000 in
set_option maxRecDepth 100000 in
theorem EGsea_fitsDrops_1 : ∀ n : Nat, (∀ (y1832 : Int32) (y1833 : Int32) (y1834 : Int32) (w : WX) (r : Int32) (w' : WX), Gsea_fitsDrops_1 n 0 y1832 y1833 y1834 w = some (r, w') → ∀ (T : ai_H) (o4 : Option Value), ai_ev D1 msea_fitsDrops 2 [some (.ref 1), some (.int y1832), some (.int y1833), some (.int y1834), o4] [] (HX w T) 0 0 (some (.int r), HX w' T)) := by
  intro n
  induction n with
  | zero =>
    exact (fun _ _ _ _ _ _ h => by cases h)
  | succ n ih0 =>
    intro y1832 y1833 y1834 w r w' h T o4
    simp only [Gsea_fitsDrops_1] at h
    refine ev_go 3 (pc' := 7) (L' := [some (.ref 1), some (.int y1832), some (.int y1833), some (.int y1834), o4]) (st' := [.int (a_s1_drops w), .int y1834]) (h' := (HX w T)) (cs' := 0) (sl' := 0) rfl ?_
    rcases ai_ifE h with ⟨hc, h⟩ | ⟨hc, h⟩
    · refine ev_ic_ge (t := 62) rfl rfl (fun _ => ?_) (fun c9 => absurd hc c9)
      refine ev_go 1 (pc' := 63) (L' := [some (.ref 1), some (.int y1832), some (.int y1833), some (.int y1834), o4]) (st' := [.int 1]) (h' := (HX w T)) (cs' := 0) (sl' := 0) rfl ?_
      obtain ⟨rfl, rfl⟩ := ai_smP h
      exact ev_end rfl
    · refine ev_ic_ge (t := 62) rfl rfl (fun c9 => absurd c9 hc) (fun _ => ?_)
      refine ev_go 7 (pc' := 21) (L' := [some (.ref 1), some (.int y1832), some (.int y1833), some (.int y1834), o4]) (st' := [.int y1834, .ref 17, .ref 2, .int y1832, .int y1833]) (h' := (HX w T)) (cs' := 0) (sl' := 0) rfl ?_
      obtain ⟨v1835, hq, h⟩ := ai_bdE h
      refine ev_iald rfl rfl hq ?_
      obtain ⟨v1836, hq, h⟩ := ai_bdE h
      refine ev_iald rfl rfl hq ?_
      refine ev_go 1 (pc' := 24) (L' := [some (.ref 1), some (.int y1832), some (.int y1833), some (.int y1834), o4]) (st' := [.int (y1832 * v1836), .int y1833]) (h' := (HX w T)) (cs' := 0) (sl' := 0) rfl ?_
      rcases ai_ifE h with ⟨hc, h⟩ | ⟨hc, h⟩
      · refine ev_ic_gt (t := 31) rfl rfl (fun _ => ?_) (fun c9 => absurd hc c9)
        refine ev_go 6 (pc' := 41) (L' := [some (.ref 1), some (.int y1832), some (.int y1833), some (.int y1834), some (.int 0)]) (st' := [.int y1834, .ref 18, .int 0]) (h' := (HX w T)) (cs' := 0) (sl' := 0) rfl ?_
        obtain ⟨v1837, hq, h⟩ := ai_bdE h
        refine ev_iald rfl rfl hq ?_
        refine ev_go 1 (pc' := 43) (L' := [some (.ref 1), some (.int y1832), some (.int y1833), some (.int y1834), some (.int 0)]) (st' := [.int 1, .int v1837, .int 0]) (h' := (HX w T)) (cs' := 0) (sl' := 0) rfl ?_
        rcases ai_ifE h with ⟨hc, h⟩ | ⟨hc, h⟩
        · refine ev_ic_ne (t := 50) rfl rfl (fun c9 => absurd hc c9) (fun _ => ?_)
          refine ev_go 4 (pc' := 55) (L' := [some (.ref 1), some (.int y1832), some (.int y1833), some (.int y1834), some (.int 0)]) (st' := [.int 0]) (h' := (HX w T)) (cs' := 0) (sl' := 0) rfl ?_
          obtain ⟨rfl, rfl⟩ := ai_smP h
          exact ev_end rfl
        · refine ev_ic_ne (t := 50) rfl rfl (fun _ => ?_) (fun c9 => absurd c9 hc)
          refine ev_go 4 (pc' := 2) (L' := [some (.ref 1), some (.int y1832), some (.int y1833), some (.int (y1834 + 1)), some (.int 0)]) (st' := []) (h' := (HX w T)) (cs' := 0) (sl' := 0) rfl ?_
          exact ih0 _ _ _ _ _ _ h T _
      · refine ev_ic_gt (t := 31) rfl rfl (fun c9 => absurd c9 hc) (fun _ => ?_)
        refine ev_go 7 (pc' := 41) (L' := [some (.ref 1), some (.int y1832), some (.int y1833), some (.int y1834), some (.int 1)]) (st' := [.int y1834, .ref 18, .int 1]) (h' := (HX w T)) (cs' := 0) (sl' := 0) rfl ?_
        obtain ⟨v1838, hq, h⟩ := ai_bdE h
        refine ev_iald rfl rfl hq ?_
        refine ev_go 1 (pc' := 43) (L' := [some (.ref 1), some (.int y1832), some (.int y1833), some (.int y1834), some (.int 1)]) (st' := [.int 1, .int v1838, .int 1]) (h' := (HX w T)) (cs' := 0) (sl' := 0) rfl ?_
        rcases ai_ifE h with ⟨hc, h⟩ | ⟨hc, h⟩
        · refine ev_ic_ne (t := 50) rfl rfl (fun c9 => absurd hc c9) (fun _ => ?_)
          refine ev_go 5 (pc' := 2) (L' := [some (.ref 1), some (.int y1832), some (.int y1833), some (.int (y1834 + 1)), some (.int 1)]) (st' := []) (h' := (HX w T)) (cs' := 0) (sl' := 0) rfl ?_
          exact ih0 _ _ _ _ _ _ h T _
        · refine ev_ic_ne (t := 50) rfl rfl (fun _ => ?_) (fun c9 => absurd c9 hc)
          refine ev_go 3 (pc' := 55) (L' := [some (.ref 1), some (.int y1832), some (.int y1833), some (.int y1834), some (.int 1)]) (st' := [.int 0]) (h' := (HX w T)) (cs' := 0) (sl' := 0) rfl ?_
          obtain ⟨rfl, rfl⟩ := ai_smP h
          exact ev_end rfl
set_option maxHeartbeats 40000000 in
set_option maxRecDepth 100000 in
theorem Esea_fitsDrops_1 (n : Nat) (x1830 : Int32) (x1831 : Int32) (w : WX) (r : Int32) (w' : WX) (h : Fsea_fitsDrops_1 n x1830 x1831 w = some (r, w')) (T : ai_H) : ai_ev D1 msea_fitsDrops 0 [some (.ref 1), some (.int x1830), some (.int x1831), none, none] [] (HX w T) 0 0 (some (.int r), HX w' T) := by
  unfold Fsea_fitsDrops_1 at h
  have ih0 := EGsea_fitsDrops_1 n
  refine ev_go 2 (pc' := 2) (L' := [some (.ref 1), some (.int x1830), some (.int x1831), some (.int 0), none]) (st' := []) (h' := (HX w T)) (cs' := 0) (sl' := 0) rfl ?_
  exact ih0 _ _ _ _ _ _ h T _
set_option maxHeartbeats 40000000 in
set_option maxRecDepth 100000 in
theorem EGf_nextToTry_0 : ∀ n : Nat, (∀ (y1818 : Int32) (y1819 : Int32) (y1820 : Int32) (y1821 : Int32) (y1822 : Int32) (w : WX) (r : Int32) (w' : WX), Gf_nextToTry_0 n 0 y1818 y1819 y1820 y1821 y1822 0 0 w = some (r, w') → ∀ (T : ai_H) (o6 o7 : Option Value), ai_ev D1 mf_nextToTry 10 [some (.ref 0), some (.int y1818), some (.int y1819), some (.int y1820), some (.int y1821), some (.int y1822), o6, o7] [] (HX w T) 0 0 (some (.int r), HX w' T)) ∧ (∀ (y1823 : Int32) (y1824 : Int32) (y1825 : Int32) (y1826 : Int32) (y1827 : Int32) (y1828 : Int32) (y1829 : Int32) (w : WX) (r : Int32) (w' : WX), Gf_nextToTry_0 n 1 y1823 y1824 y1825 y1826 y1827 y1828 y1829 w = some (r, w') → ∀ (T : ai_H), ai_ev D1 mf_nextToTry 22 [some (.ref 0), some (.int y1823), some (.int y1824), some (.int y1825), some (.int y1826), some (.int y1827), some (.int y1828), some (.int y1829)] [] (HX w T) 0 0 (some (.int r), HX w' T)) := by
  intro n
  induction n with
  | zero =>
    exact ⟨(fun _ _ _ _ _ _ _ _ h => by cases h), (fun _ _ _ _ _ _ _ _ _ _ h => by cases h)⟩
  | succ n ih =>
    obtain ⟨ih0, ih1⟩ := ih
    refine ⟨?_, ?_⟩
    · intro y1818 y1819 y1820 y1821 y1822 w r w' h T o6 o7
      simp only [Gf_nextToTry_0] at h
      refine ev_go 2 (pc' := 13) (L' := [some (.ref 0), some (.int y1818), some (.int y1819), some (.int y1820), some (.int y1821), some (.int y1822), o6, o7]) (st' := [.int 4, .int y1822]) (h' := (HX w T)) (cs' := 0) (sl' := 0) rfl ?_
      rcases ai_ifE h with ⟨hc, h⟩ | ⟨hc, h⟩
      · refine ev_ic_ge (t := 99) rfl rfl (fun _ => ?_) (fun c9 => absurd hc c9)
        refine ev_go 1 (pc' := 100) (L' := [some (.ref 0), some (.int y1818), some (.int y1819), some (.int y1820), some (.int y1821), some (.int y1822), o6, o7]) (st' := [.int y1820]) (h' := (HX w T)) (cs' := 0) (sl' := 0) rfl ?_
        obtain ⟨rfl, rfl⟩ := ai_smP h
        exact ev_end rfl
      · refine ev_ic_ge (t := 99) rfl rfl (fun c9 => absurd c9 hc) (fun _ => ?_)
        refine ev_go 4 (pc' := 22) (L' := [some (.ref 0), some (.int y1818), some (.int y1819), some (.int y1820), some (.int y1821), some (.int y1822), some (.int 0), some (.int 1)]) (st' := []) (h' := (HX w T)) (cs' := 0) (sl' := 0) rfl ?_
        exact ih1 _ _ _ _ _ _ _ _ _ _ h T
    · intro y1823 y1824 y1825 y1826 y1827 y1828 y1829 w r w' h T
      simp only [Gf_nextToTry_0] at h
      refine ev_go 2 (pc' := 26) (L' := [some (.ref 0), some (.int y1823), some (.int y1824), some (.int y1825), some (.int y1826), some (.int y1827), some (.int y1828), some (.int y1829)]) (st' := [.int 99, .int y1829]) (h' := (HX w T)) (cs' := 0) (sl' := 0) rfl ?_
      rcases ai_ifE h with ⟨hc, h⟩ | ⟨hc, h⟩
      · refine ev_ic_gt (t := 68) rfl rfl (fun _ => ?_) (fun c9 => absurd hc c9)
        refine ev_go 8 (pc' := 83) (L' := [some (.ref 0), some (.int y1823), some (.int y1824), some (.int y1825), some (.int y1826), some (.int y1827), some (.int y1828), some (.int (if y1828 < (y1824 - y1828) then (y1824 - y1828) else y1828))]) (st' := [.int y1826, .int (if y1828 < (y1824 - y1828) then (y1824 - y1828) else y1828)]) (h' := (HX w T)) (cs' := 0) (sl' := 0) rfl ?_
        rcases ai_ifE h with ⟨hc, h⟩ | ⟨hc, h⟩
        · refine ev_ic_ge (t := 93) rfl rfl (fun _ => ?_) (fun c9 => absurd hc c9)
          refine ev_go 2 (pc' := 10) (L' := [some (.ref 0), some (.int y1823), some (.int y1824), some (.int y1825), some (.int y1826), some (.int (y1827 + 1)), some (.int y1828), some (.int (if y1828 < (y1824 - y1828) then (y1824 - y1828) else y1828))]) (st' := []) (h' := (HX w T)) (cs' := 0) (sl' := 0) rfl ?_
          exact ih0 _ _ _ _ _ _ _ _ h T _ _
        · refine ev_ic_ge (t := 93) rfl rfl (fun c9 => absurd c9 hc) (fun _ => ?_)
          refine ev_go 6 (pc' := 10) (L' := [some (.ref 0), some (.int y1823), some (.int y1824), some (.int y1827), some (.int (if y1828 < (y1824 - y1828) then (y1824 - y1828) else y1828)), some (.int (y1827 + 1)), some (.int y1828), some (.int (if y1828 < (y1824 - y1828) then (y1824 - y1828) else y1828))]) (st' := []) (h' := (HX w T)) (cs' := 0) (sl' := 0) rfl ?_
          exact ih0 _ _ _ _ _ _ _ _ h T _ _
      · refine ev_ic_gt (t := 68) rfl rfl (fun c9 => absurd c9 hc) (fun _ => ?_)
        refine ev_go 4 (pc' := 36) (L' := [some (.ref 0), some (.int y1823), some (.int y1824), some (.int y1825), some (.int y1826), some (.int y1827), some (.int y1828), some (.int y1829)]) (st' := [.int y1829, .int y1823, .ref 1]) (h' := (HX w T)) (cs' := 0) (sl' := 0) rfl ?_
        obtain ⟨c1839, hq, h⟩ := ai_bdE h
        refine ev_call (M' := msea_fitsDrops) (L' := [some (.ref 1), some (.int y1823), some (.int y1829), none, none]) (rest := []) (rv := some (.int c1839.1)) (h' := (HX c1839.2 T)) rfl (Esea_fitsDrops_1 n y1823 y1829 w _ _ hq T) ?_
        show ai_ev D1 mf_nextToTry 39 [some (.ref 0), some (.int y1823), some (.int y1824), some (.int y1825), some (.int y1826), some (.int y1827), some (.int y1828), some (.int y1829)] [.int c1839.1] (HX c1839.2 T) 0 0 _
        rcases ai_ifE h with ⟨hc, h⟩ | ⟨hc, h⟩
        · refine ev_if_eq (t := 62) rfl rfl (fun _ => ?_) (fun c9 => absurd hc c9)
          refine ev_go 2 (pc' := 22) (L' := [some (.ref 0), some (.int y1823), some (.int y1824), some (.int y1825), some (.int y1826), some (.int y1827), some (.int y1828), some (.int (y1829 + 1))]) (st' := []) (h' := (HX c1839.2 T)) (cs' := 0) (sl' := 0) rfl ?_
          exact ih1 _ _ _ _ _ _ _ _ _ _ h T
        · refine ev_if_eq (t := 62) rfl rfl (fun c9 => absurd c9 hc) (fun _ => ?_)
          refine ev_go 6 (pc' := 54) (L' := [some (.ref 0), some (.int y1823), some (.int y1824), some (.int y1825), some (.int y1826), some (.int y1827), some (.int y1828), some (.int y1829)]) (st' := [.int y1827, .ref 2, .int y1823, .int y1829]) (h' := (HX c1839.2 T)) (cs' := 0) (sl' := 0) rfl ?_
          obtain ⟨v1840, hq, h⟩ := ai_bdE h
          refine ev_iald rfl rfl hq ?_
          refine ev_go 1 (pc' := 56) (L' := [some (.ref 0), some (.int y1823), some (.int y1824), some (.int y1825), some (.int y1826), some (.int y1827), some (.int y1828), some (.int y1829)]) (st' := [.int (y1823 * v1840), .int y1829]) (h' := (HX c1839.2 T)) (cs' := 0) (sl' := 0) rfl ?_
          rcases ai_ifE h with ⟨hc, h⟩ | ⟨hc, h⟩
          · refine ev_ic_gt (t := 62) rfl rfl (fun _ => ?_) (fun c9 => absurd hc c9)
            refine ev_go 2 (pc' := 22) (L' := [some (.ref 0), some (.int y1823), some (.int y1824), some (.int y1825), some (.int y1826), some (.int y1827), some (.int y1828), some (.int (y1829 + 1))]) (st' := []) (h' := (HX c1839.2 T)) (cs' := 0) (sl' := 0) rfl ?_
            exact ih1 _ _ _ _ _ _ _ _ _ _ h T
          · refine ev_ic_gt (t := 62) rfl rfl (fun c9 => absurd c9 hc) (fun _ => ?_)
            refine ev_go 3 (pc' := 22) (L' := [some (.ref 0), some (.int y1823), some (.int y1824), some (.int y1825), some (.int y1826), some (.int y1827), some (.int (y1828 + 1)), some (.int (y1829 + 1))]) (st' := []) (h' := (HX c1839.2 T)) (cs' := 0) (sl' := 0) rfl ?_
            exact ih1 _ _ _ _ _ _ _ _ _ _ h T
set_option maxHeartbeats 40000000 in
set_option maxRecDepth 100000 in
theorem Ef_nextToTry_0 (n : Nat) (x1816 : Int32) (x1817 : Int32) (w : WX) (r : Int32) (w' : WX) (h : Ff_nextToTry_0 n x1816 x1817 w = some (r, w')) (T : ai_H) : ai_ev D1 mf_nextToTry 0 [some (.ref 0), some (.int x1816), some (.int x1817), none, none, none, none, none] [] (HX w T) 0 0 (some (.int r), HX w' T) := by
  unfold Ff_nextToTry_0 at h
  obtain ⟨ih0, ih1⟩ := EGf_nextToTry_0 n
  refine ev_go 8 (pc' := 10) (L' := [some (.ref 0), some (.int x1816), some (.int x1817), some (.int (-1)), some (.int (x1817 + 1)), some (.int 0), none, none]) (st' := []) (h' := (HX w T)) (cs' := 0) (sl' := 0) rfl ?_
  exact ih0 _ _ _ _ _ _ _ _ h T _ _
set_option maxHeartbeats 40000000 in
set_option maxRecDepth 100000 in
theorem EGf_known_0 : ∀ n : Nat, (∀ (y1812 : Int32) (y1813 : Int32) (y1814 : Int32) (y1815 : Int32) (w : WX) (r : Int32) (w' : WX), Gf_known_0 n 0 y1812 y1813 y1814 y1815 w = some (r, w') → ∀ (T : ai_H), ai_ev D1 mf_known 31 [some (.ref 0), some (.int y1812), some (.int y1813), some (.int y1814), some (.int y1815)] [] (HX w T) 0 0 (some (.int r), HX w' T)) := by
  intro n
  induction n with
  | zero =>
    exact (fun _ _ _ _ _ _ _ h => by cases h)
  | succ n ih0 =>
    intro y1812 y1813 y1814 y1815 w r w' h T
    simp only [Gf_known_0] at h
    refine ev_go 2 (pc' := 35) (L' := [some (.ref 0), some (.int y1812), some (.int y1813), some (.int y1814), some (.int y1815)]) (st' := [.int 99, .int y1815]) (h' := (HX w T)) (cs' := 0) (sl' := 0) rfl ?_
    rcases ai_ifE h with ⟨hc, h⟩ | ⟨hc, h⟩
    · refine ev_ic_gt (t := 60) rfl rfl (fun _ => ?_) (fun c9 => absurd hc c9)
      refine ev_go 1 (pc' := 61) (L' := [some (.ref 0), some (.int y1812), some (.int y1813), some (.int y1814), some (.int y1815)]) (st' := [.int y1813]) (h' := (HX w T)) (cs' := 0) (sl' := 0) rfl ?_
      rcases ai_ifE h with ⟨hc, h⟩ | ⟨hc, h⟩
      · refine ev_if_ne (t := 66) rfl rfl (fun c9 => absurd hc c9) (fun _ => ?_)
        refine ev_go 1 (pc' := 65) (L' := [some (.ref 0), some (.int y1812), some (.int y1813), some (.int y1814), some (.int y1815)]) (st' := [.int y1814]) (h' := (HX w T)) (cs' := 0) (sl' := 0) rfl ?_
        obtain ⟨rfl, rfl⟩ := ai_smP h
        exact ev_end rfl
      · refine ev_if_ne (t := 66) rfl rfl (fun _ => ?_) (fun c9 => absurd c9 hc)
        refine ev_go 1 (pc' := 67) (L' := [some (.ref 0), some (.int y1812), some (.int y1813), some (.int y1814), some (.int y1815)]) (st' := [.int y1814]) (h' := (HX w T)) (cs' := 0) (sl' := 0) rfl ?_
        rcases ai_ifE h with ⟨hc, h⟩ | ⟨hc, h⟩
        · refine ev_if_ne (t := 74) rfl rfl (fun c9 => absurd hc c9) (fun _ => ?_)
          refine ev_go 2 (pc' := 80) (L' := [some (.ref 0), some (.int y1812), some (.int y1813), some (.int y1814), some (.int y1815)]) (st' := [.int (-1)]) (h' := (HX w T)) (cs' := 0) (sl' := 0) rfl ?_
          obtain ⟨rfl, rfl⟩ := ai_smP h
          exact ev_end rfl
        · refine ev_if_ne (t := 74) rfl rfl (fun _ => ?_) (fun c9 => absurd c9 hc)
          refine ev_go 3 (pc' := 77) (L' := [some (.ref 0), some (.int y1812), some (.int y1813), some (.int y1814), some (.int y1815)]) (st' := [.int y1814, .int y1812, .ref 0]) (h' := (HX w T)) (cs' := 0) (sl' := 0) rfl ?_
          obtain ⟨c1841, hq, h⟩ := ai_bdE h
          refine ev_call (M' := mf_nextToTry) (L' := [some (.ref 0), some (.int y1812), some (.int y1814), none, none, none, none, none]) (rest := []) (rv := some (.int c1841.1)) (h' := (HX c1841.2 T)) rfl (Ef_nextToTry_0 n y1812 y1814 w _ _ hq T) ?_
          show ai_ev D1 mf_known 80 [some (.ref 0), some (.int y1812), some (.int y1813), some (.int y1814), some (.int y1815)] [.int c1841.1] (HX c1841.2 T) 0 0 _
          obtain ⟨rfl, rfl⟩ := ai_smP h
          exact ev_end rfl
    · refine ev_ic_gt (t := 60) rfl rfl (fun c9 => absurd c9 hc) (fun _ => ?_)
      refine ev_go 4 (pc' := 45) (L' := [some (.ref 0), some (.int y1812), some (.int y1813), some (.int y1814), some (.int y1815)]) (st' := [.int y1815, .int y1812, .ref 1]) (h' := (HX w T)) (cs' := 0) (sl' := 0) rfl ?_
      obtain ⟨c1842, hq, h⟩ := ai_bdE h
      refine ev_call (M' := msea_fitsDrops) (L' := [some (.ref 1), some (.int y1812), some (.int y1815), none, none]) (rest := []) (rv := some (.int c1842.1)) (h' := (HX c1842.2 T)) rfl (Esea_fitsDrops_1 n y1812 y1815 w _ _ hq T) ?_
      show ai_ev D1 mf_known 48 [some (.ref 0), some (.int y1812), some (.int y1813), some (.int y1814), some (.int y1815)] [.int c1842.1] (HX c1842.2 T) 0 0 _
      rcases ai_ifE h with ⟨hc, h⟩ | ⟨hc, h⟩
      · refine ev_if_eq (t := 54) rfl rfl (fun _ => ?_) (fun c9 => absurd hc c9)
        refine ev_go 2 (pc' := 31) (L' := [some (.ref 0), some (.int y1812), some (.int y1813), some (.int y1814), some (.int (y1815 + 1))]) (st' := []) (h' := (HX c1842.2 T)) (cs' := 0) (sl' := 0) rfl ?_
        exact ih0 _ _ _ _ _ _ _ h T
      · refine ev_if_eq (t := 54) rfl rfl (fun c9 => absurd c9 hc) (fun _ => ?_)
        refine ev_go 3 (pc' := 31) (L' := [some (.ref 0), some (.int y1812), some (.int y1813), some (.int (y1814 + 1)), some (.int (y1815 + 1))]) (st' := []) (h' := (HX c1842.2 T)) (cs' := 0) (sl' := 0) rfl ?_
        exact ih0 _ _ _ _ _ _ _ h T
set_option maxHeartbeats 40000000 in
set_option maxRecDepth 100000 in
theorem Ef_known_0 (n : Nat) (x1806 : Int32) (x1807 : Int32) (w : WX) (r : Int32) (w' : WX) (h : Ff_known_0 n x1806 x1807 w = some (r, w')) (T : ai_H) : ai_ev D1 mf_known 0 [some (.ref 0), some (.int x1806), some (.int x1807), none, none] [] (HX w T) 0 0 (some (.int r), HX w' T) := by
  unfold Ff_known_0 at h
  have ih0 := EGf_known_0 n
  refine ev_go 3 (pc' := 4) (L' := [some (.ref 0), some (.int x1806), some (.int x1807), none, none]) (st' := [.int 9, .int 1, .int x1806]) (h' := (HX w T)) (cs' := 0) (sl' := 0) rfl ?_
  obtain ⟨c1808, hq, h⟩ := ai_bdE h
  refine ev_call (M' := mf_within) (L' := [some (.int x1806), some (.int 1), some (.int 9)]) (rest := []) (rv := some (.int c1808)) (h' := (HX w T)) rfl (Ef_within x1806 1 9 _ hq (HX w T)) ?_
  show ai_ev D1 mf_known 7 [some (.ref 0), some (.int x1806), some (.int x1807), none, none] [.int c1808] (HX w T) 0 0 _
  rcases ai_ifE h with ⟨hc, h⟩ | ⟨hc, h⟩
  · refine ev_if_eq (t := 19) rfl rfl (fun _ => ?_) (fun c9 => absurd hc c9)
    refine ev_go 2 (pc' := 22) (L' := [some (.ref 0), some (.int x1806), some (.int x1807), none, none]) (st' := [.int (-10), .ref 0]) (h' := (HX w T)) (cs' := 0) (sl' := 0) rfl ?_
    obtain ⟨c1809, hq, h⟩ := ai_bdE h
    refine ev_call (M' := mf_bad) (L' := [some (.ref 0), some (.int (-10))]) (rest := []) (rv := some (.int c1809.1)) (h' := (HX c1809.2 T)) rfl (Ef_bad_0 (-10) w _ _ hq T) ?_
    show ai_ev D1 mf_known 25 [some (.ref 0), some (.int x1806), some (.int x1807), none, none] [.int c1809.1] (HX c1809.2 T) 0 0 _
    obtain ⟨rfl, rfl⟩ := ai_smP h
    exact ev_end rfl
  · refine ev_if_eq (t := 19) rfl rfl (fun c9 => absurd c9 hc) (fun _ => ?_)
    refine ev_go 3 (pc' := 13) (L' := [some (.ref 0), some (.int x1806), some (.int x1807), none, none]) (st' := [.int 1, .int 0, .int x1807]) (h' := (HX w T)) (cs' := 0) (sl' := 0) rfl ?_
    obtain ⟨c1810, hq, h⟩ := ai_bdE h
    refine ev_call (M' := mf_within) (L' := [some (.int x1807), some (.int 0), some (.int 1)]) (rest := []) (rv := some (.int c1810)) (h' := (HX w T)) rfl (Ef_within x1807 0 1 _ hq (HX w T)) ?_
    show ai_ev D1 mf_known 16 [some (.ref 0), some (.int x1806), some (.int x1807), none, none] [.int c1810] (HX w T) 0 0 _
    rcases ai_ifE h with ⟨hc, h⟩ | ⟨hc, h⟩
    · refine ev_if_ne (t := 26) rfl rfl (fun c9 => absurd hc c9) (fun _ => ?_)
      refine ev_go 2 (pc' := 22) (L' := [some (.ref 0), some (.int x1806), some (.int x1807), none, none]) (st' := [.int (-10), .ref 0]) (h' := (HX w T)) (cs' := 0) (sl' := 0) rfl ?_
      obtain ⟨c1811, hq, h⟩ := ai_bdE h
      refine ev_call (M' := mf_bad) (L' := [some (.ref 0), some (.int (-10))]) (rest := []) (rv := some (.int c1811.1)) (h' := (HX c1811.2 T)) rfl (Ef_bad_0 (-10) w _ _ hq T) ?_
      show ai_ev D1 mf_known 25 [some (.ref 0), some (.int x1806), some (.int x1807), none, none] [.int c1811.1] (HX c1811.2 T) 0 0 _
      obtain ⟨rfl, rfl⟩ := ai_smP h
      exact ev_end rfl
    · refine ev_if_ne (t := 26) rfl rfl (fun _ => ?_) (fun c9 => absurd c9 hc)
      refine ev_go 4 (pc' := 31) (L' := [some (.ref 0), some (.int x1806), some (.int x1807), some (.int 0), some (.int 1)]) (st' := []) (h' := (HX w T)) (cs' := 0) (sl' := 0) rfl ?_
      exact ih0 _ _ _ _ _ _ _ h T
set_option maxHeartbeats 40000000 in
set_option maxRecDepth 100000 in
theorem EGf_putFraction_0 : ∀ n : Nat, (∀ (y1874 : Int64) (y1875 : Int64) (y1876 : Int64) (y1877 : Int64) (y1878 : Int32) (w : WX) (w' : WX), Gf_putFraction_0 n 0 y1878 y1874 y1875 y1876 y1877 w = some w' → ∀ (T : ai_H) (o10 o11 : Option Value), ai_ev D1 mf_putFraction 9 [some (.ref 0), some (.long y1874), none, some (.long y1875), none, some (.long y1876), none, some (.long y1877), none, some (.int y1878), o10, o11] [] (HX w T) 0 0 (none, HX w' T)) := by
  intro n
  induction n with
  | zero =>
    exact (fun _ _ _ _ _ _ _ h => by cases h)
  | succ n ih0 =>
    intro y1874 y1875 y1876 y1877 y1878 w w' h T o10 o11
    simp only [Gf_putFraction_0] at h
    refine ev_go 2 (pc' := 14) (L' := [some (.ref 0), some (.long y1874), none, some (.long y1875), none, some (.long y1876), none, some (.long y1877), none, some (.int y1878), o10, o11]) (st' := [.int 1000, .int y1878]) (h' := (HX w T)) (cs' := 0) (sl' := 0) rfl ?_
    rcases ai_ifE h with ⟨hc, h⟩ | ⟨hc, h⟩
    · refine ev_ic_ge (t := 45) rfl rfl (fun _ => ?_) (fun c9 => absurd hc c9)
      refine ev_go 3 (pc' := 49) (L' := [some (.ref 0), some (.long y1874), none, some (.long y1875), none, some (.long y1876), none, some (.long y1877), none, some (.int y1878), o10, o11]) (st' := [.int (lg_cmp y1876 0)]) (h' := (HX w T)) (cs' := 0) (sl' := 0) rfl ?_
      rcases ai_ifE h with ⟨hc, h⟩ | ⟨hc, h⟩
      · refine ev_if_ne (t := 56) rfl rfl (fun c9 => absurd hc c9) (fun _ => ?_)
        refine ev_go 7 (pc' := 65) (L' := [some (.ref 0), some (.long y1874), none, some (.long y1875), none, some (.long y1876), none, some (.long y1877), none, some (.long 1), none, o11]) (st' := [.long (y1874 / 1), .ref 0]) (h' := (HX w T)) (cs' := 0) (sl' := 0) rfl ?_
        refine ev_step rfl rfl rfl (PFX_7_61_0 rfl) ?_
        refine ev_go 4 (pc' := 73) (L' := [some (.ref 0), some (.long y1874), none, some (.long y1875), none, some (.long y1876), none, some (.long y1877), none, some (.long 1), none, o11]) (st' := [.long (y1875 / 1), .ref 0]) (h' := (HX (u_f_above w (y1874 / 1)) T)) (cs' := 0) (sl' := 0) rfl ?_
        refine ev_step rfl rfl rfl (PFX_7_65_0 rfl) ?_
        obtain rfl := Option.some.inj h
        exact ev_end rfl
      · refine ev_if_ne (t := 56) rfl rfl (fun _ => ?_) (fun c9 => absurd c9 hc)
        refine ev_go 5 (pc' := 64) (L' := [some (.ref 0), some (.long y1874), none, some (.long y1875), none, some (.long y1876), none, some (.long y1877), none, some (.long y1876), none, o11]) (st' := [.long y1876, .long y1874, .ref 0]) (h' := (HX w T)) (cs' := 0) (sl' := 0) rfl ?_
        obtain ⟨hc, h⟩ := ai_ifN h
        refine ev_ldiv rfl hc ?_
        refine ev_step rfl rfl rfl (PFX_7_61_0 rfl) ?_
        refine ev_go 3 (pc' := 72) (L' := [some (.ref 0), some (.long y1874), none, some (.long y1875), none, some (.long y1876), none, some (.long y1877), none, some (.long y1876), none, o11]) (st' := [.long y1876, .long y1875, .ref 0]) (h' := (HX (u_f_above w (y1874 / y1876)) T)) (cs' := 0) (sl' := 0) rfl ?_
        obtain ⟨hc, h⟩ := ai_ifN h
        refine ev_ldiv rfl hc ?_
        refine ev_step rfl rfl rfl (PFX_7_65_0 rfl) ?_
        obtain rfl := Option.some.inj h
        exact ev_end rfl
    · refine ev_ic_ge (t := 45) rfl rfl (fun c9 => absurd c9 hc) (fun _ => ?_)
      refine ev_go 3 (pc' := 21) (L' := [some (.ref 0), some (.long y1874), none, some (.long y1875), none, some (.long y1876), none, some (.long y1877), none, some (.int y1878), o10, o11]) (st' := [.int (lg_cmp y1877 0)]) (h' := (HX w T)) (cs' := 0) (sl' := 0) rfl ?_
      rcases ai_ifE h with ⟨hc, h⟩ | ⟨hc, h⟩
      · refine ev_if_eq (t := 45) rfl rfl (fun _ => ?_) (fun c9 => absurd hc c9)
        refine ev_go 3 (pc' := 49) (L' := [some (.ref 0), some (.long y1874), none, some (.long y1875), none, some (.long y1876), none, some (.long y1877), none, some (.int y1878), o10, o11]) (st' := [.int (lg_cmp y1876 0)]) (h' := (HX w T)) (cs' := 0) (sl' := 0) rfl ?_
        rcases ai_ifE h with ⟨hc, h⟩ | ⟨hc, h⟩
        · refine ev_if_ne (t := 56) rfl rfl (fun c9 => absurd hc c9) (fun _ => ?_)
          refine ev_go 7 (pc' := 65) (L' := [some (.ref 0), some (.long y1874), none, some (.long y1875), none, some (.long y1876), none, some (.long y1877), none, some (.long 1), none, o11]) (st' := [.long (y1874 / 1), .ref 0]) (h' := (HX w T)) (cs' := 0) (sl' := 0) rfl ?_
          refine ev_step rfl rfl rfl (PFX_7_61_0 rfl) ?_
          refine ev_go 4 (pc' := 73) (L' := [some (.ref 0), some (.long y1874), none, some (.long y1875), none, some (.long y1876), none, some (.long y1877), none, some (.long 1), none, o11]) (st' := [.long (y1875 / 1), .ref 0]) (h' := (HX (u_f_above w (y1874 / 1)) T)) (cs' := 0) (sl' := 0) rfl ?_
          refine ev_step rfl rfl rfl (PFX_7_65_0 rfl) ?_
          obtain rfl := Option.some.inj h
          exact ev_end rfl
        · refine ev_if_ne (t := 56) rfl rfl (fun _ => ?_) (fun c9 => absurd c9 hc)
          refine ev_go 5 (pc' := 64) (L' := [some (.ref 0), some (.long y1874), none, some (.long y1875), none, some (.long y1876), none, some (.long y1877), none, some (.long y1876), none, o11]) (st' := [.long y1876, .long y1874, .ref 0]) (h' := (HX w T)) (cs' := 0) (sl' := 0) rfl ?_
          obtain ⟨hc, h⟩ := ai_ifN h
          refine ev_ldiv rfl hc ?_
          refine ev_step rfl rfl rfl (PFX_7_61_0 rfl) ?_
          refine ev_go 3 (pc' := 72) (L' := [some (.ref 0), some (.long y1874), none, some (.long y1875), none, some (.long y1876), none, some (.long y1877), none, some (.long y1876), none, o11]) (st' := [.long y1876, .long y1875, .ref 0]) (h' := (HX (u_f_above w (y1874 / y1876)) T)) (cs' := 0) (sl' := 0) rfl ?_
          obtain ⟨hc, h⟩ := ai_ifN h
          refine ev_ldiv rfl hc ?_
          refine ev_step rfl rfl rfl (PFX_7_65_0 rfl) ?_
          obtain rfl := Option.some.inj h
          exact ev_end rfl
      · refine ev_if_eq (t := 45) rfl rfl (fun c9 => absurd c9 hc) (fun _ => ?_)
        refine ev_go 2 (pc' := 28) (L' := [some (.ref 0), some (.long y1874), none, some (.long y1875), none, some (.long y1876), none, some (.long y1877), none, some (.int y1878), o10, o11]) (st' := [.long y1877, .long y1876]) (h' := (HX w T)) (cs' := 0) (sl' := 0) rfl ?_
        obtain ⟨hc, h⟩ := ai_ifN h
        refine ev_lrem rfl hc ?_
        refine ev_go 7 (pc' := 9) (L' := [some (.ref 0), some (.long y1874), none, some (.long y1875), none, some (.long y1877), none, some (.long (y1876 - y1876 / y1877 * y1877)), none, some (.int (y1878 + 1)), some (.long (y1876 - y1876 / y1877 * y1877)), none]) (st' := []) (h' := (HX w T)) (cs' := 0) (sl' := 0) rfl ?_
        exact ih0 _ _ _ _ _ _ _ h T _ _
set_option maxHeartbeats 40000000 in
set_option maxRecDepth 100000 in
theorem Ef_putFraction_0 (n : Nat) (x1872 : Int64) (x1873 : Int64) (w : WX) (w' : WX) (h : Ff_putFraction_0 n x1872 x1873 w = some w') (T : ai_H) : ai_ev D1 mf_putFraction 0 [some (.ref 0), some (.long x1872), none, some (.long x1873), none, none, none, none, none, none, none, none] [] (HX w T) 0 0 (none, HX w' T) := by
  unfold Ff_putFraction_0 at h
  have ih0 := EGf_putFraction_0 n
  refine ev_go 6 (pc' := 9) (L' := [some (.ref 0), some (.long x1872), none, some (.long x1873), none, some (.long x1873), none, some (.long x1872), none, some (.int 0), none, none]) (st' := []) (h' := (HX w T)) (cs' := 0) (sl' := 0) rfl ?_
  exact ih0 _ _ _ _ _ _ _ h T _ _
set_option maxHeartbeats 40000000 in
set_option maxRecDepth 100000 in
theorem EGf_chanceOf : ∀ n : Nat, (∀ (y1884 : Int32) (y1885 : Int64) (y1886 : Int64) (y1887 : Int64) (y1888 : Int32) (r : Int64), Gf_chanceOf n 0 y1884 y1888 y1885 y1886 y1887 = some r → ∀ (hh : ai_H), ai_ev D1 mf_chanceOf 6 [some (.int y1884), some (.long y1885), none, some (.long y1886), none, some (.long y1887), none, some (.int y1888)] [] hh 0 0 (some (.long r), hh)) := by
  intro n
  induction n with
  | zero =>
    exact (fun _ _ _ _ _ _ h => by cases h)
  | succ n ih0 =>
    intro y1884 y1885 y1886 y1887 y1888 r h hh
    simp only [Gf_chanceOf] at h
    refine ev_go 2 (pc' := 9) (L' := [some (.int y1884), some (.long y1885), none, some (.long y1886), none, some (.long y1887), none, some (.int y1888)]) (st' := [.int 3, .int y1888]) (h' := hh) (cs' := 0) (sl' := 0) rfl ?_
    rcases ai_ifE h with ⟨hc, h⟩ | ⟨hc, h⟩
    · refine ev_ic_ge (t := 40) rfl rfl (fun _ => ?_) (fun c9 => absurd hc c9)
      refine ev_go 1 (pc' := 42) (L' := [some (.int y1884), some (.long y1885), none, some (.long y1886), none, some (.long y1887), none, some (.int y1888)]) (st' := [.long y1887]) (h' := hh) (cs' := 0) (sl' := 0) rfl ?_
      obtain rfl := Option.some.inj h
      exact ev_end rfl
    · refine ev_ic_ge (t := 40) rfl rfl (fun c9 => absurd c9 hc) (fun _ => ?_)
      refine ev_go 7 (pc' := 21) (L' := [some (.int y1884), some (.long y1885), none, some (.long y1886), none, some (.long y1887), none, some (.int y1888)]) (st' := [.int 1, .int ((y1884 >>> (y1888 &&& 31)) &&& 1), .long y1887]) (h' := hh) (cs' := 0) (sl' := 0) rfl ?_
      rcases ai_ifE h with ⟨hc, h⟩ | ⟨hc, h⟩
      · refine ev_ic_ne (t := 30) rfl rfl (fun c9 => absurd hc c9) (fun _ => ?_)
        refine ev_go 8 (pc' := 6) (L' := [some (.int y1884), some (.long y1885), none, some (.long y1886), none, some (.long (y1887 * (y1885 - y1886))), none, some (.int (y1888 + 1))]) (st' := []) (h' := hh) (cs' := 0) (sl' := 0) rfl ?_
        exact ih0 _ _ _ _ _ _ h hh
      · refine ev_ic_ne (t := 30) rfl rfl (fun _ => ?_) (fun c9 => absurd c9 hc)
        refine ev_go 5 (pc' := 6) (L' := [some (.int y1884), some (.long y1885), none, some (.long y1886), none, some (.long (y1887 * y1886)), none, some (.int (y1888 + 1))]) (st' := []) (h' := hh) (cs' := 0) (sl' := 0) rfl ?_
        exact ih0 _ _ _ _ _ _ h hh
set_option maxHeartbeats 40000000 in
set_option maxRecDepth 100000 in
theorem Ef_chanceOf (n : Nat) (x1881 : Int32) (x1882 : Int64) (x1883 : Int64) (r : Int64) (h : Ff_chanceOf n x1881 x1882 x1883 = some r) (hh : ai_H) : ai_ev D1 mf_chanceOf 0 [some (.int x1881), some (.long x1882), none, some (.long x1883), none, none, none, none] [] hh 0 0 (some (.long r), hh) := by
  unfold Ff_chanceOf at h
  have ih0 := EGf_chanceOf n
  refine ev_go 4 (pc' := 6) (L' := [some (.int x1881), some (.long x1882), none, some (.long x1883), none, some (.long 1), none, some (.int 0)]) (st' := []) (h' := hh) (cs' := 0) (sl' := 0) rfl ?_
  exact ih0 _ _ _ _ _ _ h hh
set_option maxHeartbeats 40000000 in
set_option maxRecDepth 100000 in
theorem EGf_storm_0 : ∀ n : Nat, (∀ (y1855 : Int32) (y1856 : Int32) (y1857 : Int32) (y1858 : Int32) (y1859 : Int64) (y1860 : Int64) (y1861 : Int32) (w : WX) (r : Int32) (w' : WX), Gf_storm_0 n 0 y1855 y1856 y1857 y1858 y1861 0 y1859 y1860 0 w = some (r, w') → ∀ (T : ai_H) (o10 o11 o12 : Option Value), ai_ev D1 mf_storm 61 [some (.ref 0), some (.int y1855), some (.int y1856), some (.int y1857), some (.int y1858), some (.long y1859), none, some (.long y1860), none, some (.int y1861), o10, o11, o12] [] (HX w T) 0 0 (some (.int r), HX w' T)) ∧ (∀ (y1863 : Int32) (y1864 : Int32) (y1865 : Int32) (y1866 : Int32) (y1867 : Int64) (y1868 : Int64) (y1869 : Int32) (y1870 : Int64) (y1871 : Int32) (w : WX) (r : Int32) (w' : WX), Gf_storm_0 n 1 y1863 y1864 y1865 y1866 y1869 y1871 y1867 y1868 y1870 w = some (r, w') → ∀ (T : ai_H), ai_ev D1 mf_storm 114 [some (.ref 0), some (.int y1863), some (.int y1864), some (.int y1865), some (.int y1866), some (.long y1867), none, some (.long y1868), none, some (.int y1869), some (.long y1870), none, some (.int y1871)] [] (HX w T) 0 0 (some (.int r), HX w' T)) := by
  intro n
  induction n with
  | zero =>
    exact ⟨(fun _ _ _ _ _ _ _ _ _ _ h => by cases h), (fun _ _ _ _ _ _ _ _ _ _ _ _ h => by cases h)⟩
  | succ n ih =>
    obtain ⟨ih0, ih1⟩ := ih
    refine ⟨?_, ?_⟩
    · intro y1855 y1856 y1857 y1858 y1859 y1860 y1861 w r w' h T o10 o11 o12
      simp only [Gf_storm_0] at h
      refine ev_go 2 (pc' := 64) (L' := [some (.ref 0), some (.int y1855), some (.int y1856), some (.int y1857), some (.int y1858), some (.long y1859), none, some (.long y1860), none, some (.int y1861), o10, o11, o12]) (st' := [.int y1857, .int y1861]) (h' := (HX w T)) (cs' := 0) (sl' := 0) rfl ?_
      rcases ai_ifE h with ⟨hc, h⟩ | ⟨hc, h⟩
      · refine ev_ic_ge (t := 92) rfl rfl (fun _ => ?_) (fun c9 => absurd hc c9)
        refine ev_go 4 (pc' := 96) (L' := [some (.ref 0), some (.int y1855), some (.int y1856), some (.int y1857), some (.int y1858), some (.long y1859), none, some (.long y1860), none, some (.int y1861), o10, o11, o12]) (st' := [.int 0, .int y1856, .int y1855, .ref 0]) (h' := (HX w T)) (cs' := 0) (sl' := 0) rfl ?_
        obtain ⟨c1862, hq, h⟩ := ai_bdE h
        refine ev_call (M' := mf_letGoNow) (L' := [some (.ref 0), some (.int y1855), some (.int y1856), some (.int 0)]) (rest := []) (rv := none) (h' := (HX c1862 T)) rfl (Ef_letGoNow_0 n y1855 y1856 0 w _ hq T) ?_
        show ai_ev D1 mf_storm 99 [some (.ref 0), some (.int y1855), some (.int y1856), some (.int y1857), some (.int y1858), some (.long y1859), none, some (.long y1860), none, some (.int y1861), o10, o11, o12] [] (HX c1862 T) 0 0 _
        refine ev_go 8 (pc' := 114) (L' := [some (.ref 0), some (.int y1855), some (.int y1856), some (.int y1857), some (.int y1858), some (.long y1859), none, some (.long y1860), none, some (.int (a_fall_layer c1862)), some (.long 0), none, some (.int 0)]) (st' := []) (h' := (HX c1862 T)) (cs' := 0) (sl' := 0) rfl ?_
        exact ih1 _ _ _ _ _ _ _ _ _ _ _ _ h T
      · refine ev_ic_ge (t := 92) rfl rfl (fun c9 => absurd c9 hc) (fun _ => ?_)
        refine ev_go 13 (pc' := 61) (L' := [some (.ref 0), some (.int y1855), some (.int y1856), some (.int y1857), some (.int y1858), some (.long (y1859 * 10)), none, some (.long (y1860 * ((10 - y1858)).toInt64)), none, some (.int (y1861 + 1)), o10, o11, o12]) (st' := []) (h' := (HX w T)) (cs' := 0) (sl' := 0) rfl ?_
        exact ih0 _ _ _ _ _ _ _ _ _ _ h T _ _ _
    · intro y1863 y1864 y1865 y1866 y1867 y1868 y1869 y1870 y1871 w r w' h T
      simp only [Gf_storm_0] at h
      refine ev_go 2 (pc' := 118) (L' := [some (.ref 0), some (.int y1863), some (.int y1864), some (.int y1865), some (.int y1866), some (.long y1867), none, some (.long y1868), none, some (.int y1869), some (.long y1870), none, some (.int y1871)]) (st' := [.int 8, .int y1871]) (h' := (HX w T)) (cs' := 0) (sl' := 0) rfl ?_
      rcases ai_ifE h with ⟨hc, h⟩ | ⟨hc, h⟩
      · refine ev_ic_ge (t := 161) rfl rfl (fun _ => ?_) (fun c9 => absurd hc c9)
        refine ev_go 7 (pc' := 172) (L' := [some (.ref 0), some (.int y1863), some (.int y1864), some (.int y1865), some (.int y1866), some (.long y1867), none, some (.long y1868), none, some (.int y1869), some (.long y1870), none, some (.int y1871)]) (st' := [.long ((y1867 * y1867) * y1867), .long y1870, .ref 0]) (h' := (HX w T)) (cs' := 0) (sl' := 0) rfl ?_
        obtain ⟨c1879, hq, h⟩ := ai_bdE h
        refine ev_call (M' := mf_putFraction) (L' := [some (.ref 0), some (.long y1870), none, some (.long ((y1867 * y1867) * y1867)), none, none, none, none, none, none, none, none]) (rest := []) (rv := none) (h' := (HX c1879 T)) rfl (Ef_putFraction_0 n y1870 ((y1867 * y1867) * y1867) w _ hq T) ?_
        show ai_ev D1 mf_storm 175 [some (.ref 0), some (.int y1863), some (.int y1864), some (.int y1865), some (.int y1866), some (.long y1867), none, some (.long y1868), none, some (.int y1869), some (.long y1870), none, some (.int y1871)] [] (HX c1879 T) 0 0 _
        refine ev_go 1 (pc' := 176) (L' := [some (.ref 0), some (.int y1863), some (.int y1864), some (.int y1865), some (.int y1866), some (.long y1867), none, some (.long y1868), none, some (.int y1869), some (.long y1870), none, some (.int y1871)]) (st' := [.int 1]) (h' := (HX c1879 T)) (cs' := 0) (sl' := 0) rfl ?_
        obtain ⟨rfl, rfl⟩ := ai_smP h
        exact ev_end rfl
      · refine ev_ic_ge (t := 161) rfl rfl (fun c9 => absurd c9 hc) (fun _ => ?_)
        refine ev_go 4 (pc' := 126) (L' := [some (.ref 0), some (.int y1863), some (.int y1864), some (.int y1865), some (.int y1866), some (.long y1867), none, some (.long y1868), none, some (.int y1869), some (.long y1870), none, some (.int y1871)]) (st' := [.int y1871, .int y1864, .int y1863, .ref 0]) (h' := (HX w T)) (cs' := 0) (sl' := 0) rfl ?_
        obtain ⟨c1880, hq, h⟩ := ai_bdE h
        refine ev_call (M' := mf_letGoNow) (L' := [some (.ref 0), some (.int y1863), some (.int y1864), some (.int y1871)]) (rest := []) (rv := none) (h' := (HX c1880 T)) rfl (Ef_letGoNow_0 n y1863 y1864 y1871 w _ hq T) ?_
        show ai_ev D1 mf_storm 129 [some (.ref 0), some (.int y1863), some (.int y1864), some (.int y1865), some (.int y1866), some (.long y1867), none, some (.long y1868), none, some (.int y1869), some (.long y1870), none, some (.int y1871)] [] (HX c1880 T) 0 0 _
        refine ev_go 4 (pc' := 138) (L' := [some (.ref 0), some (.int y1863), some (.int y1864), some (.int y1865), some (.int y1866), some (.long y1867), none, some (.long y1868), none, some (.int y1869), some (.long y1870), none, some (.int y1871)]) (st' := [.int y1869, .int (a_fall_layer c1880)]) (h' := (HX c1880 T)) (cs' := 0) (sl' := 0) rfl ?_
        rcases ai_ifE h with ⟨hc, h⟩ | ⟨hc, h⟩
        · refine ev_ic_le (t := 155) rfl rfl (fun _ => ?_) (fun c9 => absurd hc c9)
          refine ev_go 2 (pc' := 114) (L' := [some (.ref 0), some (.int y1863), some (.int y1864), some (.int y1865), some (.int y1866), some (.long y1867), none, some (.long y1868), none, some (.int y1869), some (.long y1870), none, some (.int (y1871 + 1))]) (st' := []) (h' := (HX c1880 T)) (cs' := 0) (sl' := 0) rfl ?_
          exact ih1 _ _ _ _ _ _ _ _ _ _ _ _ h T
        · refine ev_ic_le (t := 155) rfl rfl (fun c9 => absurd c9 hc) (fun _ => ?_)
          refine ev_go 4 (pc' := 149) (L' := [some (.ref 0), some (.int y1863), some (.int y1864), some (.int y1865), some (.int y1866), some (.long y1867), none, some (.long y1868), none, some (.int y1869), some (.long y1870), none, some (.int y1871)]) (st' := [.long y1868, .long y1867, .int y1871, .long y1870]) (h' := (HX c1880 T)) (cs' := 0) (sl' := 0) rfl ?_
          obtain ⟨c1889, hq, h⟩ := ai_bdE h
          refine ev_call (M' := mf_chanceOf) (L' := [some (.int y1871), some (.long y1867), none, some (.long y1868), none, none, none, none]) (rest := [.long y1870]) (rv := some (.long c1889)) (h' := (HX c1880 T)) rfl (Ef_chanceOf n y1871 y1867 y1868 _ hq (HX c1880 T)) ?_
          show ai_ev D1 mf_storm 152 [some (.ref 0), some (.int y1863), some (.int y1864), some (.int y1865), some (.int y1866), some (.long y1867), none, some (.long y1868), none, some (.int y1869), some (.long y1870), none, some (.int y1871)] [.long c1889, .long y1870] (HX c1880 T) 0 0 _
          refine ev_go 4 (pc' := 114) (L' := [some (.ref 0), some (.int y1863), some (.int y1864), some (.int y1865), some (.int y1866), some (.long y1867), none, some (.long y1868), none, some (.int y1869), some (.long (y1870 + c1889)), none, some (.int (y1871 + 1))]) (st' := []) (h' := (HX c1880 T)) (cs' := 0) (sl' := 0) rfl ?_
          exact ih1 _ _ _ _ _ _ _ _ _ _ _ _ h T
set_option maxHeartbeats 40000000 in
set_option maxRecDepth 100000 in
theorem Ef_storm_0 (n : Nat) (x1843 : Int32) (x1844 : Int32) (x1845 : Int32) (x1846 : Int32) (w : WX) (r : Int32) (w' : WX) (h : Ff_storm_0 n x1843 x1844 x1845 x1846 w = some (r, w')) (T : ai_H) : ai_ev D1 mf_storm 0 [some (.ref 0), some (.int x1843), some (.int x1844), some (.int x1845), some (.int x1846), none, none, none, none, none, none, none, none] [] (HX w T) 0 0 (some (.int r), HX w' T) := by
  unfold Ff_storm_0 at h
  obtain ⟨ih0, ih1⟩ := EGf_storm_0 n
  refine ev_go 4 (pc' := 8) (L' := [some (.ref 0), some (.int x1843), some (.int x1844), some (.int x1845), some (.int x1846), none, none, none, none, none, none, none, none]) (st' := [.int x1843, .ref 7]) (h' := (HX w T)) (cs' := 0) (sl' := 0) rfl ?_
  obtain ⟨c1847, hq, h⟩ := ai_bdE h
  refine ev_call (M' := mthg_has) (L' := [some (.ref 7), some (.int x1843)]) (rest := []) (rv := some (.int c1847.1)) (h' := (HX c1847.2 T)) rfl (Ethg_has_7 x1843 w _ _ hq T) ?_
  show ai_ev D1 mf_storm 11 [some (.ref 0), some (.int x1843), some (.int x1844), some (.int x1845), some (.int x1846), none, none, none, none, none, none, none, none] [.int c1847.1] (HX c1847.2 T) 0 0 _
  rcases ai_ifE h with ⟨hc, h⟩ | ⟨hc, h⟩
  · refine ev_if_eq (t := 45) rfl rfl (fun _ => ?_) (fun c9 => absurd hc c9)
    refine ev_go 2 (pc' := 48) (L' := [some (.ref 0), some (.int x1843), some (.int x1844), some (.int x1845), some (.int x1846), none, none, none, none, none, none, none, none]) (st' := [.int (-2), .ref 0]) (h' := (HX c1847.2 T)) (cs' := 0) (sl' := 0) rfl ?_
    obtain ⟨c1848, hq, h⟩ := ai_bdE h
    refine ev_call (M' := mf_bad) (L' := [some (.ref 0), some (.int (-2))]) (rest := []) (rv := some (.int c1848.1)) (h' := (HX c1848.2 T)) rfl (Ef_bad_0 (-2) c1847.2 _ _ hq T) ?_
    show ai_ev D1 mf_storm 51 [some (.ref 0), some (.int x1843), some (.int x1844), some (.int x1845), some (.int x1846), none, none, none, none, none, none, none, none] [.int c1848.1] (HX c1848.2 T) 0 0 _
    obtain ⟨rfl, rfl⟩ := ai_smP h
    exact ev_end rfl
  · refine ev_if_eq (t := 45) rfl rfl (fun c9 => absurd c9 hc) (fun _ => ?_)
    refine ev_go 3 (pc' := 19) (L' := [some (.ref 0), some (.int x1843), some (.int x1844), some (.int x1845), some (.int x1846), none, none, none, none, none, none, none, none]) (st' := [.int x1844, .ref 1]) (h' := (HX c1847.2 T)) (cs' := 0) (sl' := 0) rfl ?_
    obtain ⟨c1849, hq, h⟩ := ai_bdE h
    refine ev_call (M' := msea_hasCell) (L' := [some (.ref 1), some (.int x1844)]) (rest := []) (rv := some (.int c1849.1)) (h' := (HX c1849.2 T)) rfl (Esea_hasCell_1 x1844 c1847.2 _ _ hq T) ?_
    show ai_ev D1 mf_storm 22 [some (.ref 0), some (.int x1843), some (.int x1844), some (.int x1845), some (.int x1846), none, none, none, none, none, none, none, none] [.int c1849.1] (HX c1849.2 T) 0 0 _
    rcases ai_ifE h with ⟨hc, h⟩ | ⟨hc, h⟩
    · refine ev_if_eq (t := 45) rfl rfl (fun _ => ?_) (fun c9 => absurd hc c9)
      refine ev_go 2 (pc' := 48) (L' := [some (.ref 0), some (.int x1843), some (.int x1844), some (.int x1845), some (.int x1846), none, none, none, none, none, none, none, none]) (st' := [.int (-2), .ref 0]) (h' := (HX c1849.2 T)) (cs' := 0) (sl' := 0) rfl ?_
      obtain ⟨c1850, hq, h⟩ := ai_bdE h
      refine ev_call (M' := mf_bad) (L' := [some (.ref 0), some (.int (-2))]) (rest := []) (rv := some (.int c1850.1)) (h' := (HX c1850.2 T)) rfl (Ef_bad_0 (-2) c1849.2 _ _ hq T) ?_
      show ai_ev D1 mf_storm 51 [some (.ref 0), some (.int x1843), some (.int x1844), some (.int x1845), some (.int x1846), none, none, none, none, none, none, none, none] [.int c1850.1] (HX c1850.2 T) 0 0 _
      obtain ⟨rfl, rfl⟩ := ai_smP h
      exact ev_end rfl
    · refine ev_if_eq (t := 45) rfl rfl (fun c9 => absurd c9 hc) (fun _ => ?_)
      refine ev_go 3 (pc' := 28) (L' := [some (.ref 0), some (.int x1843), some (.int x1844), some (.int x1845), some (.int x1846), none, none, none, none, none, none, none, none]) (st' := [.int 5, .int 0, .int x1845]) (h' := (HX c1849.2 T)) (cs' := 0) (sl' := 0) rfl ?_
      obtain ⟨c1851, hq, h⟩ := ai_bdE h
      refine ev_call (M' := mf_within) (L' := [some (.int x1845), some (.int 0), some (.int 5)]) (rest := []) (rv := some (.int c1851)) (h' := (HX c1849.2 T)) rfl (Ef_within x1845 0 5 _ hq (HX c1849.2 T)) ?_
      show ai_ev D1 mf_storm 31 [some (.ref 0), some (.int x1843), some (.int x1844), some (.int x1845), some (.int x1846), none, none, none, none, none, none, none, none] [.int c1851] (HX c1849.2 T) 0 0 _
      rcases ai_ifE h with ⟨hc, h⟩ | ⟨hc, h⟩
      · refine ev_if_eq (t := 45) rfl rfl (fun _ => ?_) (fun c9 => absurd hc c9)
        refine ev_go 2 (pc' := 48) (L' := [some (.ref 0), some (.int x1843), some (.int x1844), some (.int x1845), some (.int x1846), none, none, none, none, none, none, none, none]) (st' := [.int (-2), .ref 0]) (h' := (HX c1849.2 T)) (cs' := 0) (sl' := 0) rfl ?_
        obtain ⟨c1852, hq, h⟩ := ai_bdE h
        refine ev_call (M' := mf_bad) (L' := [some (.ref 0), some (.int (-2))]) (rest := []) (rv := some (.int c1852.1)) (h' := (HX c1852.2 T)) rfl (Ef_bad_0 (-2) c1849.2 _ _ hq T) ?_
        show ai_ev D1 mf_storm 51 [some (.ref 0), some (.int x1843), some (.int x1844), some (.int x1845), some (.int x1846), none, none, none, none, none, none, none, none] [.int c1852.1] (HX c1852.2 T) 0 0 _
        obtain ⟨rfl, rfl⟩ := ai_smP h
        exact ev_end rfl
      · refine ev_if_eq (t := 45) rfl rfl (fun c9 => absurd c9 hc) (fun _ => ?_)
        refine ev_go 3 (pc' := 39) (L' := [some (.ref 0), some (.int x1843), some (.int x1844), some (.int x1845), some (.int x1846), none, none, none, none, none, none, none, none]) (st' := [.int 10, .int 0, .int x1846]) (h' := (HX c1849.2 T)) (cs' := 0) (sl' := 0) rfl ?_
        obtain ⟨c1853, hq, h⟩ := ai_bdE h
        refine ev_call (M' := mf_within) (L' := [some (.int x1846), some (.int 0), some (.int 10)]) (rest := []) (rv := some (.int c1853)) (h' := (HX c1849.2 T)) rfl (Ef_within x1846 0 10 _ hq (HX c1849.2 T)) ?_
        show ai_ev D1 mf_storm 42 [some (.ref 0), some (.int x1843), some (.int x1844), some (.int x1845), some (.int x1846), none, none, none, none, none, none, none, none] [.int c1853] (HX c1849.2 T) 0 0 _
        rcases ai_ifE h with ⟨hc, h⟩ | ⟨hc, h⟩
        · refine ev_if_ne (t := 52) rfl rfl (fun c9 => absurd hc c9) (fun _ => ?_)
          refine ev_go 2 (pc' := 48) (L' := [some (.ref 0), some (.int x1843), some (.int x1844), some (.int x1845), some (.int x1846), none, none, none, none, none, none, none, none]) (st' := [.int (-2), .ref 0]) (h' := (HX c1849.2 T)) (cs' := 0) (sl' := 0) rfl ?_
          obtain ⟨c1854, hq, h⟩ := ai_bdE h
          refine ev_call (M' := mf_bad) (L' := [some (.ref 0), some (.int (-2))]) (rest := []) (rv := some (.int c1854.1)) (h' := (HX c1854.2 T)) rfl (Ef_bad_0 (-2) c1849.2 _ _ hq T) ?_
          show ai_ev D1 mf_storm 51 [some (.ref 0), some (.int x1843), some (.int x1844), some (.int x1845), some (.int x1846), none, none, none, none, none, none, none, none] [.int c1854.1] (HX c1854.2 T) 0 0 _
          obtain ⟨rfl, rfl⟩ := ai_smP h
          exact ev_end rfl
        · refine ev_if_ne (t := 52) rfl rfl (fun _ => ?_) (fun c9 => absurd c9 hc)
          refine ev_go 6 (pc' := 61) (L' := [some (.ref 0), some (.int x1843), some (.int x1844), some (.int x1845), some (.int x1846), some (.long 1), none, some (.long 1), none, some (.int 0), none, none, none]) (st' := []) (h' := (HX c1849.2 T)) (cs' := 0) (sl' := 0) rfl ?_
          exact ih0 _ _ _ _ _ _ _ _ _ _ h T _ _ _
