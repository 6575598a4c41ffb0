set_option maxHeartbeats 40000000 in
set_option maxRecDepth 100000 in
theorem EGf_known_0 : ∀ n : Nat, (∀ (y1824 : Int32) (y1825 : Int32) (y1826 : Int32) (y1827 : Int32) (w : WX) (r : Int32) (w' : WX), Gf_known_0 n 0 y1824 y1825 y1826 y1827 w = some (r, w') → ∀ (T : ai_H), ai_ev D1 mf_known 31 [some (.ref 0), some (.int y1824), some (.int y1825), some (.int y1826), some (.int y1827)] [] (HX w T) 0 0 (some (.int r), HX w' T)) := by
  intro n
  induction n with
  | zero =>
    exact (fun _ _ _ _ _ _ _ h => by cases h)
  | succ n ih0 =>
    intro y1824 y1825 y1826 y1827 w r w' h T
    simp only [Gf_known_0] at h
    refine ev_go 2 (pc' := 35) (L' := [some (.ref 0), some (.int y1824), some (.int y1825), some (.int y1826), some (.int y1827)]) (st' := [.int 99, .int y1827]) (h' := (HX w T)) (cs' := 0) (sl' := 0) rfl ?_
    rcases ai_ifE h with ⟨hc, h⟩ | ⟨hc, h⟩
    · refine ev_ic_gt (t := 60) rfl rfl (fun _ => ?_) (fun c9 => absurd hc c9)
      refine ev_go 1 (pc' := 61) (L' := [some (.ref 0), some (.int y1824), some (.int y1825), some (.int y1826), some (.int y1827)]) (st' := [.int y1825]) (h' := (HX w T)) (cs' := 0) (sl' := 0) rfl ?_
      rcases ai_ifE h with ⟨hc, h⟩ | ⟨hc, h⟩
      · refine ev_if_ne (t := 66) rfl rfl (fun c9 => absurd hc c9) (fun _ => ?_)
        refine ev_go 1 (pc' := 65) (L' := [some (.ref 0), some (.int y1824), some (.int y1825), some (.int y1826), some (.int y1827)]) (st' := [.int y1826]) (h' := (HX w T)) (cs' := 0) (sl' := 0) rfl ?_
        obtain ⟨rfl, rfl⟩ := ai_smP h
        exact ev_end rfl
      · refine ev_if_ne (t := 66) rfl rfl (fun _ => ?_) (fun c9 => absurd c9 hc)
        refine ev_go 1 (pc' := 67) (L' := [some (.ref 0), some (.int y1824), some (.int y1825), some (.int y1826), some (.int y1827)]) (st' := [.int y1826]) (h' := (HX w T)) (cs' := 0) (sl' := 0) rfl ?_
        rcases ai_ifE h with ⟨hc, h⟩ | ⟨hc, h⟩
        · refine ev_if_ne (t := 74) rfl rfl (fun c9 => absurd hc c9) (fun _ => ?_)
          refine ev_go 2 (pc' := 80) (L' := [some (.ref 0), some (.int y1824), some (.int y1825), some (.int y1826), some (.int y1827)]) (st' := [.int (-1)]) (h' := (HX w T)) (cs' := 0) (sl' := 0) rfl ?_
          obtain ⟨rfl, rfl⟩ := ai_smP h
          exact ev_end rfl
        · refine ev_if_ne (t := 74) rfl rfl (fun _ => ?_) (fun c9 => absurd c9 hc)
          refine ev_go 3 (pc' := 77) (L' := [some (.ref 0), some (.int y1824), some (.int y1825), some (.int y1826), some (.int y1827)]) (st' := [.int y1826, .int y1824, .ref 0]) (h' := (HX w T)) (cs' := 0) (sl' := 0) rfl ?_
          obtain ⟨c1853, hq, h⟩ := ai_bdE h
          refine ev_call (M' := mf_nextToTry) (L' := [some (.ref 0), some (.int y1824), some (.int y1826), none, none, none, none, none]) (rest := []) (rv := some (.int c1853.1)) (h' := (HX c1853.2 T)) rfl (Ef_nextToTry_0 n y1824 y1826 w _ _ hq T) ?_
          show ai_ev D1 mf_known 80 [some (.ref 0), some (.int y1824), some (.int y1825), some (.int y1826), some (.int y1827)] [.int c1853.1] (HX c1853.2 T) 0 0 _
          obtain ⟨rfl, rfl⟩ := ai_smP h
          exact ev_end rfl
    · refine ev_ic_gt (t := 60) rfl rfl (fun c9 => absurd c9 hc) (fun _ => ?_)
      refine ev_go 4 (pc' := 45) (L' := [some (.ref 0), some (.int y1824), some (.int y1825), some (.int y1826), some (.int y1827)]) (st' := [.int y1827, .int y1824, .ref 1]) (h' := (HX w T)) (cs' := 0) (sl' := 0) rfl ?_
      obtain ⟨c1854, hq, h⟩ := ai_bdE h
      refine ev_call (M' := msea_fitsDrops) (L' := [some (.ref 1), some (.int y1824), some (.int y1827), none, none]) (rest := []) (rv := some (.int c1854.1)) (h' := (HX c1854.2 T)) rfl (Esea_fitsDrops_1 n y1824 y1827 w _ _ hq T) ?_
      show ai_ev D1 mf_known 48 [some (.ref 0), some (.int y1824), some (.int y1825), some (.int y1826), some (.int y1827)] [.int c1854.1] (HX c1854.2 T) 0 0 _
      rcases ai_ifE h with ⟨hc, h⟩ | ⟨hc, h⟩
      · refine ev_if_eq (t := 54) rfl rfl (fun _ => ?_) (fun c9 => absurd hc c9)
        refine ev_go 2 (pc' := 31) (L' := [some (.ref 0), some (.int y1824), some (.int y1825), some (.int y1826), some (.int (y1827 + 1))]) (st' := []) (h' := (HX c1854.2 T)) (cs' := 0) (sl' := 0) rfl ?_
        exact ih0 _ _ _ _ _ _ _ h T
      · refine ev_if_eq (t := 54) rfl rfl (fun c9 => absurd c9 hc) (fun _ => ?_)
        refine ev_go 3 (pc' := 31) (L' := [some (.ref 0), some (.int y1824), some (.int y1825), some (.int (y1826 + 1)), some (.int (y1827 + 1))]) (st' := []) (h' := (HX c1854.2 T)) (cs' := 0) (sl' := 0) rfl ?_
        exact ih0 _ _ _ _ _ _ _ h T
set_option maxHeartbeats 40000000 in
set_option maxRecDepth 100000 in
theorem Ef_known_0 (n : Nat) (x1818 : Int32) (x1819 : Int32) (w : WX) (r : Int32) (w' : WX) (h : Ff_known_0 n x1818 x1819 w = some (r, w')) (T : ai_H) : ai_ev D1 mf_known 0 [some (.ref 0), some (.int x1818), some (.int x1819), none, none] [] (HX w T) 0 0 (some (.int r), HX w' T) := by
  unfold Ff_known_0 at h
  have ih0 := EGf_known_0 n
  refine ev_go 3 (pc' := 4) (L' := [some (.ref 0), some (.int x1818), some (.int x1819), none, none]) (st' := [.int 9, .int 1, .int x1818]) (h' := (HX w T)) (cs' := 0) (sl' := 0) rfl ?_
  obtain ⟨c1820, hq, h⟩ := ai_bdE h
  refine ev_call (M' := mf_within) (L' := [some (.int x1818), some (.int 1), some (.int 9)]) (rest := []) (rv := some (.int c1820)) (h' := (HX w T)) rfl (Ef_within x1818 1 9 _ hq (HX w T)) ?_
  show ai_ev D1 mf_known 7 [some (.ref 0), some (.int x1818), some (.int x1819), none, none] [.int c1820] (HX w T) 0 0 _
  rcases ai_ifE h with ⟨hc, h⟩ | ⟨hc, h⟩
  · refine ev_if_eq (t := 19) rfl rfl (fun _ => ?_) (fun c9 => absurd hc c9)
    refine ev_go 2 (pc' := 22) (L' := [some (.ref 0), some (.int x1818), some (.int x1819), none, none]) (st' := [.int (-10), .ref 0]) (h' := (HX w T)) (cs' := 0) (sl' := 0) rfl ?_
    obtain ⟨c1821, hq, h⟩ := ai_bdE h
    refine ev_call (M' := mf_bad) (L' := [some (.ref 0), some (.int (-10))]) (rest := []) (rv := some (.int c1821.1)) (h' := (HX c1821.2 T)) rfl (Ef_bad_0 (-10) w _ _ hq T) ?_
    show ai_ev D1 mf_known 25 [some (.ref 0), some (.int x1818), some (.int x1819), none, none] [.int c1821.1] (HX c1821.2 T) 0 0 _
    obtain ⟨rfl, rfl⟩ := ai_smP h
    exact ev_end rfl
  · refine ev_if_eq (t := 19) rfl rfl (fun c9 => absurd c9 hc) (fun _ => ?_)
    refine ev_go 3 (pc' := 13) (L' := [some (.ref 0), some (.int x1818), some (.int x1819), none, none]) (st' := [.int 1, .int 0, .int x1819]) (h' := (HX w T)) (cs' := 0) (sl' := 0) rfl ?_
    obtain ⟨c1822, hq, h⟩ := ai_bdE h
    refine ev_call (M' := mf_within) (L' := [some (.int x1819), some (.int 0), some (.int 1)]) (rest := []) (rv := some (.int c1822)) (h' := (HX w T)) rfl (Ef_within x1819 0 1 _ hq (HX w T)) ?_
    show ai_ev D1 mf_known 16 [some (.ref 0), some (.int x1818), some (.int x1819), none, none] [.int c1822] (HX w T) 0 0 _
    rcases ai_ifE h with ⟨hc, h⟩ | ⟨hc, h⟩
    · refine ev_if_ne (t := 26) rfl rfl (fun c9 => absurd hc c9) (fun _ => ?_)
      refine ev_go 2 (pc' := 22) (L' := [some (.ref 0), some (.int x1818), some (.int x1819), none, none]) (st' := [.int (-10), .ref 0]) (h' := (HX w T)) (cs' := 0) (sl' := 0) rfl ?_
      obtain ⟨c1823, hq, h⟩ := ai_bdE h
      refine ev_call (M' := mf_bad) (L' := [some (.ref 0), some (.int (-10))]) (rest := []) (rv := some (.int c1823.1)) (h' := (HX c1823.2 T)) rfl (Ef_bad_0 (-10) w _ _ hq T) ?_
      show ai_ev D1 mf_known 25 [some (.ref 0), some (.int x1818), some (.int x1819), none, none] [.int c1823.1] (HX c1823.2 T) 0 0 _
      obtain ⟨rfl, rfl⟩ := ai_smP h
      exact ev_end rfl
    · refine ev_if_ne (t := 26) rfl rfl (fun _ => ?_) (fun c9 => absurd c9 hc)
      refine ev_go 4 (pc' := 31) (L' := [some (.ref 0), some (.int x1818), some (.int x1819), some (.int 0), some (.int 1)]) (st' := []) (h' := (HX w T)) (cs' := 0) (sl' := 0) rfl ?_
      exact ih0 _ _ _ _ _ _ _ h T
set_option maxHeartbeats 40000000 in
set_option maxRecDepth 100000 in
theorem EGf_putFraction_0 : ∀ n : Nat, (∀ (y1886 : Int64) (y1887 : Int64) (y1888 : Int64) (y1889 : Int64) (y1890 : Int32) (w : WX) (w' : WX), Gf_putFraction_0 n 0 y1890 y1886 y1887 y1888 y1889 w = some w' → ∀ (T : ai_H) (o10 o11 : Option Value), ai_ev D1 mf_putFraction 9 [some (.ref 0), some (.long y1886), none, some (.long y1887), none, some (.long y1888), none, some (.long y1889), none, some (.int y1890), o10, o11] [] (HX w T) 0 0 (none, HX w' T)) := by
  intro n
  induction n with
  | zero =>
    exact (fun _ _ _ _ _ _ _ h => by cases h)
  | succ n ih0 =>
    intro y1886 y1887 y1888 y1889 y1890 w w' h T o10 o11
    simp only [Gf_putFraction_0] at h
    refine ev_go 2 (pc' := 14) (L' := [some (.ref 0), some (.long y1886), none, some (.long y1887), none, some (.long y1888), none, some (.long y1889), none, some (.int y1890), o10, o11]) (st' := [.int 1000, .int y1890]) (h' := (HX w T)) (cs' := 0) (sl' := 0) rfl ?_
    rcases ai_ifE h with ⟨hc, h⟩ | ⟨hc, h⟩
    · refine ev_ic_ge (t := 45) rfl rfl (fun _ => ?_) (fun c9 => absurd hc c9)
      refine ev_go 3 (pc' := 49) (L' := [some (.ref 0), some (.long y1886), none, some (.long y1887), none, some (.long y1888), none, some (.long y1889), none, some (.int y1890), o10, o11]) (st' := [.int (lg_cmp y1888 0)]) (h' := (HX w T)) (cs' := 0) (sl' := 0) rfl ?_
      rcases ai_ifE h with ⟨hc, h⟩ | ⟨hc, h⟩
      · refine ev_if_ne (t := 56) rfl rfl (fun c9 => absurd hc c9) (fun _ => ?_)
        refine ev_go 7 (pc' := 65) (L' := [some (.ref 0), some (.long y1886), none, some (.long y1887), none, some (.long y1888), none, some (.long y1889), none, some (.long 1), none, o11]) (st' := [.long (y1886 / 1), .ref 0]) (h' := (HX w T)) (cs' := 0) (sl' := 0) rfl ?_
        refine ev_step rfl rfl rfl (PFX_7_61_0 rfl) ?_
        refine ev_go 4 (pc' := 73) (L' := [some (.ref 0), some (.long y1886), none, some (.long y1887), none, some (.long y1888), none, some (.long y1889), none, some (.long 1), none, o11]) (st' := [.long (y1887 / 1), .ref 0]) (h' := (HX (u_f_above w (y1886 / 1)) T)) (cs' := 0) (sl' := 0) rfl ?_
        refine ev_step rfl rfl rfl (PFX_7_65_0 rfl) ?_
        obtain rfl := Option.some.inj h
        exact ev_end rfl
      · refine ev_if_ne (t := 56) rfl rfl (fun _ => ?_) (fun c9 => absurd c9 hc)
        refine ev_go 5 (pc' := 64) (L' := [some (.ref 0), some (.long y1886), none, some (.long y1887), none, some (.long y1888), none, some (.long y1889), none, some (.long y1888), none, o11]) (st' := [.long y1888, .long y1886, .ref 0]) (h' := (HX w T)) (cs' := 0) (sl' := 0) rfl ?_
        obtain ⟨hc, h⟩ := ai_ifN h
        refine ev_ldiv rfl hc ?_
        refine ev_step rfl rfl rfl (PFX_7_61_0 rfl) ?_
        refine ev_go 3 (pc' := 72) (L' := [some (.ref 0), some (.long y1886), none, some (.long y1887), none, some (.long y1888), none, some (.long y1889), none, some (.long y1888), none, o11]) (st' := [.long y1888, .long y1887, .ref 0]) (h' := (HX (u_f_above w (y1886 / y1888)) T)) (cs' := 0) (sl' := 0) rfl ?_
        obtain ⟨hc, h⟩ := ai_ifN h
        refine ev_ldiv rfl hc ?_
        refine ev_step rfl rfl rfl (PFX_7_65_0 rfl) ?_
        obtain rfl := Option.some.inj h
        exact ev_end rfl
    · refine ev_ic_ge (t := 45) rfl rfl (fun c9 => absurd c9 hc) (fun _ => ?_)
      refine ev_go 3 (pc' := 21) (L' := [some (.ref 0), some (.long y1886), none, some (.long y1887), none, some (.long y1888), none, some (.long y1889), none, some (.int y1890), o10, o11]) (st' := [.int (lg_cmp y1889 0)]) (h' := (HX w T)) (cs' := 0) (sl' := 0) rfl ?_
      rcases ai_ifE h with ⟨hc, h⟩ | ⟨hc, h⟩
      · refine ev_if_eq (t := 45) rfl rfl (fun _ => ?_) (fun c9 => absurd hc c9)
        refine ev_go 3 (pc' := 49) (L' := [some (.ref 0), some (.long y1886), none, some (.long y1887), none, some (.long y1888), none, some (.long y1889), none, some (.int y1890), o10, o11]) (st' := [.int (lg_cmp y1888 0)]) (h' := (HX w T)) (cs' := 0) (sl' := 0) rfl ?_
        rcases ai_ifE h with ⟨hc, h⟩ | ⟨hc, h⟩
        · refine ev_if_ne (t := 56) rfl rfl (fun c9 => absurd hc c9) (fun _ => ?_)
          refine ev_go 7 (pc' := 65) (L' := [some (.ref 0), some (.long y1886), none, some (.long y1887), none, some (.long y1888), none, some (.long y1889), none, some (.long 1), none, o11]) (st' := [.long (y1886 / 1), .ref 0]) (h' := (HX w T)) (cs' := 0) (sl' := 0) rfl ?_
          refine ev_step rfl rfl rfl (PFX_7_61_0 rfl) ?_
          refine ev_go 4 (pc' := 73) (L' := [some (.ref 0), some (.long y1886), none, some (.long y1887), none, some (.long y1888), none, some (.long y1889), none, some (.long 1), none, o11]) (st' := [.long (y1887 / 1), .ref 0]) (h' := (HX (u_f_above w (y1886 / 1)) T)) (cs' := 0) (sl' := 0) rfl ?_
          refine ev_step rfl rfl rfl (PFX_7_65_0 rfl) ?_
          obtain rfl := Option.some.inj h
          exact ev_end rfl
        · refine ev_if_ne (t := 56) rfl rfl (fun _ => ?_) (fun c9 => absurd c9 hc)
          refine ev_go 5 (pc' := 64) (L' := [some (.ref 0), some (.long y1886), none, some (.long y1887), none, some (.long y1888), none, some (.long y1889), none, some (.long y1888), none, o11]) (st' := [.long y1888, .long y1886, .ref 0]) (h' := (HX w T)) (cs' := 0) (sl' := 0) rfl ?_
          obtain ⟨hc, h⟩ := ai_ifN h
          refine ev_ldiv rfl hc ?_
          refine ev_step rfl rfl rfl (PFX_7_61_0 rfl) ?_
          refine ev_go 3 (pc' := 72) (L' := [some (.ref 0), some (.long y1886), none, some (.long y1887), none, some (.long y1888), none, some (.long y1889), none, some (.long y1888), none, o11]) (st' := [.long y1888, .long y1887, .ref 0]) (h' := (HX (u_f_above w (y1886 / y1888)) T)) (cs' := 0) (sl' := 0) rfl ?_
          obtain ⟨hc, h⟩ := ai_ifN h
          refine ev_ldiv rfl hc ?_
          refine ev_step rfl rfl rfl (PFX_7_65_0 rfl) ?_
          obtain rfl := Option.some.inj h
          exact ev_end rfl
      · refine ev_if_eq (t := 45) rfl rfl (fun c9 => absurd c9 hc) (fun _ => ?_)
        refine ev_go 2 (pc' := 28) (L' := [some (.ref 0), some (.long y1886), none, some (.long y1887), none, some (.long y1888), none, some (.long y1889), none, some (.int y1890), o10, o11]) (st' := [.long y1889, .long y1888]) (h' := (HX w T)) (cs' := 0) (sl' := 0) rfl ?_
        obtain ⟨hc, h⟩ := ai_ifN h
        refine ev_lrem rfl hc ?_
        refine ev_go 7 (pc' := 9) (L' := [some (.ref 0), some (.long y1886), none, some (.long y1887), none, some (.long y1889), none, some (.long (y1888 - y1888 / y1889 * y1889)), none, some (.int (y1890 + 1)), some (.long (y1888 - y1888 / y1889 * y1889)), none]) (st' := []) (h' := (HX w T)) (cs' := 0) (sl' := 0) rfl ?_
        exact ih0 _ _ _ _ _ _ _ h T _ _
set_option maxHeartbeats 40000000 in
set_option maxRecDepth 100000 in
theorem Ef_putFraction_0 (n : Nat) (x1884 : Int64) (x1885 : Int64) (w : WX) (w' : WX) (h : Ff_putFraction_0 n x1884 x1885 w = some w') (T : ai_H) : ai_ev D1 mf_putFraction 0 [some (.ref 0), some (.long x1884), none, some (.long x1885), none, none, none, none, none, none, none, none] [] (HX w T) 0 0 (none, HX w' T) := by
  unfold Ff_putFraction_0 at h
  have ih0 := EGf_putFraction_0 n
  refine ev_go 6 (pc' := 9) (L' := [some (.ref 0), some (.long x1884), none, some (.long x1885), none, some (.long x1885), none, some (.long x1884), none, some (.int 0), none, none]) (st' := []) (h' := (HX w T)) (cs' := 0) (sl' := 0) rfl ?_
  exact ih0 _ _ _ _ _ _ _ h T _ _
set_option maxHeartbeats 40000000 in
set_option maxRecDepth 100000 in
theorem EGf_chanceOf : ∀ n : Nat, (∀ (y1896 : Int32) (y1897 : Int64) (y1898 : Int64) (y1899 : Int64) (y1900 : Int32) (r : Int64), Gf_chanceOf n 0 y1896 y1900 y1897 y1898 y1899 = some r → ∀ (hh : ai_H), ai_ev D1 mf_chanceOf 6 [some (.int y1896), some (.long y1897), none, some (.long y1898), none, some (.long y1899), none, some (.int y1900)] [] hh 0 0 (some (.long r), hh)) := by
  intro n
  induction n with
  | zero =>
    exact (fun _ _ _ _ _ _ h => by cases h)
  | succ n ih0 =>
    intro y1896 y1897 y1898 y1899 y1900 r h hh
    simp only [Gf_chanceOf] at h
    refine ev_go 2 (pc' := 9) (L' := [some (.int y1896), some (.long y1897), none, some (.long y1898), none, some (.long y1899), none, some (.int y1900)]) (st' := [.int 3, .int y1900]) (h' := hh) (cs' := 0) (sl' := 0) rfl ?_
    rcases ai_ifE h with ⟨hc, h⟩ | ⟨hc, h⟩
    · refine ev_ic_ge (t := 40) rfl rfl (fun _ => ?_) (fun c9 => absurd hc c9)
      refine ev_go 1 (pc' := 42) (L' := [some (.int y1896), some (.long y1897), none, some (.long y1898), none, some (.long y1899), none, some (.int y1900)]) (st' := [.long y1899]) (h' := hh) (cs' := 0) (sl' := 0) rfl ?_
      obtain rfl := Option.some.inj h
      exact ev_end rfl
    · refine ev_ic_ge (t := 40) rfl rfl (fun c9 => absurd c9 hc) (fun _ => ?_)
      refine ev_go 7 (pc' := 21) (L' := [some (.int y1896), some (.long y1897), none, some (.long y1898), none, some (.long y1899), none, some (.int y1900)]) (st' := [.int 1, .int ((y1896 >>> (y1900 &&& 31)) &&& 1), .long y1899]) (h' := hh) (cs' := 0) (sl' := 0) rfl ?_
      rcases ai_ifE h with ⟨hc, h⟩ | ⟨hc, h⟩
      · refine ev_ic_ne (t := 30) rfl rfl (fun c9 => absurd hc c9) (fun _ => ?_)
        refine ev_go 8 (pc' := 6) (L' := [some (.int y1896), some (.long y1897), none, some (.long y1898), none, some (.long (y1899 * (y1897 - y1898))), none, some (.int (y1900 + 1))]) (st' := []) (h' := hh) (cs' := 0) (sl' := 0) rfl ?_
        exact ih0 _ _ _ _ _ _ h hh
      · refine ev_ic_ne (t := 30) rfl rfl (fun _ => ?_) (fun c9 => absurd c9 hc)
        refine ev_go 5 (pc' := 6) (L' := [some (.int y1896), some (.long y1897), none, some (.long y1898), none, some (.long (y1899 * y1898)), none, some (.int (y1900 + 1))]) (st' := []) (h' := hh) (cs' := 0) (sl' := 0) rfl ?_
        exact ih0 _ _ _ _ _ _ h hh
set_option maxHeartbeats 40000000 in
set_option maxRecDepth 100000 in
theorem Ef_chanceOf (n : Nat) (x1893 : Int32) (x1894 : Int64) (x1895 : Int64) (r : Int64) (h : Ff_chanceOf n x1893 x1894 x1895 = some r) (hh : ai_H) : ai_ev D1 mf_chanceOf 0 [some (.int x1893), some (.long x1894), none, some (.long x1895), none, none, none, none] [] hh 0 0 (some (.long r), hh) := by
  unfold Ff_chanceOf at h
  have ih0 := EGf_chanceOf n
  refine ev_go 4 (pc' := 6) (L' := [some (.int x1893), some (.long x1894), none, some (.long x1895), none, some (.long 1), none, some (.int 0)]) (st' := []) (h' := hh) (cs' := 0) (sl' := 0) rfl ?_
  exact ih0 _ _ _ _ _ _ h hh
set_option maxHeartbeats 40000000 in
set_option maxRecDepth 100000 in
theorem EGf_storm_0 : ∀ n : Nat, (∀ (y1867 : Int32) (y1868 : Int32) (y1869 : Int32) (y1870 : Int32) (y1871 : Int64) (y1872 : Int64) (y1873 : Int32) (w : WX) (r : Int32) (w' : WX), Gf_storm_0 n 0 y1867 y1868 y1869 y1870 y1873 0 y1871 y1872 0 w = some (r, w') → ∀ (T : ai_H) (o10 o11 o12 : Option Value), ai_ev D1 mf_storm 61 [some (.ref 0), some (.int y1867), some (.int y1868), some (.int y1869), some (.int y1870), some (.long y1871), none, some (.long y1872), none, some (.int y1873), o10, o11, o12] [] (HX w T) 0 0 (some (.int r), HX w' T)) ∧ (∀ (y1875 : Int32) (y1876 : Int32) (y1877 : Int32) (y1878 : Int32) (y1879 : Int64) (y1880 : Int64) (y1881 : Int32) (y1882 : Int64) (y1883 : Int32) (w : WX) (r : Int32) (w' : WX), Gf_storm_0 n 1 y1875 y1876 y1877 y1878 y1881 y1883 y1879 y1880 y1882 w = some (r, w') → ∀ (T : ai_H), ai_ev D1 mf_storm 114 [some (.ref 0), some (.int y1875), some (.int y1876), some (.int y1877), some (.int y1878), some (.long y1879), none, some (.long y1880), none, some (.int y1881), some (.long y1882), none, some (.int y1883)] [] (HX w T) 0 0 (some (.int r), HX w' T)) := by
  intro n
  induction n with
  | zero =>
    exact ⟨(fun _ _ _ _ _ _ _ _ _ _ h => by cases h), (fun _ _ _ _ _ _ _ _ _ _ _ _ h => by cases h)⟩
  | succ n ih =>
    obtain ⟨ih0, ih1⟩ := ih
    refine ⟨?_, ?_⟩
    · intro y1867 y1868 y1869 y1870 y1871 y1872 y1873 w r w' h T o10 o11 o12
      simp only [Gf_storm_0] at h
      refine ev_go 2 (pc' := 64) (L' := [some (.ref 0), some (.int y1867), some (.int y1868), some (.int y1869), some (.int y1870), some (.long y1871), none, some (.long y1872), none, some (.int y1873), o10, o11, o12]) (st' := [.int y1869, .int y1873]) (h' := (HX w T)) (cs' := 0) (sl' := 0) rfl ?_
      rcases ai_ifE h with ⟨hc, h⟩ | ⟨hc, h⟩
      · refine ev_ic_ge (t := 92) rfl rfl (fun _ => ?_) (fun c9 => absurd hc c9)
        refine ev_go 4 (pc' := 96) (L' := [some (.ref 0), some (.int y1867), some (.int y1868), some (.int y1869), some (.int y1870), some (.long y1871), none, some (.long y1872), none, some (.int y1873), o10, o11, o12]) (st' := [.int 0, .int y1868, .int y1867, .ref 0]) (h' := (HX w T)) (cs' := 0) (sl' := 0) rfl ?_
        obtain ⟨c1874, hq, h⟩ := ai_bdE h
        refine ev_call (M' := mf_letGoNow) (L' := [some (.ref 0), some (.int y1867), some (.int y1868), some (.int 0)]) (rest := []) (rv := none) (h' := (HX c1874 T)) rfl (Ef_letGoNow_0 n y1867 y1868 0 w _ hq T) ?_
        show ai_ev D1 mf_storm 99 [some (.ref 0), some (.int y1867), some (.int y1868), some (.int y1869), some (.int y1870), some (.long y1871), none, some (.long y1872), none, some (.int y1873), o10, o11, o12] [] (HX c1874 T) 0 0 _
        refine ev_go 8 (pc' := 114) (L' := [some (.ref 0), some (.int y1867), some (.int y1868), some (.int y1869), some (.int y1870), some (.long y1871), none, some (.long y1872), none, some (.int (a_fall_layer c1874)), some (.long 0), none, some (.int 0)]) (st' := []) (h' := (HX c1874 T)) (cs' := 0) (sl' := 0) rfl ?_
        exact ih1 _ _ _ _ _ _ _ _ _ _ _ _ h T
      · refine ev_ic_ge (t := 92) rfl rfl (fun c9 => absurd c9 hc) (fun _ => ?_)
        refine ev_go 13 (pc' := 61) (L' := [some (.ref 0), some (.int y1867), some (.int y1868), some (.int y1869), some (.int y1870), some (.long (y1871 * 10)), none, some (.long (y1872 * ((10 - y1870)).toInt64)), none, some (.int (y1873 + 1)), o10, o11, o12]) (st' := []) (h' := (HX w T)) (cs' := 0) (sl' := 0) rfl ?_
        exact ih0 _ _ _ _ _ _ _ _ _ _ h T _ _ _
    · intro y1875 y1876 y1877 y1878 y1879 y1880 y1881 y1882 y1883 w r w' h T
      simp only [Gf_storm_0] at h
      refine ev_go 2 (pc' := 118) (L' := [some (.ref 0), some (.int y1875), some (.int y1876), some (.int y1877), some (.int y1878), some (.long y1879), none, some (.long y1880), none, some (.int y1881), some (.long y1882), none, some (.int y1883)]) (st' := [.int 8, .int y1883]) (h' := (HX w T)) (cs' := 0) (sl' := 0) rfl ?_
      rcases ai_ifE h with ⟨hc, h⟩ | ⟨hc, h⟩
      · refine ev_ic_ge (t := 161) rfl rfl (fun _ => ?_) (fun c9 => absurd hc c9)
        refine ev_go 7 (pc' := 172) (L' := [some (.ref 0), some (.int y1875), some (.int y1876), some (.int y1877), some (.int y1878), some (.long y1879), none, some (.long y1880), none, some (.int y1881), some (.long y1882), none, some (.int y1883)]) (st' := [.long ((y1879 * y1879) * y1879), .long y1882, .ref 0]) (h' := (HX w T)) (cs' := 0) (sl' := 0) rfl ?_
        obtain ⟨c1891, hq, h⟩ := ai_bdE h
        refine ev_call (M' := mf_putFraction) (L' := [some (.ref 0), some (.long y1882), none, some (.long ((y1879 * y1879) * y1879)), none, none, none, none, none, none, none, none]) (rest := []) (rv := none) (h' := (HX c1891 T)) rfl (Ef_putFraction_0 n y1882 ((y1879 * y1879) * y1879) w _ hq T) ?_
        show ai_ev D1 mf_storm 175 [some (.ref 0), some (.int y1875), some (.int y1876), some (.int y1877), some (.int y1878), some (.long y1879), none, some (.long y1880), none, some (.int y1881), some (.long y1882), none, some (.int y1883)] [] (HX c1891 T) 0 0 _
        refine ev_go 1 (pc' := 176) (L' := [some (.ref 0), some (.int y1875), some (.int y1876), some (.int y1877), some (.int y1878), some (.long y1879), none, some (.long y1880), none, some (.int y1881), some (.long y1882), none, some (.int y1883)]) (st' := [.int 1]) (h' := (HX c1891 T)) (cs' := 0) (sl' := 0) rfl ?_
        obtain ⟨rfl, rfl⟩ := ai_smP h
        exact ev_end rfl
      · refine ev_ic_ge (t := 161) rfl rfl (fun c9 => absurd c9 hc) (fun _ => ?_)
        refine ev_go 4 (pc' := 126) (L' := [some (.ref 0), some (.int y1875), some (.int y1876), some (.int y1877), some (.int y1878), some (.long y1879), none, some (.long y1880), none, some (.int y1881), some (.long y1882), none, some (.int y1883)]) (st' := [.int y1883, .int y1876, .int y1875, .ref 0]) (h' := (HX w T)) (cs' := 0) (sl' := 0) rfl ?_
        obtain ⟨c1892, hq, h⟩ := ai_bdE h
        refine ev_call (M' := mf_letGoNow) (L' := [some (.ref 0), some (.int y1875), some (.int y1876), some (.int y1883)]) (rest := []) (rv := none) (h' := (HX c1892 T)) rfl (Ef_letGoNow_0 n y1875 y1876 y1883 w _ hq T) ?_
        show ai_ev D1 mf_storm 129 [some (.ref 0), some (.int y1875), some (.int y1876), some (.int y1877), some (.int y1878), some (.long y1879), none, some (.long y1880), none, some (.int y1881), some (.long y1882), none, some (.int y1883)] [] (HX c1892 T) 0 0 _
        refine ev_go 4 (pc' := 138) (L' := [some (.ref 0), some (.int y1875), some (.int y1876), some (.int y1877), some (.int y1878), some (.long y1879), none, some (.long y1880), none, some (.int y1881), some (.long y1882), none, some (.int y1883)]) (st' := [.int y1881, .int (a_fall_layer c1892)]) (h' := (HX c1892 T)) (cs' := 0) (sl' := 0) rfl ?_
        rcases ai_ifE h with ⟨hc, h⟩ | ⟨hc, h⟩
        · refine ev_ic_le (t := 155) rfl rfl (fun _ => ?_) (fun c9 => absurd hc c9)
          refine ev_go 2 (pc' := 114) (L' := [some (.ref 0), some (.int y1875), some (.int y1876), some (.int y1877), some (.int y1878), some (.long y1879), none, some (.long y1880), none, some (.int y1881), some (.long y1882), none, some (.int (y1883 + 1))]) (st' := []) (h' := (HX c1892 T)) (cs' := 0) (sl' := 0) rfl ?_
          exact ih1 _ _ _ _ _ _ _ _ _ _ _ _ h T
        · refine ev_ic_le (t := 155) rfl rfl (fun c9 => absurd c9 hc) (fun _ => ?_)
          refine ev_go 4 (pc' := 149) (L' := [some (.ref 0), some (.int y1875), some (.int y1876), some (.int y1877), some (.int y1878), some (.long y1879), none, some (.long y1880), none, some (.int y1881), some (.long y1882), none, some (.int y1883)]) (st' := [.long y1880, .long y1879, .int y1883, .long y1882]) (h' := (HX c1892 T)) (cs' := 0) (sl' := 0) rfl ?_
          obtain ⟨c1901, hq, h⟩ := ai_bdE h
          refine ev_call (M' := mf_chanceOf) (L' := [some (.int y1883), some (.long y1879), none, some (.long y1880), none, none, none, none]) (rest := [.long y1882]) (rv := some (.long c1901)) (h' := (HX c1892 T)) rfl (Ef_chanceOf n y1883 y1879 y1880 _ hq (HX c1892 T)) ?_
          show ai_ev D1 mf_storm 152 [some (.ref 0), some (.int y1875), some (.int y1876), some (.int y1877), some (.int y1878), some (.long y1879), none, some (.long y1880), none, some (.int y1881), some (.long y1882), none, some (.int y1883)] [.long c1901, .long y1882] (HX c1892 T) 0 0 _
          refine ev_go 4 (pc' := 114) (L' := [some (.ref 0), some (.int y1875), some (.int y1876), some (.int y1877), some (.int y1878), some (.long y1879), none, some (.long y1880), none, some (.int y1881), some (.long (y1882 + c1901)), none, some (.int (y1883 + 1))]) (st' := []) (h' := (HX c1892 T)) (cs' := 0) (sl' := 0) rfl ?_
          exact ih1 _ _ _ _ _ _ _ _ _ _ _ _ h T
set_option maxHeartbeats 40000000 in
set_option maxRecDepth 100000 in
theorem Ef_storm_0 (n : Nat) (x1855 : Int32) (x1856 : Int32) (x1857 : Int32) (x1858 : Int32) (w : WX) (r : Int32) (w' : WX) (h : Ff_storm_0 n x1855 x1856 x1857 x1858 w = some (r, w')) (T : ai_H) : ai_ev D1 mf_storm 0 [some (.ref 0), some (.int x1855), some (.int x1856), some (.int x1857), some (.int x1858), none, none, none, none, none, none, none, none] [] (HX w T) 0 0 (some (.int r), HX w' T) := by
  unfold Ff_storm_0 at h
  obtain ⟨ih0, ih1⟩ := EGf_storm_0 n
  refine ev_go 4 (pc' := 8) (L' := [some (.ref 0), some (.int x1855), some (.int x1856), some (.int x1857), some (.int x1858), none, none, none, none, none, none, none, none]) (st' := [.int x1855, .ref 7]) (h' := (HX w T)) (cs' := 0) (sl' := 0) rfl ?_
  obtain ⟨c1859, hq, h⟩ := ai_bdE h
  refine ev_call (M' := mthg_has) (L' := [some (.ref 7), some (.int x1855)]) (rest := []) (rv := some (.int c1859.1)) (h' := (HX c1859.2 T)) rfl (Ethg_has_7 x1855 w _ _ hq T) ?_
  show ai_ev D1 mf_storm 11 [some (.ref 0), some (.int x1855), some (.int x1856), some (.int x1857), some (.int x1858), none, none, none, none, none, none, none, none] [.int c1859.1] (HX c1859.2 T) 0 0 _
  rcases ai_ifE h with ⟨hc, h⟩ | ⟨hc, h⟩
  · refine ev_if_eq (t := 45) rfl rfl (fun _ => ?_) (fun c9 => absurd hc c9)
    refine ev_go 2 (pc' := 48) (L' := [some (.ref 0), some (.int x1855), some (.int x1856), some (.int x1857), some (.int x1858), none, none, none, none, none, none, none, none]) (st' := [.int (-2), .ref 0]) (h' := (HX c1859.2 T)) (cs' := 0) (sl' := 0) rfl ?_
    obtain ⟨c1860, hq, h⟩ := ai_bdE h
    refine ev_call (M' := mf_bad) (L' := [some (.ref 0), some (.int (-2))]) (rest := []) (rv := some (.int c1860.1)) (h' := (HX c1860.2 T)) rfl (Ef_bad_0 (-2) c1859.2 _ _ hq T) ?_
    show ai_ev D1 mf_storm 51 [some (.ref 0), some (.int x1855), some (.int x1856), some (.int x1857), some (.int x1858), none, none, none, none, none, none, none, none] [.int c1860.1] (HX c1860.2 T) 0 0 _
    obtain ⟨rfl, rfl⟩ := ai_smP h
    exact ev_end rfl
  · refine ev_if_eq (t := 45) rfl rfl (fun c9 => absurd c9 hc) (fun _ => ?_)
    refine ev_go 3 (pc' := 19) (L' := [some (.ref 0), some (.int x1855), some (.int x1856), some (.int x1857), some (.int x1858), none, none, none, none, none, none, none, none]) (st' := [.int x1856, .ref 1]) (h' := (HX c1859.2 T)) (cs' := 0) (sl' := 0) rfl ?_
    obtain ⟨c1861, hq, h⟩ := ai_bdE h
    refine ev_call (M' := msea_hasCell) (L' := [some (.ref 1), some (.int x1856)]) (rest := []) (rv := some (.int c1861.1)) (h' := (HX c1861.2 T)) rfl (Esea_hasCell_1 x1856 c1859.2 _ _ hq T) ?_
    show ai_ev D1 mf_storm 22 [some (.ref 0), some (.int x1855), some (.int x1856), some (.int x1857), some (.int x1858), none, none, none, none, none, none, none, none] [.int c1861.1] (HX c1861.2 T) 0 0 _
    rcases ai_ifE h with ⟨hc, h⟩ | ⟨hc, h⟩
    · refine ev_if_eq (t := 45) rfl rfl (fun _ => ?_) (fun c9 => absurd hc c9)
      refine ev_go 2 (pc' := 48) (L' := [some (.ref 0), some (.int x1855), some (.int x1856), some (.int x1857), some (.int x1858), none, none, none, none, none, none, none, none]) (st' := [.int (-2), .ref 0]) (h' := (HX c1861.2 T)) (cs' := 0) (sl' := 0) rfl ?_
      obtain ⟨c1862, hq, h⟩ := ai_bdE h
      refine ev_call (M' := mf_bad) (L' := [some (.ref 0), some (.int (-2))]) (rest := []) (rv := some (.int c1862.1)) (h' := (HX c1862.2 T)) rfl (Ef_bad_0 (-2) c1861.2 _ _ hq T) ?_
      show ai_ev D1 mf_storm 51 [some (.ref 0), some (.int x1855), some (.int x1856), some (.int x1857), some (.int x1858), none, none, none, none, none, none, none, none] [.int c1862.1] (HX c1862.2 T) 0 0 _
      obtain ⟨rfl, rfl⟩ := ai_smP h
      exact ev_end rfl
    · refine ev_if_eq (t := 45) rfl rfl (fun c9 => absurd c9 hc) (fun _ => ?_)
      refine ev_go 3 (pc' := 28) (L' := [some (.ref 0), some (.int x1855), some (.int x1856), some (.int x1857), some (.int x1858), none, none, none, none, none, none, none, none]) (st' := [.int 5, .int 0, .int x1857]) (h' := (HX c1861.2 T)) (cs' := 0) (sl' := 0) rfl ?_
      obtain ⟨c1863, hq, h⟩ := ai_bdE h
      refine ev_call (M' := mf_within) (L' := [some (.int x1857), some (.int 0), some (.int 5)]) (rest := []) (rv := some (.int c1863)) (h' := (HX c1861.2 T)) rfl (Ef_within x1857 0 5 _ hq (HX c1861.2 T)) ?_
      show ai_ev D1 mf_storm 31 [some (.ref 0), some (.int x1855), some (.int x1856), some (.int x1857), some (.int x1858), none, none, none, none, none, none, none, none] [.int c1863] (HX c1861.2 T) 0 0 _
      rcases ai_ifE h with ⟨hc, h⟩ | ⟨hc, h⟩
      · refine ev_if_eq (t := 45) rfl rfl (fun _ => ?_) (fun c9 => absurd hc c9)
        refine ev_go 2 (pc' := 48) (L' := [some (.ref 0), some (.int x1855), some (.int x1856), some (.int x1857), some (.int x1858), none, none, none, none, none, none, none, none]) (st' := [.int (-2), .ref 0]) (h' := (HX c1861.2 T)) (cs' := 0) (sl' := 0) rfl ?_
        obtain ⟨c1864, hq, h⟩ := ai_bdE h
        refine ev_call (M' := mf_bad) (L' := [some (.ref 0), some (.int (-2))]) (rest := []) (rv := some (.int c1864.1)) (h' := (HX c1864.2 T)) rfl (Ef_bad_0 (-2) c1861.2 _ _ hq T) ?_
        show ai_ev D1 mf_storm 51 [some (.ref 0), some (.int x1855), some (.int x1856), some (.int x1857), some (.int x1858), none, none, none, none, none, none, none, none] [.int c1864.1] (HX c1864.2 T) 0 0 _
        obtain ⟨rfl, rfl⟩ := ai_smP h
        exact ev_end rfl
      · refine ev_if_eq (t := 45) rfl rfl (fun c9 => absurd c9 hc) (fun _ => ?_)
        refine ev_go 3 (pc' := 39) (L' := [some (.ref 0), some (.int x1855), some (.int x1856), some (.int x1857), some (.int x1858), none, none, none, none, none, none, none, none]) (st' := [.int 10, .int 0, .int x1858]) (h' := (HX c1861.2 T)) (cs' := 0) (sl' := 0) rfl ?_
        obtain ⟨c1865, hq, h⟩ := ai_bdE h
        refine ev_call (M' := mf_within) (L' := [some (.int x1858), some (.int 0), some (.int 10)]) (rest := []) (rv := some (.int c1865)) (h' := (HX c1861.2 T)) rfl (Ef_within x1858 0 10 _ hq (HX c1861.2 T)) ?_
        show ai_ev D1 mf_storm 42 [some (.ref 0), some (.int x1855), some (.int x1856), some (.int x1857), some (.int x1858), none, none, none, none, none, none, none, none] [.int c1865] (HX c1861.2 T) 0 0 _
        rcases ai_ifE h with ⟨hc, h⟩ | ⟨hc, h⟩
        · refine ev_if_ne (t := 52) rfl rfl (fun c9 => absurd hc c9) (fun _ => ?_)
          refine ev_go 2 (pc' := 48) (L' := [some (.ref 0), some (.int x1855), some (.int x1856), some (.int x1857), some (.int x1858), none, none, none, none, none, none, none, none]) (st' := [.int (-2), .ref 0]) (h' := (HX c1861.2 T)) (cs' := 0) (sl' := 0) rfl ?_
          obtain ⟨c1866, hq, h⟩ := ai_bdE h
          refine ev_call (M' := mf_bad) (L' := [some (.ref 0), some (.int (-2))]) (rest := []) (rv := some (.int c1866.1)) (h' := (HX c1866.2 T)) rfl (Ef_bad_0 (-2) c1861.2 _ _ hq T) ?_
          show ai_ev D1 mf_storm 51 [some (.ref 0), some (.int x1855), some (.int x1856), some (.int x1857), some (.int x1858), none, none, none, none, none, none, none, none] [.int c1866.1] (HX c1866.2 T) 0 0 _
          obtain ⟨rfl, rfl⟩ := ai_smP h
          exact ev_end rfl
        · refine ev_if_ne (t := 52) rfl rfl (fun _ => ?_) (fun c9 => absurd c9 hc)
          refine ev_go 6 (pc' := 61) (L' := [some (.ref 0), some (.int x1855), some (.int x1856), some (.int x1857), some (.int x1858), some (.long 1), none, some (.long 1), none, some (.int 0), none, none, none]) (st' := []) (h' := (HX c1861.2 T)) (cs' := 0) (sl' := 0) rfl ?_
          exact ih0 _ _ _ _ _ _ _ _ _ _ h T _ _ _
set_option maxHeartbeats 40000000 in
set_option maxRecDepth 100000 in
theorem Ef_part_0 (x1902 : Int32) (w : WX) (r : Int64) (w' : WX) (h : Ff_part_0 x1902 w = some (r, w')) (T : ai_H) : ai_ev D1 mf_part 0 [some (.ref 0), some (.int x1902)] [] (HX w T) 0 0 (some (.long r), HX w' T) := by
  unfold Ff_part_0 at h
  refine ev_go 3 (pc' := 3) (L' := [some (.ref 0), some (.int x1902)]) (st' := [.int 1, .int 0, .int x1902]) (h' := (HX w T)) (cs' := 0) (sl' := 0) rfl ?_
  obtain ⟨c1903, hq, h⟩ := ai_bdE h
  refine ev_call (M' := mf_within) (L' := [some (.int x1902), some (.int 0), some (.int 1)]) (rest := []) (rv := some (.int c1903)) (h' := (HX w T)) rfl (Ef_within x1902 0 1 _ hq (HX w T)) ?_
  show ai_ev D1 mf_part 6 [some (.ref 0), some (.int x1902)] [.int c1903] (HX w T) 0 0 _
  rcases ai_ifE h with ⟨hc, h⟩ | ⟨hc, h⟩
  · refine ev_if_ne (t := 17) rfl rfl (fun c9 => absurd hc c9) (fun _ => ?_)
    refine ev_go 2 (pc' := 12) (L' := [some (.ref 0), some (.int x1902)]) (st' := [.int (-2), .ref 0]) (h' := (HX w T)) (cs' := 0) (sl' := 0) rfl ?_
    obtain ⟨c1904, hq, h⟩ := ai_bdE h
    refine ev_call (M' := mf_bad) (L' := [some (.ref 0), some (.int (-2))]) (rest := []) (rv := some (.int c1904.1)) (h' := (HX c1904.2 T)) rfl (Ef_bad_0 (-2) w _ _ hq T) ?_
    show ai_ev D1 mf_part 15 [some (.ref 0), some (.int x1902)] [.int c1904.1] (HX c1904.2 T) 0 0 _
    refine ev_go 1 (pc' := 16) (L' := [some (.ref 0), some (.int x1902)]) (st' := [.long (c1904.1).toInt64]) (h' := (HX c1904.2 T)) (cs' := 0) (sl' := 0) rfl ?_
    obtain ⟨rfl, rfl⟩ := ai_smP h
    exact ev_end rfl
  · refine ev_if_ne (t := 17) rfl rfl (fun _ => ?_) (fun c9 => absurd c9 hc)
    refine ev_go 1 (pc' := 18) (L' := [some (.ref 0), some (.int x1902)]) (st' := [.int x1902]) (h' := (HX w T)) (cs' := 0) (sl' := 0) rfl ?_
    rcases ai_ifE h with ⟨hc, h⟩ | ⟨hc, h⟩
    · refine ev_if_ne (t := 28) rfl rfl (fun c9 => absurd hc c9) (fun _ => ?_)
      refine ev_go 3 (pc' := 32) (L' := [some (.ref 0), some (.int x1902)]) (st' := [.long (a_f_above w)]) (h' := (HX w T)) (cs' := 0) (sl' := 0) rfl ?_
      obtain ⟨rfl, rfl⟩ := ai_smP h
      exact ev_end rfl
    · refine ev_if_ne (t := 28) rfl rfl (fun _ => ?_) (fun c9 => absurd c9 hc)
      refine ev_go 2 (pc' := 32) (L' := [some (.ref 0), some (.int x1902)]) (st' := [.long (a_f_below w)]) (h' := (HX w T)) (cs' := 0) (sl' := 0) rfl ?_
      obtain ⟨rfl, rfl⟩ := ai_smP h
      exact ev_end rfl
set_option maxHeartbeats 40000000 in
set_option maxRecDepth 100000 in
theorem Ethg_copyFrom_45_7 (w : WX) (w' : WX) (h : Fthg_copyFrom_45_7 w = some w') (T : ai_H) : ai_ev D1 mthg_copyFrom 0 [some (.ref 45), some (.ref 7)] [] (HX w T) 0 0 (none, HX w' T) := by
  unfold Fthg_copyFrom_45_7 at h
  refine ev_go 3 (pc' := 5) (L' := [some (.ref 45), some (.ref 7)]) (st' := [.int (a_s1things_count w), .ref 45]) (h' := (HX w T)) (cs' := 0) (sl' := 0) rfl ?_
  refine ev_step rfl rfl rfl (PFX_5_9_45 rfl) ?_
  refine ev_go 7 (pc' := 20) (L' := [some (.ref 45), some (.ref 7)]) (st' := [.int 6, .int 0, .ref 46, .int 0, .ref 8]) (h' := (HX (u_s3things_count w (a_s1things_count w)) T)) (cs' := 0) (sl' := 0) rfl ?_
  obtain ⟨q1912, hq, h⟩ := ai_bdE h
  refine ev_cpy rfl rfl rfl rfl rfl rfl hq ?_
  rw [HXs_46]
  refine ev_go 7 (pc' := 35) (L' := [some (.ref 45), some (.ref 7)]) (st' := [.int 6, .int 0, .ref 47, .int 0, .ref 9]) (h' := (HX (u_s3things_kinds (u_s3things_count w (a_s1things_count w)) q1912) T)) (cs' := 0) (sl' := 0) rfl ?_
  obtain ⟨q1913, hq, h⟩ := ai_bdE h
  refine ev_cpy rfl rfl rfl rfl rfl rfl hq ?_
  rw [HXs_47]
  refine ev_go 7 (pc' := 50) (L' := [some (.ref 45), some (.ref 7)]) (st' := [.int 6, .int 0, .ref 48, .int 0, .ref 10]) (h' := (HX (u_s3things_weights (u_s3things_kinds (u_s3things_count w (a_s1things_count w)) q1912) q1913) T)) (cs' := 0) (sl' := 0) rfl ?_
  obtain ⟨q1914, hq, h⟩ := ai_bdE h
  refine ev_cpy rfl rfl rfl rfl rfl rfl hq ?_
  rw [HXs_48]
  refine ev_go 7 (pc' := 65) (L' := [some (.ref 45), some (.ref 7)]) (st' := [.int 6, .int 0, .ref 49, .int 0, .ref 11]) (h' := (HX (u_s3things_volumes (u_s3things_weights (u_s3things_kinds (u_s3things_count w (a_s1things_count w)) q1912) q1913) q1914) T)) (cs' := 0) (sl' := 0) rfl ?_
  obtain ⟨q1915, hq, h⟩ := ai_bdE h
  refine ev_cpy rfl rfl rfl rfl rfl rfl hq ?_
  rw [HXs_49]
  obtain rfl := Option.some.inj h
  exact ev_end rfl
set_option maxHeartbeats 40000000 in
set_option maxRecDepth 100000 in
theorem Elift_copyFrom_50_12 (w : WX) (w' : WX) (h : Flift_copyFrom_50_12 w = some w') (T : ai_H) : ai_ev D1 mlift_copyFrom 0 [some (.ref 50), some (.ref 12)] [] (HX w T) 0 0 (none, HX w' T) := by
  unfold Flift_copyFrom_50_12 at h
  refine ev_go 3 (pc' := 5) (L' := [some (.ref 50), some (.ref 12)]) (st' := [.int (a_s1lifts_count w), .ref 50]) (h' := (HX w T)) (cs' := 0) (sl' := 0) rfl ?_
  refine ev_step rfl rfl rfl (PFX_1_9_50 rfl) ?_
  refine ev_go 7 (pc' := 20) (L' := [some (.ref 50), some (.ref 12)]) (st' := [.int 10, .int 0, .ref 51, .int 0, .ref 13]) (h' := (HX (u_s3lifts_count w (a_s1lifts_count w)) T)) (cs' := 0) (sl' := 0) rfl ?_
  obtain ⟨q1917, hq, h⟩ := ai_bdE h
  refine ev_cpy rfl rfl rfl rfl rfl rfl hq ?_
  rw [HXs_51]
  refine ev_go 7 (pc' := 35) (L' := [some (.ref 50), some (.ref 12)]) (st' := [.int 10, .int 0, .ref 52, .int 0, .ref 14]) (h' := (HX (u_s3lifts_froms (u_s3lifts_count w (a_s1lifts_count w)) q1917) T)) (cs' := 0) (sl' := 0) rfl ?_
  obtain ⟨q1918, hq, h⟩ := ai_bdE h
  refine ev_cpy rfl rfl rfl rfl rfl rfl hq ?_
  rw [HXs_52]
  refine ev_go 7 (pc' := 50) (L' := [some (.ref 50), some (.ref 12)]) (st' := [.int 10, .int 0, .ref 53, .int 0, .ref 15]) (h' := (HX (u_s3lifts_tos (u_s3lifts_froms (u_s3lifts_count w (a_s1lifts_count w)) q1917) q1918) T)) (cs' := 0) (sl' := 0) rfl ?_
  obtain ⟨q1919, hq, h⟩ := ai_bdE h
  refine ev_cpy rfl rfl rfl rfl rfl rfl hq ?_
  rw [HXs_53]
  obtain rfl := Option.some.inj h
  exact ev_end rfl
set_option maxHeartbeats 40000000 in
set_option maxRecDepth 100000 in
theorem Esea_copyFrom_39_1 (w : WX) (w' : WX) (h : Fsea_copyFrom_39_1 w = some w') (T : ai_H) : ai_ev D1 msea_copyFrom 0 [some (.ref 39), some (.ref 1)] [] (HX w T) 0 0 (none, HX w' T) := by
  unfold Fsea_copyFrom_39_1 at h
  refine ev_go 3 (pc' := 5) (L' := [some (.ref 39), some (.ref 1)]) (st' := [.int (a_s1_cells w), .ref 39]) (h' := (HX w T)) (cs' := 0) (sl' := 0) rfl ?_
  refine ev_step rfl rfl rfl (PFX_2_9_39 rfl) ?_
  refine ev_go 3 (pc' := 13) (L' := [some (.ref 39), some (.ref 1)]) (st' := [.int (a_s1_hour w), .ref 39]) (h' := (HX (u_s3_cells w (a_s1_cells w)) T)) (cs' := 0) (sl' := 0) rfl ?_
  refine ev_step rfl rfl rfl (PFX_2_15_39 rfl) ?_
  refine ev_go 3 (pc' := 21) (L' := [some (.ref 39), some (.ref 1)]) (st' := [.int (a_s1_dams w), .ref 39]) (h' := (HX (u_s3_hour (u_s3_cells w (a_s1_cells w)) (a_s1_hour w)) T)) (cs' := 0) (sl' := 0) rfl ?_
  refine ev_step rfl rfl rfl (PFX_2_18_39 rfl) ?_
  refine ev_go 7 (pc' := 35) (L' := [some (.ref 39), some (.ref 1)]) (st' := [.int 4, .int 0, .ref 40, .int 0, .ref 2]) (h' := (HX (u_s3_dams (u_s3_hour (u_s3_cells w (a_s1_cells w)) (a_s1_hour w)) (a_s1_dams w)) T)) (cs' := 0) (sl' := 0) rfl ?_
  obtain ⟨q1907, hq, h⟩ := ai_bdE h
  refine ev_cpy rfl rfl rfl rfl rfl rfl hq ?_
  rw [HXs_40]
  refine ev_go 7 (pc' := 49) (L' := [some (.ref 39), some (.ref 1)]) (st' := [.int 4, .int 0, .ref 41, .int 0, .ref 3]) (h' := (HX (u_s3_densities (u_s3_dams (u_s3_hour (u_s3_cells w (a_s1_cells w)) (a_s1_hour w)) (a_s1_dams w)) q1907) T)) (cs' := 0) (sl' := 0) rfl ?_
  obtain ⟨q1908, hq, h⟩ := ai_bdE h
  refine ev_cpy rfl rfl rfl rfl rfl rfl hq ?_
  rw [HXs_41]
  refine ev_go 7 (pc' := 64) (L' := [some (.ref 39), some (.ref 1)]) (st' := [.int 24, .int 0, .ref 42, .int 0, .ref 4]) (h' := (HX (u_s3_currents (u_s3_densities (u_s3_dams (u_s3_hour (u_s3_cells w (a_s1_cells w)) (a_s1_hour w)) (a_s1_dams w)) q1907) q1908) T)) (cs' := 0) (sl' := 0) rfl ?_
  obtain ⟨q1909, hq, h⟩ := ai_bdE h
  refine ev_cpy rfl rfl rfl rfl rfl rfl hq ?_
  rw [HXs_42]
  refine ev_go 7 (pc' := 79) (L' := [some (.ref 39), some (.ref 1)]) (st' := [.int 24, .int 0, .ref 43, .int 0, .ref 5]) (h' := (HX (u_s3_tides (u_s3_currents (u_s3_densities (u_s3_dams (u_s3_hour (u_s3_cells w (a_s1_cells w)) (a_s1_hour w)) (a_s1_dams w)) q1907) q1908) q1909) T)) (cs' := 0) (sl' := 0) rfl ?_
  obtain ⟨q1910, hq, h⟩ := ai_bdE h
  refine ev_cpy rfl rfl rfl rfl rfl rfl hq ?_
  rw [HXs_43]
  refine ev_go 7 (pc' := 93) (L' := [some (.ref 39), some (.ref 1)]) (st' := [.int 3, .int 0, .ref 44, .int 0, .ref 6]) (h' := (HX (u_s3_thicks (u_s3_tides (u_s3_currents (u_s3_densities (u_s3_dams (u_s3_hour (u_s3_cells w (a_s1_cells w)) (a_s1_hour w)) (a_s1_dams w)) q1907) q1908) q1909) q1910) T)) (cs' := 0) (sl' := 0) rfl ?_
  obtain ⟨q1911, hq, h⟩ := ai_bdE h
  refine ev_cpy rfl rfl rfl rfl rfl rfl hq ?_
  rw [HXs_44]
  refine ev_go 4 (pc' := 104) (L' := [some (.ref 39), some (.ref 1)]) (st' := [.ref 7, .ref 45]) (h' := (HX (u_s3_skins (u_s3_thicks (u_s3_tides (u_s3_currents (u_s3_densities (u_s3_dams (u_s3_hour (u_s3_cells w (a_s1_cells w)) (a_s1_hour w)) (a_s1_dams w)) q1907) q1908) q1909) q1910) q1911) T)) (cs' := 0) (sl' := 0) rfl ?_
  obtain ⟨c1916, hq, h⟩ := ai_bdE h
  refine ev_call (M' := mthg_copyFrom) (L' := [some (.ref 45), some (.ref 7)]) (rest := []) (rv := none) (h' := (HX c1916 T)) rfl (Ethg_copyFrom_45_7 (u_s3_skins (u_s3_thicks (u_s3_tides (u_s3_currents (u_s3_densities (u_s3_dams (u_s3_hour (u_s3_cells w (a_s1_cells w)) (a_s1_hour w)) (a_s1_dams w)) q1907) q1908) q1909) q1910) q1911) _ hq T) ?_
  show ai_ev D1 msea_copyFrom 107 [some (.ref 39), some (.ref 1)] [] (HX c1916 T) 0 0 _
  refine ev_go 4 (pc' := 115) (L' := [some (.ref 39), some (.ref 1)]) (st' := [.ref 12, .ref 50]) (h' := (HX c1916 T)) (cs' := 0) (sl' := 0) rfl ?_
  obtain ⟨c1920, hq, h⟩ := ai_bdE h
  refine ev_call (M' := mlift_copyFrom) (L' := [some (.ref 50), some (.ref 12)]) (rest := []) (rv := none) (h' := (HX c1920 T)) rfl (Elift_copyFrom_50_12 c1916 _ hq T) ?_
  show ai_ev D1 msea_copyFrom 118 [some (.ref 39), some (.ref 1)] [] (HX c1920 T) 0 0 _
  refine ev_go 3 (pc' := 123) (L' := [some (.ref 39), some (.ref 1)]) (st' := [.int (a_s1_towns c1920), .ref 39]) (h' := (HX c1920 T)) (cs' := 0) (sl' := 0) rfl ?_
  refine ev_step rfl rfl rfl (PFX_2_51_39 rfl) ?_
  refine ev_go 7 (pc' := 138) (L' := [some (.ref 39), some (.ref 1)]) (st' := [.int 6, .int 0, .ref 54, .int 0, .ref 16]) (h' := (HX (u_s3_towns c1920 (a_s1_towns c1920)) T)) (cs' := 0) (sl' := 0) rfl ?_
  obtain ⟨q1921, hq, h⟩ := ai_bdE h
  refine ev_cpy rfl rfl rfl rfl rfl rfl hq ?_
  rw [HXs_54]
  refine ev_go 3 (pc' := 146) (L' := [some (.ref 39), some (.ref 1)]) (st' := [.int (a_s1_drops c1920), .ref 39]) (h' := (HX (u_s3_townPlaces (u_s3_towns c1920 (a_s1_towns c1920)) q1921) T)) (cs' := 0) (sl' := 0) rfl ?_
  refine ev_step rfl rfl rfl (PFX_2_57_39 rfl) ?_
  refine ev_go 7 (pc' := 161) (L' := [some (.ref 39), some (.ref 1)]) (st' := [.int 6, .int 0, .ref 55, .int 0, .ref 17]) (h' := (HX (u_s3_drops (u_s3_townPlaces (u_s3_towns c1920 (a_s1_towns c1920)) q1921) (a_s1_drops c1920)) T)) (cs' := 0) (sl' := 0) rfl ?_
  obtain ⟨q1922, hq, h⟩ := ai_bdE h
  refine ev_cpy rfl rfl rfl rfl rfl rfl hq ?_
  rw [HXs_55]
  refine ev_go 7 (pc' := 176) (L' := [some (.ref 39), some (.ref 1)]) (st' := [.int 6, .int 0, .ref 56, .int 0, .ref 18]) (h' := (HX (u_s3_dropLayers (u_s3_drops (u_s3_townPlaces (u_s3_towns c1920 (a_s1_towns c1920)) q1921) (a_s1_drops c1920)) q1922) T)) (cs' := 0) (sl' := 0) rfl ?_
  obtain ⟨q1923, hq, h⟩ := ai_bdE h
  refine ev_cpy rfl rfl rfl rfl rfl rfl hq ?_
  rw [HXs_56]
  refine ev_go 3 (pc' := 184) (L' := [some (.ref 39), some (.ref 1)]) (st' := [.int (a_s1_undos c1920), .ref 39]) (h' := (HX (u_s3_dropFloats (u_s3_dropLayers (u_s3_drops (u_s3_townPlaces (u_s3_towns c1920 (a_s1_towns c1920)) q1921) (a_s1_drops c1920)) q1922) q1923) T)) (cs' := 0) (sl' := 0) rfl ?_
  refine ev_step rfl rfl rfl (PFX_2_66_39 rfl) ?_
  refine ev_go 7 (pc' := 199) (L' := [some (.ref 39), some (.ref 1)]) (st' := [.int 10, .int 0, .ref 57, .int 0, .ref 19]) (h' := (HX (u_s3_undos (u_s3_dropFloats (u_s3_dropLayers (u_s3_drops (u_s3_townPlaces (u_s3_towns c1920 (a_s1_towns c1920)) q1921) (a_s1_drops c1920)) q1922) q1923) (a_s1_undos c1920)) T)) (cs' := 0) (sl' := 0) rfl ?_
  obtain ⟨q1924, hq, h⟩ := ai_bdE h
  refine ev_cpy rfl rfl rfl rfl rfl rfl hq ?_
  rw [HXs_57]
  obtain rfl := Option.some.inj h
  exact ev_end rfl
set_option maxHeartbeats 40000000 in
set_option maxRecDepth 100000 in
theorem Ethg_copyFrom_64_7 (w : WX) (w' : WX) (h : Fthg_copyFrom_64_7 w = some w') (T : ai_H) : ai_ev D1 mthg_copyFrom 0 [some (.ref 64), some (.ref 7)] [] (HX w T) 0 0 (none, HX w' T) := by
  unfold Fthg_copyFrom_64_7 at h
  refine ev_go 3 (pc' := 5) (L' := [some (.ref 64), some (.ref 7)]) (st' := [.int (a_s1things_count w), .ref 64]) (h' := (HX w T)) (cs' := 0) (sl' := 0) rfl ?_
  refine ev_step rfl rfl rfl (PFX_5_9_64 rfl) ?_
  refine ev_go 7 (pc' := 20) (L' := [some (.ref 64), some (.ref 7)]) (st' := [.int 6, .int 0, .ref 65, .int 0, .ref 8]) (h' := (HX (u_s4things_count w (a_s1things_count w)) T)) (cs' := 0) (sl' := 0) rfl ?_
  obtain ⟨q1932, hq, h⟩ := ai_bdE h
  refine ev_cpy rfl rfl rfl rfl rfl rfl hq ?_
  rw [HXs_65]
  refine ev_go 7 (pc' := 35) (L' := [some (.ref 64), some (.ref 7)]) (st' := [.int 6, .int 0, .ref 66, .int 0, .ref 9]) (h' := (HX (u_s4things_kinds (u_s4things_count w (a_s1things_count w)) q1932) T)) (cs' := 0) (sl' := 0) rfl ?_
  obtain ⟨q1933, hq, h⟩ := ai_bdE h
  refine ev_cpy rfl rfl rfl rfl rfl rfl hq ?_
  rw [HXs_66]
  refine ev_go 7 (pc' := 50) (L' := [some (.ref 64), some (.ref 7)]) (st' := [.int 6, .int 0, .ref 67, .int 0, .ref 10]) (h' := (HX (u_s4things_weights (u_s4things_kinds (u_s4things_count w (a_s1things_count w)) q1932) q1933) T)) (cs' := 0) (sl' := 0) rfl ?_
  obtain ⟨q1934, hq, h⟩ := ai_bdE h
  refine ev_cpy rfl rfl rfl rfl rfl rfl hq ?_
  rw [HXs_67]
  refine ev_go 7 (pc' := 65) (L' := [some (.ref 64), some (.ref 7)]) (st' := [.int 6, .int 0, .ref 68, .int 0, .ref 11]) (h' := (HX (u_s4things_volumes (u_s4things_weights (u_s4things_kinds (u_s4things_count w (a_s1things_count w)) q1932) q1933) q1934) T)) (cs' := 0) (sl' := 0) rfl ?_
  obtain ⟨q1935, hq, h⟩ := ai_bdE h
  refine ev_cpy rfl rfl rfl rfl rfl rfl hq ?_
  rw [HXs_68]
  obtain rfl := Option.some.inj h
  exact ev_end rfl
set_option maxHeartbeats 40000000 in
set_option maxRecDepth 100000 in
theorem Elift_copyFrom_69_12 (w : WX) (w' : WX) (h : Flift_copyFrom_69_12 w = some w') (T : ai_H) : ai_ev D1 mlift_copyFrom 0 [some (.ref 69), some (.ref 12)] [] (HX w T) 0 0 (none, HX w' T) := by
  unfold Flift_copyFrom_69_12 at h
  refine ev_go 3 (pc' := 5) (L' := [some (.ref 69), some (.ref 12)]) (st' := [.int (a_s1lifts_count w), .ref 69]) (h' := (HX w T)) (cs' := 0) (sl' := 0) rfl ?_
  refine ev_step rfl rfl rfl (PFX_1_9_69 rfl) ?_
  refine ev_go 7 (pc' := 20) (L' := [some (.ref 69), some (.ref 12)]) (st' := [.int 10, .int 0, .ref 70, .int 0, .ref 13]) (h' := (HX (u_s4lifts_count w (a_s1lifts_count w)) T)) (cs' := 0) (sl' := 0) rfl ?_
  obtain ⟨q1937, hq, h⟩ := ai_bdE h
  refine ev_cpy rfl rfl rfl rfl rfl rfl hq ?_
  rw [HXs_70]
  refine ev_go 7 (pc' := 35) (L' := [some (.ref 69), some (.ref 12)]) (st' := [.int 10, .int 0, .ref 71, .int 0, .ref 14]) (h' := (HX (u_s4lifts_froms (u_s4lifts_count w (a_s1lifts_count w)) q1937) T)) (cs' := 0) (sl' := 0) rfl ?_
  obtain ⟨q1938, hq, h⟩ := ai_bdE h
  refine ev_cpy rfl rfl rfl rfl rfl rfl hq ?_
  rw [HXs_71]
  refine ev_go 7 (pc' := 50) (L' := [some (.ref 69), some (.ref 12)]) (st' := [.int 10, .int 0, .ref 72, .int 0, .ref 15]) (h' := (HX (u_s4lifts_tos (u_s4lifts_froms (u_s4lifts_count w (a_s1lifts_count w)) q1937) q1938) T)) (cs' := 0) (sl' := 0) rfl ?_
  obtain ⟨q1939, hq, h⟩ := ai_bdE h
  refine ev_cpy rfl rfl rfl rfl rfl rfl hq ?_
  rw [HXs_72]
  obtain rfl := Option.some.inj h
  exact ev_end rfl
set_option maxHeartbeats 40000000 in
set_option maxRecDepth 100000 in
theorem Esea_copyFrom_58_1 (w : WX) (w' : WX) (h : Fsea_copyFrom_58_1 w = some w') (T : ai_H) : ai_ev D1 msea_copyFrom 0 [some (.ref 58), some (.ref 1)] [] (HX w T) 0 0 (none, HX w' T) := by
  unfold Fsea_copyFrom_58_1 at h
  refine ev_go 3 (pc' := 5) (L' := [some (.ref 58), some (.ref 1)]) (st' := [.int (a_s1_cells w), .ref 58]) (h' := (HX w T)) (cs' := 0) (sl' := 0) rfl ?_
  refine ev_step rfl rfl rfl (PFX_2_9_58 rfl) ?_
  refine ev_go 3 (pc' := 13) (L' := [some (.ref 58), some (.ref 1)]) (st' := [.int (a_s1_hour w), .ref 58]) (h' := (HX (u_s4_cells w (a_s1_cells w)) T)) (cs' := 0) (sl' := 0) rfl ?_
  refine ev_step rfl rfl rfl (PFX_2_15_58 rfl) ?_
  refine ev_go 3 (pc' := 21) (L' := [some (.ref 58), some (.ref 1)]) (st' := [.int (a_s1_dams w), .ref 58]) (h' := (HX (u_s4_hour (u_s4_cells w (a_s1_cells w)) (a_s1_hour w)) T)) (cs' := 0) (sl' := 0) rfl ?_
  refine ev_step rfl rfl rfl (PFX_2_18_58 rfl) ?_
  refine ev_go 7 (pc' := 35) (L' := [some (.ref 58), some (.ref 1)]) (st' := [.int 4, .int 0, .ref 59, .int 0, .ref 2]) (h' := (HX (u_s4_dams (u_s4_hour (u_s4_cells w (a_s1_cells w)) (a_s1_hour w)) (a_s1_dams w)) T)) (cs' := 0) (sl' := 0) rfl ?_
  obtain ⟨q1927, hq, h⟩ := ai_bdE h
  refine ev_cpy rfl rfl rfl rfl rfl rfl hq ?_
  rw [HXs_59]
  refine ev_go 7 (pc' := 49) (L' := [some (.ref 58), some (.ref 1)]) (st' := [.int 4, .int 0, .ref 60, .int 0, .ref 3]) (h' := (HX (u_s4_densities (u_s4_dams (u_s4_hour (u_s4_cells w (a_s1_cells w)) (a_s1_hour w)) (a_s1_dams w)) q1927) T)) (cs' := 0) (sl' := 0) rfl ?_
  obtain ⟨q1928, hq, h⟩ := ai_bdE h
  refine ev_cpy rfl rfl rfl rfl rfl rfl hq ?_
  rw [HXs_60]
  refine ev_go 7 (pc' := 64) (L' := [some (.ref 58), some (.ref 1)]) (st' := [.int 24, .int 0, .ref 61, .int 0, .ref 4]) (h' := (HX (u_s4_currents (u_s4_densities (u_s4_dams (u_s4_hour (u_s4_cells w (a_s1_cells w)) (a_s1_hour w)) (a_s1_dams w)) q1927) q1928) T)) (cs' := 0) (sl' := 0) rfl ?_
  obtain ⟨q1929, hq, h⟩ := ai_bdE h
  refine ev_cpy rfl rfl rfl rfl rfl rfl hq ?_
  rw [HXs_61]
  refine ev_go 7 (pc' := 79) (L' := [some (.ref 58), some (.ref 1)]) (st' := [.int 24, .int 0, .ref 62, .int 0, .ref 5]) (h' := (HX (u_s4_tides (u_s4_currents (u_s4_densities (u_s4_dams (u_s4_hour (u_s4_cells w (a_s1_cells w)) (a_s1_hour w)) (a_s1_dams w)) q1927) q1928) q1929) T)) (cs' := 0) (sl' := 0) rfl ?_
  obtain ⟨q1930, hq, h⟩ := ai_bdE h
  refine ev_cpy rfl rfl rfl rfl rfl rfl hq ?_
  rw [HXs_62]
  refine ev_go 7 (pc' := 93) (L' := [some (.ref 58), some (.ref 1)]) (st' := [.int 3, .int 0, .ref 63, .int 0, .ref 6]) (h' := (HX (u_s4_thicks (u_s4_tides (u_s4_currents (u_s4_densities (u_s4_dams (u_s4_hour (u_s4_cells w (a_s1_cells w)) (a_s1_hour w)) (a_s1_dams w)) q1927) q1928) q1929) q1930) T)) (cs' := 0) (sl' := 0) rfl ?_
  obtain ⟨q1931, hq, h⟩ := ai_bdE h
  refine ev_cpy rfl rfl rfl rfl rfl rfl hq ?_
  rw [HXs_63]
  refine ev_go 4 (pc' := 104) (L' := [some (.ref 58), some (.ref 1)]) (st' := [.ref 7, .ref 64]) (h' := (HX (u_s4_skins (u_s4_thicks (u_s4_tides (u_s4_currents (u_s4_densities (u_s4_dams (u_s4_hour (u_s4_cells w (a_s1_cells w)) (a_s1_hour w)) (a_s1_dams w)) q1927) q1928) q1929) q1930) q1931) T)) (cs' := 0) (sl' := 0) rfl ?_
  obtain ⟨c1936, hq, h⟩ := ai_bdE h
  refine ev_call (M' := mthg_copyFrom) (L' := [some (.ref 64), some (.ref 7)]) (rest := []) (rv := none) (h' := (HX c1936 T)) rfl (Ethg_copyFrom_64_7 (u_s4_skins (u_s4_thicks (u_s4_tides (u_s4_currents (u_s4_densities (u_s4_dams (u_s4_hour (u_s4_cells w (a_s1_cells w)) (a_s1_hour w)) (a_s1_dams w)) q1927) q1928) q1929) q1930) q1931) _ hq T) ?_
  show ai_ev D1 msea_copyFrom 107 [some (.ref 58), some (.ref 1)] [] (HX c1936 T) 0 0 _
  refine ev_go 4 (pc' := 115) (L' := [some (.ref 58), some (.ref 1)]) (st' := [.ref 12, .ref 69]) (h' := (HX c1936 T)) (cs' := 0) (sl' := 0) rfl ?_
  obtain ⟨c1940, hq, h⟩ := ai_bdE h
  refine ev_call (M' := mlift_copyFrom) (L' := [some (.ref 69), some (.ref 12)]) (rest := []) (rv := none) (h' := (HX c1940 T)) rfl (Elift_copyFrom_69_12 c1936 _ hq T) ?_
  show ai_ev D1 msea_copyFrom 118 [some (.ref 58), some (.ref 1)] [] (HX c1940 T) 0 0 _
  refine ev_go 3 (pc' := 123) (L' := [some (.ref 58), some (.ref 1)]) (st' := [.int (a_s1_towns c1940), .ref 58]) (h' := (HX c1940 T)) (cs' := 0) (sl' := 0) rfl ?_
  refine ev_step rfl rfl rfl (PFX_2_51_58 rfl) ?_
  refine ev_go 7 (pc' := 138) (L' := [some (.ref 58), some (.ref 1)]) (st' := [.int 6, .int 0, .ref 73, .int 0, .ref 16]) (h' := (HX (u_s4_towns c1940 (a_s1_towns c1940)) T)) (cs' := 0) (sl' := 0) rfl ?_
  obtain ⟨q1941, hq, h⟩ := ai_bdE h
  refine ev_cpy rfl rfl rfl rfl rfl rfl hq ?_
  rw [HXs_73]
  refine ev_go 3 (pc' := 146) (L' := [some (.ref 58), some (.ref 1)]) (st' := [.int (a_s1_drops c1940), .ref 58]) (h' := (HX (u_s4_townPlaces (u_s4_towns c1940 (a_s1_towns c1940)) q1941) T)) (cs' := 0) (sl' := 0) rfl ?_
  refine ev_step rfl rfl rfl (PFX_2_57_58 rfl) ?_
  refine ev_go 7 (pc' := 161) (L' := [some (.ref 58), some (.ref 1)]) (st' := [.int 6, .int 0, .ref 74, .int 0, .ref 17]) (h' := (HX (u_s4_drops (u_s4_townPlaces (u_s4_towns c1940 (a_s1_towns c1940)) q1941) (a_s1_drops c1940)) T)) (cs' := 0) (sl' := 0) rfl ?_
  obtain ⟨q1942, hq, h⟩ := ai_bdE h
  refine ev_cpy rfl rfl rfl rfl rfl rfl hq ?_
  rw [HXs_74]
  refine ev_go 7 (pc' := 176) (L' := [some (.ref 58), some (.ref 1)]) (st' := [.int 6, .int 0, .ref 75, .int 0, .ref 18]) (h' := (HX (u_s4_dropLayers (u_s4_drops (u_s4_townPlaces (u_s4_towns c1940 (a_s1_towns c1940)) q1941) (a_s1_drops c1940)) q1942) T)) (cs' := 0) (sl' := 0) rfl ?_
  obtain ⟨q1943, hq, h⟩ := ai_bdE h
  refine ev_cpy rfl rfl rfl rfl rfl rfl hq ?_
  rw [HXs_75]
  refine ev_go 3 (pc' := 184) (L' := [some (.ref 58), some (.ref 1)]) (st' := [.int (a_s1_undos c1940), .ref 58]) (h' := (HX (u_s4_dropFloats (u_s4_dropLayers (u_s4_drops (u_s4_townPlaces (u_s4_towns c1940 (a_s1_towns c1940)) q1941) (a_s1_drops c1940)) q1942) q1943) T)) (cs' := 0) (sl' := 0) rfl ?_
  refine ev_step rfl rfl rfl (PFX_2_66_58 rfl) ?_
  refine ev_go 7 (pc' := 199) (L' := [some (.ref 58), some (.ref 1)]) (st' := [.int 10, .int 0, .ref 76, .int 0, .ref 19]) (h' := (HX (u_s4_undos (u_s4_dropFloats (u_s4_dropLayers (u_s4_drops (u_s4_townPlaces (u_s4_towns c1940 (a_s1_towns c1940)) q1941) (a_s1_drops c1940)) q1942) q1943) (a_s1_undos c1940)) T)) (cs' := 0) (sl' := 0) rfl ?_
  obtain ⟨q1944, hq, h⟩ := ai_bdE h
  refine ev_cpy rfl rfl rfl rfl rfl rfl hq ?_
  rw [HXs_76]
  obtain rfl := Option.some.inj h
  exact ev_end rfl
set_option maxHeartbeats 40000000 in
set_option maxRecDepth 100000 in
theorem Ef_image_0 (x1905 : Int32) (w : WX) (r : Int32) (w' : WX) (h : Ff_image_0 x1905 w = some (r, w')) (T : ai_H) : ai_ev D1 mf_image 0 [some (.ref 0), some (.int x1905)] [] (HX w T) 0 0 (some (.int r), HX w' T) := by
  unfold Ff_image_0 at h
  refine ev_go 3 (pc' := 3) (L' := [some (.ref 0), some (.int x1905)]) (st' := [.int 1, .int 0, .int x1905]) (h' := (HX w T)) (cs' := 0) (sl' := 0) rfl ?_
  obtain ⟨c1906, hq, h⟩ := ai_bdE h
  refine ev_call (M' := mf_within) (L' := [some (.int x1905), some (.int 0), some (.int 1)]) (rest := []) (rv := some (.int c1906)) (h' := (HX w T)) rfl (Ef_within x1905 0 1 _ hq (HX w T)) ?_
  show ai_ev D1 mf_image 6 [some (.ref 0), some (.int x1905)] [.int c1906] (HX w T) 0 0 _
  rcases ai_ifE h with ⟨hc, h⟩ | ⟨hc, h⟩
  · refine ev_if_ne (t := 16) rfl rfl (fun c9 => absurd hc c9) (fun _ => ?_)
    refine ev_go 2 (pc' := 12) (L' := [some (.ref 0), some (.int x1905)]) (st' := [.int (-2), .ref 0]) (h' := (HX w T)) (cs' := 0) (sl' := 0) rfl ?_
    obtain ⟨c1947, hq, h⟩ := ai_bdE h
    refine ev_call (M' := mf_bad) (L' := [some (.ref 0), some (.int (-2))]) (rest := []) (rv := some (.int c1947.1)) (h' := (HX c1947.2 T)) rfl (Ef_bad_0 (-2) w _ _ hq T) ?_
    show ai_ev D1 mf_image 15 [some (.ref 0), some (.int x1905)] [.int c1947.1] (HX c1947.2 T) 0 0 _
    obtain ⟨rfl, rfl⟩ := ai_smP h
    exact ev_end rfl
  · refine ev_if_ne (t := 16) rfl rfl (fun _ => ?_) (fun c9 => absurd c9 hc)
    refine ev_go 2 (pc' := 18) (L' := [some (.ref 0), some (.int x1905)]) (st' := [.int x1905, .ref 0]) (h' := (HX w T)) (cs' := 0) (sl' := 0) rfl ?_
    rcases ai_ifE h with ⟨hc, h⟩ | ⟨hc, h⟩
    · refine ev_call (M' := mf_imageAt) (L' := [some (.ref 0), some (.int x1905)]) (rest := []) (rv := some (.ref 39)) (h' := (HX w T)) rfl (Eimg0 hc _ T) ?_
      show ai_ev D1 mf_image 21 [some (.ref 0), some (.int x1905)] [.ref 39] (HX w T) 0 0 _
      refine ev_go 2 (pc' := 25) (L' := [some (.ref 0), some (.int x1905)]) (st' := [.ref 1, .ref 39]) (h' := (HX w T)) (cs' := 0) (sl' := 0) rfl ?_
      obtain ⟨c1925, hq, h⟩ := ai_bdE h
      refine ev_call (M' := msea_copyFrom) (L' := [some (.ref 39), some (.ref 1)]) (rest := []) (rv := none) (h' := (HX c1925 T)) rfl (Esea_copyFrom_39_1 w _ hq T) ?_
      show ai_ev D1 mf_image 28 [some (.ref 0), some (.int x1905)] [] (HX c1925 T) 0 0 _
      refine ev_go 4 (pc' := 34) (L' := [some (.ref 0), some (.int x1905)]) (st' := [.int 1, .int x1905, .ref 77]) (h' := (HX c1925 T)) (cs' := 0) (sl' := 0) rfl ?_
      obtain ⟨q1926, hq, h⟩ := ai_bdE h
      refine ev_zast rfl rfl hq ?_
      rw [HXs_77]
      refine ev_go 1 (pc' := 36) (L' := [some (.ref 0), some (.int x1905)]) (st' := [.int 1]) (h' := (HX (u_f_imageKept c1925 q1926) T)) (cs' := 0) (sl' := 0) rfl ?_
      obtain ⟨rfl, rfl⟩ := ai_smP h
      exact ev_end rfl
    · refine ev_call (M' := mf_imageAt) (L' := [some (.ref 0), some (.int x1905)]) (rest := []) (rv := some (.ref 58)) (h' := (HX w T)) rfl (Eimg1 hc _ T) ?_
      show ai_ev D1 mf_image 21 [some (.ref 0), some (.int x1905)] [.ref 58] (HX w T) 0 0 _
      refine ev_go 2 (pc' := 25) (L' := [some (.ref 0), some (.int x1905)]) (st' := [.ref 1, .ref 58]) (h' := (HX w T)) (cs' := 0) (sl' := 0) rfl ?_
      obtain ⟨c1945, hq, h⟩ := ai_bdE h
      refine ev_call (M' := msea_copyFrom) (L' := [some (.ref 58), some (.ref 1)]) (rest := []) (rv := none) (h' := (HX c1945 T)) rfl (Esea_copyFrom_58_1 w _ hq T) ?_
      show ai_ev D1 mf_image 28 [some (.ref 0), some (.int x1905)] [] (HX c1945 T) 0 0 _
      refine ev_go 4 (pc' := 34) (L' := [some (.ref 0), some (.int x1905)]) (st' := [.int 1, .int x1905, .ref 77]) (h' := (HX c1945 T)) (cs' := 0) (sl' := 0) rfl ?_
      obtain ⟨q1946, hq, h⟩ := ai_bdE h
      refine ev_zast rfl rfl hq ?_
      rw [HXs_77]
      refine ev_go 1 (pc' := 36) (L' := [some (.ref 0), some (.int x1905)]) (st' := [.int 1]) (h' := (HX (u_f_imageKept c1945 q1946) T)) (cs' := 0) (sl' := 0) rfl ?_
      obtain ⟨rfl, rfl⟩ := ai_smP h
      exact ev_end rfl
