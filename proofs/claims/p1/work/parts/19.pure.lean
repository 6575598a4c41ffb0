/-! the law of at most one call -/
set_option maxRecDepth 100000 in
theorem law_begin (xs : List Int32) {q : Option Value × ai_H} (e : ai_ev (D2 xs) mlaw 18 [some (.retAddr 1), some (.ref 0), some (.ref 89), some (.int 0)] [] (HX wx0 (MC wm0)) 98 1755 q) : ai_ev (D2 xs) mlaw 0 [some (.retAddr 1), none, none, none] [] [] 0 0 q := by
  refine ev_go 2 (pc' := 4) (L' := [some (.retAddr 1), none, none, none]) (st' := [.ref 0, .ref 0]) (h' := [.inr (7, ai_df 7)]) (cs' := 1) (sl' := 15) rfl ?_
  refine ev_call (M' := mf_init) (L' := [some (.ref 0)]) (rest := [.ref 0]) (rv := none) (h' := HX wx0 []) rfl (ev_sub (D12 xs) (ev_of fresh_x)) ?_
  show ai_ev (D2 xs) mlaw 7 [some (.retAddr 1), none, none, none] [.ref 0] (HX wx0 []) 89 901 q
  refine ev_go 3 (pc' := 12) (L' := [some (.retAddr 1), some (.ref 0), none, none]) (st' := [.ref 89, .ref 89]) (h' := HX wx0 [.inr (8, ai_df 8)]) (cs' := 90) (sl' := 929) rfl ?_
  refine ev_call (M' := mm_init) (L' := [some (.ref 89)]) (rest := [.ref 89]) (rv := none) (h' := HX wx0 (MC wm0)) rfl (ev_sub (D12 xs) (ev_of fresh_m)) ?_
  show ai_ev (D2 xs) mlaw 15 [some (.retAddr 1), some (.ref 0), none, none] [.ref 89] (HX wx0 (MC wm0)) 98 1755 q
  refine ev_go 3 (pc' := 18) (L' := [some (.retAddr 1), some (.ref 0), some (.ref 89), some (.int 0)]) (st' := []) (h' := HX wx0 (MC wm0)) (cs' := 98) (sl' := 1755) rfl ?_
  exact e
set_option maxRecDepth 100000 in
theorem law_exit (xs : List Int32) (i : Int32) (h : ai_H) (hc : Int32.ofNat xs.length - 6 < i) : ai_ev (D2 xs) mlaw 18 [some (.retAddr 1), some (.ref 0), some (.ref 89), some (.int i)] [] h 98 1755 (some (.int 1), h) := by
  refine ev_go 5 (pc' := 24) (L' := [some (.retAddr 1), some (.ref 0), some (.ref 89), some (.int i)]) (st' := [.int (Int32.ofNat xs.length - 6), .int i]) (h' := h) (cs' := 98) (sl' := 1755) rfl ?_
  refine ev_ic_gt (t := 1585) rfl rfl (fun _ => ?_) (fun c9 => absurd hc c9)
  refine ev_go 1 (pc' := 1586) (L' := [some (.retAddr 1), some (.ref 0), some (.ref 89), some (.int i)]) (st' := [.int 1]) (h' := h) (cs' := 98) (sl' := 1755) rfl ?_
  exact ev_end rfl
set_option maxRecDepth 100000 in
theorem law_sw (xs : List Int32) (i c : Int32) (h : ai_H) {q : Option Value × ai_H} (hc : ¬ Int32.ofNat xs.length - 6 < i) (hx : ai_ix xs i = some c) (e : ai_ev (D2 xs) mlaw 33 [some (.retAddr 1), some (.ref 0), some (.ref 89), some (.int i)] [.int (c &&& 63)] h 98 1755 q) : ai_ev (D2 xs) mlaw 18 [some (.retAddr 1), some (.ref 0), some (.ref 89), some (.int i)] [] h 98 1755 q := by
  refine ev_go 5 (pc' := 24) (L' := [some (.retAddr 1), some (.ref 0), some (.ref 89), some (.int i)]) (st' := [.int (Int32.ofNat xs.length - 6), .int i]) (h' := h) (cs' := 98) (sl' := 1755) rfl ?_
  refine ev_ic_gt (t := 1585) rfl rfl (fun c9 => absurd c9 hc) (fun _ => ?_)
  refine ev_go 2 (pc' := 29) (L' := [some (.retAddr 1), some (.ref 0), some (.ref 89), some (.int i)]) (st' := [.int i, .retAddr 1]) (h' := h) (cs' := 98) (sl' := 1755) rfl ?_
  refine ev_xald rfl rfl hx ?_
  refine ev_go 2 (pc' := 33) (L' := [some (.retAddr 1), some (.ref 0), some (.ref 89), some (.int i)]) (st' := [.int (c &&& 63)]) (h' := h) (cs' := 98) (sl' := 1755) rfl ?_
  exact e
set_option maxRecDepth 100000 in
theorem law_back (xs : List Int32) (i : Int32) (h : ai_H) {q : Option Value × ai_H} (e : ai_ev (D2 xs) mlaw 18 [some (.retAddr 1), some (.ref 0), some (.ref 89), some (.int (i + 6))] [] h 98 1755 q) : ai_ev (D2 xs) mlaw 1579 [some (.retAddr 1), some (.ref 0), some (.ref 89), some (.int i)] [] h 98 1755 q := by
  refine ev_go 2 (pc' := 18) (L' := [some (.retAddr 1), some (.ref 0), some (.ref 89), some (.int (i + 6))]) (st' := []) (h' := h) (cs' := 98) (sl' := 1755) rfl ?_
  exact e
theorem law_fin (c a1 a2 a3 a4 a5 : Int32) (h : ai_H) : ai_ev (D2 [c, a1, a2, a3, a4, a5]) mlaw 1579 [some (.retAddr 1), some (.ref 0), some (.ref 89), some (.int 0)] [] h 98 1755 (some (.int 1), h) := law_back _ 0 h (law_exit _ (0 + 6) h (by show Int32.ofNat 6 - 6 < 0 + 6; decide))
set_option maxRecDepth 100000 in
theorem law_c0 (c a1 a2 a3 a4 a5 : Int32) (hk : c &&& 63 = 0) : ∃ h', ai_ev (D2 [c, a1, a2, a3, a4, a5]) mlaw 33 [some (.retAddr 1), some (.ref 0), some (.ref 89), some (.int 0)] [.int (c &&& 63)] (HX wx0 (MC wm0)) 98 1755 (some (.int 1), h') := by
  obtain ⟨r, w', m', hc, hm⟩ := eqvE (Q_0 a1)
  exact ⟨_, ev_swi (k := 0) (t := 212) rfl hk (by decide) (by decide) rfl rfl (LW_0 [c, a1, a2, a3, a4, a5] 0 4200 a1 rfl wx0 w' wm0 m' r hc hm (law_fin c a1 a2 a3 a4 a5 _))⟩
set_option maxRecDepth 100000 in
theorem law_c1 (c a1 a2 a3 a4 a5 : Int32) (hk : c &&& 63 = 1) : ∃ h', ai_ev (D2 [c, a1, a2, a3, a4, a5]) mlaw 33 [some (.retAddr 1), some (.ref 0), some (.ref 89), some (.int 0)] [.int (c &&& 63)] (HX wx0 (MC wm0)) 98 1755 (some (.int 1), h') := by
  obtain ⟨r, w', m', hc, hm⟩ := eqvE (Q_1 a1 a2)
  exact ⟨_, ev_swi (k := 1) (t := 235) rfl hk (by decide) (by decide) rfl rfl (LW_1 [c, a1, a2, a3, a4, a5] 0 a1 a2 rfl rfl wx0 w' wm0 m' r hc hm (law_fin c a1 a2 a3 a4 a5 _))⟩
set_option maxRecDepth 100000 in
theorem law_c2 (c a1 a2 a3 a4 a5 : Int32) (hk : c &&& 63 = 2) : ∃ h', ai_ev (D2 [c, a1, a2, a3, a4, a5]) mlaw 33 [some (.retAddr 1), some (.ref 0), some (.ref 89), some (.int 0)] [.int (c &&& 63)] (HX wx0 (MC wm0)) 98 1755 (some (.int 1), h') := by
  obtain ⟨r, w', m', hc, hm⟩ := eqvE (Q_2 a1 a2 a3)
  exact ⟨_, ev_swi (k := 2) (t := 268) rfl hk (by decide) (by decide) rfl rfl (LW_2 [c, a1, a2, a3, a4, a5] 0 a1 a2 a3 rfl rfl rfl wx0 w' wm0 m' r hc hm (law_fin c a1 a2 a3 a4 a5 _))⟩
set_option maxRecDepth 100000 in
theorem law_c3 (c a1 a2 a3 a4 a5 : Int32) (hk : c &&& 63 = 3) : ∃ h', ai_ev (D2 [c, a1, a2, a3, a4, a5]) mlaw 33 [some (.retAddr 1), some (.ref 0), some (.ref 89), some (.int 0)] [.int (c &&& 63)] (HX wx0 (MC wm0)) 98 1755 (some (.int 1), h') := by
  obtain ⟨r, w', m', hc, hm⟩ := eqvE (Q_3 a1 a2)
  exact ⟨_, ev_swi (k := 3) (t := 311) rfl hk (by decide) (by decide) rfl rfl (LW_3 [c, a1, a2, a3, a4, a5] 0 a1 a2 rfl rfl wx0 w' wm0 m' r hc hm (law_fin c a1 a2 a3 a4 a5 _))⟩
set_option maxRecDepth 100000 in
theorem law_c4 (c a1 a2 a3 a4 a5 : Int32) (hk : c &&& 63 = 4) : ∃ h', ai_ev (D2 [c, a1, a2, a3, a4, a5]) mlaw 33 [some (.retAddr 1), some (.ref 0), some (.ref 89), some (.int 0)] [.int (c &&& 63)] (HX wx0 (MC wm0)) 98 1755 (some (.int 1), h') := by
  obtain ⟨r, w', m', hc, hm⟩ := eqvE (Q_4 a1 a2 a3)
  exact ⟨_, ev_swi (k := 4) (t := 344) rfl hk (by decide) (by decide) rfl rfl (LW_4 [c, a1, a2, a3, a4, a5] 0 a1 a2 a3 rfl rfl rfl wx0 w' wm0 m' r hc hm (law_fin c a1 a2 a3 a4 a5 _))⟩
set_option maxRecDepth 100000 in
theorem law_c5 (c a1 a2 a3 a4 a5 : Int32) (hk : c &&& 63 = 5) : ∃ h', ai_ev (D2 [c, a1, a2, a3, a4, a5]) mlaw 33 [some (.retAddr 1), some (.ref 0), some (.ref 89), some (.int 0)] [.int (c &&& 63)] (HX wx0 (MC wm0)) 98 1755 (some (.int 1), h') := by
  obtain ⟨r, w', m', hc, hm⟩ := eqvE (Q_5 a1 a2)
  exact ⟨_, ev_swi (k := 5) (t := 387) rfl hk (by decide) (by decide) rfl rfl (LW_5 [c, a1, a2, a3, a4, a5] 0 a1 a2 rfl rfl wx0 w' wm0 m' r hc hm (law_fin c a1 a2 a3 a4 a5 _))⟩
set_option maxRecDepth 100000 in
theorem law_c6 (c a1 a2 a3 a4 a5 : Int32) (hk : c &&& 63 = 6) : ∃ h', ai_ev (D2 [c, a1, a2, a3, a4, a5]) mlaw 33 [some (.retAddr 1), some (.ref 0), some (.ref 89), some (.int 0)] [.int (c &&& 63)] (HX wx0 (MC wm0)) 98 1755 (some (.int 1), h') := by
  obtain ⟨r, w', m', hc, hm⟩ := eqvE (Q_6 a1 a2 a3)
  exact ⟨_, ev_swi (k := 6) (t := 420) rfl hk (by decide) (by decide) rfl rfl (LW_6 [c, a1, a2, a3, a4, a5] 0 a1 a2 a3 rfl rfl rfl wx0 w' wm0 m' r hc hm (law_fin c a1 a2 a3 a4 a5 _))⟩
set_option maxRecDepth 100000 in
theorem law_c7 (c a1 a2 a3 a4 a5 : Int32) (hk : c &&& 63 = 7) : ∃ h', ai_ev (D2 [c, a1, a2, a3, a4, a5]) mlaw 33 [some (.retAddr 1), some (.ref 0), some (.ref 89), some (.int 0)] [.int (c &&& 63)] (HX wx0 (MC wm0)) 98 1755 (some (.int 1), h') := by
  obtain ⟨r, w', m', hc, hm⟩ := eqvE (Q_7 a1 a2)
  exact ⟨_, ev_swi (k := 7) (t := 463) rfl hk (by decide) (by decide) rfl rfl (LW_7 [c, a1, a2, a3, a4, a5] 0 a1 a2 rfl rfl wx0 w' wm0 m' r hc hm (law_fin c a1 a2 a3 a4 a5 _))⟩
set_option maxRecDepth 100000 in
theorem law_c8 (c a1 a2 a3 a4 a5 : Int32) (hk : c &&& 63 = 8) : ∃ h', ai_ev (D2 [c, a1, a2, a3, a4, a5]) mlaw 33 [some (.retAddr 1), some (.ref 0), some (.ref 89), some (.int 0)] [.int (c &&& 63)] (HX wx0 (MC wm0)) 98 1755 (some (.int 1), h') := by
  obtain ⟨r, w', m', hc, hm⟩ := eqvE (Q_8 a1 a2 a3)
  exact ⟨_, ev_swi (k := 8) (t := 496) rfl hk (by decide) (by decide) rfl rfl (LW_8 [c, a1, a2, a3, a4, a5] 0 a1 a2 a3 rfl rfl rfl wx0 w' wm0 m' r hc hm (law_fin c a1 a2 a3 a4 a5 _))⟩
set_option maxRecDepth 100000 in
theorem law_c9 (c a1 a2 a3 a4 a5 : Int32) (hk : c &&& 63 = 9) : ∃ h', ai_ev (D2 [c, a1, a2, a3, a4, a5]) mlaw 33 [some (.retAddr 1), some (.ref 0), some (.ref 89), some (.int 0)] [.int (c &&& 63)] (HX wx0 (MC wm0)) 98 1755 (some (.int 1), h') := by
  obtain ⟨r, w', m', hc, hm⟩ := eqvE (Q_9 a1)
  exact ⟨_, ev_swi (k := 9) (t := 539) rfl hk (by decide) (by decide) rfl rfl (LW_9 [c, a1, a2, a3, a4, a5] 0 4200 a1 rfl wx0 w' wm0 m' r hc hm (law_fin c a1 a2 a3 a4 a5 _))⟩
set_option maxRecDepth 100000 in
theorem law_c10t (c a1 a2 a3 a4 a5 : Int32) (hk : c &&& 63 = 10) (hb : a2 = 0) : ∃ h', ai_ev (D2 [c, a1, a2, a3, a4, a5]) mlaw 33 [some (.retAddr 1), some (.ref 0), some (.ref 89), some (.int 0)] [.int (c &&& 63)] (HX wx0 (MC wm0)) 98 1755 (some (.int 1), h') := by
  obtain ⟨r, w', m', hc, hm⟩ := eqvE (Q_10t a1)
  exact ⟨_, ev_swi (k := 10) (t := 562) rfl hk (by decide) (by decide) rfl rfl (LW_10t [c, a1, a2, a3, a4, a5] 0 a1 a2 rfl rfl hb wx0 w' wm0 m' r hc hm (law_fin c a1 a2 a3 a4 a5 _))⟩
set_option maxRecDepth 100000 in
theorem law_c10f (c a1 a2 a3 a4 a5 : Int32) (hk : c &&& 63 = 10) (hb : ¬ a2 = 0) : ∃ h', ai_ev (D2 [c, a1, a2, a3, a4, a5]) mlaw 33 [some (.retAddr 1), some (.ref 0), some (.ref 89), some (.int 0)] [.int (c &&& 63)] (HX wx0 (MC wm0)) 98 1755 (some (.int 1), h') := by
  obtain ⟨r, w', m', hc, hm⟩ := eqvE (Q_10f a1)
  exact ⟨_, ev_swi (k := 10) (t := 562) rfl hk (by decide) (by decide) rfl rfl (LW_10f [c, a1, a2, a3, a4, a5] 0 a1 a2 rfl rfl hb wx0 w' wm0 m' r hc hm (law_fin c a1 a2 a3 a4 a5 _))⟩
set_option maxRecDepth 100000 in
theorem law_c11t (c a1 a2 a3 a4 a5 : Int32) (hk : c &&& 63 = 11) (hb : a2 = 0) : ∃ h', ai_ev (D2 [c, a1, a2, a3, a4, a5]) mlaw 33 [some (.retAddr 1), some (.ref 0), some (.ref 89), some (.int 0)] [.int (c &&& 63)] (HX wx0 (MC wm0)) 98 1755 (some (.int 1), h') := by
  obtain ⟨r, w', m', hc, hm⟩ := eqvE (Q_11t a1)
  exact ⟨_, ev_swi (k := 11) (t := 611) rfl hk (by decide) (by decide) rfl rfl (LW_11t [c, a1, a2, a3, a4, a5] 0 a1 a2 rfl rfl hb wx0 w' wm0 m' r hc hm (law_fin c a1 a2 a3 a4 a5 _))⟩
set_option maxRecDepth 100000 in
theorem law_c11f (c a1 a2 a3 a4 a5 : Int32) (hk : c &&& 63 = 11) (hb : ¬ a2 = 0) : ∃ h', ai_ev (D2 [c, a1, a2, a3, a4, a5]) mlaw 33 [some (.retAddr 1), some (.ref 0), some (.ref 89), some (.int 0)] [.int (c &&& 63)] (HX wx0 (MC wm0)) 98 1755 (some (.int 1), h') := by
  obtain ⟨r, w', m', hc, hm⟩ := eqvE (Q_11f a1)
  exact ⟨_, ev_swi (k := 11) (t := 611) rfl hk (by decide) (by decide) rfl rfl (LW_11f [c, a1, a2, a3, a4, a5] 0 a1 a2 rfl rfl hb wx0 w' wm0 m' r hc hm (law_fin c a1 a2 a3 a4 a5 _))⟩
set_option maxRecDepth 100000 in
theorem law_c12 (c a1 a2 a3 a4 a5 : Int32) (hk : c &&& 63 = 12) : ∃ h', ai_ev (D2 [c, a1, a2, a3, a4, a5]) mlaw 33 [some (.retAddr 1), some (.ref 0), some (.ref 89), some (.int 0)] [.int (c &&& 63)] (HX wx0 (MC wm0)) 98 1755 (some (.int 1), h') := by
  obtain ⟨r, w', m', hc, hm⟩ := eqvE (Q_12 a1)
  exact ⟨_, ev_swi (k := 12) (t := 660) rfl hk (by decide) (by decide) rfl rfl (LW_12 [c, a1, a2, a3, a4, a5] 0 a1 rfl wx0 w' wm0 m' r hc hm (law_fin c a1 a2 a3 a4 a5 _))⟩
set_option maxRecDepth 100000 in
theorem law_c13 (c a1 a2 a3 a4 a5 : Int32) (hk : c &&& 63 = 13) : ∃ h', ai_ev (D2 [c, a1, a2, a3, a4, a5]) mlaw 33 [some (.retAddr 1), some (.ref 0), some (.ref 89), some (.int 0)] [.int (c &&& 63)] (HX wx0 (MC wm0)) 98 1755 (some (.int 1), h') := by
  obtain ⟨r, w', m', hc, hm⟩ := eqvE (Q_13 a1)
  exact ⟨_, ev_swi (k := 13) (t := 683) rfl hk (by decide) (by decide) rfl rfl (LW_13 [c, a1, a2, a3, a4, a5] 0 a1 rfl wx0 w' wm0 m' r hc hm (law_fin c a1 a2 a3 a4 a5 _))⟩
set_option maxRecDepth 100000 in
theorem law_c14 (c a1 a2 a3 a4 a5 : Int32) (hk : c &&& 63 = 14) : ∃ h', ai_ev (D2 [c, a1, a2, a3, a4, a5]) mlaw 33 [some (.retAddr 1), some (.ref 0), some (.ref 89), some (.int 0)] [.int (c &&& 63)] (HX wx0 (MC wm0)) 98 1755 (some (.int 1), h') := by
  obtain ⟨r, w', m', hc, hm⟩ := eqvE (Q_14)
  exact ⟨_, ev_swi (k := 14) (t := 706) rfl hk (by decide) (by decide) rfl rfl (LW_14 [c, a1, a2, a3, a4, a5] 0 wx0 w' wm0 m' r hc hm (law_fin c a1 a2 a3 a4 a5 _))⟩
set_option maxRecDepth 100000 in
theorem law_c15 (c a1 a2 a3 a4 a5 : Int32) (hk : c &&& 63 = 15) : ∃ h', ai_ev (D2 [c, a1, a2, a3, a4, a5]) mlaw 33 [some (.retAddr 1), some (.ref 0), some (.ref 89), some (.int 0)] [.int (c &&& 63)] (HX wx0 (MC wm0)) 98 1755 (some (.int 1), h') := by
  obtain ⟨r, w', m', hc, hm⟩ := eqvE (Q_15)
  exact ⟨_, ev_swi (k := 15) (t := 719) rfl hk (by decide) (by decide) rfl rfl (LW_15 [c, a1, a2, a3, a4, a5] 0 4200 wx0 w' wm0 m' r hc hm (law_fin c a1 a2 a3 a4 a5 _))⟩
set_option maxRecDepth 100000 in
theorem law_c16 (c a1 a2 a3 a4 a5 : Int32) (hk : c &&& 63 = 16) : ∃ h', ai_ev (D2 [c, a1, a2, a3, a4, a5]) mlaw 33 [some (.retAddr 1), some (.ref 0), some (.ref 89), some (.int 0)] [.int (c &&& 63)] (HX wx0 (MC wm0)) 98 1755 (some (.int 1), h') := by
  obtain ⟨r, w', m', hc, hm⟩ := eqvE (Q_16 a1)
  exact ⟨_, ev_swi (k := 16) (t := 732) rfl hk (by decide) (by decide) rfl rfl (LW_16 [c, a1, a2, a3, a4, a5] 0 4200 a1 rfl wx0 w' wm0 m' r hc hm (law_fin c a1 a2 a3 a4 a5 _))⟩
set_option maxRecDepth 100000 in
theorem law_c17 (c a1 a2 a3 a4 a5 : Int32) (hk : c &&& 63 = 17) : ∃ h', ai_ev (D2 [c, a1, a2, a3, a4, a5]) mlaw 33 [some (.retAddr 1), some (.ref 0), some (.ref 89), some (.int 0)] [.int (c &&& 63)] (HX wx0 (MC wm0)) 98 1755 (some (.int 1), h') := by
  obtain ⟨r, w', m', hc, hm⟩ := eqvE (Q_17)
  exact ⟨_, ev_swi (k := 17) (t := 755) rfl hk (by decide) (by decide) rfl rfl (LW_17 [c, a1, a2, a3, a4, a5] 0 wx0 w' wm0 m' r hc hm (law_fin c a1 a2 a3 a4 a5 _))⟩
set_option maxRecDepth 100000 in
theorem law_c18 (c a1 a2 a3 a4 a5 : Int32) (hk : c &&& 63 = 18) : ∃ h', ai_ev (D2 [c, a1, a2, a3, a4, a5]) mlaw 33 [some (.retAddr 1), some (.ref 0), some (.ref 89), some (.int 0)] [.int (c &&& 63)] (HX wx0 (MC wm0)) 98 1755 (some (.int 1), h') := by
  obtain ⟨r, w', m', hc, hm⟩ := eqvE (Q_18 a1 a2)
  exact ⟨_, ev_swi (k := 18) (t := 768) rfl hk (by decide) (by decide) rfl rfl (LW_18 [c, a1, a2, a3, a4, a5] 0 a1 a2 rfl rfl wx0 w' wm0 m' r hc hm (law_fin c a1 a2 a3 a4 a5 _))⟩
set_option maxRecDepth 100000 in
theorem law_c19 (c a1 a2 a3 a4 a5 : Int32) (hk : c &&& 63 = 19) : ∃ h', ai_ev (D2 [c, a1, a2, a3, a4, a5]) mlaw 33 [some (.retAddr 1), some (.ref 0), some (.ref 89), some (.int 0)] [.int (c &&& 63)] (HX wx0 (MC wm0)) 98 1755 (some (.int 1), h') := by
  obtain ⟨r, w', m', hc, hm⟩ := eqvE (Q_19 a1 a2)
  exact ⟨_, ev_swi (k := 19) (t := 801) rfl hk (by decide) (by decide) rfl rfl (LW_19 [c, a1, a2, a3, a4, a5] 0 a1 a2 rfl rfl wx0 w' wm0 m' r hc hm (law_fin c a1 a2 a3 a4 a5 _))⟩
set_option maxRecDepth 100000 in
theorem law_c20 (c a1 a2 a3 a4 a5 : Int32) (hk : c &&& 63 = 20) : ∃ h', ai_ev (D2 [c, a1, a2, a3, a4, a5]) mlaw 33 [some (.retAddr 1), some (.ref 0), some (.ref 89), some (.int 0)] [.int (c &&& 63)] (HX wx0 (MC wm0)) 98 1755 (some (.int 1), h') := by
  obtain ⟨r, w', m', hc, hm⟩ := eqvE (Q_20 a1 a2 a3)
  exact ⟨_, ev_swi (k := 20) (t := 834) rfl hk (by decide) (by decide) rfl rfl (LW_20 [c, a1, a2, a3, a4, a5] 0 4200 a1 a2 a3 rfl rfl rfl wx0 w' wm0 m' r hc hm (law_fin c a1 a2 a3 a4 a5 _))⟩
set_option maxRecDepth 100000 in
theorem law_c21 (c a1 a2 a3 a4 a5 : Int32) (hk : c &&& 63 = 21) : ∃ h', ai_ev (D2 [c, a1, a2, a3, a4, a5]) mlaw 33 [some (.retAddr 1), some (.ref 0), some (.ref 89), some (.int 0)] [.int (c &&& 63)] (HX wx0 (MC wm0)) 98 1755 (some (.int 1), h') := by
  obtain ⟨r, w', m', hc, hm⟩ := eqvE (Q_21 a1 a2 a3)
  exact ⟨_, ev_swi (k := 21) (t := 877) rfl hk (by decide) (by decide) rfl rfl (LW_21 [c, a1, a2, a3, a4, a5] 0 4200 a1 a2 a3 rfl rfl rfl wx0 w' wm0 m' r hc hm (law_fin c a1 a2 a3 a4 a5 _))⟩
set_option maxRecDepth 100000 in
theorem law_c22 (c a1 a2 a3 a4 a5 : Int32) (hk : c &&& 63 = 22) : ∃ h', ai_ev (D2 [c, a1, a2, a3, a4, a5]) mlaw 33 [some (.retAddr 1), some (.ref 0), some (.ref 89), some (.int 0)] [.int (c &&& 63)] (HX wx0 (MC wm0)) 98 1755 (some (.int 1), h') := by
  obtain ⟨r, w', m', hc, hm⟩ := eqvE (Q_22 a1 a2)
  exact ⟨_, ev_swi (k := 22) (t := 920) rfl hk (by decide) (by decide) rfl rfl (LW_22 [c, a1, a2, a3, a4, a5] 0 4200 a1 a2 rfl rfl wx0 w' wm0 m' r hc hm (law_fin c a1 a2 a3 a4 a5 _))⟩
set_option maxRecDepth 100000 in
theorem law_c23 (c a1 a2 a3 a4 a5 : Int32) (hk : c &&& 63 = 23) : ∃ h', ai_ev (D2 [c, a1, a2, a3, a4, a5]) mlaw 33 [some (.retAddr 1), some (.ref 0), some (.ref 89), some (.int 0)] [.int (c &&& 63)] (HX wx0 (MC wm0)) 98 1755 (some (.int 1), h') := by
  obtain ⟨r, w', m', hc, hm⟩ := eqvE (Q_23 a1 a2 a3)
  exact ⟨_, ev_swi (k := 23) (t := 953) rfl hk (by decide) (by decide) rfl rfl (LW_23 [c, a1, a2, a3, a4, a5] 0 4200 a1 a2 a3 rfl rfl rfl wx0 w' wm0 m' r hc hm (law_fin c a1 a2 a3 a4 a5 _))⟩
set_option maxRecDepth 100000 in
theorem law_c24 (c a1 a2 a3 a4 a5 : Int32) (hk : c &&& 63 = 24) : ∃ h', ai_ev (D2 [c, a1, a2, a3, a4, a5]) mlaw 33 [some (.retAddr 1), some (.ref 0), some (.ref 89), some (.int 0)] [.int (c &&& 63)] (HX wx0 (MC wm0)) 98 1755 (some (.int 1), h') := by
  obtain ⟨r, w', m', hc, hm⟩ := eqvE (Q_24 a1 a2)
  exact ⟨_, ev_swi (k := 24) (t := 996) rfl hk (by decide) (by decide) rfl rfl (LW_24 [c, a1, a2, a3, a4, a5] 0 4200 a1 a2 rfl rfl wx0 w' wm0 m' r hc hm (law_fin c a1 a2 a3 a4 a5 _))⟩
set_option maxRecDepth 100000 in
theorem law_c25 (c a1 a2 a3 a4 a5 : Int32) (hk : c &&& 63 = 25) : ∃ h', ai_ev (D2 [c, a1, a2, a3, a4, a5]) mlaw 33 [some (.retAddr 1), some (.ref 0), some (.ref 89), some (.int 0)] [.int (c &&& 63)] (HX wx0 (MC wm0)) 98 1755 (some (.int 1), h') := by
  obtain ⟨r, w', m', hc, hm⟩ := eqvE (Q_25 a1)
  exact ⟨_, ev_swi (k := 25) (t := 1029) rfl hk (by decide) (by decide) rfl rfl (LW_25 [c, a1, a2, a3, a4, a5] 0 4200 a1 rfl wx0 w' wm0 m' r hc hm (law_fin c a1 a2 a3 a4 a5 _))⟩
set_option maxRecDepth 100000 in
theorem law_c26 (c a1 a2 a3 a4 a5 : Int32) (hk : c &&& 63 = 26) : ∃ h', ai_ev (D2 [c, a1, a2, a3, a4, a5]) mlaw 33 [some (.retAddr 1), some (.ref 0), some (.ref 89), some (.int 0)] [.int (c &&& 63)] (HX wx0 (MC wm0)) 98 1755 (some (.int 1), h') := by
  obtain ⟨r, w', m', hc, hm⟩ := eqvE (Q_26 a1 a2 a3 a4)
  exact ⟨_, ev_swi (k := 26) (t := 1052) rfl hk (by decide) (by decide) rfl rfl (LW_26 [c, a1, a2, a3, a4, a5] 0 4200 a1 a2 a3 a4 rfl rfl rfl rfl wx0 w' wm0 m' r hc hm (law_fin c a1 a2 a3 a4 a5 _))⟩
set_option maxRecDepth 100000 in
theorem law_c27 (c a1 a2 a3 a4 a5 : Int32) (hk : c &&& 63 = 27) : ∃ h', ai_ev (D2 [c, a1, a2, a3, a4, a5]) mlaw 33 [some (.retAddr 1), some (.ref 0), some (.ref 89), some (.int 0)] [.int (c &&& 63)] (HX wx0 (MC wm0)) 98 1755 (some (.int 1), h') := by
  obtain ⟨r, w', m', hc, hm⟩ := eqvE (Q_27 a1 a2 a3 a4)
  exact ⟨_, ev_swi (k := 27) (t := 1105) rfl hk (by decide) (by decide) rfl rfl (LW_27 [c, a1, a2, a3, a4, a5] 0 4200 a1 a2 a3 a4 rfl rfl rfl rfl wx0 w' wm0 m' r hc hm (law_fin c a1 a2 a3 a4 a5 _))⟩
set_option maxRecDepth 100000 in
theorem law_c28 (c a1 a2 a3 a4 a5 : Int32) (hk : c &&& 63 = 28) : ∃ h', ai_ev (D2 [c, a1, a2, a3, a4, a5]) mlaw 33 [some (.retAddr 1), some (.ref 0), some (.ref 89), some (.int 0)] [.int (c &&& 63)] (HX wx0 (MC wm0)) 98 1755 (some (.int 1), h') := by
  obtain ⟨r, w', m', hc, hm⟩ := eqvE (Q_28 a1 a2 a3)
  exact ⟨_, ev_swi (k := 28) (t := 1158) rfl hk (by decide) (by decide) rfl rfl (LW_28 [c, a1, a2, a3, a4, a5] 0 4200 a1 a2 a3 rfl rfl rfl wx0 w' wm0 m' r hc hm (law_fin c a1 a2 a3 a4 a5 _))⟩
set_option maxRecDepth 100000 in
theorem law_c29 (c a1 a2 a3 a4 a5 : Int32) (hk : c &&& 63 = 29) : ∃ h', ai_ev (D2 [c, a1, a2, a3, a4, a5]) mlaw 33 [some (.retAddr 1), some (.ref 0), some (.ref 89), some (.int 0)] [.int (c &&& 63)] (HX wx0 (MC wm0)) 98 1755 (some (.int 1), h') := by
  obtain ⟨r, w', m', hc, hm⟩ := eqvE (Q_29 a1 a2 a3 a4 a5)
  exact ⟨_, ev_swi (k := 29) (t := 1201) rfl hk (by decide) (by decide) rfl rfl (LW_29 [c, a1, a2, a3, a4, a5] 0 4200 a1 a2 a3 a4 a5 rfl rfl rfl rfl rfl wx0 w' wm0 m' r hc hm (law_fin c a1 a2 a3 a4 a5 _))⟩
set_option maxRecDepth 100000 in
theorem law_c30 (c a1 a2 a3 a4 a5 : Int32) (hk : c &&& 63 = 30) : ∃ h', ai_ev (D2 [c, a1, a2, a3, a4, a5]) mlaw 33 [some (.retAddr 1), some (.ref 0), some (.ref 89), some (.int 0)] [.int (c &&& 63)] (HX wx0 (MC wm0)) 98 1755 (some (.int 1), h') := by
  obtain ⟨r, w', m', hc, hm⟩ := eqvE (Q_30 a1 a2)
  exact ⟨_, ev_swi (k := 30) (t := 1264) rfl hk (by decide) (by decide) rfl rfl (LW_30 [c, a1, a2, a3, a4, a5] 0 4200 a1 a2 rfl rfl wx0 w' wm0 m' r hc hm (law_fin c a1 a2 a3 a4 a5 _))⟩
set_option maxRecDepth 100000 in
theorem law_c31 (c a1 a2 a3 a4 a5 : Int32) (hk : c &&& 63 = 31) : ∃ h', ai_ev (D2 [c, a1, a2, a3, a4, a5]) mlaw 33 [some (.retAddr 1), some (.ref 0), some (.ref 89), some (.int 0)] [.int (c &&& 63)] (HX wx0 (MC wm0)) 98 1755 (some (.int 1), h') := by
  obtain ⟨r, w', m', hc, hm⟩ := eqvE (Q_31 a1 a2 a3)
  exact ⟨_, ev_swi (k := 31) (t := 1297) rfl hk (by decide) (by decide) rfl rfl (LW_31 [c, a1, a2, a3, a4, a5] 0 8000 a1 a2 a3 rfl rfl rfl wx0 w' wm0 m' r hc hm (law_fin c a1 a2 a3 a4 a5 _))⟩
set_option maxRecDepth 100000 in
theorem law_c32 (c a1 a2 a3 a4 a5 : Int32) (hk : c &&& 63 = 32) : ∃ h', ai_ev (D2 [c, a1, a2, a3, a4, a5]) mlaw 33 [some (.retAddr 1), some (.ref 0), some (.ref 89), some (.int 0)] [.int (c &&& 63)] (HX wx0 (MC wm0)) 98 1755 (some (.int 1), h') := by
  obtain ⟨r, w', m', hc, hm⟩ := eqvE (Q_32 a1)
  exact ⟨_, ev_swi (k := 32) (t := 1340) rfl hk (by decide) (by decide) rfl rfl (LW_32 [c, a1, a2, a3, a4, a5] 0 4200 a1 rfl wx0 w' wm0 m' r hc hm (law_fin c a1 a2 a3 a4 a5 _))⟩
set_option maxRecDepth 100000 in
theorem law_c33 (c a1 a2 a3 a4 a5 : Int32) (hk : c &&& 63 = 33) : ∃ h', ai_ev (D2 [c, a1, a2, a3, a4, a5]) mlaw 33 [some (.retAddr 1), some (.ref 0), some (.ref 89), some (.int 0)] [.int (c &&& 63)] (HX wx0 (MC wm0)) 98 1755 (some (.int 1), h') := by
  obtain ⟨r, w', m', hc, hm⟩ := eqvE (Q_33 a1 a2)
  exact ⟨_, ev_swi (k := 33) (t := 1363) rfl hk (by decide) (by decide) rfl rfl (LW_33 [c, a1, a2, a3, a4, a5] 0 4200 a1 a2 rfl rfl wx0 w' wm0 m' r hc hm (law_fin c a1 a2 a3 a4 a5 _))⟩
set_option maxRecDepth 100000 in
theorem law_c34 (c a1 a2 a3 a4 a5 : Int32) (hk : c &&& 63 = 34) : ∃ h', ai_ev (D2 [c, a1, a2, a3, a4, a5]) mlaw 33 [some (.retAddr 1), some (.ref 0), some (.ref 89), some (.int 0)] [.int (c &&& 63)] (HX wx0 (MC wm0)) 98 1755 (some (.int 1), h') := by
  obtain ⟨r, w', m', hc, hm⟩ := eqvE (Q_34 a1 a2 a3 a4)
  exact ⟨_, ev_swi (k := 34) (t := 1396) rfl hk (by decide) (by decide) rfl rfl (LW_34 [c, a1, a2, a3, a4, a5] 0 4200 a1 a2 a3 a4 rfl rfl rfl rfl wx0 w' wm0 m' r hc hm (law_fin c a1 a2 a3 a4 a5 _))⟩
set_option maxRecDepth 100000 in
theorem law_c35 (c a1 a2 a3 a4 a5 : Int32) (hk : c &&& 63 = 35) : ∃ h', ai_ev (D2 [c, a1, a2, a3, a4, a5]) mlaw 33 [some (.retAddr 1), some (.ref 0), some (.ref 89), some (.int 0)] [.int (c &&& 63)] (HX wx0 (MC wm0)) 98 1755 (some (.int 1), h') := by
  obtain ⟨r, w', m', hc, hm⟩ := eqvE (Q_35 a1)
  exact ⟨_, ev_swi (k := 35) (t := 1449) rfl hk (by decide) (by decide) rfl rfl (LW_35 [c, a1, a2, a3, a4, a5] 0 a1 rfl wx0 w' wm0 m' r hc hm (law_fin c a1 a2 a3 a4 a5 _))⟩
set_option maxRecDepth 100000 in
theorem law_c36 (c a1 a2 a3 a4 a5 : Int32) (hk : c &&& 63 = 36) : ∃ h', ai_ev (D2 [c, a1, a2, a3, a4, a5]) mlaw 33 [some (.retAddr 1), some (.ref 0), some (.ref 89), some (.int 0)] [.int (c &&& 63)] (HX wx0 (MC wm0)) 98 1755 (some (.int 1), h') := by
  obtain ⟨r, w', m', hc, hm⟩ := eqvE (Q_36 a1)
  exact ⟨_, ev_swi (k := 36) (t := 1473) rfl hk (by decide) (by decide) rfl rfl (LW_36 [c, a1, a2, a3, a4, a5] 0 4200 a1 rfl wx0 w' wm0 m' r hc hm (law_fin c a1 a2 a3 a4 a5 _))⟩
set_option maxRecDepth 100000 in
theorem law_c37 (c a1 a2 a3 a4 a5 : Int32) (hk : c &&& 63 = 37) : ∃ h', ai_ev (D2 [c, a1, a2, a3, a4, a5]) mlaw 33 [some (.retAddr 1), some (.ref 0), some (.ref 89), some (.int 0)] [.int (c &&& 63)] (HX wx0 (MC wm0)) 98 1755 (some (.int 1), h') := by
  obtain ⟨r, w', m', hc, hm⟩ := eqvE (Q_37 a1)
  exact ⟨_, ev_swi (k := 37) (t := 1496) rfl hk (by decide) (by decide) rfl rfl (LW_37 [c, a1, a2, a3, a4, a5] 0 4200 a1 rfl wx0 w' wm0 m' r hc hm (law_fin c a1 a2 a3 a4 a5 _))⟩
set_option maxRecDepth 100000 in
theorem law_c38 (c a1 a2 a3 a4 a5 : Int32) (hk : c &&& 63 = 38) : ∃ h', ai_ev (D2 [c, a1, a2, a3, a4, a5]) mlaw 33 [some (.retAddr 1), some (.ref 0), some (.ref 89), some (.int 0)] [.int (c &&& 63)] (HX wx0 (MC wm0)) 98 1755 (some (.int 1), h') := by
  obtain ⟨r, w', m', hc, hm⟩ := eqvE (Q_38 a1)
  exact ⟨_, ev_swi (k := 38) (t := 1519) rfl hk (by decide) (by decide) rfl rfl (LW_38 [c, a1, a2, a3, a4, a5] 0 a1 rfl wx0 w' wm0 m' r hc hm (law_fin c a1 a2 a3 a4 a5 _))⟩
set_option maxRecDepth 100000 in
theorem law_c39 (c a1 a2 a3 a4 a5 : Int32) (hk : c &&& 63 = 39) : ∃ h', ai_ev (D2 [c, a1, a2, a3, a4, a5]) mlaw 33 [some (.retAddr 1), some (.ref 0), some (.ref 89), some (.int 0)] [.int (c &&& 63)] (HX wx0 (MC wm0)) 98 1755 (some (.int 1), h') := by
  obtain ⟨r, w', m', hc, hm⟩ := eqvE (Q_39 a1)
  exact ⟨_, ev_swi (k := 39) (t := 1542) rfl hk (by decide) (by decide) rfl rfl (LW_39 [c, a1, a2, a3, a4, a5] 0 a1 rfl wx0 w' wm0 m' r hc hm (law_fin c a1 a2 a3 a4 a5 _))⟩
set_option maxRecDepth 100000 in
theorem law_c40 (c a1 a2 a3 a4 a5 : Int32) (hk : c &&& 63 = 40) : ∃ h', ai_ev (D2 [c, a1, a2, a3, a4, a5]) mlaw 33 [some (.retAddr 1), some (.ref 0), some (.ref 89), some (.int 0)] [.int (c &&& 63)] (HX wx0 (MC wm0)) 98 1755 (some (.int 1), h') := by
  obtain ⟨r, w', m', hc, hm⟩ := eqvE (Q_40)
  exact ⟨_, ev_swi (k := 40) (t := 1565) rfl hk (by decide) (by decide) rfl rfl (LW_40 [c, a1, a2, a3, a4, a5] 0 4200 wx0 w' wm0 m' r hc hm (law_fin c a1 a2 a3 a4 a5 _))⟩
set_option maxRecDepth 100000 in
theorem law_cd (c a1 a2 a3 a4 a5 : Int32) (j : Nat) (hj : j < 64) (hk : c &&& 63 = nI j) (h41 : 41 ≤ j) : ∃ h', ai_ev (D2 [c, a1, a2, a3, a4, a5]) mlaw 33 [some (.retAddr 1), some (.ref 0), some (.ref 89), some (.int 0)] [.int (c &&& 63)] (HX wx0 (MC wm0)) 98 1755 (some (.int 1), h') := by
  refine ⟨_, ev_swo (t := 1579) (lo := 0) (n := 41) rfl (Or.inr (Or.inl ?_)) ⟨rfl, by decide⟩ rfl (law_fin c a1 a2 a3 a4 a5 _)⟩
  rw [hk, nI_toInt (by omega)]
  omega
theorem law_six (c a1 a2 a3 a4 a5 : Int32) : ∃ h', ai_ev (D2 [c, a1, a2, a3, a4, a5]) mlaw 33 [some (.retAddr 1), some (.ref 0), some (.ref 89), some (.int 0)] [.int (c &&& 63)] (HX wx0 (MC wm0)) 98 1755 (some (.int 1), h') := by
  obtain ⟨j, hj, hk⟩ := pk_andE c (m := 63) 6 (by decide)
  by_cases h41 : 41 ≤ j
  · exact law_cd c a1 a2 a3 a4 a5 j hj hk h41
  · match j, hk, h41 with
    | 0, hk, _ => exact law_c0 c a1 a2 a3 a4 a5 hk
    | 1, hk, _ => exact law_c1 c a1 a2 a3 a4 a5 hk
    | 2, hk, _ => exact law_c2 c a1 a2 a3 a4 a5 hk
    | 3, hk, _ => exact law_c3 c a1 a2 a3 a4 a5 hk
    | 4, hk, _ => exact law_c4 c a1 a2 a3 a4 a5 hk
    | 5, hk, _ => exact law_c5 c a1 a2 a3 a4 a5 hk
    | 6, hk, _ => exact law_c6 c a1 a2 a3 a4 a5 hk
    | 7, hk, _ => exact law_c7 c a1 a2 a3 a4 a5 hk
    | 8, hk, _ => exact law_c8 c a1 a2 a3 a4 a5 hk
    | 9, hk, _ => exact law_c9 c a1 a2 a3 a4 a5 hk
    | 10, hk, _ =>
      by_cases hb : a2 = 0
      · exact law_c10t c a1 a2 a3 a4 a5 hk hb
      · exact law_c10f c a1 a2 a3 a4 a5 hk hb
    | 11, hk, _ =>
      by_cases hb : a2 = 0
      · exact law_c11t c a1 a2 a3 a4 a5 hk hb
      · exact law_c11f c a1 a2 a3 a4 a5 hk hb
    | 12, hk, _ => exact law_c12 c a1 a2 a3 a4 a5 hk
    | 13, hk, _ => exact law_c13 c a1 a2 a3 a4 a5 hk
    | 14, hk, _ => exact law_c14 c a1 a2 a3 a4 a5 hk
    | 15, hk, _ => exact law_c15 c a1 a2 a3 a4 a5 hk
    | 16, hk, _ => exact law_c16 c a1 a2 a3 a4 a5 hk
    | 17, hk, _ => exact law_c17 c a1 a2 a3 a4 a5 hk
    | 18, hk, _ => exact law_c18 c a1 a2 a3 a4 a5 hk
    | 19, hk, _ => exact law_c19 c a1 a2 a3 a4 a5 hk
    | 20, hk, _ => exact law_c20 c a1 a2 a3 a4 a5 hk
    | 21, hk, _ => exact law_c21 c a1 a2 a3 a4 a5 hk
    | 22, hk, _ => exact law_c22 c a1 a2 a3 a4 a5 hk
    | 23, hk, _ => exact law_c23 c a1 a2 a3 a4 a5 hk
    | 24, hk, _ => exact law_c24 c a1 a2 a3 a4 a5 hk
    | 25, hk, _ => exact law_c25 c a1 a2 a3 a4 a5 hk
    | 26, hk, _ => exact law_c26 c a1 a2 a3 a4 a5 hk
    | 27, hk, _ => exact law_c27 c a1 a2 a3 a4 a5 hk
    | 28, hk, _ => exact law_c28 c a1 a2 a3 a4 a5 hk
    | 29, hk, _ => exact law_c29 c a1 a2 a3 a4 a5 hk
    | 30, hk, _ => exact law_c30 c a1 a2 a3 a4 a5 hk
    | 31, hk, _ => exact law_c31 c a1 a2 a3 a4 a5 hk
    | 32, hk, _ => exact law_c32 c a1 a2 a3 a4 a5 hk
    | 33, hk, _ => exact law_c33 c a1 a2 a3 a4 a5 hk
    | 34, hk, _ => exact law_c34 c a1 a2 a3 a4 a5 hk
    | 35, hk, _ => exact law_c35 c a1 a2 a3 a4 a5 hk
    | 36, hk, _ => exact law_c36 c a1 a2 a3 a4 a5 hk
    | 37, hk, _ => exact law_c37 c a1 a2 a3 a4 a5 hk
    | 38, hk, _ => exact law_c38 c a1 a2 a3 a4 a5 hk
    | 39, hk, _ => exact law_c39 c a1 a2 a3 a4 a5 hk
    | 40, hk, _ => exact law_c40 c a1 a2 a3 a4 a5 hk
    | j + 41, _, h => exact absurd (by omega) h
theorem law_pure (xs : List Int32) (hl : xs.length ≤ 6) : ∃ h', ai_ev [[10, 13, 16, 20], xs] mlaw 0 [some (.retAddr 1), none, none, none] [] [] 0 0 (some (.int 1), h') := by
  show ∃ h', ai_ev (D2 xs) mlaw 0 [some (.retAddr 1), none, none, none] [] [] 0 0 (some (.int 1), h')
  match xs, hl with
  | [], _ => exact ⟨_, law_begin _ (law_exit _ 0 _ (by decide))⟩
  | [a], _ => exact ⟨_, law_begin _ (law_exit _ 0 _ (by show Int32.ofNat 1 - 6 < 0; decide))⟩
  | [a, b], _ => exact ⟨_, law_begin _ (law_exit _ 0 _ (by show Int32.ofNat 2 - 6 < 0; decide))⟩
  | [a, b, c], _ => exact ⟨_, law_begin _ (law_exit _ 0 _ (by show Int32.ofNat 3 - 6 < 0; decide))⟩
  | [a, b, c, d], _ => exact ⟨_, law_begin _ (law_exit _ 0 _ (by show Int32.ofNat 4 - 6 < 0; decide))⟩
  | [a, b, c, d, f], _ => exact ⟨_, law_begin _ (law_exit _ 0 _ (by show Int32.ofNat 5 - 6 < 0; decide))⟩
  | [c, a1, a2, a3, a4, a5], _ =>
    obtain ⟨h', e⟩ := law_six c a1 a2 a3 a4 a5
    exact ⟨h', law_begin _ (law_sw _ 0 c _ (by show ¬ Int32.ofNat 6 - 6 < 0; decide) rfl e)⟩
  | _ :: _ :: _ :: _ :: _ :: _ :: _ :: t, hl => exact absurd hl (by simp)
