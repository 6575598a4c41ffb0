/-! the law's cases, written by a program of the verifier -/
def D2 (xs : List Int32) : List (List Int32) := [[10, 13, 16, 20], xs]
theorem D12 (xs : List Int32) : ai_sub D1 (D2 xs) := by
  intro k o h
  match k, h with
  | 0, h => exact h
  | k + 1, h => simp [D1, ai_nth] at h
def MC (m : WM) : ai_H := [.inr (8, [.ref 90, .ref 91, .ref 92, .int (a_m_texted m), .ref 93, .long (a_m_above m), .long (a_m_below m), .int (a_m_at m), .int (a_m_start m), .int (a_m_isWord m), .int (a_m_isFigures m), .ref 94, .int (a_m_word m), .int (a_m_kind m), .int (a_m_weight m), .int (a_m_volume m), .int (a_m_load m), .int (a_m_hour m), .int (a_m_torn m), .int (a_m_restsIn m), .int (a_m_down m), .int (a_m_broken m), .int (a_m_passes m), .int (a_m_stops m), .ref 95, .ref 96, .ref 97, .long (a_m_h m)]), .inl (false, a_m_w m), .inl (true, a_m_isKept m), .inl (false, a_m_text m), .inl (false, a_m_refused m), .inl (false, a_m_numbers m), .inl (false, a_m_far m), .inl (false, a_m_there m), .inl (false, a_m_gives m)]
def PX (w : WX) (k : Nat) : ai_E := (ai_nth (HX w []) k).getD (.inl (false, []))
theorem HMX (w : WX) (m : WM) : HM (PX w) m [] = HX w (MC m) := rfl
theorem ev_hm {M : ai_M} {L : ai_L} {w : WX} {m m2 : WM} {rv : Option Value} (xs : List Int32) (e : ai_ev D1 M 0 L [] (HM (PX w) m []) 0 0 (rv, HM (PX w) m2 [])) : ai_ev (D2 xs) M 0 L [] (HX w (MC m)) 0 0 (rv, HX w (MC m2)) := by
  rw [← HMX w m, ← HMX w m2]
  exact ev_sub (D12 xs) e
theorem ev_xald {X : List (List Int32)} {M : ai_M} {pc : Nat} {L : ai_L} {r : List Value} {h : ai_H} {cs sl : Nat} {q : Option Value × ai_H} {a : Nat} {o : List Int32} {j x : Int32} (hi : ai_fd (ai_cd M) pc = some .iaload) (ho : ai_nth X a = some o) (hx : ai_ix o j = some x) (e : ai_ev X M (pc + 1) L (.int x :: r) h cs sl q) : ai_ev X M pc L (.int j :: .retAddr a :: r) h cs sl q := ev_step hi rfl rfl (by simp only [ai_step, ho, hx]) e
theorem lg_self (x : Int64) : lg_cmp x x = 0 := (lg_cmp_eq x x).mpr rfl
set_option maxHeartbeats 40000000 in
set_option maxRecDepth 100000 in
theorem LW_0 (xs : List Int32) (i : Int32) (n : Nat) (a1 : Int32) (h1 : ai_ix xs (i + 1) = some a1) (w w' : WX) (m m' : WM) (r s : Int32) (hc : Ff_sea_0 n a1 w = some (r, w')) (hm : Fm_sea_89 n a1 m = some (s, m')) {q : Option Value × ai_H} (e : ai_ev (D2 xs) mlaw 1578 [some (.retAddr 1), some (.ref 0), some (.ref 89), some (.int i)] [] (HX w' (MC m')) 98 1755 q) : ai_ev (D2 xs) mlaw 212 [some (.retAddr 1), some (.ref 0), some (.ref 89), some (.int i)] [] (HX w (MC m)) 98 1755 q := by
  refine ev_go 5 (pc' := 217) (L' := [some (.retAddr 1), some (.ref 0), some (.ref 89), some (.int i)]) (st' := [.int (i + 1), .retAddr 1, .ref 0]) (h' := HX w (MC m)) (cs' := 98) (sl' := 1755) rfl ?_
  refine ev_xald rfl rfl h1 ?_
  show ai_ev (D2 xs) mlaw 218 [some (.retAddr 1), some (.ref 0), some (.ref 89), some (.int i)] [.int a1, .ref 0] (HX w (MC m)) 98 1755 q
  refine ev_call (M' := mf_sea) (L' := [some (.ref 0), some (.int a1)]) (rest := []) (rv := some (.int r)) (h' := HX w' (MC m)) rfl (ev_sub (D12 xs) (Ef_sea_0 n a1 w _ _ hc (MC m))) ?_
  show ai_ev (D2 xs) mlaw 221 [some (.retAddr 1), some (.ref 0), some (.ref 89), some (.int i)] [.int r] (HX w' (MC m)) 98 1755 q
  refine ev_go 6 (pc' := 227) (L' := [some (.retAddr 1), some (.ref 0), some (.ref 89), some (.int i)]) (st' := [.int (i + 1), .retAddr 1, .ref 89]) (h' := HX w' (MC m)) (cs' := 98) (sl' := 1755) rfl ?_
  refine ev_xald rfl rfl h1 ?_
  show ai_ev (D2 xs) mlaw 228 [some (.retAddr 1), some (.ref 0), some (.ref 89), some (.int i)] [.int a1, .ref 89] (HX w' (MC m)) 98 1755 q
  refine ev_call (M' := mm_sea) (L' := [some (.ref 89), some (.int a1)]) (rest := []) (rv := some (.int s)) (h' := HX w' (MC m')) rfl (ev_hm xs (Em_sea_89 n a1 m _ _ hm (PX w') [])) ?_
  show ai_ev (D2 xs) mlaw 231 [some (.retAddr 1), some (.ref 0), some (.ref 89), some (.int i)] [.int s] (HX w' (MC m')) 98 1755 q
  refine ev_go 2 (pc' := 1578) (L' := [some (.retAddr 1), some (.ref 0), some (.ref 89), some (.int i)]) (st' := []) (h' := HX w' (MC m')) (cs' := 98) (sl' := 1755) rfl ?_
  exact e
set_option maxHeartbeats 40000000 in
set_option maxRecDepth 100000 in
theorem LW_1 (xs : List Int32) (i : Int32) (a1 a2 : Int32) (h1 : ai_ix xs (i + 1) = some a1) (h2 : ai_ix xs (i + 2) = some a2) (w w' : WX) (m m' : WM) (r s : Int32) (hc : Ff_water_0 a1 a2 w = some (r, w')) (hm : Fm_water_89 a1 a2 m = some (s, m')) {q : Option Value × ai_H} (e : ai_ev (D2 xs) mlaw 1578 [some (.retAddr 1), some (.ref 0), some (.ref 89), some (.int i)] [] (HX w' (MC m')) 98 1755 q) : ai_ev (D2 xs) mlaw 235 [some (.retAddr 1), some (.ref 0), some (.ref 89), some (.int i)] [] (HX w (MC m)) 98 1755 q := by
  refine ev_go 5 (pc' := 240) (L' := [some (.retAddr 1), some (.ref 0), some (.ref 89), some (.int i)]) (st' := [.int (i + 1), .retAddr 1, .ref 0]) (h' := HX w (MC m)) (cs' := 98) (sl' := 1755) rfl ?_
  refine ev_xald rfl rfl h1 ?_
  show ai_ev (D2 xs) mlaw 241 [some (.retAddr 1), some (.ref 0), some (.ref 89), some (.int i)] [.int a1, .ref 0] (HX w (MC m)) 98 1755 q
  refine ev_go 4 (pc' := 245) (L' := [some (.retAddr 1), some (.ref 0), some (.ref 89), some (.int i)]) (st' := [.int (i + 2), .retAddr 1, .int a1, .ref 0]) (h' := HX w (MC m)) (cs' := 98) (sl' := 1755) rfl ?_
  refine ev_xald rfl rfl h2 ?_
  show ai_ev (D2 xs) mlaw 246 [some (.retAddr 1), some (.ref 0), some (.ref 89), some (.int i)] [.int a2, .int a1, .ref 0] (HX w (MC m)) 98 1755 q
  refine ev_call (M' := mf_water) (L' := [some (.ref 0), some (.int a1), some (.int a2)]) (rest := []) (rv := some (.int r)) (h' := HX w' (MC m)) rfl (ev_sub (D12 xs) (Ef_water_0 a1 a2 w _ _ hc (MC m))) ?_
  show ai_ev (D2 xs) mlaw 249 [some (.retAddr 1), some (.ref 0), some (.ref 89), some (.int i)] [.int r] (HX w' (MC m)) 98 1755 q
  refine ev_go 6 (pc' := 255) (L' := [some (.retAddr 1), some (.ref 0), some (.ref 89), some (.int i)]) (st' := [.int (i + 1), .retAddr 1, .ref 89]) (h' := HX w' (MC m)) (cs' := 98) (sl' := 1755) rfl ?_
  refine ev_xald rfl rfl h1 ?_
  show ai_ev (D2 xs) mlaw 256 [some (.retAddr 1), some (.ref 0), some (.ref 89), some (.int i)] [.int a1, .ref 89] (HX w' (MC m)) 98 1755 q
  refine ev_go 4 (pc' := 260) (L' := [some (.retAddr 1), some (.ref 0), some (.ref 89), some (.int i)]) (st' := [.int (i + 2), .retAddr 1, .int a1, .ref 89]) (h' := HX w' (MC m)) (cs' := 98) (sl' := 1755) rfl ?_
  refine ev_xald rfl rfl h2 ?_
  show ai_ev (D2 xs) mlaw 261 [some (.retAddr 1), some (.ref 0), some (.ref 89), some (.int i)] [.int a2, .int a1, .ref 89] (HX w' (MC m)) 98 1755 q
  refine ev_call (M' := mm_water) (L' := [some (.ref 89), some (.int a1), some (.int a2)]) (rest := []) (rv := some (.int s)) (h' := HX w' (MC m')) rfl (ev_hm xs (Em_water_89 a1 a2 m _ _ hm (PX w') [])) ?_
  show ai_ev (D2 xs) mlaw 264 [some (.retAddr 1), some (.ref 0), some (.ref 89), some (.int i)] [.int s] (HX w' (MC m')) 98 1755 q
  refine ev_go 2 (pc' := 1578) (L' := [some (.retAddr 1), some (.ref 0), some (.ref 89), some (.int i)]) (st' := []) (h' := HX w' (MC m')) (cs' := 98) (sl' := 1755) rfl ?_
  exact e
set_option maxHeartbeats 40000000 in
set_option maxRecDepth 100000 in
theorem LW_2 (xs : List Int32) (i : Int32) (a1 a2 a3 : Int32) (h1 : ai_ix xs (i + 1) = some a1) (h2 : ai_ix xs (i + 2) = some a2) (h3 : ai_ix xs (i + 3) = some a3) (w w' : WX) (m m' : WM) (r s : Int32) (hc : Ff_thick_0 a1 a2 a3 w = some (r, w')) (hm : Fm_thick_89 a1 a2 a3 m = some (s, m')) {q : Option Value × ai_H} (e : ai_ev (D2 xs) mlaw 1578 [some (.retAddr 1), some (.ref 0), some (.ref 89), some (.int i)] [] (HX w' (MC m')) 98 1755 q) : ai_ev (D2 xs) mlaw 268 [some (.retAddr 1), some (.ref 0), some (.ref 89), some (.int i)] [] (HX w (MC m)) 98 1755 q := by
  refine ev_go 5 (pc' := 273) (L' := [some (.retAddr 1), some (.ref 0), some (.ref 89), some (.int i)]) (st' := [.int (i + 1), .retAddr 1, .ref 0]) (h' := HX w (MC m)) (cs' := 98) (sl' := 1755) rfl ?_
  refine ev_xald rfl rfl h1 ?_
  show ai_ev (D2 xs) mlaw 274 [some (.retAddr 1), some (.ref 0), some (.ref 89), some (.int i)] [.int a1, .ref 0] (HX w (MC m)) 98 1755 q
  refine ev_go 4 (pc' := 278) (L' := [some (.retAddr 1), some (.ref 0), some (.ref 89), some (.int i)]) (st' := [.int (i + 2), .retAddr 1, .int a1, .ref 0]) (h' := HX w (MC m)) (cs' := 98) (sl' := 1755) rfl ?_
  refine ev_xald rfl rfl h2 ?_
  show ai_ev (D2 xs) mlaw 279 [some (.retAddr 1), some (.ref 0), some (.ref 89), some (.int i)] [.int a2, .int a1, .ref 0] (HX w (MC m)) 98 1755 q
  refine ev_go 4 (pc' := 283) (L' := [some (.retAddr 1), some (.ref 0), some (.ref 89), some (.int i)]) (st' := [.int (i + 3), .retAddr 1, .int a2, .int a1, .ref 0]) (h' := HX w (MC m)) (cs' := 98) (sl' := 1755) rfl ?_
  refine ev_xald rfl rfl h3 ?_
  show ai_ev (D2 xs) mlaw 284 [some (.retAddr 1), some (.ref 0), some (.ref 89), some (.int i)] [.int a3, .int a2, .int a1, .ref 0] (HX w (MC m)) 98 1755 q
  refine ev_call (M' := mf_thick) (L' := [some (.ref 0), some (.int a1), some (.int a2), some (.int a3)]) (rest := []) (rv := some (.int r)) (h' := HX w' (MC m)) rfl (ev_sub (D12 xs) (Ef_thick_0 a1 a2 a3 w _ _ hc (MC m))) ?_
  show ai_ev (D2 xs) mlaw 287 [some (.retAddr 1), some (.ref 0), some (.ref 89), some (.int i)] [.int r] (HX w' (MC m)) 98 1755 q
  refine ev_go 6 (pc' := 293) (L' := [some (.retAddr 1), some (.ref 0), some (.ref 89), some (.int i)]) (st' := [.int (i + 1), .retAddr 1, .ref 89]) (h' := HX w' (MC m)) (cs' := 98) (sl' := 1755) rfl ?_
  refine ev_xald rfl rfl h1 ?_
  show ai_ev (D2 xs) mlaw 294 [some (.retAddr 1), some (.ref 0), some (.ref 89), some (.int i)] [.int a1, .ref 89] (HX w' (MC m)) 98 1755 q
  refine ev_go 4 (pc' := 298) (L' := [some (.retAddr 1), some (.ref 0), some (.ref 89), some (.int i)]) (st' := [.int (i + 2), .retAddr 1, .int a1, .ref 89]) (h' := HX w' (MC m)) (cs' := 98) (sl' := 1755) rfl ?_
  refine ev_xald rfl rfl h2 ?_
  show ai_ev (D2 xs) mlaw 299 [some (.retAddr 1), some (.ref 0), some (.ref 89), some (.int i)] [.int a2, .int a1, .ref 89] (HX w' (MC m)) 98 1755 q
  refine ev_go 4 (pc' := 303) (L' := [some (.retAddr 1), some (.ref 0), some (.ref 89), some (.int i)]) (st' := [.int (i + 3), .retAddr 1, .int a2, .int a1, .ref 89]) (h' := HX w' (MC m)) (cs' := 98) (sl' := 1755) rfl ?_
  refine ev_xald rfl rfl h3 ?_
  show ai_ev (D2 xs) mlaw 304 [some (.retAddr 1), some (.ref 0), some (.ref 89), some (.int i)] [.int a3, .int a2, .int a1, .ref 89] (HX w' (MC m)) 98 1755 q
  refine ev_call (M' := mm_thick) (L' := [some (.ref 89), some (.int a1), some (.int a2), some (.int a3)]) (rest := []) (rv := some (.int s)) (h' := HX w' (MC m')) rfl (ev_hm xs (Em_thick_89 a1 a2 a3 m _ _ hm (PX w') [])) ?_
  show ai_ev (D2 xs) mlaw 307 [some (.retAddr 1), some (.ref 0), some (.ref 89), some (.int i)] [.int s] (HX w' (MC m')) 98 1755 q
  refine ev_go 2 (pc' := 1578) (L' := [some (.retAddr 1), some (.ref 0), some (.ref 89), some (.int i)]) (st' := []) (h' := HX w' (MC m')) (cs' := 98) (sl' := 1755) rfl ?_
  exact e
set_option maxHeartbeats 40000000 in
set_option maxRecDepth 100000 in
theorem LW_3 (xs : List Int32) (i : Int32) (a1 a2 : Int32) (h1 : ai_ix xs (i + 1) = some a1) (h2 : ai_ix xs (i + 2) = some a2) (w w' : WX) (m m' : WM) (r s : Int32) (hc : Ff_skin_0 a1 a2 w = some (r, w')) (hm : Fm_skin_89 a1 a2 m = some (s, m')) {q : Option Value × ai_H} (e : ai_ev (D2 xs) mlaw 1578 [some (.retAddr 1), some (.ref 0), some (.ref 89), some (.int i)] [] (HX w' (MC m')) 98 1755 q) : ai_ev (D2 xs) mlaw 311 [some (.retAddr 1), some (.ref 0), some (.ref 89), some (.int i)] [] (HX w (MC m)) 98 1755 q := by
  refine ev_go 5 (pc' := 316) (L' := [some (.retAddr 1), some (.ref 0), some (.ref 89), some (.int i)]) (st' := [.int (i + 1), .retAddr 1, .ref 0]) (h' := HX w (MC m)) (cs' := 98) (sl' := 1755) rfl ?_
  refine ev_xald rfl rfl h1 ?_
  show ai_ev (D2 xs) mlaw 317 [some (.retAddr 1), some (.ref 0), some (.ref 89), some (.int i)] [.int a1, .ref 0] (HX w (MC m)) 98 1755 q
  refine ev_go 4 (pc' := 321) (L' := [some (.retAddr 1), some (.ref 0), some (.ref 89), some (.int i)]) (st' := [.int (i + 2), .retAddr 1, .int a1, .ref 0]) (h' := HX w (MC m)) (cs' := 98) (sl' := 1755) rfl ?_
  refine ev_xald rfl rfl h2 ?_
  show ai_ev (D2 xs) mlaw 322 [some (.retAddr 1), some (.ref 0), some (.ref 89), some (.int i)] [.int a2, .int a1, .ref 0] (HX w (MC m)) 98 1755 q
  refine ev_call (M' := mf_skin) (L' := [some (.ref 0), some (.int a1), some (.int a2)]) (rest := []) (rv := some (.int r)) (h' := HX w' (MC m)) rfl (ev_sub (D12 xs) (Ef_skin_0 a1 a2 w _ _ hc (MC m))) ?_
  show ai_ev (D2 xs) mlaw 325 [some (.retAddr 1), some (.ref 0), some (.ref 89), some (.int i)] [.int r] (HX w' (MC m)) 98 1755 q
  refine ev_go 6 (pc' := 331) (L' := [some (.retAddr 1), some (.ref 0), some (.ref 89), some (.int i)]) (st' := [.int (i + 1), .retAddr 1, .ref 89]) (h' := HX w' (MC m)) (cs' := 98) (sl' := 1755) rfl ?_
  refine ev_xald rfl rfl h1 ?_
  show ai_ev (D2 xs) mlaw 332 [some (.retAddr 1), some (.ref 0), some (.ref 89), some (.int i)] [.int a1, .ref 89] (HX w' (MC m)) 98 1755 q
  refine ev_go 4 (pc' := 336) (L' := [some (.retAddr 1), some (.ref 0), some (.ref 89), some (.int i)]) (st' := [.int (i + 2), .retAddr 1, .int a1, .ref 89]) (h' := HX w' (MC m)) (cs' := 98) (sl' := 1755) rfl ?_
  refine ev_xald rfl rfl h2 ?_
  show ai_ev (D2 xs) mlaw 337 [some (.retAddr 1), some (.ref 0), some (.ref 89), some (.int i)] [.int a2, .int a1, .ref 89] (HX w' (MC m)) 98 1755 q
  refine ev_call (M' := mm_skin) (L' := [some (.ref 89), some (.int a1), some (.int a2)]) (rest := []) (rv := some (.int s)) (h' := HX w' (MC m')) rfl (ev_hm xs (Em_skin_89 a1 a2 m _ _ hm (PX w') [])) ?_
  show ai_ev (D2 xs) mlaw 340 [some (.retAddr 1), some (.ref 0), some (.ref 89), some (.int i)] [.int s] (HX w' (MC m')) 98 1755 q
  refine ev_go 2 (pc' := 1578) (L' := [some (.retAddr 1), some (.ref 0), some (.ref 89), some (.int i)]) (st' := []) (h' := HX w' (MC m')) (cs' := 98) (sl' := 1755) rfl ?_
  exact e
set_option maxHeartbeats 40000000 in
set_option maxRecDepth 100000 in
theorem LW_4 (xs : List Int32) (i : Int32) (a1 a2 a3 : Int32) (h1 : ai_ix xs (i + 1) = some a1) (h2 : ai_ix xs (i + 2) = some a2) (h3 : ai_ix xs (i + 3) = some a3) (w w' : WX) (m m' : WM) (r s : Int32) (hc : Ff_tide_0 a1 a2 a3 w = some (r, w')) (hm : Fm_tide_89 a1 a2 a3 m = some (s, m')) {q : Option Value × ai_H} (e : ai_ev (D2 xs) mlaw 1578 [some (.retAddr 1), some (.ref 0), some (.ref 89), some (.int i)] [] (HX w' (MC m')) 98 1755 q) : ai_ev (D2 xs) mlaw 344 [some (.retAddr 1), some (.ref 0), some (.ref 89), some (.int i)] [] (HX w (MC m)) 98 1755 q := by
  refine ev_go 5 (pc' := 349) (L' := [some (.retAddr 1), some (.ref 0), some (.ref 89), some (.int i)]) (st' := [.int (i + 1), .retAddr 1, .ref 0]) (h' := HX w (MC m)) (cs' := 98) (sl' := 1755) rfl ?_
  refine ev_xald rfl rfl h1 ?_
  show ai_ev (D2 xs) mlaw 350 [some (.retAddr 1), some (.ref 0), some (.ref 89), some (.int i)] [.int a1, .ref 0] (HX w (MC m)) 98 1755 q
  refine ev_go 4 (pc' := 354) (L' := [some (.retAddr 1), some (.ref 0), some (.ref 89), some (.int i)]) (st' := [.int (i + 2), .retAddr 1, .int a1, .ref 0]) (h' := HX w (MC m)) (cs' := 98) (sl' := 1755) rfl ?_
  refine ev_xald rfl rfl h2 ?_
  show ai_ev (D2 xs) mlaw 355 [some (.retAddr 1), some (.ref 0), some (.ref 89), some (.int i)] [.int a2, .int a1, .ref 0] (HX w (MC m)) 98 1755 q
  refine ev_go 4 (pc' := 359) (L' := [some (.retAddr 1), some (.ref 0), some (.ref 89), some (.int i)]) (st' := [.int (i + 3), .retAddr 1, .int a2, .int a1, .ref 0]) (h' := HX w (MC m)) (cs' := 98) (sl' := 1755) rfl ?_
  refine ev_xald rfl rfl h3 ?_
  show ai_ev (D2 xs) mlaw 360 [some (.retAddr 1), some (.ref 0), some (.ref 89), some (.int i)] [.int a3, .int a2, .int a1, .ref 0] (HX w (MC m)) 98 1755 q
  refine ev_call (M' := mf_tide) (L' := [some (.ref 0), some (.int a1), some (.int a2), some (.int a3), none, none]) (rest := []) (rv := some (.int r)) (h' := HX w' (MC m)) rfl (ev_sub (D12 xs) (Ef_tide_0 a1 a2 a3 w _ _ hc (MC m))) ?_
  show ai_ev (D2 xs) mlaw 363 [some (.retAddr 1), some (.ref 0), some (.ref 89), some (.int i)] [.int r] (HX w' (MC m)) 98 1755 q
  refine ev_go 6 (pc' := 369) (L' := [some (.retAddr 1), some (.ref 0), some (.ref 89), some (.int i)]) (st' := [.int (i + 1), .retAddr 1, .ref 89]) (h' := HX w' (MC m)) (cs' := 98) (sl' := 1755) rfl ?_
  refine ev_xald rfl rfl h1 ?_
  show ai_ev (D2 xs) mlaw 370 [some (.retAddr 1), some (.ref 0), some (.ref 89), some (.int i)] [.int a1, .ref 89] (HX w' (MC m)) 98 1755 q
  refine ev_go 4 (pc' := 374) (L' := [some (.retAddr 1), some (.ref 0), some (.ref 89), some (.int i)]) (st' := [.int (i + 2), .retAddr 1, .int a1, .ref 89]) (h' := HX w' (MC m)) (cs' := 98) (sl' := 1755) rfl ?_
  refine ev_xald rfl rfl h2 ?_
  show ai_ev (D2 xs) mlaw 375 [some (.retAddr 1), some (.ref 0), some (.ref 89), some (.int i)] [.int a2, .int a1, .ref 89] (HX w' (MC m)) 98 1755 q
  refine ev_go 4 (pc' := 379) (L' := [some (.retAddr 1), some (.ref 0), some (.ref 89), some (.int i)]) (st' := [.int (i + 3), .retAddr 1, .int a2, .int a1, .ref 89]) (h' := HX w' (MC m)) (cs' := 98) (sl' := 1755) rfl ?_
  refine ev_xald rfl rfl h3 ?_
  show ai_ev (D2 xs) mlaw 380 [some (.retAddr 1), some (.ref 0), some (.ref 89), some (.int i)] [.int a3, .int a2, .int a1, .ref 89] (HX w' (MC m)) 98 1755 q
  refine ev_call (M' := mm_tide) (L' := [some (.ref 89), some (.int a1), some (.int a2), some (.int a3)]) (rest := []) (rv := some (.int s)) (h' := HX w' (MC m')) rfl (ev_hm xs (Em_tide_89 a1 a2 a3 m _ _ hm (PX w') [])) ?_
  show ai_ev (D2 xs) mlaw 383 [some (.retAddr 1), some (.ref 0), some (.ref 89), some (.int i)] [.int s] (HX w' (MC m')) 98 1755 q
  refine ev_go 2 (pc' := 1578) (L' := [some (.retAddr 1), some (.ref 0), some (.ref 89), some (.int i)]) (st' := []) (h' := HX w' (MC m')) (cs' := 98) (sl' := 1755) rfl ?_
  exact e
set_option maxHeartbeats 40000000 in
set_option maxRecDepth 100000 in
theorem LW_5 (xs : List Int32) (i : Int32) (a1 a2 : Int32) (h1 : ai_ix xs (i + 1) = some a1) (h2 : ai_ix xs (i + 2) = some a2) (w w' : WX) (m m' : WM) (r s : Int32) (hc : Ff_current_0 a1 a2 w = some (r, w')) (hm : Fm_current_89 a1 a2 m = some (s, m')) {q : Option Value × ai_H} (e : ai_ev (D2 xs) mlaw 1578 [some (.retAddr 1), some (.ref 0), some (.ref 89), some (.int i)] [] (HX w' (MC m')) 98 1755 q) : ai_ev (D2 xs) mlaw 387 [some (.retAddr 1), some (.ref 0), some (.ref 89), some (.int i)] [] (HX w (MC m)) 98 1755 q := by
  refine ev_go 5 (pc' := 392) (L' := [some (.retAddr 1), some (.ref 0), some (.ref 89), some (.int i)]) (st' := [.int (i + 1), .retAddr 1, .ref 0]) (h' := HX w (MC m)) (cs' := 98) (sl' := 1755) rfl ?_
  refine ev_xald rfl rfl h1 ?_
  show ai_ev (D2 xs) mlaw 393 [some (.retAddr 1), some (.ref 0), some (.ref 89), some (.int i)] [.int a1, .ref 0] (HX w (MC m)) 98 1755 q
  refine ev_go 4 (pc' := 397) (L' := [some (.retAddr 1), some (.ref 0), some (.ref 89), some (.int i)]) (st' := [.int (i + 2), .retAddr 1, .int a1, .ref 0]) (h' := HX w (MC m)) (cs' := 98) (sl' := 1755) rfl ?_
  refine ev_xald rfl rfl h2 ?_
  show ai_ev (D2 xs) mlaw 398 [some (.retAddr 1), some (.ref 0), some (.ref 89), some (.int i)] [.int a2, .int a1, .ref 0] (HX w (MC m)) 98 1755 q
  refine ev_call (M' := mf_current) (L' := [some (.ref 0), some (.int a1), some (.int a2), none]) (rest := []) (rv := some (.int r)) (h' := HX w' (MC m)) rfl (ev_sub (D12 xs) (Ef_current_0 a1 a2 w _ _ hc (MC m))) ?_
  show ai_ev (D2 xs) mlaw 401 [some (.retAddr 1), some (.ref 0), some (.ref 89), some (.int i)] [.int r] (HX w' (MC m)) 98 1755 q
  refine ev_go 6 (pc' := 407) (L' := [some (.retAddr 1), some (.ref 0), some (.ref 89), some (.int i)]) (st' := [.int (i + 1), .retAddr 1, .ref 89]) (h' := HX w' (MC m)) (cs' := 98) (sl' := 1755) rfl ?_
  refine ev_xald rfl rfl h1 ?_
  show ai_ev (D2 xs) mlaw 408 [some (.retAddr 1), some (.ref 0), some (.ref 89), some (.int i)] [.int a1, .ref 89] (HX w' (MC m)) 98 1755 q
  refine ev_go 4 (pc' := 412) (L' := [some (.retAddr 1), some (.ref 0), some (.ref 89), some (.int i)]) (st' := [.int (i + 2), .retAddr 1, .int a1, .ref 89]) (h' := HX w' (MC m)) (cs' := 98) (sl' := 1755) rfl ?_
  refine ev_xald rfl rfl h2 ?_
  show ai_ev (D2 xs) mlaw 413 [some (.retAddr 1), some (.ref 0), some (.ref 89), some (.int i)] [.int a2, .int a1, .ref 89] (HX w' (MC m)) 98 1755 q
  refine ev_call (M' := mm_current) (L' := [some (.ref 89), some (.int a1), some (.int a2)]) (rest := []) (rv := some (.int s)) (h' := HX w' (MC m')) rfl (ev_hm xs (Em_current_89 a1 a2 m _ _ hm (PX w') [])) ?_
  show ai_ev (D2 xs) mlaw 416 [some (.retAddr 1), some (.ref 0), some (.ref 89), some (.int i)] [.int s] (HX w' (MC m')) 98 1755 q
  refine ev_go 2 (pc' := 1578) (L' := [some (.retAddr 1), some (.ref 0), some (.ref 89), some (.int i)]) (st' := []) (h' := HX w' (MC m')) (cs' := 98) (sl' := 1755) rfl ?_
  exact e
set_option maxHeartbeats 40000000 in
set_option maxRecDepth 100000 in
theorem LW_6 (xs : List Int32) (i : Int32) (a1 a2 a3 : Int32) (h1 : ai_ix xs (i + 1) = some a1) (h2 : ai_ix xs (i + 2) = some a2) (h3 : ai_ix xs (i + 3) = some a3) (w w' : WX) (m m' : WM) (r s : Int32) (hc : Ff_thing_0 a1 a2 a3 w = some (r, w')) (hm : Fm_thing_89 a1 a2 a3 m = some (s, m')) {q : Option Value × ai_H} (e : ai_ev (D2 xs) mlaw 1578 [some (.retAddr 1), some (.ref 0), some (.ref 89), some (.int i)] [] (HX w' (MC m')) 98 1755 q) : ai_ev (D2 xs) mlaw 420 [some (.retAddr 1), some (.ref 0), some (.ref 89), some (.int i)] [] (HX w (MC m)) 98 1755 q := by
  refine ev_go 5 (pc' := 425) (L' := [some (.retAddr 1), some (.ref 0), some (.ref 89), some (.int i)]) (st' := [.int (i + 1), .retAddr 1, .ref 0]) (h' := HX w (MC m)) (cs' := 98) (sl' := 1755) rfl ?_
  refine ev_xald rfl rfl h1 ?_
  show ai_ev (D2 xs) mlaw 426 [some (.retAddr 1), some (.ref 0), some (.ref 89), some (.int i)] [.int a1, .ref 0] (HX w (MC m)) 98 1755 q
  refine ev_go 4 (pc' := 430) (L' := [some (.retAddr 1), some (.ref 0), some (.ref 89), some (.int i)]) (st' := [.int (i + 2), .retAddr 1, .int a1, .ref 0]) (h' := HX w (MC m)) (cs' := 98) (sl' := 1755) rfl ?_
  refine ev_xald rfl rfl h2 ?_
  show ai_ev (D2 xs) mlaw 431 [some (.retAddr 1), some (.ref 0), some (.ref 89), some (.int i)] [.int a2, .int a1, .ref 0] (HX w (MC m)) 98 1755 q
  refine ev_go 4 (pc' := 435) (L' := [some (.retAddr 1), some (.ref 0), some (.ref 89), some (.int i)]) (st' := [.int (i + 3), .retAddr 1, .int a2, .int a1, .ref 0]) (h' := HX w (MC m)) (cs' := 98) (sl' := 1755) rfl ?_
  refine ev_xald rfl rfl h3 ?_
  show ai_ev (D2 xs) mlaw 436 [some (.retAddr 1), some (.ref 0), some (.ref 89), some (.int i)] [.int a3, .int a2, .int a1, .ref 0] (HX w (MC m)) 98 1755 q
  refine ev_call (M' := mf_thing) (L' := [some (.ref 0), some (.int a1), some (.int a2), some (.int a3)]) (rest := []) (rv := some (.int r)) (h' := HX w' (MC m)) rfl (ev_sub (D12 xs) (Ef_thing_0 a1 a2 a3 w _ _ hc (MC m))) ?_
  show ai_ev (D2 xs) mlaw 439 [some (.retAddr 1), some (.ref 0), some (.ref 89), some (.int i)] [.int r] (HX w' (MC m)) 98 1755 q
  refine ev_go 6 (pc' := 445) (L' := [some (.retAddr 1), some (.ref 0), some (.ref 89), some (.int i)]) (st' := [.int (i + 1), .retAddr 1, .ref 89]) (h' := HX w' (MC m)) (cs' := 98) (sl' := 1755) rfl ?_
  refine ev_xald rfl rfl h1 ?_
  show ai_ev (D2 xs) mlaw 446 [some (.retAddr 1), some (.ref 0), some (.ref 89), some (.int i)] [.int a1, .ref 89] (HX w' (MC m)) 98 1755 q
  refine ev_go 4 (pc' := 450) (L' := [some (.retAddr 1), some (.ref 0), some (.ref 89), some (.int i)]) (st' := [.int (i + 2), .retAddr 1, .int a1, .ref 89]) (h' := HX w' (MC m)) (cs' := 98) (sl' := 1755) rfl ?_
  refine ev_xald rfl rfl h2 ?_
  show ai_ev (D2 xs) mlaw 451 [some (.retAddr 1), some (.ref 0), some (.ref 89), some (.int i)] [.int a2, .int a1, .ref 89] (HX w' (MC m)) 98 1755 q
  refine ev_go 4 (pc' := 455) (L' := [some (.retAddr 1), some (.ref 0), some (.ref 89), some (.int i)]) (st' := [.int (i + 3), .retAddr 1, .int a2, .int a1, .ref 89]) (h' := HX w' (MC m)) (cs' := 98) (sl' := 1755) rfl ?_
  refine ev_xald rfl rfl h3 ?_
  show ai_ev (D2 xs) mlaw 456 [some (.retAddr 1), some (.ref 0), some (.ref 89), some (.int i)] [.int a3, .int a2, .int a1, .ref 89] (HX w' (MC m)) 98 1755 q
  refine ev_call (M' := mm_thing) (L' := [some (.ref 89), some (.int a1), some (.int a2), some (.int a3)]) (rest := []) (rv := some (.int s)) (h' := HX w' (MC m')) rfl (ev_hm xs (Em_thing_89 a1 a2 a3 m _ _ hm (PX w') [])) ?_
  show ai_ev (D2 xs) mlaw 459 [some (.retAddr 1), some (.ref 0), some (.ref 89), some (.int i)] [.int s] (HX w' (MC m')) 98 1755 q
  refine ev_go 2 (pc' := 1578) (L' := [some (.retAddr 1), some (.ref 0), some (.ref 89), some (.int i)]) (st' := []) (h' := HX w' (MC m')) (cs' := 98) (sl' := 1755) rfl ?_
  exact e
set_option maxHeartbeats 40000000 in
set_option maxRecDepth 100000 in
theorem LW_7 (xs : List Int32) (i : Int32) (a1 a2 : Int32) (h1 : ai_ix xs (i + 1) = some a1) (h2 : ai_ix xs (i + 2) = some a2) (w w' : WX) (m m' : WM) (r s : Int32) (hc : Ff_ballast_0 a1 a2 w = some (r, w')) (hm : Fm_ballast_89 a1 a2 m = some (s, m')) {q : Option Value × ai_H} (e : ai_ev (D2 xs) mlaw 1578 [some (.retAddr 1), some (.ref 0), some (.ref 89), some (.int i)] [] (HX w' (MC m')) 98 1755 q) : ai_ev (D2 xs) mlaw 463 [some (.retAddr 1), some (.ref 0), some (.ref 89), some (.int i)] [] (HX w (MC m)) 98 1755 q := by
  refine ev_go 5 (pc' := 468) (L' := [some (.retAddr 1), some (.ref 0), some (.ref 89), some (.int i)]) (st' := [.int (i + 1), .retAddr 1, .ref 0]) (h' := HX w (MC m)) (cs' := 98) (sl' := 1755) rfl ?_
  refine ev_xald rfl rfl h1 ?_
  show ai_ev (D2 xs) mlaw 469 [some (.retAddr 1), some (.ref 0), some (.ref 89), some (.int i)] [.int a1, .ref 0] (HX w (MC m)) 98 1755 q
  refine ev_go 4 (pc' := 473) (L' := [some (.retAddr 1), some (.ref 0), some (.ref 89), some (.int i)]) (st' := [.int (i + 2), .retAddr 1, .int a1, .ref 0]) (h' := HX w (MC m)) (cs' := 98) (sl' := 1755) rfl ?_
  refine ev_xald rfl rfl h2 ?_
  show ai_ev (D2 xs) mlaw 474 [some (.retAddr 1), some (.ref 0), some (.ref 89), some (.int i)] [.int a2, .int a1, .ref 0] (HX w (MC m)) 98 1755 q
  refine ev_call (M' := mf_ballast) (L' := [some (.ref 0), some (.int a1), some (.int a2), none]) (rest := []) (rv := some (.int r)) (h' := HX w' (MC m)) rfl (ev_sub (D12 xs) (Ef_ballast_0 a1 a2 w _ _ hc (MC m))) ?_
  show ai_ev (D2 xs) mlaw 477 [some (.retAddr 1), some (.ref 0), some (.ref 89), some (.int i)] [.int r] (HX w' (MC m)) 98 1755 q
  refine ev_go 6 (pc' := 483) (L' := [some (.retAddr 1), some (.ref 0), some (.ref 89), some (.int i)]) (st' := [.int (i + 1), .retAddr 1, .ref 89]) (h' := HX w' (MC m)) (cs' := 98) (sl' := 1755) rfl ?_
  refine ev_xald rfl rfl h1 ?_
  show ai_ev (D2 xs) mlaw 484 [some (.retAddr 1), some (.ref 0), some (.ref 89), some (.int i)] [.int a1, .ref 89] (HX w' (MC m)) 98 1755 q
  refine ev_go 4 (pc' := 488) (L' := [some (.retAddr 1), some (.ref 0), some (.ref 89), some (.int i)]) (st' := [.int (i + 2), .retAddr 1, .int a1, .ref 89]) (h' := HX w' (MC m)) (cs' := 98) (sl' := 1755) rfl ?_
  refine ev_xald rfl rfl h2 ?_
  show ai_ev (D2 xs) mlaw 489 [some (.retAddr 1), some (.ref 0), some (.ref 89), some (.int i)] [.int a2, .int a1, .ref 89] (HX w' (MC m)) 98 1755 q
  refine ev_call (M' := mm_ballast) (L' := [some (.ref 89), some (.int a1), some (.int a2)]) (rest := []) (rv := some (.int s)) (h' := HX w' (MC m')) rfl (ev_hm xs (Em_ballast_89 a1 a2 m _ _ hm (PX w') [])) ?_
  show ai_ev (D2 xs) mlaw 492 [some (.retAddr 1), some (.ref 0), some (.ref 89), some (.int i)] [.int s] (HX w' (MC m')) 98 1755 q
  refine ev_go 2 (pc' := 1578) (L' := [some (.retAddr 1), some (.ref 0), some (.ref 89), some (.int i)]) (st' := []) (h' := HX w' (MC m')) (cs' := 98) (sl' := 1755) rfl ?_
  exact e
set_option maxHeartbeats 40000000 in
set_option maxRecDepth 100000 in
theorem LW_8 (xs : List Int32) (i : Int32) (a1 a2 a3 : Int32) (h1 : ai_ix xs (i + 1) = some a1) (h2 : ai_ix xs (i + 2) = some a2) (h3 : ai_ix xs (i + 3) = some a3) (w w' : WX) (m m' : WM) (r s : Int32) (hc : Ff_lift_0 a1 a2 a3 w = some (r, w')) (hm : Fm_lift_89 a1 a2 a3 m = some (s, m')) {q : Option Value × ai_H} (e : ai_ev (D2 xs) mlaw 1578 [some (.retAddr 1), some (.ref 0), some (.ref 89), some (.int i)] [] (HX w' (MC m')) 98 1755 q) : ai_ev (D2 xs) mlaw 496 [some (.retAddr 1), some (.ref 0), some (.ref 89), some (.int i)] [] (HX w (MC m)) 98 1755 q := by
  refine ev_go 5 (pc' := 501) (L' := [some (.retAddr 1), some (.ref 0), some (.ref 89), some (.int i)]) (st' := [.int (i + 1), .retAddr 1, .ref 0]) (h' := HX w (MC m)) (cs' := 98) (sl' := 1755) rfl ?_
  refine ev_xald rfl rfl h1 ?_
  show ai_ev (D2 xs) mlaw 502 [some (.retAddr 1), some (.ref 0), some (.ref 89), some (.int i)] [.int a1, .ref 0] (HX w (MC m)) 98 1755 q
  refine ev_go 4 (pc' := 506) (L' := [some (.retAddr 1), some (.ref 0), some (.ref 89), some (.int i)]) (st' := [.int (i + 2), .retAddr 1, .int a1, .ref 0]) (h' := HX w (MC m)) (cs' := 98) (sl' := 1755) rfl ?_
  refine ev_xald rfl rfl h2 ?_
  show ai_ev (D2 xs) mlaw 507 [some (.retAddr 1), some (.ref 0), some (.ref 89), some (.int i)] [.int a2, .int a1, .ref 0] (HX w (MC m)) 98 1755 q
  refine ev_go 4 (pc' := 511) (L' := [some (.retAddr 1), some (.ref 0), some (.ref 89), some (.int i)]) (st' := [.int (i + 3), .retAddr 1, .int a2, .int a1, .ref 0]) (h' := HX w (MC m)) (cs' := 98) (sl' := 1755) rfl ?_
  refine ev_xald rfl rfl h3 ?_
  show ai_ev (D2 xs) mlaw 512 [some (.retAddr 1), some (.ref 0), some (.ref 89), some (.int i)] [.int a3, .int a2, .int a1, .ref 0] (HX w (MC m)) 98 1755 q
  refine ev_call (M' := mf_lift) (L' := [some (.ref 0), some (.int a1), some (.int a2), some (.int a3)]) (rest := []) (rv := some (.int r)) (h' := HX w' (MC m)) rfl (ev_sub (D12 xs) (Ef_lift_0 a1 a2 a3 w _ _ hc (MC m))) ?_
  show ai_ev (D2 xs) mlaw 515 [some (.retAddr 1), some (.ref 0), some (.ref 89), some (.int i)] [.int r] (HX w' (MC m)) 98 1755 q
  refine ev_go 6 (pc' := 521) (L' := [some (.retAddr 1), some (.ref 0), some (.ref 89), some (.int i)]) (st' := [.int (i + 1), .retAddr 1, .ref 89]) (h' := HX w' (MC m)) (cs' := 98) (sl' := 1755) rfl ?_
  refine ev_xald rfl rfl h1 ?_
  show ai_ev (D2 xs) mlaw 522 [some (.retAddr 1), some (.ref 0), some (.ref 89), some (.int i)] [.int a1, .ref 89] (HX w' (MC m)) 98 1755 q
  refine ev_go 4 (pc' := 526) (L' := [some (.retAddr 1), some (.ref 0), some (.ref 89), some (.int i)]) (st' := [.int (i + 2), .retAddr 1, .int a1, .ref 89]) (h' := HX w' (MC m)) (cs' := 98) (sl' := 1755) rfl ?_
  refine ev_xald rfl rfl h2 ?_
  show ai_ev (D2 xs) mlaw 527 [some (.retAddr 1), some (.ref 0), some (.ref 89), some (.int i)] [.int a2, .int a1, .ref 89] (HX w' (MC m)) 98 1755 q
  refine ev_go 4 (pc' := 531) (L' := [some (.retAddr 1), some (.ref 0), some (.ref 89), some (.int i)]) (st' := [.int (i + 3), .retAddr 1, .int a2, .int a1, .ref 89]) (h' := HX w' (MC m)) (cs' := 98) (sl' := 1755) rfl ?_
  refine ev_xald rfl rfl h3 ?_
  show ai_ev (D2 xs) mlaw 532 [some (.retAddr 1), some (.ref 0), some (.ref 89), some (.int i)] [.int a3, .int a2, .int a1, .ref 89] (HX w' (MC m)) 98 1755 q
  refine ev_call (M' := mm_lift) (L' := [some (.ref 89), some (.int a1), some (.int a2), some (.int a3)]) (rest := []) (rv := some (.int s)) (h' := HX w' (MC m')) rfl (ev_hm xs (Em_lift_89 a1 a2 a3 m _ _ hm (PX w') [])) ?_
  show ai_ev (D2 xs) mlaw 535 [some (.retAddr 1), some (.ref 0), some (.ref 89), some (.int i)] [.int s] (HX w' (MC m')) 98 1755 q
  refine ev_go 2 (pc' := 1578) (L' := [some (.retAddr 1), some (.ref 0), some (.ref 89), some (.int i)]) (st' := []) (h' := HX w' (MC m')) (cs' := 98) (sl' := 1755) rfl ?_
  exact e
set_option maxHeartbeats 40000000 in
set_option maxRecDepth 100000 in
theorem LW_9 (xs : List Int32) (i : Int32) (n : Nat) (a1 : Int32) (h1 : ai_ix xs (i + 1) = some a1) (w w' : WX) (m m' : WM) (r s : Int32) (hc : Ff_town_0 n a1 w = some (r, w')) (hm : Fm_town_89 n a1 m = some (s, m')) {q : Option Value × ai_H} (e : ai_ev (D2 xs) mlaw 1578 [some (.retAddr 1), some (.ref 0), some (.ref 89), some (.int i)] [] (HX w' (MC m')) 98 1755 q) : ai_ev (D2 xs) mlaw 539 [some (.retAddr 1), some (.ref 0), some (.ref 89), some (.int i)] [] (HX w (MC m)) 98 1755 q := by
  refine ev_go 5 (pc' := 544) (L' := [some (.retAddr 1), some (.ref 0), some (.ref 89), some (.int i)]) (st' := [.int (i + 1), .retAddr 1, .ref 0]) (h' := HX w (MC m)) (cs' := 98) (sl' := 1755) rfl ?_
  refine ev_xald rfl rfl h1 ?_
  show ai_ev (D2 xs) mlaw 545 [some (.retAddr 1), some (.ref 0), some (.ref 89), some (.int i)] [.int a1, .ref 0] (HX w (MC m)) 98 1755 q
  refine ev_call (M' := mf_town) (L' := [some (.ref 0), some (.int a1)]) (rest := []) (rv := some (.int r)) (h' := HX w' (MC m)) rfl (ev_sub (D12 xs) (Ef_town_0 n a1 w _ _ hc (MC m))) ?_
  show ai_ev (D2 xs) mlaw 548 [some (.retAddr 1), some (.ref 0), some (.ref 89), some (.int i)] [.int r] (HX w' (MC m)) 98 1755 q
  refine ev_go 6 (pc' := 554) (L' := [some (.retAddr 1), some (.ref 0), some (.ref 89), some (.int i)]) (st' := [.int (i + 1), .retAddr 1, .ref 89]) (h' := HX w' (MC m)) (cs' := 98) (sl' := 1755) rfl ?_
  refine ev_xald rfl rfl h1 ?_
  show ai_ev (D2 xs) mlaw 555 [some (.retAddr 1), some (.ref 0), some (.ref 89), some (.int i)] [.int a1, .ref 89] (HX w' (MC m)) 98 1755 q
  refine ev_call (M' := mm_town) (L' := [some (.ref 89), some (.int a1)]) (rest := []) (rv := some (.int s)) (h' := HX w' (MC m')) rfl (ev_hm xs (Em_town_89 n a1 m _ _ hm (PX w') [])) ?_
  show ai_ev (D2 xs) mlaw 558 [some (.retAddr 1), some (.ref 0), some (.ref 89), some (.int i)] [.int s] (HX w' (MC m')) 98 1755 q
  refine ev_go 2 (pc' := 1578) (L' := [some (.retAddr 1), some (.ref 0), some (.ref 89), some (.int i)]) (st' := []) (h' := HX w' (MC m')) (cs' := 98) (sl' := 1755) rfl ?_
  exact e
set_option maxHeartbeats 40000000 in
set_option maxRecDepth 100000 in
theorem LW_10t (xs : List Int32) (i : Int32) (a1 a2 : Int32) (h1 : ai_ix xs (i + 1) = some a1) (h2 : ai_ix xs (i + 2) = some a2) (hb : a2 = 0) (w w' : WX) (m m' : WM) (r s : Int32) (hc : Ff_dam_0 a1 0 w = some (r, w')) (hm : Fm_dam_89 a1 0 m = some (s, m')) {q : Option Value × ai_H} (e : ai_ev (D2 xs) mlaw 1578 [some (.retAddr 1), some (.ref 0), some (.ref 89), some (.int i)] [] (HX w' (MC m')) 98 1755 q) : ai_ev (D2 xs) mlaw 562 [some (.retAddr 1), some (.ref 0), some (.ref 89), some (.int i)] [] (HX w (MC m)) 98 1755 q := by
  refine ev_go 5 (pc' := 567) (L' := [some (.retAddr 1), some (.ref 0), some (.ref 89), some (.int i)]) (st' := [.int (i + 1), .retAddr 1, .ref 0]) (h' := HX w (MC m)) (cs' := 98) (sl' := 1755) rfl ?_
  refine ev_xald rfl rfl h1 ?_
  show ai_ev (D2 xs) mlaw 568 [some (.retAddr 1), some (.ref 0), some (.ref 89), some (.int i)] [.int a1, .ref 0] (HX w (MC m)) 98 1755 q
  refine ev_go 4 (pc' := 572) (L' := [some (.retAddr 1), some (.ref 0), some (.ref 89), some (.int i)]) (st' := [.int (i + 2), .retAddr 1, .int a1, .ref 0]) (h' := HX w (MC m)) (cs' := 98) (sl' := 1755) rfl ?_
  refine ev_xald rfl rfl h2 ?_
  show ai_ev (D2 xs) mlaw 573 [some (.retAddr 1), some (.ref 0), some (.ref 89), some (.int i)] [.int a2, .int a1, .ref 0] (HX w (MC m)) 98 1755 q
  refine ev_if_eq (t := 580) rfl rfl (fun _ => ?_) (fun c9 => absurd hb c9)
  refine ev_go 1 (pc' := 581) (L' := [some (.retAddr 1), some (.ref 0), some (.ref 89), some (.int i)]) (st' := [.int 0, .int a1, .ref 0]) (h' := HX w (MC m)) (cs' := 98) (sl' := 1755) rfl ?_
  refine ev_call (M' := mf_dam) (L' := [some (.ref 0), some (.int a1), some (.int 0)]) (rest := []) (rv := some (.int r)) (h' := HX w' (MC m)) rfl (ev_sub (D12 xs) (Ef_dam_0 a1 0 w _ _ hc (MC m))) ?_
  show ai_ev (D2 xs) mlaw 584 [some (.retAddr 1), some (.ref 0), some (.ref 89), some (.int i)] [.int r] (HX w' (MC m)) 98 1755 q
  refine ev_go 6 (pc' := 590) (L' := [some (.retAddr 1), some (.ref 0), some (.ref 89), some (.int i)]) (st' := [.int (i + 1), .retAddr 1, .ref 89]) (h' := HX w' (MC m)) (cs' := 98) (sl' := 1755) rfl ?_
  refine ev_xald rfl rfl h1 ?_
  show ai_ev (D2 xs) mlaw 591 [some (.retAddr 1), some (.ref 0), some (.ref 89), some (.int i)] [.int a1, .ref 89] (HX w' (MC m)) 98 1755 q
  refine ev_go 4 (pc' := 595) (L' := [some (.retAddr 1), some (.ref 0), some (.ref 89), some (.int i)]) (st' := [.int (i + 2), .retAddr 1, .int a1, .ref 89]) (h' := HX w' (MC m)) (cs' := 98) (sl' := 1755) rfl ?_
  refine ev_xald rfl rfl h2 ?_
  show ai_ev (D2 xs) mlaw 596 [some (.retAddr 1), some (.ref 0), some (.ref 89), some (.int i)] [.int a2, .int a1, .ref 89] (HX w' (MC m)) 98 1755 q
  refine ev_if_eq (t := 603) rfl rfl (fun _ => ?_) (fun c9 => absurd hb c9)
  refine ev_go 1 (pc' := 604) (L' := [some (.retAddr 1), some (.ref 0), some (.ref 89), some (.int i)]) (st' := [.int 0, .int a1, .ref 89]) (h' := HX w' (MC m)) (cs' := 98) (sl' := 1755) rfl ?_
  refine ev_call (M' := mm_dam) (L' := [some (.ref 89), some (.int a1), some (.int 0)]) (rest := []) (rv := some (.int s)) (h' := HX w' (MC m')) rfl (ev_hm xs (Em_dam_89 a1 0 m _ _ hm (PX w') [])) ?_
  show ai_ev (D2 xs) mlaw 607 [some (.retAddr 1), some (.ref 0), some (.ref 89), some (.int i)] [.int s] (HX w' (MC m')) 98 1755 q
  refine ev_go 2 (pc' := 1578) (L' := [some (.retAddr 1), some (.ref 0), some (.ref 89), some (.int i)]) (st' := []) (h' := HX w' (MC m')) (cs' := 98) (sl' := 1755) rfl ?_
  exact e
set_option maxHeartbeats 40000000 in
set_option maxRecDepth 100000 in
theorem LW_10f (xs : List Int32) (i : Int32) (a1 a2 : Int32) (h1 : ai_ix xs (i + 1) = some a1) (h2 : ai_ix xs (i + 2) = some a2) (hb : ¬ a2 = 0) (w w' : WX) (m m' : WM) (r s : Int32) (hc : Ff_dam_0 a1 1 w = some (r, w')) (hm : Fm_dam_89 a1 1 m = some (s, m')) {q : Option Value × ai_H} (e : ai_ev (D2 xs) mlaw 1578 [some (.retAddr 1), some (.ref 0), some (.ref 89), some (.int i)] [] (HX w' (MC m')) 98 1755 q) : ai_ev (D2 xs) mlaw 562 [some (.retAddr 1), some (.ref 0), some (.ref 89), some (.int i)] [] (HX w (MC m)) 98 1755 q := by
  refine ev_go 5 (pc' := 567) (L' := [some (.retAddr 1), some (.ref 0), some (.ref 89), some (.int i)]) (st' := [.int (i + 1), .retAddr 1, .ref 0]) (h' := HX w (MC m)) (cs' := 98) (sl' := 1755) rfl ?_
  refine ev_xald rfl rfl h1 ?_
  show ai_ev (D2 xs) mlaw 568 [some (.retAddr 1), some (.ref 0), some (.ref 89), some (.int i)] [.int a1, .ref 0] (HX w (MC m)) 98 1755 q
  refine ev_go 4 (pc' := 572) (L' := [some (.retAddr 1), some (.ref 0), some (.ref 89), some (.int i)]) (st' := [.int (i + 2), .retAddr 1, .int a1, .ref 0]) (h' := HX w (MC m)) (cs' := 98) (sl' := 1755) rfl ?_
  refine ev_xald rfl rfl h2 ?_
  show ai_ev (D2 xs) mlaw 573 [some (.retAddr 1), some (.ref 0), some (.ref 89), some (.int i)] [.int a2, .int a1, .ref 0] (HX w (MC m)) 98 1755 q
  refine ev_if_eq (t := 580) rfl rfl (fun c9 => absurd c9 hb) (fun _ => ?_)
  refine ev_go 2 (pc' := 581) (L' := [some (.retAddr 1), some (.ref 0), some (.ref 89), some (.int i)]) (st' := [.int 1, .int a1, .ref 0]) (h' := HX w (MC m)) (cs' := 98) (sl' := 1755) rfl ?_
  refine ev_call (M' := mf_dam) (L' := [some (.ref 0), some (.int a1), some (.int 1)]) (rest := []) (rv := some (.int r)) (h' := HX w' (MC m)) rfl (ev_sub (D12 xs) (Ef_dam_0 a1 1 w _ _ hc (MC m))) ?_
  show ai_ev (D2 xs) mlaw 584 [some (.retAddr 1), some (.ref 0), some (.ref 89), some (.int i)] [.int r] (HX w' (MC m)) 98 1755 q
  refine ev_go 6 (pc' := 590) (L' := [some (.retAddr 1), some (.ref 0), some (.ref 89), some (.int i)]) (st' := [.int (i + 1), .retAddr 1, .ref 89]) (h' := HX w' (MC m)) (cs' := 98) (sl' := 1755) rfl ?_
  refine ev_xald rfl rfl h1 ?_
  show ai_ev (D2 xs) mlaw 591 [some (.retAddr 1), some (.ref 0), some (.ref 89), some (.int i)] [.int a1, .ref 89] (HX w' (MC m)) 98 1755 q
  refine ev_go 4 (pc' := 595) (L' := [some (.retAddr 1), some (.ref 0), some (.ref 89), some (.int i)]) (st' := [.int (i + 2), .retAddr 1, .int a1, .ref 89]) (h' := HX w' (MC m)) (cs' := 98) (sl' := 1755) rfl ?_
  refine ev_xald rfl rfl h2 ?_
  show ai_ev (D2 xs) mlaw 596 [some (.retAddr 1), some (.ref 0), some (.ref 89), some (.int i)] [.int a2, .int a1, .ref 89] (HX w' (MC m)) 98 1755 q
  refine ev_if_eq (t := 603) rfl rfl (fun c9 => absurd c9 hb) (fun _ => ?_)
  refine ev_go 2 (pc' := 604) (L' := [some (.retAddr 1), some (.ref 0), some (.ref 89), some (.int i)]) (st' := [.int 1, .int a1, .ref 89]) (h' := HX w' (MC m)) (cs' := 98) (sl' := 1755) rfl ?_
  refine ev_call (M' := mm_dam) (L' := [some (.ref 89), some (.int a1), some (.int 1)]) (rest := []) (rv := some (.int s)) (h' := HX w' (MC m')) rfl (ev_hm xs (Em_dam_89 a1 1 m _ _ hm (PX w') [])) ?_
  show ai_ev (D2 xs) mlaw 607 [some (.retAddr 1), some (.ref 0), some (.ref 89), some (.int i)] [.int s] (HX w' (MC m')) 98 1755 q
  refine ev_go 2 (pc' := 1578) (L' := [some (.retAddr 1), some (.ref 0), some (.ref 89), some (.int i)]) (st' := []) (h' := HX w' (MC m')) (cs' := 98) (sl' := 1755) rfl ?_
  exact e
set_option maxHeartbeats 40000000 in
set_option maxRecDepth 100000 in
theorem LW_11t (xs : List Int32) (i : Int32) (a1 a2 : Int32) (h1 : ai_ix xs (i + 1) = some a1) (h2 : ai_ix xs (i + 2) = some a2) (hb : a2 = 0) (w w' : WX) (m m' : WM) (r s : Int32) (hc : Ff_drop_0 a1 0 w = some (r, w')) (hm : Fm_drop_89 a1 0 m = some (s, m')) {q : Option Value × ai_H} (e : ai_ev (D2 xs) mlaw 1578 [some (.retAddr 1), some (.ref 0), some (.ref 89), some (.int i)] [] (HX w' (MC m')) 98 1755 q) : ai_ev (D2 xs) mlaw 611 [some (.retAddr 1), some (.ref 0), some (.ref 89), some (.int i)] [] (HX w (MC m)) 98 1755 q := by
  refine ev_go 5 (pc' := 616) (L' := [some (.retAddr 1), some (.ref 0), some (.ref 89), some (.int i)]) (st' := [.int (i + 1), .retAddr 1, .ref 0]) (h' := HX w (MC m)) (cs' := 98) (sl' := 1755) rfl ?_
  refine ev_xald rfl rfl h1 ?_
  show ai_ev (D2 xs) mlaw 617 [some (.retAddr 1), some (.ref 0), some (.ref 89), some (.int i)] [.int a1, .ref 0] (HX w (MC m)) 98 1755 q
  refine ev_go 4 (pc' := 621) (L' := [some (.retAddr 1), some (.ref 0), some (.ref 89), some (.int i)]) (st' := [.int (i + 2), .retAddr 1, .int a1, .ref 0]) (h' := HX w (MC m)) (cs' := 98) (sl' := 1755) rfl ?_
  refine ev_xald rfl rfl h2 ?_
  show ai_ev (D2 xs) mlaw 622 [some (.retAddr 1), some (.ref 0), some (.ref 89), some (.int i)] [.int a2, .int a1, .ref 0] (HX w (MC m)) 98 1755 q
  refine ev_if_eq (t := 629) rfl rfl (fun _ => ?_) (fun c9 => absurd hb c9)
  refine ev_go 1 (pc' := 630) (L' := [some (.retAddr 1), some (.ref 0), some (.ref 89), some (.int i)]) (st' := [.int 0, .int a1, .ref 0]) (h' := HX w (MC m)) (cs' := 98) (sl' := 1755) rfl ?_
  refine ev_call (M' := mf_drop) (L' := [some (.ref 0), some (.int a1), some (.int 0)]) (rest := []) (rv := some (.int r)) (h' := HX w' (MC m)) rfl (ev_sub (D12 xs) (Ef_drop_0 a1 0 w _ _ hc (MC m))) ?_
  show ai_ev (D2 xs) mlaw 633 [some (.retAddr 1), some (.ref 0), some (.ref 89), some (.int i)] [.int r] (HX w' (MC m)) 98 1755 q
  refine ev_go 6 (pc' := 639) (L' := [some (.retAddr 1), some (.ref 0), some (.ref 89), some (.int i)]) (st' := [.int (i + 1), .retAddr 1, .ref 89]) (h' := HX w' (MC m)) (cs' := 98) (sl' := 1755) rfl ?_
  refine ev_xald rfl rfl h1 ?_
  show ai_ev (D2 xs) mlaw 640 [some (.retAddr 1), some (.ref 0), some (.ref 89), some (.int i)] [.int a1, .ref 89] (HX w' (MC m)) 98 1755 q
  refine ev_go 4 (pc' := 644) (L' := [some (.retAddr 1), some (.ref 0), some (.ref 89), some (.int i)]) (st' := [.int (i + 2), .retAddr 1, .int a1, .ref 89]) (h' := HX w' (MC m)) (cs' := 98) (sl' := 1755) rfl ?_
  refine ev_xald rfl rfl h2 ?_
  show ai_ev (D2 xs) mlaw 645 [some (.retAddr 1), some (.ref 0), some (.ref 89), some (.int i)] [.int a2, .int a1, .ref 89] (HX w' (MC m)) 98 1755 q
  refine ev_if_eq (t := 652) rfl rfl (fun _ => ?_) (fun c9 => absurd hb c9)
  refine ev_go 1 (pc' := 653) (L' := [some (.retAddr 1), some (.ref 0), some (.ref 89), some (.int i)]) (st' := [.int 0, .int a1, .ref 89]) (h' := HX w' (MC m)) (cs' := 98) (sl' := 1755) rfl ?_
  refine ev_call (M' := mm_drop) (L' := [some (.ref 89), some (.int a1), some (.int 0)]) (rest := []) (rv := some (.int s)) (h' := HX w' (MC m')) rfl (ev_hm xs (Em_drop_89 a1 0 m _ _ hm (PX w') [])) ?_
  show ai_ev (D2 xs) mlaw 656 [some (.retAddr 1), some (.ref 0), some (.ref 89), some (.int i)] [.int s] (HX w' (MC m')) 98 1755 q
  refine ev_go 2 (pc' := 1578) (L' := [some (.retAddr 1), some (.ref 0), some (.ref 89), some (.int i)]) (st' := []) (h' := HX w' (MC m')) (cs' := 98) (sl' := 1755) rfl ?_
  exact e
set_option maxHeartbeats 40000000 in
set_option maxRecDepth 100000 in
theorem LW_11f (xs : List Int32) (i : Int32) (a1 a2 : Int32) (h1 : ai_ix xs (i + 1) = some a1) (h2 : ai_ix xs (i + 2) = some a2) (hb : ¬ a2 = 0) (w w' : WX) (m m' : WM) (r s : Int32) (hc : Ff_drop_0 a1 1 w = some (r, w')) (hm : Fm_drop_89 a1 1 m = some (s, m')) {q : Option Value × ai_H} (e : ai_ev (D2 xs) mlaw 1578 [some (.retAddr 1), some (.ref 0), some (.ref 89), some (.int i)] [] (HX w' (MC m')) 98 1755 q) : ai_ev (D2 xs) mlaw 611 [some (.retAddr 1), some (.ref 0), some (.ref 89), some (.int i)] [] (HX w (MC m)) 98 1755 q := by
  refine ev_go 5 (pc' := 616) (L' := [some (.retAddr 1), some (.ref 0), some (.ref 89), some (.int i)]) (st' := [.int (i + 1), .retAddr 1, .ref 0]) (h' := HX w (MC m)) (cs' := 98) (sl' := 1755) rfl ?_
  refine ev_xald rfl rfl h1 ?_
  show ai_ev (D2 xs) mlaw 617 [some (.retAddr 1), some (.ref 0), some (.ref 89), some (.int i)] [.int a1, .ref 0] (HX w (MC m)) 98 1755 q
  refine ev_go 4 (pc' := 621) (L' := [some (.retAddr 1), some (.ref 0), some (.ref 89), some (.int i)]) (st' := [.int (i + 2), .retAddr 1, .int a1, .ref 0]) (h' := HX w (MC m)) (cs' := 98) (sl' := 1755) rfl ?_
  refine ev_xald rfl rfl h2 ?_
  show ai_ev (D2 xs) mlaw 622 [some (.retAddr 1), some (.ref 0), some (.ref 89), some (.int i)] [.int a2, .int a1, .ref 0] (HX w (MC m)) 98 1755 q
  refine ev_if_eq (t := 629) rfl rfl (fun c9 => absurd c9 hb) (fun _ => ?_)
  refine ev_go 2 (pc' := 630) (L' := [some (.retAddr 1), some (.ref 0), some (.ref 89), some (.int i)]) (st' := [.int 1, .int a1, .ref 0]) (h' := HX w (MC m)) (cs' := 98) (sl' := 1755) rfl ?_
  refine ev_call (M' := mf_drop) (L' := [some (.ref 0), some (.int a1), some (.int 1)]) (rest := []) (rv := some (.int r)) (h' := HX w' (MC m)) rfl (ev_sub (D12 xs) (Ef_drop_0 a1 1 w _ _ hc (MC m))) ?_
  show ai_ev (D2 xs) mlaw 633 [some (.retAddr 1), some (.ref 0), some (.ref 89), some (.int i)] [.int r] (HX w' (MC m)) 98 1755 q
  refine ev_go 6 (pc' := 639) (L' := [some (.retAddr 1), some (.ref 0), some (.ref 89), some (.int i)]) (st' := [.int (i + 1), .retAddr 1, .ref 89]) (h' := HX w' (MC m)) (cs' := 98) (sl' := 1755) rfl ?_
  refine ev_xald rfl rfl h1 ?_
  show ai_ev (D2 xs) mlaw 640 [some (.retAddr 1), some (.ref 0), some (.ref 89), some (.int i)] [.int a1, .ref 89] (HX w' (MC m)) 98 1755 q
  refine ev_go 4 (pc' := 644) (L' := [some (.retAddr 1), some (.ref 0), some (.ref 89), some (.int i)]) (st' := [.int (i + 2), .retAddr 1, .int a1, .ref 89]) (h' := HX w' (MC m)) (cs' := 98) (sl' := 1755) rfl ?_
  refine ev_xald rfl rfl h2 ?_
  show ai_ev (D2 xs) mlaw 645 [some (.retAddr 1), some (.ref 0), some (.ref 89), some (.int i)] [.int a2, .int a1, .ref 89] (HX w' (MC m)) 98 1755 q
  refine ev_if_eq (t := 652) rfl rfl (fun c9 => absurd c9 hb) (fun _ => ?_)
  refine ev_go 2 (pc' := 653) (L' := [some (.retAddr 1), some (.ref 0), some (.ref 89), some (.int i)]) (st' := [.int 1, .int a1, .ref 89]) (h' := HX w' (MC m)) (cs' := 98) (sl' := 1755) rfl ?_
  refine ev_call (M' := mm_drop) (L' := [some (.ref 89), some (.int a1), some (.int 1)]) (rest := []) (rv := some (.int s)) (h' := HX w' (MC m')) rfl (ev_hm xs (Em_drop_89 a1 1 m _ _ hm (PX w') [])) ?_
  show ai_ev (D2 xs) mlaw 656 [some (.retAddr 1), some (.ref 0), some (.ref 89), some (.int i)] [.int s] (HX w' (MC m')) 98 1755 q
  refine ev_go 2 (pc' := 1578) (L' := [some (.retAddr 1), some (.ref 0), some (.ref 89), some (.int i)]) (st' := []) (h' := HX w' (MC m')) (cs' := 98) (sl' := 1755) rfl ?_
  exact e
set_option maxHeartbeats 40000000 in
set_option maxRecDepth 100000 in
theorem LW_12 (xs : List Int32) (i : Int32) (a1 : Int32) (h1 : ai_ix xs (i + 1) = some a1) (w w' : WX) (m m' : WM) (r s : Int32) (hc : Ff_clean_0 a1 w = some (r, w')) (hm : Fm_clean_89 a1 m = some (s, m')) {q : Option Value × ai_H} (e : ai_ev (D2 xs) mlaw 1578 [some (.retAddr 1), some (.ref 0), some (.ref 89), some (.int i)] [] (HX w' (MC m')) 98 1755 q) : ai_ev (D2 xs) mlaw 660 [some (.retAddr 1), some (.ref 0), some (.ref 89), some (.int i)] [] (HX w (MC m)) 98 1755 q := by
  refine ev_go 5 (pc' := 665) (L' := [some (.retAddr 1), some (.ref 0), some (.ref 89), some (.int i)]) (st' := [.int (i + 1), .retAddr 1, .ref 0]) (h' := HX w (MC m)) (cs' := 98) (sl' := 1755) rfl ?_
  refine ev_xald rfl rfl h1 ?_
  show ai_ev (D2 xs) mlaw 666 [some (.retAddr 1), some (.ref 0), some (.ref 89), some (.int i)] [.int a1, .ref 0] (HX w (MC m)) 98 1755 q
  refine ev_call (M' := mf_clean) (L' := [some (.ref 0), some (.int a1)]) (rest := []) (rv := some (.int r)) (h' := HX w' (MC m)) rfl (ev_sub (D12 xs) (Ef_clean_0 a1 w _ _ hc (MC m))) ?_
  show ai_ev (D2 xs) mlaw 669 [some (.retAddr 1), some (.ref 0), some (.ref 89), some (.int i)] [.int r] (HX w' (MC m)) 98 1755 q
  refine ev_go 6 (pc' := 675) (L' := [some (.retAddr 1), some (.ref 0), some (.ref 89), some (.int i)]) (st' := [.int (i + 1), .retAddr 1, .ref 89]) (h' := HX w' (MC m)) (cs' := 98) (sl' := 1755) rfl ?_
  refine ev_xald rfl rfl h1 ?_
  show ai_ev (D2 xs) mlaw 676 [some (.retAddr 1), some (.ref 0), some (.ref 89), some (.int i)] [.int a1, .ref 89] (HX w' (MC m)) 98 1755 q
  refine ev_call (M' := mm_clean) (L' := [some (.ref 89), some (.int a1)]) (rest := []) (rv := some (.int s)) (h' := HX w' (MC m')) rfl (ev_hm xs (Em_clean_89 a1 m _ _ hm (PX w') [])) ?_
  show ai_ev (D2 xs) mlaw 679 [some (.retAddr 1), some (.ref 0), some (.ref 89), some (.int i)] [.int s] (HX w' (MC m')) 98 1755 q
  refine ev_go 2 (pc' := 1578) (L' := [some (.retAddr 1), some (.ref 0), some (.ref 89), some (.int i)]) (st' := []) (h' := HX w' (MC m')) (cs' := 98) (sl' := 1755) rfl ?_
  exact e
set_option maxHeartbeats 40000000 in
set_option maxRecDepth 100000 in
theorem LW_13 (xs : List Int32) (i : Int32) (a1 : Int32) (h1 : ai_ix xs (i + 1) = some a1) (w w' : WX) (m m' : WM) (r s : Int32) (hc : Ff_type_0 a1 w = some (r, w')) (hm : Fm_type_89 a1 m = some (s, m')) {q : Option Value × ai_H} (e : ai_ev (D2 xs) mlaw 1578 [some (.retAddr 1), some (.ref 0), some (.ref 89), some (.int i)] [] (HX w' (MC m')) 98 1755 q) : ai_ev (D2 xs) mlaw 683 [some (.retAddr 1), some (.ref 0), some (.ref 89), some (.int i)] [] (HX w (MC m)) 98 1755 q := by
  refine ev_go 5 (pc' := 688) (L' := [some (.retAddr 1), some (.ref 0), some (.ref 89), some (.int i)]) (st' := [.int (i + 1), .retAddr 1, .ref 0]) (h' := HX w (MC m)) (cs' := 98) (sl' := 1755) rfl ?_
  refine ev_xald rfl rfl h1 ?_
  show ai_ev (D2 xs) mlaw 689 [some (.retAddr 1), some (.ref 0), some (.ref 89), some (.int i)] [.int a1, .ref 0] (HX w (MC m)) 98 1755 q
  refine ev_call (M' := mf_type) (L' := [some (.ref 0), some (.int a1)]) (rest := []) (rv := some (.int r)) (h' := HX w' (MC m)) rfl (ev_sub (D12 xs) (Ef_type_0 a1 w _ _ hc (MC m))) ?_
  show ai_ev (D2 xs) mlaw 692 [some (.retAddr 1), some (.ref 0), some (.ref 89), some (.int i)] [.int r] (HX w' (MC m)) 98 1755 q
  refine ev_go 6 (pc' := 698) (L' := [some (.retAddr 1), some (.ref 0), some (.ref 89), some (.int i)]) (st' := [.int (i + 1), .retAddr 1, .ref 89]) (h' := HX w' (MC m)) (cs' := 98) (sl' := 1755) rfl ?_
  refine ev_xald rfl rfl h1 ?_
  show ai_ev (D2 xs) mlaw 699 [some (.retAddr 1), some (.ref 0), some (.ref 89), some (.int i)] [.int a1, .ref 89] (HX w' (MC m)) 98 1755 q
  refine ev_call (M' := mm_type) (L' := [some (.ref 89), some (.int a1)]) (rest := []) (rv := some (.int s)) (h' := HX w' (MC m')) rfl (ev_hm xs (Em_type_89 a1 m _ _ hm (PX w') [])) ?_
  show ai_ev (D2 xs) mlaw 702 [some (.retAddr 1), some (.ref 0), some (.ref 89), some (.int i)] [.int s] (HX w' (MC m')) 98 1755 q
  refine ev_go 2 (pc' := 1578) (L' := [some (.retAddr 1), some (.ref 0), some (.ref 89), some (.int i)]) (st' := []) (h' := HX w' (MC m')) (cs' := 98) (sl' := 1755) rfl ?_
  exact e
set_option maxHeartbeats 40000000 in
set_option maxRecDepth 100000 in
theorem LW_14 (xs : List Int32) (i : Int32)  (w w' : WX) (m m' : WM) (r s : Int32) (hc : Ff_clear_0 w = some (r, w')) (hm : Fm_clear_89 m = some (s, m')) {q : Option Value × ai_H} (e : ai_ev (D2 xs) mlaw 1578 [some (.retAddr 1), some (.ref 0), some (.ref 89), some (.int i)] [] (HX w' (MC m')) 98 1755 q) : ai_ev (D2 xs) mlaw 706 [some (.retAddr 1), some (.ref 0), some (.ref 89), some (.int i)] [] (HX w (MC m)) 98 1755 q := by
  refine ev_go 1 (pc' := 707) (L' := [some (.retAddr 1), some (.ref 0), some (.ref 89), some (.int i)]) (st' := [.ref 0]) (h' := HX w (MC m)) (cs' := 98) (sl' := 1755) rfl ?_
  refine ev_call (M' := mf_clear) (L' := [some (.ref 0), none]) (rest := []) (rv := some (.int r)) (h' := HX w' (MC m)) rfl (ev_sub (D12 xs) (Ef_clear_0 w _ _ hc (MC m))) ?_
  show ai_ev (D2 xs) mlaw 710 [some (.retAddr 1), some (.ref 0), some (.ref 89), some (.int i)] [.int r] (HX w' (MC m)) 98 1755 q
  refine ev_go 2 (pc' := 712) (L' := [some (.retAddr 1), some (.ref 0), some (.ref 89), some (.int i)]) (st' := [.ref 89]) (h' := HX w' (MC m)) (cs' := 98) (sl' := 1755) rfl ?_
  refine ev_call (M' := mm_clear) (L' := [some (.ref 89), none]) (rest := []) (rv := some (.int s)) (h' := HX w' (MC m')) rfl (ev_hm xs (Em_clear_89 m _ _ hm (PX w') [])) ?_
  show ai_ev (D2 xs) mlaw 715 [some (.retAddr 1), some (.ref 0), some (.ref 89), some (.int i)] [.int s] (HX w' (MC m')) 98 1755 q
  refine ev_go 2 (pc' := 1578) (L' := [some (.retAddr 1), some (.ref 0), some (.ref 89), some (.int i)]) (st' := []) (h' := HX w' (MC m')) (cs' := 98) (sl' := 1755) rfl ?_
  exact e
set_option maxHeartbeats 40000000 in
set_option maxRecDepth 100000 in
theorem LW_15 (xs : List Int32) (i : Int32) (n : Nat)  (w w' : WX) (m m' : WM) (r s : Int32) (hc : Ff_read_0 n w = some (r, w')) (hm : Fm_read_89 n m = some (s, m')) {q : Option Value × ai_H} (e : ai_ev (D2 xs) mlaw 1578 [some (.retAddr 1), some (.ref 0), some (.ref 89), some (.int i)] [] (HX w' (MC m')) 98 1755 q) : ai_ev (D2 xs) mlaw 719 [some (.retAddr 1), some (.ref 0), some (.ref 89), some (.int i)] [] (HX w (MC m)) 98 1755 q := by
  refine ev_go 1 (pc' := 720) (L' := [some (.retAddr 1), some (.ref 0), some (.ref 89), some (.int i)]) (st' := [.ref 0]) (h' := HX w (MC m)) (cs' := 98) (sl' := 1755) rfl ?_
  refine ev_call (M' := mf_read) (L' := [some (.ref 0), none]) (rest := []) (rv := some (.int r)) (h' := HX w' (MC m)) rfl (ev_sub (D12 xs) (Ef_read_0 n w _ _ hc (MC m))) ?_
  show ai_ev (D2 xs) mlaw 723 [some (.retAddr 1), some (.ref 0), some (.ref 89), some (.int i)] [.int r] (HX w' (MC m)) 98 1755 q
  refine ev_go 2 (pc' := 725) (L' := [some (.retAddr 1), some (.ref 0), some (.ref 89), some (.int i)]) (st' := [.ref 89]) (h' := HX w' (MC m)) (cs' := 98) (sl' := 1755) rfl ?_
  refine ev_call (M' := mm_read) (L' := [some (.ref 89), none, none]) (rest := []) (rv := some (.int s)) (h' := HX w' (MC m')) rfl (ev_hm xs (Em_read_89 n m _ _ hm (PX w') [])) ?_
  show ai_ev (D2 xs) mlaw 728 [some (.retAddr 1), some (.ref 0), some (.ref 89), some (.int i)] [.int s] (HX w' (MC m')) 98 1755 q
  refine ev_go 2 (pc' := 1578) (L' := [some (.retAddr 1), some (.ref 0), some (.ref 89), some (.int i)]) (st' := []) (h' := HX w' (MC m')) (cs' := 98) (sl' := 1755) rfl ?_
  exact e
set_option maxHeartbeats 40000000 in
set_option maxRecDepth 100000 in
theorem LW_16 (xs : List Int32) (i : Int32) (n : Nat) (a1 : Int32) (h1 : ai_ix xs (i + 1) = some a1) (w w' : WX) (m m' : WM) (r s : Int32) (hc : Ff_hours_0 a1 w = some (r, w')) (hm : Fm_hours_89 n a1 m = some (s, m')) {q : Option Value × ai_H} (e : ai_ev (D2 xs) mlaw 1578 [some (.retAddr 1), some (.ref 0), some (.ref 89), some (.int i)] [] (HX w' (MC m')) 98 1755 q) : ai_ev (D2 xs) mlaw 732 [some (.retAddr 1), some (.ref 0), some (.ref 89), some (.int i)] [] (HX w (MC m)) 98 1755 q := by
  refine ev_go 5 (pc' := 737) (L' := [some (.retAddr 1), some (.ref 0), some (.ref 89), some (.int i)]) (st' := [.int (i + 1), .retAddr 1, .ref 0]) (h' := HX w (MC m)) (cs' := 98) (sl' := 1755) rfl ?_
  refine ev_xald rfl rfl h1 ?_
  show ai_ev (D2 xs) mlaw 738 [some (.retAddr 1), some (.ref 0), some (.ref 89), some (.int i)] [.int a1, .ref 0] (HX w (MC m)) 98 1755 q
  refine ev_call (M' := mf_hours) (L' := [some (.ref 0), some (.int a1)]) (rest := []) (rv := some (.int r)) (h' := HX w' (MC m)) rfl (ev_sub (D12 xs) (Ef_hours_0 a1 w _ _ hc (MC m))) ?_
  show ai_ev (D2 xs) mlaw 741 [some (.retAddr 1), some (.ref 0), some (.ref 89), some (.int i)] [.int r] (HX w' (MC m)) 98 1755 q
  refine ev_go 6 (pc' := 747) (L' := [some (.retAddr 1), some (.ref 0), some (.ref 89), some (.int i)]) (st' := [.int (i + 1), .retAddr 1, .ref 89]) (h' := HX w' (MC m)) (cs' := 98) (sl' := 1755) rfl ?_
  refine ev_xald rfl rfl h1 ?_
  show ai_ev (D2 xs) mlaw 748 [some (.retAddr 1), some (.ref 0), some (.ref 89), some (.int i)] [.int a1, .ref 89] (HX w' (MC m)) 98 1755 q
  refine ev_call (M' := mm_hours) (L' := [some (.ref 89), some (.int a1), none]) (rest := []) (rv := some (.int s)) (h' := HX w' (MC m')) rfl (ev_hm xs (Em_hours_89 n a1 m _ _ hm (PX w') [])) ?_
  show ai_ev (D2 xs) mlaw 751 [some (.retAddr 1), some (.ref 0), some (.ref 89), some (.int i)] [.int s] (HX w' (MC m')) 98 1755 q
  refine ev_go 2 (pc' := 1578) (L' := [some (.retAddr 1), some (.ref 0), some (.ref 89), some (.int i)]) (st' := []) (h' := HX w' (MC m')) (cs' := 98) (sl' := 1755) rfl ?_
  exact e
set_option maxHeartbeats 40000000 in
set_option maxRecDepth 100000 in
theorem LW_17 (xs : List Int32) (i : Int32)  (w w' : WX) (m m' : WM) (r s : Int32) (hc : Ff_undo_0 w = some (r, w')) (hm : Fm_undo_89 m = some (s, m')) {q : Option Value × ai_H} (e : ai_ev (D2 xs) mlaw 1578 [some (.retAddr 1), some (.ref 0), some (.ref 89), some (.int i)] [] (HX w' (MC m')) 98 1755 q) : ai_ev (D2 xs) mlaw 755 [some (.retAddr 1), some (.ref 0), some (.ref 89), some (.int i)] [] (HX w (MC m)) 98 1755 q := by
  refine ev_go 1 (pc' := 756) (L' := [some (.retAddr 1), some (.ref 0), some (.ref 89), some (.int i)]) (st' := [.ref 0]) (h' := HX w (MC m)) (cs' := 98) (sl' := 1755) rfl ?_
  refine ev_call (M' := mf_undo) (L' := [some (.ref 0)]) (rest := []) (rv := some (.int r)) (h' := HX w' (MC m)) rfl (ev_sub (D12 xs) (Ef_undo_0 w _ _ hc (MC m))) ?_
  show ai_ev (D2 xs) mlaw 759 [some (.retAddr 1), some (.ref 0), some (.ref 89), some (.int i)] [.int r] (HX w' (MC m)) 98 1755 q
  refine ev_go 2 (pc' := 761) (L' := [some (.retAddr 1), some (.ref 0), some (.ref 89), some (.int i)]) (st' := [.ref 89]) (h' := HX w' (MC m)) (cs' := 98) (sl' := 1755) rfl ?_
  refine ev_call (M' := mm_undo) (L' := [some (.ref 89)]) (rest := []) (rv := some (.int s)) (h' := HX w' (MC m')) rfl (ev_hm xs (Em_undo_89 m _ _ hm (PX w') [])) ?_
  show ai_ev (D2 xs) mlaw 764 [some (.retAddr 1), some (.ref 0), some (.ref 89), some (.int i)] [.int s] (HX w' (MC m')) 98 1755 q
  refine ev_go 2 (pc' := 1578) (L' := [some (.retAddr 1), some (.ref 0), some (.ref 89), some (.int i)]) (st' := []) (h' := HX w' (MC m')) (cs' := 98) (sl' := 1755) rfl ?_
  exact e
set_option maxHeartbeats 40000000 in
set_option maxRecDepth 100000 in
theorem LW_18 (xs : List Int32) (i : Int32) (a1 a2 : Int32) (h1 : ai_ix xs (i + 1) = some a1) (h2 : ai_ix xs (i + 2) = some a2) (w w' : WX) (m m' : WM) (r s : Int32) (hc : Ff_of_0 a1 a2 w = some (r, w')) (hm : Fm_of_89 a1 a2 m = some (s, m')) {q : Option Value × ai_H} (e : ai_ev (D2 xs) mlaw 1578 [some (.retAddr 1), some (.ref 0), some (.ref 89), some (.int i)] [] (HX w' (MC m')) 98 1755 q) : ai_ev (D2 xs) mlaw 768 [some (.retAddr 1), some (.ref 0), some (.ref 89), some (.int i)] [] (HX w (MC m)) 98 1755 q := by
  refine ev_go 5 (pc' := 773) (L' := [some (.retAddr 1), some (.ref 0), some (.ref 89), some (.int i)]) (st' := [.int (i + 1), .retAddr 1, .ref 0]) (h' := HX w (MC m)) (cs' := 98) (sl' := 1755) rfl ?_
  refine ev_xald rfl rfl h1 ?_
  show ai_ev (D2 xs) mlaw 774 [some (.retAddr 1), some (.ref 0), some (.ref 89), some (.int i)] [.int a1, .ref 0] (HX w (MC m)) 98 1755 q
  refine ev_go 4 (pc' := 778) (L' := [some (.retAddr 1), some (.ref 0), some (.ref 89), some (.int i)]) (st' := [.int (i + 2), .retAddr 1, .int a1, .ref 0]) (h' := HX w (MC m)) (cs' := 98) (sl' := 1755) rfl ?_
  refine ev_xald rfl rfl h2 ?_
  show ai_ev (D2 xs) mlaw 779 [some (.retAddr 1), some (.ref 0), some (.ref 89), some (.int i)] [.int a2, .int a1, .ref 0] (HX w (MC m)) 98 1755 q
  refine ev_call (M' := mf_of) (L' := [some (.ref 0), some (.int a1), some (.int a2)]) (rest := []) (rv := some (.int r)) (h' := HX w' (MC m)) rfl (ev_sub (D12 xs) (Ef_of_0 a1 a2 w _ _ hc (MC m))) ?_
  show ai_ev (D2 xs) mlaw 782 [some (.retAddr 1), some (.ref 0), some (.ref 89), some (.int i)] [.int r] (HX w' (MC m)) 98 1755 q
  refine ev_go 6 (pc' := 788) (L' := [some (.retAddr 1), some (.ref 0), some (.ref 89), some (.int i)]) (st' := [.int (i + 1), .retAddr 1, .ref 89]) (h' := HX w' (MC m)) (cs' := 98) (sl' := 1755) rfl ?_
  refine ev_xald rfl rfl h1 ?_
  show ai_ev (D2 xs) mlaw 789 [some (.retAddr 1), some (.ref 0), some (.ref 89), some (.int i)] [.int a1, .ref 89] (HX w' (MC m)) 98 1755 q
  refine ev_go 4 (pc' := 793) (L' := [some (.retAddr 1), some (.ref 0), some (.ref 89), some (.int i)]) (st' := [.int (i + 2), .retAddr 1, .int a1, .ref 89]) (h' := HX w' (MC m)) (cs' := 98) (sl' := 1755) rfl ?_
  refine ev_xald rfl rfl h2 ?_
  show ai_ev (D2 xs) mlaw 794 [some (.retAddr 1), some (.ref 0), some (.ref 89), some (.int i)] [.int a2, .int a1, .ref 89] (HX w' (MC m)) 98 1755 q
  refine ev_call (M' := mm_of) (L' := [some (.ref 89), some (.int a1), some (.int a2)]) (rest := []) (rv := some (.int s)) (h' := HX w' (MC m')) rfl (ev_hm xs (Em_of_89 a1 a2 m _ _ hm (PX w') [])) ?_
  show ai_ev (D2 xs) mlaw 797 [some (.retAddr 1), some (.ref 0), some (.ref 89), some (.int i)] [.int s] (HX w' (MC m')) 98 1755 q
  refine ev_go 2 (pc' := 1578) (L' := [some (.retAddr 1), some (.ref 0), some (.ref 89), some (.int i)]) (st' := []) (h' := HX w' (MC m')) (cs' := 98) (sl' := 1755) rfl ?_
  exact e
set_option maxHeartbeats 40000000 in
set_option maxRecDepth 100000 in
theorem LW_19 (xs : List Int32) (i : Int32) (a1 a2 : Int32) (h1 : ai_ix xs (i + 1) = some a1) (h2 : ai_ix xs (i + 2) = some a2) (w w' : WX) (m m' : WM) (r s : Int32) (hc : Ff_deep_0 a1 a2 w = some (r, w')) (hm : Fm_deep_89 a1 a2 m = some (s, m')) {q : Option Value × ai_H} (e : ai_ev (D2 xs) mlaw 1578 [some (.retAddr 1), some (.ref 0), some (.ref 89), some (.int i)] [] (HX w' (MC m')) 98 1755 q) : ai_ev (D2 xs) mlaw 801 [some (.retAddr 1), some (.ref 0), some (.ref 89), some (.int i)] [] (HX w (MC m)) 98 1755 q := by
  refine ev_go 5 (pc' := 806) (L' := [some (.retAddr 1), some (.ref 0), some (.ref 89), some (.int i)]) (st' := [.int (i + 1), .retAddr 1, .ref 0]) (h' := HX w (MC m)) (cs' := 98) (sl' := 1755) rfl ?_
  refine ev_xald rfl rfl h1 ?_
  show ai_ev (D2 xs) mlaw 807 [some (.retAddr 1), some (.ref 0), some (.ref 89), some (.int i)] [.int a1, .ref 0] (HX w (MC m)) 98 1755 q
  refine ev_go 4 (pc' := 811) (L' := [some (.retAddr 1), some (.ref 0), some (.ref 89), some (.int i)]) (st' := [.int (i + 2), .retAddr 1, .int a1, .ref 0]) (h' := HX w (MC m)) (cs' := 98) (sl' := 1755) rfl ?_
  refine ev_xald rfl rfl h2 ?_
  show ai_ev (D2 xs) mlaw 812 [some (.retAddr 1), some (.ref 0), some (.ref 89), some (.int i)] [.int a2, .int a1, .ref 0] (HX w (MC m)) 98 1755 q
  refine ev_call (M' := mf_deep) (L' := [some (.ref 0), some (.int a1), some (.int a2)]) (rest := []) (rv := some (.int r)) (h' := HX w' (MC m)) rfl (ev_sub (D12 xs) (Ef_deep_0 a1 a2 w _ _ hc (MC m))) ?_
  show ai_ev (D2 xs) mlaw 815 [some (.retAddr 1), some (.ref 0), some (.ref 89), some (.int i)] [.int r] (HX w' (MC m)) 98 1755 q
  refine ev_go 6 (pc' := 821) (L' := [some (.retAddr 1), some (.ref 0), some (.ref 89), some (.int i)]) (st' := [.int (i + 1), .retAddr 1, .ref 89]) (h' := HX w' (MC m)) (cs' := 98) (sl' := 1755) rfl ?_
  refine ev_xald rfl rfl h1 ?_
  show ai_ev (D2 xs) mlaw 822 [some (.retAddr 1), some (.ref 0), some (.ref 89), some (.int i)] [.int a1, .ref 89] (HX w' (MC m)) 98 1755 q
  refine ev_go 4 (pc' := 826) (L' := [some (.retAddr 1), some (.ref 0), some (.ref 89), some (.int i)]) (st' := [.int (i + 2), .retAddr 1, .int a1, .ref 89]) (h' := HX w' (MC m)) (cs' := 98) (sl' := 1755) rfl ?_
  refine ev_xald rfl rfl h2 ?_
  show ai_ev (D2 xs) mlaw 827 [some (.retAddr 1), some (.ref 0), some (.ref 89), some (.int i)] [.int a2, .int a1, .ref 89] (HX w' (MC m)) 98 1755 q
  refine ev_call (M' := mm_deep) (L' := [some (.ref 89), some (.int a1), some (.int a2)]) (rest := []) (rv := some (.int s)) (h' := HX w' (MC m')) rfl (ev_hm xs (Em_deep_89 a1 a2 m _ _ hm (PX w') [])) ?_
  show ai_ev (D2 xs) mlaw 830 [some (.retAddr 1), some (.ref 0), some (.ref 89), some (.int i)] [.int s] (HX w' (MC m')) 98 1755 q
  refine ev_go 2 (pc' := 1578) (L' := [some (.retAddr 1), some (.ref 0), some (.ref 89), some (.int i)]) (st' := []) (h' := HX w' (MC m')) (cs' := 98) (sl' := 1755) rfl ?_
  exact e
set_option maxHeartbeats 40000000 in
set_option maxRecDepth 100000 in
theorem LW_20 (xs : List Int32) (i : Int32) (n : Nat) (a1 a2 a3 : Int32) (h1 : ai_ix xs (i + 1) = some a1) (h2 : ai_ix xs (i + 2) = some a2) (h3 : ai_ix xs (i + 3) = some a3) (w w' : WX) (m m' : WM) (r s : Int32) (hc : Ff_rests_0 n a1 a2 a3 w = some (r, w')) (hm : Fm_rests_89 n a1 a2 a3 m = some (s, m')) {q : Option Value × ai_H} (e : ai_ev (D2 xs) mlaw 1578 [some (.retAddr 1), some (.ref 0), some (.ref 89), some (.int i)] [] (HX w' (MC m')) 98 1755 q) : ai_ev (D2 xs) mlaw 834 [some (.retAddr 1), some (.ref 0), some (.ref 89), some (.int i)] [] (HX w (MC m)) 98 1755 q := by
  refine ev_go 5 (pc' := 839) (L' := [some (.retAddr 1), some (.ref 0), some (.ref 89), some (.int i)]) (st' := [.int (i + 1), .retAddr 1, .ref 0]) (h' := HX w (MC m)) (cs' := 98) (sl' := 1755) rfl ?_
  refine ev_xald rfl rfl h1 ?_
  show ai_ev (D2 xs) mlaw 840 [some (.retAddr 1), some (.ref 0), some (.ref 89), some (.int i)] [.int a1, .ref 0] (HX w (MC m)) 98 1755 q
  refine ev_go 4 (pc' := 844) (L' := [some (.retAddr 1), some (.ref 0), some (.ref 89), some (.int i)]) (st' := [.int (i + 2), .retAddr 1, .int a1, .ref 0]) (h' := HX w (MC m)) (cs' := 98) (sl' := 1755) rfl ?_
  refine ev_xald rfl rfl h2 ?_
  show ai_ev (D2 xs) mlaw 845 [some (.retAddr 1), some (.ref 0), some (.ref 89), some (.int i)] [.int a2, .int a1, .ref 0] (HX w (MC m)) 98 1755 q
  refine ev_go 4 (pc' := 849) (L' := [some (.retAddr 1), some (.ref 0), some (.ref 89), some (.int i)]) (st' := [.int (i + 3), .retAddr 1, .int a2, .int a1, .ref 0]) (h' := HX w (MC m)) (cs' := 98) (sl' := 1755) rfl ?_
  refine ev_xald rfl rfl h3 ?_
  show ai_ev (D2 xs) mlaw 850 [some (.retAddr 1), some (.ref 0), some (.ref 89), some (.int i)] [.int a3, .int a2, .int a1, .ref 0] (HX w (MC m)) 98 1755 q
  refine ev_call (M' := mf_rests) (L' := [some (.ref 0), some (.int a1), some (.int a2), some (.int a3)]) (rest := []) (rv := some (.int r)) (h' := HX w' (MC m)) rfl (ev_sub (D12 xs) (Ef_rests_0 n a1 a2 a3 w _ _ hc (MC m))) ?_
  show ai_ev (D2 xs) mlaw 853 [some (.retAddr 1), some (.ref 0), some (.ref 89), some (.int i)] [.int r] (HX w' (MC m)) 98 1755 q
  refine ev_go 6 (pc' := 859) (L' := [some (.retAddr 1), some (.ref 0), some (.ref 89), some (.int i)]) (st' := [.int (i + 1), .retAddr 1, .ref 89]) (h' := HX w' (MC m)) (cs' := 98) (sl' := 1755) rfl ?_
  refine ev_xald rfl rfl h1 ?_
  show ai_ev (D2 xs) mlaw 860 [some (.retAddr 1), some (.ref 0), some (.ref 89), some (.int i)] [.int a1, .ref 89] (HX w' (MC m)) 98 1755 q
  refine ev_go 4 (pc' := 864) (L' := [some (.retAddr 1), some (.ref 0), some (.ref 89), some (.int i)]) (st' := [.int (i + 2), .retAddr 1, .int a1, .ref 89]) (h' := HX w' (MC m)) (cs' := 98) (sl' := 1755) rfl ?_
  refine ev_xald rfl rfl h2 ?_
  show ai_ev (D2 xs) mlaw 865 [some (.retAddr 1), some (.ref 0), some (.ref 89), some (.int i)] [.int a2, .int a1, .ref 89] (HX w' (MC m)) 98 1755 q
  refine ev_go 4 (pc' := 869) (L' := [some (.retAddr 1), some (.ref 0), some (.ref 89), some (.int i)]) (st' := [.int (i + 3), .retAddr 1, .int a2, .int a1, .ref 89]) (h' := HX w' (MC m)) (cs' := 98) (sl' := 1755) rfl ?_
  refine ev_xald rfl rfl h3 ?_
  show ai_ev (D2 xs) mlaw 870 [some (.retAddr 1), some (.ref 0), some (.ref 89), some (.int i)] [.int a3, .int a2, .int a1, .ref 89] (HX w' (MC m)) 98 1755 q
  refine ev_call (M' := mm_rests) (L' := [some (.ref 89), some (.int a1), some (.int a2), some (.int a3)]) (rest := []) (rv := some (.int s)) (h' := HX w' (MC m')) rfl (ev_hm xs (Em_rests_89 n a1 a2 a3 m _ _ hm (PX w') [])) ?_
  show ai_ev (D2 xs) mlaw 873 [some (.retAddr 1), some (.ref 0), some (.ref 89), some (.int i)] [.int s] (HX w' (MC m')) 98 1755 q
  refine ev_go 2 (pc' := 1578) (L' := [some (.retAddr 1), some (.ref 0), some (.ref 89), some (.int i)]) (st' := []) (h' := HX w' (MC m')) (cs' := 98) (sl' := 1755) rfl ?_
  exact e
set_option maxHeartbeats 40000000 in
set_option maxRecDepth 100000 in
theorem LW_21 (xs : List Int32) (i : Int32) (n : Nat) (a1 a2 a3 : Int32) (h1 : ai_ix xs (i + 1) = some a1) (h2 : ai_ix xs (i + 2) = some a2) (h3 : ai_ix xs (i + 3) = some a3) (w w' : WX) (m m' : WM) (r s : Int32) (hc : Ff_sink_0 n a1 a2 a3 w = some (r, w')) (hm : Fm_sink_89 n a1 a2 a3 m = some (s, m')) {q : Option Value × ai_H} (e : ai_ev (D2 xs) mlaw 1578 [some (.retAddr 1), some (.ref 0), some (.ref 89), some (.int i)] [] (HX w' (MC m')) 98 1755 q) : ai_ev (D2 xs) mlaw 877 [some (.retAddr 1), some (.ref 0), some (.ref 89), some (.int i)] [] (HX w (MC m)) 98 1755 q := by
  refine ev_go 5 (pc' := 882) (L' := [some (.retAddr 1), some (.ref 0), some (.ref 89), some (.int i)]) (st' := [.int (i + 1), .retAddr 1, .ref 0]) (h' := HX w (MC m)) (cs' := 98) (sl' := 1755) rfl ?_
  refine ev_xald rfl rfl h1 ?_
  show ai_ev (D2 xs) mlaw 883 [some (.retAddr 1), some (.ref 0), some (.ref 89), some (.int i)] [.int a1, .ref 0] (HX w (MC m)) 98 1755 q
  refine ev_go 4 (pc' := 887) (L' := [some (.retAddr 1), some (.ref 0), some (.ref 89), some (.int i)]) (st' := [.int (i + 2), .retAddr 1, .int a1, .ref 0]) (h' := HX w (MC m)) (cs' := 98) (sl' := 1755) rfl ?_
  refine ev_xald rfl rfl h2 ?_
  show ai_ev (D2 xs) mlaw 888 [some (.retAddr 1), some (.ref 0), some (.ref 89), some (.int i)] [.int a2, .int a1, .ref 0] (HX w (MC m)) 98 1755 q
  refine ev_go 4 (pc' := 892) (L' := [some (.retAddr 1), some (.ref 0), some (.ref 89), some (.int i)]) (st' := [.int (i + 3), .retAddr 1, .int a2, .int a1, .ref 0]) (h' := HX w (MC m)) (cs' := 98) (sl' := 1755) rfl ?_
  refine ev_xald rfl rfl h3 ?_
  show ai_ev (D2 xs) mlaw 893 [some (.retAddr 1), some (.ref 0), some (.ref 89), some (.int i)] [.int a3, .int a2, .int a1, .ref 0] (HX w (MC m)) 98 1755 q
  refine ev_call (M' := mf_sink) (L' := [some (.ref 0), some (.int a1), some (.int a2), some (.int a3)]) (rest := []) (rv := some (.int r)) (h' := HX w' (MC m)) rfl (ev_sub (D12 xs) (Ef_sink_0 n a1 a2 a3 w _ _ hc (MC m))) ?_
  show ai_ev (D2 xs) mlaw 896 [some (.retAddr 1), some (.ref 0), some (.ref 89), some (.int i)] [.int r] (HX w' (MC m)) 98 1755 q
  refine ev_go 6 (pc' := 902) (L' := [some (.retAddr 1), some (.ref 0), some (.ref 89), some (.int i)]) (st' := [.int (i + 1), .retAddr 1, .ref 89]) (h' := HX w' (MC m)) (cs' := 98) (sl' := 1755) rfl ?_
  refine ev_xald rfl rfl h1 ?_
  show ai_ev (D2 xs) mlaw 903 [some (.retAddr 1), some (.ref 0), some (.ref 89), some (.int i)] [.int a1, .ref 89] (HX w' (MC m)) 98 1755 q
  refine ev_go 4 (pc' := 907) (L' := [some (.retAddr 1), some (.ref 0), some (.ref 89), some (.int i)]) (st' := [.int (i + 2), .retAddr 1, .int a1, .ref 89]) (h' := HX w' (MC m)) (cs' := 98) (sl' := 1755) rfl ?_
  refine ev_xald rfl rfl h2 ?_
  show ai_ev (D2 xs) mlaw 908 [some (.retAddr 1), some (.ref 0), some (.ref 89), some (.int i)] [.int a2, .int a1, .ref 89] (HX w' (MC m)) 98 1755 q
  refine ev_go 4 (pc' := 912) (L' := [some (.retAddr 1), some (.ref 0), some (.ref 89), some (.int i)]) (st' := [.int (i + 3), .retAddr 1, .int a2, .int a1, .ref 89]) (h' := HX w' (MC m)) (cs' := 98) (sl' := 1755) rfl ?_
  refine ev_xald rfl rfl h3 ?_
  show ai_ev (D2 xs) mlaw 913 [some (.retAddr 1), some (.ref 0), some (.ref 89), some (.int i)] [.int a3, .int a2, .int a1, .ref 89] (HX w' (MC m)) 98 1755 q
  refine ev_call (M' := mm_sink) (L' := [some (.ref 89), some (.int a1), some (.int a2), some (.int a3)]) (rest := []) (rv := some (.int s)) (h' := HX w' (MC m')) rfl (ev_hm xs (Em_sink_89 n a1 a2 a3 m _ _ hm (PX w') [])) ?_
  show ai_ev (D2 xs) mlaw 916 [some (.retAddr 1), some (.ref 0), some (.ref 89), some (.int i)] [.int s] (HX w' (MC m')) 98 1755 q
  refine ev_go 2 (pc' := 1578) (L' := [some (.retAddr 1), some (.ref 0), some (.ref 89), some (.int i)]) (st' := []) (h' := HX w' (MC m')) (cs' := 98) (sl' := 1755) rfl ?_
  exact e
set_option maxHeartbeats 40000000 in
set_option maxRecDepth 100000 in
theorem LW_22 (xs : List Int32) (i : Int32) (n : Nat) (a1 a2 : Int32) (h1 : ai_ix xs (i + 1) = some a1) (h2 : ai_ix xs (i + 2) = some a2) (w w' : WX) (m m' : WM) (r s : Int32) (hc : Ff_holds_0 n a1 a2 w = some (r, w')) (hm : Fm_holds_89 n a1 a2 m = some (s, m')) {q : Option Value × ai_H} (e : ai_ev (D2 xs) mlaw 1578 [some (.retAddr 1), some (.ref 0), some (.ref 89), some (.int i)] [] (HX w' (MC m')) 98 1755 q) : ai_ev (D2 xs) mlaw 920 [some (.retAddr 1), some (.ref 0), some (.ref 89), some (.int i)] [] (HX w (MC m)) 98 1755 q := by
  refine ev_go 5 (pc' := 925) (L' := [some (.retAddr 1), some (.ref 0), some (.ref 89), some (.int i)]) (st' := [.int (i + 1), .retAddr 1, .ref 0]) (h' := HX w (MC m)) (cs' := 98) (sl' := 1755) rfl ?_
  refine ev_xald rfl rfl h1 ?_
  show ai_ev (D2 xs) mlaw 926 [some (.retAddr 1), some (.ref 0), some (.ref 89), some (.int i)] [.int a1, .ref 0] (HX w (MC m)) 98 1755 q
  refine ev_go 4 (pc' := 930) (L' := [some (.retAddr 1), some (.ref 0), some (.ref 89), some (.int i)]) (st' := [.int (i + 2), .retAddr 1, .int a1, .ref 0]) (h' := HX w (MC m)) (cs' := 98) (sl' := 1755) rfl ?_
  refine ev_xald rfl rfl h2 ?_
  show ai_ev (D2 xs) mlaw 931 [some (.retAddr 1), some (.ref 0), some (.ref 89), some (.int i)] [.int a2, .int a1, .ref 0] (HX w (MC m)) 98 1755 q
  refine ev_call (M' := mf_holds) (L' := [some (.ref 0), some (.int a1), some (.int a2)]) (rest := []) (rv := some (.int r)) (h' := HX w' (MC m)) rfl (ev_sub (D12 xs) (Ef_holds_0 n a1 a2 w _ _ hc (MC m))) ?_
  show ai_ev (D2 xs) mlaw 934 [some (.retAddr 1), some (.ref 0), some (.ref 89), some (.int i)] [.int r] (HX w' (MC m)) 98 1755 q
  refine ev_go 6 (pc' := 940) (L' := [some (.retAddr 1), some (.ref 0), some (.ref 89), some (.int i)]) (st' := [.int (i + 1), .retAddr 1, .ref 89]) (h' := HX w' (MC m)) (cs' := 98) (sl' := 1755) rfl ?_
  refine ev_xald rfl rfl h1 ?_
  show ai_ev (D2 xs) mlaw 941 [some (.retAddr 1), some (.ref 0), some (.ref 89), some (.int i)] [.int a1, .ref 89] (HX w' (MC m)) 98 1755 q
  refine ev_go 4 (pc' := 945) (L' := [some (.retAddr 1), some (.ref 0), some (.ref 89), some (.int i)]) (st' := [.int (i + 2), .retAddr 1, .int a1, .ref 89]) (h' := HX w' (MC m)) (cs' := 98) (sl' := 1755) rfl ?_
  refine ev_xald rfl rfl h2 ?_
  show ai_ev (D2 xs) mlaw 946 [some (.retAddr 1), some (.ref 0), some (.ref 89), some (.int i)] [.int a2, .int a1, .ref 89] (HX w' (MC m)) 98 1755 q
  refine ev_call (M' := mm_holds) (L' := [some (.ref 89), some (.int a1), some (.int a2)]) (rest := []) (rv := some (.int s)) (h' := HX w' (MC m')) rfl (ev_hm xs (Em_holds_89 n a1 a2 m _ _ hm (PX w') [])) ?_
  show ai_ev (D2 xs) mlaw 949 [some (.retAddr 1), some (.ref 0), some (.ref 89), some (.int i)] [.int s] (HX w' (MC m')) 98 1755 q
  refine ev_go 2 (pc' := 1578) (L' := [some (.retAddr 1), some (.ref 0), some (.ref 89), some (.int i)]) (st' := []) (h' := HX w' (MC m')) (cs' := 98) (sl' := 1755) rfl ?_
  exact e
set_option maxHeartbeats 40000000 in
set_option maxRecDepth 100000 in
theorem LW_23 (xs : List Int32) (i : Int32) (n : Nat) (a1 a2 a3 : Int32) (h1 : ai_ix xs (i + 1) = some a1) (h2 : ai_ix xs (i + 2) = some a2) (h3 : ai_ix xs (i + 3) = some a3) (w w' : WX) (m m' : WM) (r s : Int32) (hc : Ff_bestHour_0 n a1 a2 a3 w = some (r, w')) (hm : Fm_bestHour_89 n a1 a2 a3 m = some (s, m')) {q : Option Value × ai_H} (e : ai_ev (D2 xs) mlaw 1578 [some (.retAddr 1), some (.ref 0), some (.ref 89), some (.int i)] [] (HX w' (MC m')) 98 1755 q) : ai_ev (D2 xs) mlaw 953 [some (.retAddr 1), some (.ref 0), some (.ref 89), some (.int i)] [] (HX w (MC m)) 98 1755 q := by
  refine ev_go 5 (pc' := 958) (L' := [some (.retAddr 1), some (.ref 0), some (.ref 89), some (.int i)]) (st' := [.int (i + 1), .retAddr 1, .ref 0]) (h' := HX w (MC m)) (cs' := 98) (sl' := 1755) rfl ?_
  refine ev_xald rfl rfl h1 ?_
  show ai_ev (D2 xs) mlaw 959 [some (.retAddr 1), some (.ref 0), some (.ref 89), some (.int i)] [.int a1, .ref 0] (HX w (MC m)) 98 1755 q
  refine ev_go 4 (pc' := 963) (L' := [some (.retAddr 1), some (.ref 0), some (.ref 89), some (.int i)]) (st' := [.int (i + 2), .retAddr 1, .int a1, .ref 0]) (h' := HX w (MC m)) (cs' := 98) (sl' := 1755) rfl ?_
  refine ev_xald rfl rfl h2 ?_
  show ai_ev (D2 xs) mlaw 964 [some (.retAddr 1), some (.ref 0), some (.ref 89), some (.int i)] [.int a2, .int a1, .ref 0] (HX w (MC m)) 98 1755 q
  refine ev_go 4 (pc' := 968) (L' := [some (.retAddr 1), some (.ref 0), some (.ref 89), some (.int i)]) (st' := [.int (i + 3), .retAddr 1, .int a2, .int a1, .ref 0]) (h' := HX w (MC m)) (cs' := 98) (sl' := 1755) rfl ?_
  refine ev_xald rfl rfl h3 ?_
  show ai_ev (D2 xs) mlaw 969 [some (.retAddr 1), some (.ref 0), some (.ref 89), some (.int i)] [.int a3, .int a2, .int a1, .ref 0] (HX w (MC m)) 98 1755 q
  refine ev_call (M' := mf_bestHour) (L' := [some (.ref 0), some (.int a1), some (.int a2), some (.int a3), none, none, none, none]) (rest := []) (rv := some (.int r)) (h' := HX w' (MC m)) rfl (ev_sub (D12 xs) (Ef_bestHour_0 n a1 a2 a3 w _ _ hc (MC m))) ?_
  show ai_ev (D2 xs) mlaw 972 [some (.retAddr 1), some (.ref 0), some (.ref 89), some (.int i)] [.int r] (HX w' (MC m)) 98 1755 q
  refine ev_go 6 (pc' := 978) (L' := [some (.retAddr 1), some (.ref 0), some (.ref 89), some (.int i)]) (st' := [.int (i + 1), .retAddr 1, .ref 89]) (h' := HX w' (MC m)) (cs' := 98) (sl' := 1755) rfl ?_
  refine ev_xald rfl rfl h1 ?_
  show ai_ev (D2 xs) mlaw 979 [some (.retAddr 1), some (.ref 0), some (.ref 89), some (.int i)] [.int a1, .ref 89] (HX w' (MC m)) 98 1755 q
  refine ev_go 4 (pc' := 983) (L' := [some (.retAddr 1), some (.ref 0), some (.ref 89), some (.int i)]) (st' := [.int (i + 2), .retAddr 1, .int a1, .ref 89]) (h' := HX w' (MC m)) (cs' := 98) (sl' := 1755) rfl ?_
  refine ev_xald rfl rfl h2 ?_
  show ai_ev (D2 xs) mlaw 984 [some (.retAddr 1), some (.ref 0), some (.ref 89), some (.int i)] [.int a2, .int a1, .ref 89] (HX w' (MC m)) 98 1755 q
  refine ev_go 4 (pc' := 988) (L' := [some (.retAddr 1), some (.ref 0), some (.ref 89), some (.int i)]) (st' := [.int (i + 3), .retAddr 1, .int a2, .int a1, .ref 89]) (h' := HX w' (MC m)) (cs' := 98) (sl' := 1755) rfl ?_
  refine ev_xald rfl rfl h3 ?_
  show ai_ev (D2 xs) mlaw 989 [some (.retAddr 1), some (.ref 0), some (.ref 89), some (.int i)] [.int a3, .int a2, .int a1, .ref 89] (HX w' (MC m)) 98 1755 q
  refine ev_call (M' := mm_bestHour) (L' := [some (.ref 89), some (.int a1), some (.int a2), some (.int a3), none, none, none, none]) (rest := []) (rv := some (.int s)) (h' := HX w' (MC m')) rfl (ev_hm xs (Em_bestHour_89 n a1 a2 a3 m _ _ hm (PX w') [])) ?_
  show ai_ev (D2 xs) mlaw 992 [some (.retAddr 1), some (.ref 0), some (.ref 89), some (.int i)] [.int s] (HX w' (MC m')) 98 1755 q
  refine ev_go 2 (pc' := 1578) (L' := [some (.retAddr 1), some (.ref 0), some (.ref 89), some (.int i)]) (st' := []) (h' := HX w' (MC m')) (cs' := 98) (sl' := 1755) rfl ?_
  exact e
set_option maxHeartbeats 40000000 in
set_option maxRecDepth 100000 in
theorem LW_24 (xs : List Int32) (i : Int32) (n : Nat) (a1 a2 : Int32) (h1 : ai_ix xs (i + 1) = some a1) (h2 : ai_ix xs (i + 2) = some a2) (w w' : WX) (m m' : WM) (r s : Int32) (hc : Ff_soonest_0 n a1 a2 w = some (r, w')) (hm : Fm_soonest_89 n a1 a2 m = some (s, m')) {q : Option Value × ai_H} (e : ai_ev (D2 xs) mlaw 1578 [some (.retAddr 1), some (.ref 0), some (.ref 89), some (.int i)] [] (HX w' (MC m')) 98 1755 q) : ai_ev (D2 xs) mlaw 996 [some (.retAddr 1), some (.ref 0), some (.ref 89), some (.int i)] [] (HX w (MC m)) 98 1755 q := by
  refine ev_go 5 (pc' := 1001) (L' := [some (.retAddr 1), some (.ref 0), some (.ref 89), some (.int i)]) (st' := [.int (i + 1), .retAddr 1, .ref 0]) (h' := HX w (MC m)) (cs' := 98) (sl' := 1755) rfl ?_
  refine ev_xald rfl rfl h1 ?_
  show ai_ev (D2 xs) mlaw 1002 [some (.retAddr 1), some (.ref 0), some (.ref 89), some (.int i)] [.int a1, .ref 0] (HX w (MC m)) 98 1755 q
  refine ev_go 4 (pc' := 1006) (L' := [some (.retAddr 1), some (.ref 0), some (.ref 89), some (.int i)]) (st' := [.int (i + 2), .retAddr 1, .int a1, .ref 0]) (h' := HX w (MC m)) (cs' := 98) (sl' := 1755) rfl ?_
  refine ev_xald rfl rfl h2 ?_
  show ai_ev (D2 xs) mlaw 1007 [some (.retAddr 1), some (.ref 0), some (.ref 89), some (.int i)] [.int a2, .int a1, .ref 0] (HX w (MC m)) 98 1755 q
  refine ev_call (M' := mf_soonest) (L' := [some (.ref 0), some (.int a1), some (.int a2)]) (rest := []) (rv := some (.int r)) (h' := HX w' (MC m)) rfl (ev_sub (D12 xs) (Ef_soonest_0 n a1 a2 w _ _ hc (MC m))) ?_
  show ai_ev (D2 xs) mlaw 1010 [some (.retAddr 1), some (.ref 0), some (.ref 89), some (.int i)] [.int r] (HX w' (MC m)) 98 1755 q
  refine ev_go 6 (pc' := 1016) (L' := [some (.retAddr 1), some (.ref 0), some (.ref 89), some (.int i)]) (st' := [.int (i + 1), .retAddr 1, .ref 89]) (h' := HX w' (MC m)) (cs' := 98) (sl' := 1755) rfl ?_
  refine ev_xald rfl rfl h1 ?_
  show ai_ev (D2 xs) mlaw 1017 [some (.retAddr 1), some (.ref 0), some (.ref 89), some (.int i)] [.int a1, .ref 89] (HX w' (MC m)) 98 1755 q
  refine ev_go 4 (pc' := 1021) (L' := [some (.retAddr 1), some (.ref 0), some (.ref 89), some (.int i)]) (st' := [.int (i + 2), .retAddr 1, .int a1, .ref 89]) (h' := HX w' (MC m)) (cs' := 98) (sl' := 1755) rfl ?_
  refine ev_xald rfl rfl h2 ?_
  show ai_ev (D2 xs) mlaw 1022 [some (.retAddr 1), some (.ref 0), some (.ref 89), some (.int i)] [.int a2, .int a1, .ref 89] (HX w' (MC m)) 98 1755 q
  refine ev_call (M' := mm_soonest) (L' := [some (.ref 89), some (.int a1), some (.int a2), none, none]) (rest := []) (rv := some (.int s)) (h' := HX w' (MC m')) rfl (ev_hm xs (Em_soonest_89 n a1 a2 m _ _ hm (PX w') [])) ?_
  show ai_ev (D2 xs) mlaw 1025 [some (.retAddr 1), some (.ref 0), some (.ref 89), some (.int i)] [.int s] (HX w' (MC m')) 98 1755 q
  refine ev_go 2 (pc' := 1578) (L' := [some (.retAddr 1), some (.ref 0), some (.ref 89), some (.int i)]) (st' := []) (h' := HX w' (MC m')) (cs' := 98) (sl' := 1755) rfl ?_
  exact e
set_option maxHeartbeats 40000000 in
set_option maxRecDepth 100000 in
theorem LW_25 (xs : List Int32) (i : Int32) (n : Nat) (a1 : Int32) (h1 : ai_ix xs (i + 1) = some a1) (w w' : WX) (m m' : WM) (r s : Int32) (hc : Ff_net_0 n a1 w = some (r, w')) (hm : Fm_net_89 n a1 m = some (s, m')) {q : Option Value × ai_H} (e : ai_ev (D2 xs) mlaw 1578 [some (.retAddr 1), some (.ref 0), some (.ref 89), some (.int i)] [] (HX w' (MC m')) 98 1755 q) : ai_ev (D2 xs) mlaw 1029 [some (.retAddr 1), some (.ref 0), some (.ref 89), some (.int i)] [] (HX w (MC m)) 98 1755 q := by
  refine ev_go 5 (pc' := 1034) (L' := [some (.retAddr 1), some (.ref 0), some (.ref 89), some (.int i)]) (st' := [.int (i + 1), .retAddr 1, .ref 0]) (h' := HX w (MC m)) (cs' := 98) (sl' := 1755) rfl ?_
  refine ev_xald rfl rfl h1 ?_
  show ai_ev (D2 xs) mlaw 1035 [some (.retAddr 1), some (.ref 0), some (.ref 89), some (.int i)] [.int a1, .ref 0] (HX w (MC m)) 98 1755 q
  refine ev_call (M' := mf_net) (L' := [some (.ref 0), some (.int a1), none, none, none]) (rest := []) (rv := some (.int r)) (h' := HX w' (MC m)) rfl (ev_sub (D12 xs) (Ef_net_0 n a1 w _ _ hc (MC m))) ?_
  show ai_ev (D2 xs) mlaw 1038 [some (.retAddr 1), some (.ref 0), some (.ref 89), some (.int i)] [.int r] (HX w' (MC m)) 98 1755 q
  refine ev_go 6 (pc' := 1044) (L' := [some (.retAddr 1), some (.ref 0), some (.ref 89), some (.int i)]) (st' := [.int (i + 1), .retAddr 1, .ref 89]) (h' := HX w' (MC m)) (cs' := 98) (sl' := 1755) rfl ?_
  refine ev_xald rfl rfl h1 ?_
  show ai_ev (D2 xs) mlaw 1045 [some (.retAddr 1), some (.ref 0), some (.ref 89), some (.int i)] [.int a1, .ref 89] (HX w' (MC m)) 98 1755 q
  refine ev_call (M' := mm_net) (L' := [some (.ref 89), some (.int a1), none, none]) (rest := []) (rv := some (.int s)) (h' := HX w' (MC m')) rfl (ev_hm xs (Em_net_89 n a1 m _ _ hm (PX w') [])) ?_
  show ai_ev (D2 xs) mlaw 1048 [some (.retAddr 1), some (.ref 0), some (.ref 89), some (.int i)] [.int s] (HX w' (MC m')) 98 1755 q
  refine ev_go 2 (pc' := 1578) (L' := [some (.retAddr 1), some (.ref 0), some (.ref 89), some (.int i)]) (st' := []) (h' := HX w' (MC m')) (cs' := 98) (sl' := 1755) rfl ?_
  exact e
set_option maxHeartbeats 40000000 in
set_option maxRecDepth 100000 in
theorem LW_26 (xs : List Int32) (i : Int32) (n : Nat) (a1 a2 a3 a4 : Int32) (h1 : ai_ix xs (i + 1) = some a1) (h2 : ai_ix xs (i + 2) = some a2) (h3 : ai_ix xs (i + 3) = some a3) (h4 : ai_ix xs (i + 4) = some a4) (w w' : WX) (m m' : WM) (r s : Int32) (hc : Ff_spill_0 n a1 a2 a3 a4 w = some (r, w')) (hm : Fm_spill_89 n a1 a2 a3 a4 m = some (s, m')) {q : Option Value × ai_H} (e : ai_ev (D2 xs) mlaw 1578 [some (.retAddr 1), some (.ref 0), some (.ref 89), some (.int i)] [] (HX w' (MC m')) 98 1755 q) : ai_ev (D2 xs) mlaw 1052 [some (.retAddr 1), some (.ref 0), some (.ref 89), some (.int i)] [] (HX w (MC m)) 98 1755 q := by
  refine ev_go 5 (pc' := 1057) (L' := [some (.retAddr 1), some (.ref 0), some (.ref 89), some (.int i)]) (st' := [.int (i + 1), .retAddr 1, .ref 0]) (h' := HX w (MC m)) (cs' := 98) (sl' := 1755) rfl ?_
  refine ev_xald rfl rfl h1 ?_
  show ai_ev (D2 xs) mlaw 1058 [some (.retAddr 1), some (.ref 0), some (.ref 89), some (.int i)] [.int a1, .ref 0] (HX w (MC m)) 98 1755 q
  refine ev_go 4 (pc' := 1062) (L' := [some (.retAddr 1), some (.ref 0), some (.ref 89), some (.int i)]) (st' := [.int (i + 2), .retAddr 1, .int a1, .ref 0]) (h' := HX w (MC m)) (cs' := 98) (sl' := 1755) rfl ?_
  refine ev_xald rfl rfl h2 ?_
  show ai_ev (D2 xs) mlaw 1063 [some (.retAddr 1), some (.ref 0), some (.ref 89), some (.int i)] [.int a2, .int a1, .ref 0] (HX w (MC m)) 98 1755 q
  refine ev_go 4 (pc' := 1067) (L' := [some (.retAddr 1), some (.ref 0), some (.ref 89), some (.int i)]) (st' := [.int (i + 3), .retAddr 1, .int a2, .int a1, .ref 0]) (h' := HX w (MC m)) (cs' := 98) (sl' := 1755) rfl ?_
  refine ev_xald rfl rfl h3 ?_
  show ai_ev (D2 xs) mlaw 1068 [some (.retAddr 1), some (.ref 0), some (.ref 89), some (.int i)] [.int a3, .int a2, .int a1, .ref 0] (HX w (MC m)) 98 1755 q
  refine ev_go 4 (pc' := 1072) (L' := [some (.retAddr 1), some (.ref 0), some (.ref 89), some (.int i)]) (st' := [.int (i + 4), .retAddr 1, .int a3, .int a2, .int a1, .ref 0]) (h' := HX w (MC m)) (cs' := 98) (sl' := 1755) rfl ?_
  refine ev_xald rfl rfl h4 ?_
  show ai_ev (D2 xs) mlaw 1073 [some (.retAddr 1), some (.ref 0), some (.ref 89), some (.int i)] [.int a4, .int a3, .int a2, .int a1, .ref 0] (HX w (MC m)) 98 1755 q
  refine ev_call (M' := mf_spill) (L' := [some (.ref 0), some (.int a1), some (.int a2), some (.int a3), some (.int a4), none]) (rest := []) (rv := some (.int r)) (h' := HX w' (MC m)) rfl (ev_sub (D12 xs) (Ef_spill_0 n a1 a2 a3 a4 w _ _ hc (MC m))) ?_
  show ai_ev (D2 xs) mlaw 1076 [some (.retAddr 1), some (.ref 0), some (.ref 89), some (.int i)] [.int r] (HX w' (MC m)) 98 1755 q
  refine ev_go 6 (pc' := 1082) (L' := [some (.retAddr 1), some (.ref 0), some (.ref 89), some (.int i)]) (st' := [.int (i + 1), .retAddr 1, .ref 89]) (h' := HX w' (MC m)) (cs' := 98) (sl' := 1755) rfl ?_
  refine ev_xald rfl rfl h1 ?_
  show ai_ev (D2 xs) mlaw 1083 [some (.retAddr 1), some (.ref 0), some (.ref 89), some (.int i)] [.int a1, .ref 89] (HX w' (MC m)) 98 1755 q
  refine ev_go 4 (pc' := 1087) (L' := [some (.retAddr 1), some (.ref 0), some (.ref 89), some (.int i)]) (st' := [.int (i + 2), .retAddr 1, .int a1, .ref 89]) (h' := HX w' (MC m)) (cs' := 98) (sl' := 1755) rfl ?_
  refine ev_xald rfl rfl h2 ?_
  show ai_ev (D2 xs) mlaw 1088 [some (.retAddr 1), some (.ref 0), some (.ref 89), some (.int i)] [.int a2, .int a1, .ref 89] (HX w' (MC m)) 98 1755 q
  refine ev_go 4 (pc' := 1092) (L' := [some (.retAddr 1), some (.ref 0), some (.ref 89), some (.int i)]) (st' := [.int (i + 3), .retAddr 1, .int a2, .int a1, .ref 89]) (h' := HX w' (MC m)) (cs' := 98) (sl' := 1755) rfl ?_
  refine ev_xald rfl rfl h3 ?_
  show ai_ev (D2 xs) mlaw 1093 [some (.retAddr 1), some (.ref 0), some (.ref 89), some (.int i)] [.int a3, .int a2, .int a1, .ref 89] (HX w' (MC m)) 98 1755 q
  refine ev_go 4 (pc' := 1097) (L' := [some (.retAddr 1), some (.ref 0), some (.ref 89), some (.int i)]) (st' := [.int (i + 4), .retAddr 1, .int a3, .int a2, .int a1, .ref 89]) (h' := HX w' (MC m)) (cs' := 98) (sl' := 1755) rfl ?_
  refine ev_xald rfl rfl h4 ?_
  show ai_ev (D2 xs) mlaw 1098 [some (.retAddr 1), some (.ref 0), some (.ref 89), some (.int i)] [.int a4, .int a3, .int a2, .int a1, .ref 89] (HX w' (MC m)) 98 1755 q
  refine ev_call (M' := mm_spill) (L' := [some (.ref 89), some (.int a1), some (.int a2), some (.int a3), some (.int a4), none]) (rest := []) (rv := some (.int s)) (h' := HX w' (MC m')) rfl (ev_hm xs (Em_spill_89 n a1 a2 a3 a4 m _ _ hm (PX w') [])) ?_
  show ai_ev (D2 xs) mlaw 1101 [some (.retAddr 1), some (.ref 0), some (.ref 89), some (.int i)] [.int s] (HX w' (MC m')) 98 1755 q
  refine ev_go 2 (pc' := 1578) (L' := [some (.retAddr 1), some (.ref 0), some (.ref 89), some (.int i)]) (st' := []) (h' := HX w' (MC m')) (cs' := 98) (sl' := 1755) rfl ?_
  exact e
set_option maxHeartbeats 40000000 in
set_option maxRecDepth 100000 in
theorem LW_27 (xs : List Int32) (i : Int32) (n : Nat) (a1 a2 a3 a4 : Int32) (h1 : ai_ix xs (i + 1) = some a1) (h2 : ai_ix xs (i + 2) = some a2) (h3 : ai_ix xs (i + 3) = some a3) (h4 : ai_ix xs (i + 4) = some a4) (w w' : WX) (m m' : WM) (r s : Int32) (hc : Ff_keepOut_0 n a1 a2 a3 a4 w = some (r, w')) (hm : Fm_keepOut_89 n a1 a2 a3 a4 m = some (s, m')) {q : Option Value × ai_H} (e : ai_ev (D2 xs) mlaw 1578 [some (.retAddr 1), some (.ref 0), some (.ref 89), some (.int i)] [] (HX w' (MC m')) 98 1755 q) : ai_ev (D2 xs) mlaw 1105 [some (.retAddr 1), some (.ref 0), some (.ref 89), some (.int i)] [] (HX w (MC m)) 98 1755 q := by
  refine ev_go 5 (pc' := 1110) (L' := [some (.retAddr 1), some (.ref 0), some (.ref 89), some (.int i)]) (st' := [.int (i + 1), .retAddr 1, .ref 0]) (h' := HX w (MC m)) (cs' := 98) (sl' := 1755) rfl ?_
  refine ev_xald rfl rfl h1 ?_
  show ai_ev (D2 xs) mlaw 1111 [some (.retAddr 1), some (.ref 0), some (.ref 89), some (.int i)] [.int a1, .ref 0] (HX w (MC m)) 98 1755 q
  refine ev_go 4 (pc' := 1115) (L' := [some (.retAddr 1), some (.ref 0), some (.ref 89), some (.int i)]) (st' := [.int (i + 2), .retAddr 1, .int a1, .ref 0]) (h' := HX w (MC m)) (cs' := 98) (sl' := 1755) rfl ?_
  refine ev_xald rfl rfl h2 ?_
  show ai_ev (D2 xs) mlaw 1116 [some (.retAddr 1), some (.ref 0), some (.ref 89), some (.int i)] [.int a2, .int a1, .ref 0] (HX w (MC m)) 98 1755 q
  refine ev_go 4 (pc' := 1120) (L' := [some (.retAddr 1), some (.ref 0), some (.ref 89), some (.int i)]) (st' := [.int (i + 3), .retAddr 1, .int a2, .int a1, .ref 0]) (h' := HX w (MC m)) (cs' := 98) (sl' := 1755) rfl ?_
  refine ev_xald rfl rfl h3 ?_
  show ai_ev (D2 xs) mlaw 1121 [some (.retAddr 1), some (.ref 0), some (.ref 89), some (.int i)] [.int a3, .int a2, .int a1, .ref 0] (HX w (MC m)) 98 1755 q
  refine ev_go 4 (pc' := 1125) (L' := [some (.retAddr 1), some (.ref 0), some (.ref 89), some (.int i)]) (st' := [.int (i + 4), .retAddr 1, .int a3, .int a2, .int a1, .ref 0]) (h' := HX w (MC m)) (cs' := 98) (sl' := 1755) rfl ?_
  refine ev_xald rfl rfl h4 ?_
  show ai_ev (D2 xs) mlaw 1126 [some (.retAddr 1), some (.ref 0), some (.ref 89), some (.int i)] [.int a4, .int a3, .int a2, .int a1, .ref 0] (HX w (MC m)) 98 1755 q
  refine ev_call (M' := mf_keepOut) (L' := [some (.ref 0), some (.int a1), some (.int a2), some (.int a3), some (.int a4), none, none, none, none, none]) (rest := []) (rv := some (.int r)) (h' := HX w' (MC m)) rfl (ev_sub (D12 xs) (Ef_keepOut_0 n a1 a2 a3 a4 w _ _ hc (MC m))) ?_
  show ai_ev (D2 xs) mlaw 1129 [some (.retAddr 1), some (.ref 0), some (.ref 89), some (.int i)] [.int r] (HX w' (MC m)) 98 1755 q
  refine ev_go 6 (pc' := 1135) (L' := [some (.retAddr 1), some (.ref 0), some (.ref 89), some (.int i)]) (st' := [.int (i + 1), .retAddr 1, .ref 89]) (h' := HX w' (MC m)) (cs' := 98) (sl' := 1755) rfl ?_
  refine ev_xald rfl rfl h1 ?_
  show ai_ev (D2 xs) mlaw 1136 [some (.retAddr 1), some (.ref 0), some (.ref 89), some (.int i)] [.int a1, .ref 89] (HX w' (MC m)) 98 1755 q
  refine ev_go 4 (pc' := 1140) (L' := [some (.retAddr 1), some (.ref 0), some (.ref 89), some (.int i)]) (st' := [.int (i + 2), .retAddr 1, .int a1, .ref 89]) (h' := HX w' (MC m)) (cs' := 98) (sl' := 1755) rfl ?_
  refine ev_xald rfl rfl h2 ?_
  show ai_ev (D2 xs) mlaw 1141 [some (.retAddr 1), some (.ref 0), some (.ref 89), some (.int i)] [.int a2, .int a1, .ref 89] (HX w' (MC m)) 98 1755 q
  refine ev_go 4 (pc' := 1145) (L' := [some (.retAddr 1), some (.ref 0), some (.ref 89), some (.int i)]) (st' := [.int (i + 3), .retAddr 1, .int a2, .int a1, .ref 89]) (h' := HX w' (MC m)) (cs' := 98) (sl' := 1755) rfl ?_
  refine ev_xald rfl rfl h3 ?_
  show ai_ev (D2 xs) mlaw 1146 [some (.retAddr 1), some (.ref 0), some (.ref 89), some (.int i)] [.int a3, .int a2, .int a1, .ref 89] (HX w' (MC m)) 98 1755 q
  refine ev_go 4 (pc' := 1150) (L' := [some (.retAddr 1), some (.ref 0), some (.ref 89), some (.int i)]) (st' := [.int (i + 4), .retAddr 1, .int a3, .int a2, .int a1, .ref 89]) (h' := HX w' (MC m)) (cs' := 98) (sl' := 1755) rfl ?_
  refine ev_xald rfl rfl h4 ?_
  show ai_ev (D2 xs) mlaw 1151 [some (.retAddr 1), some (.ref 0), some (.ref 89), some (.int i)] [.int a4, .int a3, .int a2, .int a1, .ref 89] (HX w' (MC m)) 98 1755 q
  refine ev_call (M' := mm_keepOut) (L' := [some (.ref 89), some (.int a1), some (.int a2), some (.int a3), some (.int a4), none, none, none]) (rest := []) (rv := some (.int s)) (h' := HX w' (MC m')) rfl (ev_hm xs (Em_keepOut_89 n a1 a2 a3 a4 m _ _ hm (PX w') [])) ?_
  show ai_ev (D2 xs) mlaw 1154 [some (.retAddr 1), some (.ref 0), some (.ref 89), some (.int i)] [.int s] (HX w' (MC m')) 98 1755 q
  refine ev_go 2 (pc' := 1578) (L' := [some (.retAddr 1), some (.ref 0), some (.ref 89), some (.int i)]) (st' := []) (h' := HX w' (MC m')) (cs' := 98) (sl' := 1755) rfl ?_
  exact e
set_option maxHeartbeats 40000000 in
set_option maxRecDepth 100000 in
theorem LW_28 (xs : List Int32) (i : Int32) (n : Nat) (a1 a2 a3 : Int32) (h1 : ai_ix xs (i + 1) = some a1) (h2 : ai_ix xs (i + 2) = some a2) (h3 : ai_ix xs (i + 3) = some a3) (w w' : WX) (m m' : WM) (r s : Int32) (hc : Ff_shaken_0 n a1 a2 a3 w = some (r, w')) (hm : Fm_shaken_89 n a1 a2 a3 m = some (s, m')) {q : Option Value × ai_H} (e : ai_ev (D2 xs) mlaw 1578 [some (.retAddr 1), some (.ref 0), some (.ref 89), some (.int i)] [] (HX w' (MC m')) 98 1755 q) : ai_ev (D2 xs) mlaw 1158 [some (.retAddr 1), some (.ref 0), some (.ref 89), some (.int i)] [] (HX w (MC m)) 98 1755 q := by
  refine ev_go 5 (pc' := 1163) (L' := [some (.retAddr 1), some (.ref 0), some (.ref 89), some (.int i)]) (st' := [.int (i + 1), .retAddr 1, .ref 0]) (h' := HX w (MC m)) (cs' := 98) (sl' := 1755) rfl ?_
  refine ev_xald rfl rfl h1 ?_
  show ai_ev (D2 xs) mlaw 1164 [some (.retAddr 1), some (.ref 0), some (.ref 89), some (.int i)] [.int a1, .ref 0] (HX w (MC m)) 98 1755 q
  refine ev_go 4 (pc' := 1168) (L' := [some (.retAddr 1), some (.ref 0), some (.ref 89), some (.int i)]) (st' := [.int (i + 2), .retAddr 1, .int a1, .ref 0]) (h' := HX w (MC m)) (cs' := 98) (sl' := 1755) rfl ?_
  refine ev_xald rfl rfl h2 ?_
  show ai_ev (D2 xs) mlaw 1169 [some (.retAddr 1), some (.ref 0), some (.ref 89), some (.int i)] [.int a2, .int a1, .ref 0] (HX w (MC m)) 98 1755 q
  refine ev_go 4 (pc' := 1173) (L' := [some (.retAddr 1), some (.ref 0), some (.ref 89), some (.int i)]) (st' := [.int (i + 3), .retAddr 1, .int a2, .int a1, .ref 0]) (h' := HX w (MC m)) (cs' := 98) (sl' := 1755) rfl ?_
  refine ev_xald rfl rfl h3 ?_
  show ai_ev (D2 xs) mlaw 1174 [some (.retAddr 1), some (.ref 0), some (.ref 89), some (.int i)] [.int a3, .int a2, .int a1, .ref 0] (HX w (MC m)) 98 1755 q
  refine ev_call (M' := mf_shaken) (L' := [some (.ref 0), some (.int a1), some (.int a2), some (.int a3), none, none, none, none]) (rest := []) (rv := some (.int r)) (h' := HX w' (MC m)) rfl (ev_sub (D12 xs) (Ef_shaken_0 n a1 a2 a3 w _ _ hc (MC m))) ?_
  show ai_ev (D2 xs) mlaw 1177 [some (.retAddr 1), some (.ref 0), some (.ref 89), some (.int i)] [.int r] (HX w' (MC m)) 98 1755 q
  refine ev_go 6 (pc' := 1183) (L' := [some (.retAddr 1), some (.ref 0), some (.ref 89), some (.int i)]) (st' := [.int (i + 1), .retAddr 1, .ref 89]) (h' := HX w' (MC m)) (cs' := 98) (sl' := 1755) rfl ?_
  refine ev_xald rfl rfl h1 ?_
  show ai_ev (D2 xs) mlaw 1184 [some (.retAddr 1), some (.ref 0), some (.ref 89), some (.int i)] [.int a1, .ref 89] (HX w' (MC m)) 98 1755 q
  refine ev_go 4 (pc' := 1188) (L' := [some (.retAddr 1), some (.ref 0), some (.ref 89), some (.int i)]) (st' := [.int (i + 2), .retAddr 1, .int a1, .ref 89]) (h' := HX w' (MC m)) (cs' := 98) (sl' := 1755) rfl ?_
  refine ev_xald rfl rfl h2 ?_
  show ai_ev (D2 xs) mlaw 1189 [some (.retAddr 1), some (.ref 0), some (.ref 89), some (.int i)] [.int a2, .int a1, .ref 89] (HX w' (MC m)) 98 1755 q
  refine ev_go 4 (pc' := 1193) (L' := [some (.retAddr 1), some (.ref 0), some (.ref 89), some (.int i)]) (st' := [.int (i + 3), .retAddr 1, .int a2, .int a1, .ref 89]) (h' := HX w' (MC m)) (cs' := 98) (sl' := 1755) rfl ?_
  refine ev_xald rfl rfl h3 ?_
  show ai_ev (D2 xs) mlaw 1194 [some (.retAddr 1), some (.ref 0), some (.ref 89), some (.int i)] [.int a3, .int a2, .int a1, .ref 89] (HX w' (MC m)) 98 1755 q
  refine ev_call (M' := mm_shaken) (L' := [some (.ref 89), some (.int a1), some (.int a2), some (.int a3), none, none, none, none]) (rest := []) (rv := some (.int s)) (h' := HX w' (MC m')) rfl (ev_hm xs (Em_shaken_89 n a1 a2 a3 m _ _ hm (PX w') [])) ?_
  show ai_ev (D2 xs) mlaw 1197 [some (.retAddr 1), some (.ref 0), some (.ref 89), some (.int i)] [.int s] (HX w' (MC m')) 98 1755 q
  refine ev_go 2 (pc' := 1578) (L' := [some (.retAddr 1), some (.ref 0), some (.ref 89), some (.int i)]) (st' := []) (h' := HX w' (MC m')) (cs' := 98) (sl' := 1755) rfl ?_
  exact e
set_option maxHeartbeats 40000000 in
set_option maxRecDepth 100000 in
theorem LW_29 (xs : List Int32) (i : Int32) (n : Nat) (a1 a2 a3 a4 a5 : Int32) (h1 : ai_ix xs (i + 1) = some a1) (h2 : ai_ix xs (i + 2) = some a2) (h3 : ai_ix xs (i + 3) = some a3) (h4 : ai_ix xs (i + 4) = some a4) (h5 : ai_ix xs (i + 5) = some a5) (w w' : WX) (m m' : WM) (r s : Int32) (hc : Ff_lies_0 n a1 a2 a3 a4 a5 w = some (r, w')) (hm : Fm_lies_89 n a1 a2 a3 a4 a5 m = some (s, m')) {q : Option Value × ai_H} (e : ai_ev (D2 xs) mlaw 1578 [some (.retAddr 1), some (.ref 0), some (.ref 89), some (.int i)] [] (HX w' (MC m')) 98 1755 q) : ai_ev (D2 xs) mlaw 1201 [some (.retAddr 1), some (.ref 0), some (.ref 89), some (.int i)] [] (HX w (MC m)) 98 1755 q := by
  refine ev_go 5 (pc' := 1206) (L' := [some (.retAddr 1), some (.ref 0), some (.ref 89), some (.int i)]) (st' := [.int (i + 1), .retAddr 1, .ref 0]) (h' := HX w (MC m)) (cs' := 98) (sl' := 1755) rfl ?_
  refine ev_xald rfl rfl h1 ?_
  show ai_ev (D2 xs) mlaw 1207 [some (.retAddr 1), some (.ref 0), some (.ref 89), some (.int i)] [.int a1, .ref 0] (HX w (MC m)) 98 1755 q
  refine ev_go 4 (pc' := 1211) (L' := [some (.retAddr 1), some (.ref 0), some (.ref 89), some (.int i)]) (st' := [.int (i + 2), .retAddr 1, .int a1, .ref 0]) (h' := HX w (MC m)) (cs' := 98) (sl' := 1755) rfl ?_
  refine ev_xald rfl rfl h2 ?_
  show ai_ev (D2 xs) mlaw 1212 [some (.retAddr 1), some (.ref 0), some (.ref 89), some (.int i)] [.int a2, .int a1, .ref 0] (HX w (MC m)) 98 1755 q
  refine ev_go 4 (pc' := 1216) (L' := [some (.retAddr 1), some (.ref 0), some (.ref 89), some (.int i)]) (st' := [.int (i + 3), .retAddr 1, .int a2, .int a1, .ref 0]) (h' := HX w (MC m)) (cs' := 98) (sl' := 1755) rfl ?_
  refine ev_xald rfl rfl h3 ?_
  show ai_ev (D2 xs) mlaw 1217 [some (.retAddr 1), some (.ref 0), some (.ref 89), some (.int i)] [.int a3, .int a2, .int a1, .ref 0] (HX w (MC m)) 98 1755 q
  refine ev_go 4 (pc' := 1221) (L' := [some (.retAddr 1), some (.ref 0), some (.ref 89), some (.int i)]) (st' := [.int (i + 4), .retAddr 1, .int a3, .int a2, .int a1, .ref 0]) (h' := HX w (MC m)) (cs' := 98) (sl' := 1755) rfl ?_
  refine ev_xald rfl rfl h4 ?_
  show ai_ev (D2 xs) mlaw 1222 [some (.retAddr 1), some (.ref 0), some (.ref 89), some (.int i)] [.int a4, .int a3, .int a2, .int a1, .ref 0] (HX w (MC m)) 98 1755 q
  refine ev_go 4 (pc' := 1226) (L' := [some (.retAddr 1), some (.ref 0), some (.ref 89), some (.int i)]) (st' := [.int (i + 5), .retAddr 1, .int a4, .int a3, .int a2, .int a1, .ref 0]) (h' := HX w (MC m)) (cs' := 98) (sl' := 1755) rfl ?_
  refine ev_xald rfl rfl h5 ?_
  show ai_ev (D2 xs) mlaw 1227 [some (.retAddr 1), some (.ref 0), some (.ref 89), some (.int i)] [.int a5, .int a4, .int a3, .int a2, .int a1, .ref 0] (HX w (MC m)) 98 1755 q
  refine ev_call (M' := mf_lies) (L' := [some (.ref 0), some (.int a1), some (.int a2), some (.int a3), some (.int a4), some (.int a5), none, none, none, none]) (rest := []) (rv := some (.int r)) (h' := HX w' (MC m)) rfl (ev_sub (D12 xs) (Ef_lies_0 n a1 a2 a3 a4 a5 w _ _ hc (MC m))) ?_
  show ai_ev (D2 xs) mlaw 1230 [some (.retAddr 1), some (.ref 0), some (.ref 89), some (.int i)] [.int r] (HX w' (MC m)) 98 1755 q
  refine ev_go 6 (pc' := 1236) (L' := [some (.retAddr 1), some (.ref 0), some (.ref 89), some (.int i)]) (st' := [.int (i + 1), .retAddr 1, .ref 89]) (h' := HX w' (MC m)) (cs' := 98) (sl' := 1755) rfl ?_
  refine ev_xald rfl rfl h1 ?_
  show ai_ev (D2 xs) mlaw 1237 [some (.retAddr 1), some (.ref 0), some (.ref 89), some (.int i)] [.int a1, .ref 89] (HX w' (MC m)) 98 1755 q
  refine ev_go 4 (pc' := 1241) (L' := [some (.retAddr 1), some (.ref 0), some (.ref 89), some (.int i)]) (st' := [.int (i + 2), .retAddr 1, .int a1, .ref 89]) (h' := HX w' (MC m)) (cs' := 98) (sl' := 1755) rfl ?_
  refine ev_xald rfl rfl h2 ?_
  show ai_ev (D2 xs) mlaw 1242 [some (.retAddr 1), some (.ref 0), some (.ref 89), some (.int i)] [.int a2, .int a1, .ref 89] (HX w' (MC m)) 98 1755 q
  refine ev_go 4 (pc' := 1246) (L' := [some (.retAddr 1), some (.ref 0), some (.ref 89), some (.int i)]) (st' := [.int (i + 3), .retAddr 1, .int a2, .int a1, .ref 89]) (h' := HX w' (MC m)) (cs' := 98) (sl' := 1755) rfl ?_
  refine ev_xald rfl rfl h3 ?_
  show ai_ev (D2 xs) mlaw 1247 [some (.retAddr 1), some (.ref 0), some (.ref 89), some (.int i)] [.int a3, .int a2, .int a1, .ref 89] (HX w' (MC m)) 98 1755 q
  refine ev_go 4 (pc' := 1251) (L' := [some (.retAddr 1), some (.ref 0), some (.ref 89), some (.int i)]) (st' := [.int (i + 4), .retAddr 1, .int a3, .int a2, .int a1, .ref 89]) (h' := HX w' (MC m)) (cs' := 98) (sl' := 1755) rfl ?_
  refine ev_xald rfl rfl h4 ?_
  show ai_ev (D2 xs) mlaw 1252 [some (.retAddr 1), some (.ref 0), some (.ref 89), some (.int i)] [.int a4, .int a3, .int a2, .int a1, .ref 89] (HX w' (MC m)) 98 1755 q
  refine ev_go 4 (pc' := 1256) (L' := [some (.retAddr 1), some (.ref 0), some (.ref 89), some (.int i)]) (st' := [.int (i + 5), .retAddr 1, .int a4, .int a3, .int a2, .int a1, .ref 89]) (h' := HX w' (MC m)) (cs' := 98) (sl' := 1755) rfl ?_
  refine ev_xald rfl rfl h5 ?_
  show ai_ev (D2 xs) mlaw 1257 [some (.retAddr 1), some (.ref 0), some (.ref 89), some (.int i)] [.int a5, .int a4, .int a3, .int a2, .int a1, .ref 89] (HX w' (MC m)) 98 1755 q
  refine ev_call (M' := mm_lies) (L' := [some (.ref 89), some (.int a1), some (.int a2), some (.int a3), some (.int a4), some (.int a5), none, none, none, none]) (rest := []) (rv := some (.int s)) (h' := HX w' (MC m')) rfl (ev_hm xs (Em_lies_89 n a1 a2 a3 a4 a5 m _ _ hm (PX w') [])) ?_
  show ai_ev (D2 xs) mlaw 1260 [some (.retAddr 1), some (.ref 0), some (.ref 89), some (.int i)] [.int s] (HX w' (MC m')) 98 1755 q
  refine ev_go 2 (pc' := 1578) (L' := [some (.retAddr 1), some (.ref 0), some (.ref 89), some (.int i)]) (st' := []) (h' := HX w' (MC m')) (cs' := 98) (sl' := 1755) rfl ?_
  exact e
set_option maxHeartbeats 40000000 in
set_option maxRecDepth 100000 in
theorem LW_30 (xs : List Int32) (i : Int32) (n : Nat) (a1 a2 : Int32) (h1 : ai_ix xs (i + 1) = some a1) (h2 : ai_ix xs (i + 2) = some a2) (w w' : WX) (m m' : WM) (r s : Int32) (hc : Ff_wentIn_0 n a1 a2 w = some (r, w')) (hm : Fm_wentIn_89 n a1 a2 m = some (s, m')) {q : Option Value × ai_H} (e : ai_ev (D2 xs) mlaw 1578 [some (.retAddr 1), some (.ref 0), some (.ref 89), some (.int i)] [] (HX w' (MC m')) 98 1755 q) : ai_ev (D2 xs) mlaw 1264 [some (.retAddr 1), some (.ref 0), some (.ref 89), some (.int i)] [] (HX w (MC m)) 98 1755 q := by
  refine ev_go 5 (pc' := 1269) (L' := [some (.retAddr 1), some (.ref 0), some (.ref 89), some (.int i)]) (st' := [.int (i + 1), .retAddr 1, .ref 0]) (h' := HX w (MC m)) (cs' := 98) (sl' := 1755) rfl ?_
  refine ev_xald rfl rfl h1 ?_
  show ai_ev (D2 xs) mlaw 1270 [some (.retAddr 1), some (.ref 0), some (.ref 89), some (.int i)] [.int a1, .ref 0] (HX w (MC m)) 98 1755 q
  refine ev_go 4 (pc' := 1274) (L' := [some (.retAddr 1), some (.ref 0), some (.ref 89), some (.int i)]) (st' := [.int (i + 2), .retAddr 1, .int a1, .ref 0]) (h' := HX w (MC m)) (cs' := 98) (sl' := 1755) rfl ?_
  refine ev_xald rfl rfl h2 ?_
  show ai_ev (D2 xs) mlaw 1275 [some (.retAddr 1), some (.ref 0), some (.ref 89), some (.int i)] [.int a2, .int a1, .ref 0] (HX w (MC m)) 98 1755 q
  refine ev_call (M' := mf_wentIn) (L' := [some (.ref 0), some (.int a1), some (.int a2), none, none]) (rest := []) (rv := some (.int r)) (h' := HX w' (MC m)) rfl (ev_sub (D12 xs) (Ef_wentIn_0 n a1 a2 w _ _ hc (MC m))) ?_
  show ai_ev (D2 xs) mlaw 1278 [some (.retAddr 1), some (.ref 0), some (.ref 89), some (.int i)] [.int r] (HX w' (MC m)) 98 1755 q
  refine ev_go 6 (pc' := 1284) (L' := [some (.retAddr 1), some (.ref 0), some (.ref 89), some (.int i)]) (st' := [.int (i + 1), .retAddr 1, .ref 89]) (h' := HX w' (MC m)) (cs' := 98) (sl' := 1755) rfl ?_
  refine ev_xald rfl rfl h1 ?_
  show ai_ev (D2 xs) mlaw 1285 [some (.retAddr 1), some (.ref 0), some (.ref 89), some (.int i)] [.int a1, .ref 89] (HX w' (MC m)) 98 1755 q
  refine ev_go 4 (pc' := 1289) (L' := [some (.retAddr 1), some (.ref 0), some (.ref 89), some (.int i)]) (st' := [.int (i + 2), .retAddr 1, .int a1, .ref 89]) (h' := HX w' (MC m)) (cs' := 98) (sl' := 1755) rfl ?_
  refine ev_xald rfl rfl h2 ?_
  show ai_ev (D2 xs) mlaw 1290 [some (.retAddr 1), some (.ref 0), some (.ref 89), some (.int i)] [.int a2, .int a1, .ref 89] (HX w' (MC m)) 98 1755 q
  refine ev_call (M' := mm_wentIn) (L' := [some (.ref 89), some (.int a1), some (.int a2), none, none]) (rest := []) (rv := some (.int s)) (h' := HX w' (MC m')) rfl (ev_hm xs (Em_wentIn_89 n a1 a2 m _ _ hm (PX w') [])) ?_
  show ai_ev (D2 xs) mlaw 1293 [some (.retAddr 1), some (.ref 0), some (.ref 89), some (.int i)] [.int s] (HX w' (MC m')) 98 1755 q
  refine ev_go 2 (pc' := 1578) (L' := [some (.retAddr 1), some (.ref 0), some (.ref 89), some (.int i)]) (st' := []) (h' := HX w' (MC m')) (cs' := 98) (sl' := 1755) rfl ?_
  exact e
set_option maxHeartbeats 40000000 in
set_option maxRecDepth 100000 in
theorem LW_31 (xs : List Int32) (i : Int32) (n : Nat) (a1 a2 a3 : Int32) (h1 : ai_ix xs (i + 1) = some a1) (h2 : ai_ix xs (i + 2) = some a2) (h3 : ai_ix xs (i + 3) = some a3) (w w' : WX) (m m' : WM) (r s : Int32) (hc : Ff_nets_0 n a1 a2 a3 w = some (r, w')) (hm : Fm_nets_89 n a1 a2 a3 m = some (s, m')) {q : Option Value × ai_H} (e : ai_ev (D2 xs) mlaw 1578 [some (.retAddr 1), some (.ref 0), some (.ref 89), some (.int i)] [] (HX w' (MC m')) 98 1755 q) : ai_ev (D2 xs) mlaw 1297 [some (.retAddr 1), some (.ref 0), some (.ref 89), some (.int i)] [] (HX w (MC m)) 98 1755 q := by
  refine ev_go 5 (pc' := 1302) (L' := [some (.retAddr 1), some (.ref 0), some (.ref 89), some (.int i)]) (st' := [.int (i + 1), .retAddr 1, .ref 0]) (h' := HX w (MC m)) (cs' := 98) (sl' := 1755) rfl ?_
  refine ev_xald rfl rfl h1 ?_
  show ai_ev (D2 xs) mlaw 1303 [some (.retAddr 1), some (.ref 0), some (.ref 89), some (.int i)] [.int a1, .ref 0] (HX w (MC m)) 98 1755 q
  refine ev_go 4 (pc' := 1307) (L' := [some (.retAddr 1), some (.ref 0), some (.ref 89), some (.int i)]) (st' := [.int (i + 2), .retAddr 1, .int a1, .ref 0]) (h' := HX w (MC m)) (cs' := 98) (sl' := 1755) rfl ?_
  refine ev_xald rfl rfl h2 ?_
  show ai_ev (D2 xs) mlaw 1308 [some (.retAddr 1), some (.ref 0), some (.ref 89), some (.int i)] [.int a2, .int a1, .ref 0] (HX w (MC m)) 98 1755 q
  refine ev_go 4 (pc' := 1312) (L' := [some (.retAddr 1), some (.ref 0), some (.ref 89), some (.int i)]) (st' := [.int (i + 3), .retAddr 1, .int a2, .int a1, .ref 0]) (h' := HX w (MC m)) (cs' := 98) (sl' := 1755) rfl ?_
  refine ev_xald rfl rfl h3 ?_
  show ai_ev (D2 xs) mlaw 1313 [some (.retAddr 1), some (.ref 0), some (.ref 89), some (.int i)] [.int a3, .int a2, .int a1, .ref 0] (HX w (MC m)) 98 1755 q
  refine ev_call (M' := mf_nets) (L' := [some (.ref 0), some (.int a1), some (.int a2), some (.int a3), none, none, none, none]) (rest := []) (rv := some (.int r)) (h' := HX w' (MC m)) rfl (ev_sub (D12 xs) (Ef_nets_0 n a1 a2 a3 w _ _ hc (MC m))) ?_
  show ai_ev (D2 xs) mlaw 1316 [some (.retAddr 1), some (.ref 0), some (.ref 89), some (.int i)] [.int r] (HX w' (MC m)) 98 1755 q
  refine ev_go 6 (pc' := 1322) (L' := [some (.retAddr 1), some (.ref 0), some (.ref 89), some (.int i)]) (st' := [.int (i + 1), .retAddr 1, .ref 89]) (h' := HX w' (MC m)) (cs' := 98) (sl' := 1755) rfl ?_
  refine ev_xald rfl rfl h1 ?_
  show ai_ev (D2 xs) mlaw 1323 [some (.retAddr 1), some (.ref 0), some (.ref 89), some (.int i)] [.int a1, .ref 89] (HX w' (MC m)) 98 1755 q
  refine ev_go 4 (pc' := 1327) (L' := [some (.retAddr 1), some (.ref 0), some (.ref 89), some (.int i)]) (st' := [.int (i + 2), .retAddr 1, .int a1, .ref 89]) (h' := HX w' (MC m)) (cs' := 98) (sl' := 1755) rfl ?_
  refine ev_xald rfl rfl h2 ?_
  show ai_ev (D2 xs) mlaw 1328 [some (.retAddr 1), some (.ref 0), some (.ref 89), some (.int i)] [.int a2, .int a1, .ref 89] (HX w' (MC m)) 98 1755 q
  refine ev_go 4 (pc' := 1332) (L' := [some (.retAddr 1), some (.ref 0), some (.ref 89), some (.int i)]) (st' := [.int (i + 3), .retAddr 1, .int a2, .int a1, .ref 89]) (h' := HX w' (MC m)) (cs' := 98) (sl' := 1755) rfl ?_
  refine ev_xald rfl rfl h3 ?_
  show ai_ev (D2 xs) mlaw 1333 [some (.retAddr 1), some (.ref 0), some (.ref 89), some (.int i)] [.int a3, .int a2, .int a1, .ref 89] (HX w' (MC m)) 98 1755 q
  refine ev_call (M' := mm_nets) (L' := [some (.ref 89), some (.int a1), some (.int a2), some (.int a3), none, none, none, none, none, none, none]) (rest := []) (rv := some (.int s)) (h' := HX w' (MC m')) rfl (ev_hm xs (Em_nets_89 n a1 a2 a3 m _ _ hm (PX w') [])) ?_
  show ai_ev (D2 xs) mlaw 1336 [some (.retAddr 1), some (.ref 0), some (.ref 89), some (.int i)] [.int s] (HX w' (MC m')) 98 1755 q
  refine ev_go 2 (pc' := 1578) (L' := [some (.retAddr 1), some (.ref 0), some (.ref 89), some (.int i)]) (st' := []) (h' := HX w' (MC m')) (cs' := 98) (sl' := 1755) rfl ?_
  exact e
set_option maxHeartbeats 40000000 in
set_option maxRecDepth 100000 in
theorem LW_32 (xs : List Int32) (i : Int32) (n : Nat) (a1 : Int32) (h1 : ai_ix xs (i + 1) = some a1) (w w' : WX) (m m' : WM) (r s : Int32) (hc : Ff_tap_0 n a1 w = some (r, w')) (hm : Fm_tap_89 n a1 m = some (s, m')) {q : Option Value × ai_H} (e : ai_ev (D2 xs) mlaw 1578 [some (.retAddr 1), some (.ref 0), some (.ref 89), some (.int i)] [] (HX w' (MC m')) 98 1755 q) : ai_ev (D2 xs) mlaw 1340 [some (.retAddr 1), some (.ref 0), some (.ref 89), some (.int i)] [] (HX w (MC m)) 98 1755 q := by
  refine ev_go 5 (pc' := 1345) (L' := [some (.retAddr 1), some (.ref 0), some (.ref 89), some (.int i)]) (st' := [.int (i + 1), .retAddr 1, .ref 0]) (h' := HX w (MC m)) (cs' := 98) (sl' := 1755) rfl ?_
  refine ev_xald rfl rfl h1 ?_
  show ai_ev (D2 xs) mlaw 1346 [some (.retAddr 1), some (.ref 0), some (.ref 89), some (.int i)] [.int a1, .ref 0] (HX w (MC m)) 98 1755 q
  refine ev_call (M' := mf_tap) (L' := [some (.ref 0), some (.int a1), none, none, none, none, none]) (rest := []) (rv := some (.int r)) (h' := HX w' (MC m)) rfl (ev_sub (D12 xs) (Ef_tap_0 n a1 w _ _ hc (MC m))) ?_
  show ai_ev (D2 xs) mlaw 1349 [some (.retAddr 1), some (.ref 0), some (.ref 89), some (.int i)] [.int r] (HX w' (MC m)) 98 1755 q
  refine ev_go 6 (pc' := 1355) (L' := [some (.retAddr 1), some (.ref 0), some (.ref 89), some (.int i)]) (st' := [.int (i + 1), .retAddr 1, .ref 89]) (h' := HX w' (MC m)) (cs' := 98) (sl' := 1755) rfl ?_
  refine ev_xald rfl rfl h1 ?_
  show ai_ev (D2 xs) mlaw 1356 [some (.retAddr 1), some (.ref 0), some (.ref 89), some (.int i)] [.int a1, .ref 89] (HX w' (MC m)) 98 1755 q
  refine ev_call (M' := mm_tap) (L' := [some (.ref 89), some (.int a1), none, none, none, none, none, none, none]) (rest := []) (rv := some (.int s)) (h' := HX w' (MC m')) rfl (ev_hm xs (Em_tap_89 n a1 m _ _ hm (PX w') [])) ?_
  show ai_ev (D2 xs) mlaw 1359 [some (.retAddr 1), some (.ref 0), some (.ref 89), some (.int i)] [.int s] (HX w' (MC m')) 98 1755 q
  refine ev_go 2 (pc' := 1578) (L' := [some (.retAddr 1), some (.ref 0), some (.ref 89), some (.int i)]) (st' := []) (h' := HX w' (MC m')) (cs' := 98) (sl' := 1755) rfl ?_
  exact e
set_option maxHeartbeats 40000000 in
set_option maxRecDepth 100000 in
theorem LW_33 (xs : List Int32) (i : Int32) (n : Nat) (a1 a2 : Int32) (h1 : ai_ix xs (i + 1) = some a1) (h2 : ai_ix xs (i + 2) = some a2) (w w' : WX) (m m' : WM) (r s : Int32) (hc : Ff_known_0 n a1 a2 w = some (r, w')) (hm : Fm_known_89 n a1 a2 m = some (s, m')) {q : Option Value × ai_H} (e : ai_ev (D2 xs) mlaw 1578 [some (.retAddr 1), some (.ref 0), some (.ref 89), some (.int i)] [] (HX w' (MC m')) 98 1755 q) : ai_ev (D2 xs) mlaw 1363 [some (.retAddr 1), some (.ref 0), some (.ref 89), some (.int i)] [] (HX w (MC m)) 98 1755 q := by
  refine ev_go 5 (pc' := 1368) (L' := [some (.retAddr 1), some (.ref 0), some (.ref 89), some (.int i)]) (st' := [.int (i + 1), .retAddr 1, .ref 0]) (h' := HX w (MC m)) (cs' := 98) (sl' := 1755) rfl ?_
  refine ev_xald rfl rfl h1 ?_
  show ai_ev (D2 xs) mlaw 1369 [some (.retAddr 1), some (.ref 0), some (.ref 89), some (.int i)] [.int a1, .ref 0] (HX w (MC m)) 98 1755 q
  refine ev_go 4 (pc' := 1373) (L' := [some (.retAddr 1), some (.ref 0), some (.ref 89), some (.int i)]) (st' := [.int (i + 2), .retAddr 1, .int a1, .ref 0]) (h' := HX w (MC m)) (cs' := 98) (sl' := 1755) rfl ?_
  refine ev_xald rfl rfl h2 ?_
  show ai_ev (D2 xs) mlaw 1374 [some (.retAddr 1), some (.ref 0), some (.ref 89), some (.int i)] [.int a2, .int a1, .ref 0] (HX w (MC m)) 98 1755 q
  refine ev_call (M' := mf_known) (L' := [some (.ref 0), some (.int a1), some (.int a2), none, none]) (rest := []) (rv := some (.int r)) (h' := HX w' (MC m)) rfl (ev_sub (D12 xs) (Ef_known_0 n a1 a2 w _ _ hc (MC m))) ?_
  show ai_ev (D2 xs) mlaw 1377 [some (.retAddr 1), some (.ref 0), some (.ref 89), some (.int i)] [.int r] (HX w' (MC m)) 98 1755 q
  refine ev_go 6 (pc' := 1383) (L' := [some (.retAddr 1), some (.ref 0), some (.ref 89), some (.int i)]) (st' := [.int (i + 1), .retAddr 1, .ref 89]) (h' := HX w' (MC m)) (cs' := 98) (sl' := 1755) rfl ?_
  refine ev_xald rfl rfl h1 ?_
  show ai_ev (D2 xs) mlaw 1384 [some (.retAddr 1), some (.ref 0), some (.ref 89), some (.int i)] [.int a1, .ref 89] (HX w' (MC m)) 98 1755 q
  refine ev_go 4 (pc' := 1388) (L' := [some (.retAddr 1), some (.ref 0), some (.ref 89), some (.int i)]) (st' := [.int (i + 2), .retAddr 1, .int a1, .ref 89]) (h' := HX w' (MC m)) (cs' := 98) (sl' := 1755) rfl ?_
  refine ev_xald rfl rfl h2 ?_
  show ai_ev (D2 xs) mlaw 1389 [some (.retAddr 1), some (.ref 0), some (.ref 89), some (.int i)] [.int a2, .int a1, .ref 89] (HX w' (MC m)) 98 1755 q
  refine ev_call (M' := mm_known) (L' := [some (.ref 89), some (.int a1), some (.int a2), none, none, none, none, none, none]) (rest := []) (rv := some (.int s)) (h' := HX w' (MC m')) rfl (ev_hm xs (Em_known_89 n a1 a2 m _ _ hm (PX w') [])) ?_
  show ai_ev (D2 xs) mlaw 1392 [some (.retAddr 1), some (.ref 0), some (.ref 89), some (.int i)] [.int s] (HX w' (MC m')) 98 1755 q
  refine ev_go 2 (pc' := 1578) (L' := [some (.retAddr 1), some (.ref 0), some (.ref 89), some (.int i)]) (st' := []) (h' := HX w' (MC m')) (cs' := 98) (sl' := 1755) rfl ?_
  exact e
set_option maxHeartbeats 40000000 in
set_option maxRecDepth 100000 in
theorem LW_34 (xs : List Int32) (i : Int32) (n : Nat) (a1 a2 a3 a4 : Int32) (h1 : ai_ix xs (i + 1) = some a1) (h2 : ai_ix xs (i + 2) = some a2) (h3 : ai_ix xs (i + 3) = some a3) (h4 : ai_ix xs (i + 4) = some a4) (w w' : WX) (m m' : WM) (r s : Int32) (hc : Ff_storm_0 n a1 a2 a3 a4 w = some (r, w')) (hm : Fm_storm_89 n a1 a2 a3 a4 m = some (s, m')) {q : Option Value × ai_H} (e : ai_ev (D2 xs) mlaw 1578 [some (.retAddr 1), some (.ref 0), some (.ref 89), some (.int i)] [] (HX w' (MC m')) 98 1755 q) : ai_ev (D2 xs) mlaw 1396 [some (.retAddr 1), some (.ref 0), some (.ref 89), some (.int i)] [] (HX w (MC m)) 98 1755 q := by
  refine ev_go 5 (pc' := 1401) (L' := [some (.retAddr 1), some (.ref 0), some (.ref 89), some (.int i)]) (st' := [.int (i + 1), .retAddr 1, .ref 0]) (h' := HX w (MC m)) (cs' := 98) (sl' := 1755) rfl ?_
  refine ev_xald rfl rfl h1 ?_
  show ai_ev (D2 xs) mlaw 1402 [some (.retAddr 1), some (.ref 0), some (.ref 89), some (.int i)] [.int a1, .ref 0] (HX w (MC m)) 98 1755 q
  refine ev_go 4 (pc' := 1406) (L' := [some (.retAddr 1), some (.ref 0), some (.ref 89), some (.int i)]) (st' := [.int (i + 2), .retAddr 1, .int a1, .ref 0]) (h' := HX w (MC m)) (cs' := 98) (sl' := 1755) rfl ?_
  refine ev_xald rfl rfl h2 ?_
  show ai_ev (D2 xs) mlaw 1407 [some (.retAddr 1), some (.ref 0), some (.ref 89), some (.int i)] [.int a2, .int a1, .ref 0] (HX w (MC m)) 98 1755 q
  refine ev_go 4 (pc' := 1411) (L' := [some (.retAddr 1), some (.ref 0), some (.ref 89), some (.int i)]) (st' := [.int (i + 3), .retAddr 1, .int a2, .int a1, .ref 0]) (h' := HX w (MC m)) (cs' := 98) (sl' := 1755) rfl ?_
  refine ev_xald rfl rfl h3 ?_
  show ai_ev (D2 xs) mlaw 1412 [some (.retAddr 1), some (.ref 0), some (.ref 89), some (.int i)] [.int a3, .int a2, .int a1, .ref 0] (HX w (MC m)) 98 1755 q
  refine ev_go 4 (pc' := 1416) (L' := [some (.retAddr 1), some (.ref 0), some (.ref 89), some (.int i)]) (st' := [.int (i + 4), .retAddr 1, .int a3, .int a2, .int a1, .ref 0]) (h' := HX w (MC m)) (cs' := 98) (sl' := 1755) rfl ?_
  refine ev_xald rfl rfl h4 ?_
  show ai_ev (D2 xs) mlaw 1417 [some (.retAddr 1), some (.ref 0), some (.ref 89), some (.int i)] [.int a4, .int a3, .int a2, .int a1, .ref 0] (HX w (MC m)) 98 1755 q
  refine ev_call (M' := mf_storm) (L' := [some (.ref 0), some (.int a1), some (.int a2), some (.int a3), some (.int a4), none, none, none, none, none, none, none, none]) (rest := []) (rv := some (.int r)) (h' := HX w' (MC m)) rfl (ev_sub (D12 xs) (Ef_storm_0 n a1 a2 a3 a4 w _ _ hc (MC m))) ?_
  show ai_ev (D2 xs) mlaw 1420 [some (.retAddr 1), some (.ref 0), some (.ref 89), some (.int i)] [.int r] (HX w' (MC m)) 98 1755 q
  refine ev_go 6 (pc' := 1426) (L' := [some (.retAddr 1), some (.ref 0), some (.ref 89), some (.int i)]) (st' := [.int (i + 1), .retAddr 1, .ref 89]) (h' := HX w' (MC m)) (cs' := 98) (sl' := 1755) rfl ?_
  refine ev_xald rfl rfl h1 ?_
  show ai_ev (D2 xs) mlaw 1427 [some (.retAddr 1), some (.ref 0), some (.ref 89), some (.int i)] [.int a1, .ref 89] (HX w' (MC m)) 98 1755 q
  refine ev_go 4 (pc' := 1431) (L' := [some (.retAddr 1), some (.ref 0), some (.ref 89), some (.int i)]) (st' := [.int (i + 2), .retAddr 1, .int a1, .ref 89]) (h' := HX w' (MC m)) (cs' := 98) (sl' := 1755) rfl ?_
  refine ev_xald rfl rfl h2 ?_
  show ai_ev (D2 xs) mlaw 1432 [some (.retAddr 1), some (.ref 0), some (.ref 89), some (.int i)] [.int a2, .int a1, .ref 89] (HX w' (MC m)) 98 1755 q
  refine ev_go 4 (pc' := 1436) (L' := [some (.retAddr 1), some (.ref 0), some (.ref 89), some (.int i)]) (st' := [.int (i + 3), .retAddr 1, .int a2, .int a1, .ref 89]) (h' := HX w' (MC m)) (cs' := 98) (sl' := 1755) rfl ?_
  refine ev_xald rfl rfl h3 ?_
  show ai_ev (D2 xs) mlaw 1437 [some (.retAddr 1), some (.ref 0), some (.ref 89), some (.int i)] [.int a3, .int a2, .int a1, .ref 89] (HX w' (MC m)) 98 1755 q
  refine ev_go 4 (pc' := 1441) (L' := [some (.retAddr 1), some (.ref 0), some (.ref 89), some (.int i)]) (st' := [.int (i + 4), .retAddr 1, .int a3, .int a2, .int a1, .ref 89]) (h' := HX w' (MC m)) (cs' := 98) (sl' := 1755) rfl ?_
  refine ev_xald rfl rfl h4 ?_
  show ai_ev (D2 xs) mlaw 1442 [some (.retAddr 1), some (.ref 0), some (.ref 89), some (.int i)] [.int a4, .int a3, .int a2, .int a1, .ref 89] (HX w' (MC m)) 98 1755 q
  refine ev_call (M' := mm_storm) (L' := [some (.ref 89), some (.int a1), some (.int a2), some (.int a3), some (.int a4), none, none, none, none, none, none, none, none, none, none, none]) (rest := []) (rv := some (.int s)) (h' := HX w' (MC m')) rfl (ev_hm xs (Em_storm_89 n a1 a2 a3 a4 m _ _ hm (PX w') [])) ?_
  show ai_ev (D2 xs) mlaw 1445 [some (.retAddr 1), some (.ref 0), some (.ref 89), some (.int i)] [.int s] (HX w' (MC m')) 98 1755 q
  refine ev_go 2 (pc' := 1578) (L' := [some (.retAddr 1), some (.ref 0), some (.ref 89), some (.int i)]) (st' := []) (h' := HX w' (MC m')) (cs' := 98) (sl' := 1755) rfl ?_
  exact e
set_option maxHeartbeats 40000000 in
set_option maxRecDepth 100000 in
theorem LW_35 (xs : List Int32) (i : Int32) (a1 : Int32) (h1 : ai_ix xs (i + 1) = some a1) (w w' : WX) (m m' : WM) (r s : Int64) (hc : Ff_part_0 a1 w = some (r, w')) (hm : Fm_part_89 a1 m = some (s, m')) {q : Option Value × ai_H} (e : ai_ev (D2 xs) mlaw 1578 [some (.retAddr 1), some (.ref 0), some (.ref 89), some (.int i)] [] (HX w' (MC m')) 98 1755 q) : ai_ev (D2 xs) mlaw 1449 [some (.retAddr 1), some (.ref 0), some (.ref 89), some (.int i)] [] (HX w (MC m)) 98 1755 q := by
  refine ev_go 5 (pc' := 1454) (L' := [some (.retAddr 1), some (.ref 0), some (.ref 89), some (.int i)]) (st' := [.int (i + 1), .retAddr 1, .ref 0]) (h' := HX w (MC m)) (cs' := 98) (sl' := 1755) rfl ?_
  refine ev_xald rfl rfl h1 ?_
  show ai_ev (D2 xs) mlaw 1455 [some (.retAddr 1), some (.ref 0), some (.ref 89), some (.int i)] [.int a1, .ref 0] (HX w (MC m)) 98 1755 q
  refine ev_call (M' := mf_part) (L' := [some (.ref 0), some (.int a1)]) (rest := []) (rv := some (.long r)) (h' := HX w' (MC m)) rfl (ev_sub (D12 xs) (Ef_part_0 a1 w _ _ hc (MC m))) ?_
  show ai_ev (D2 xs) mlaw 1458 [some (.retAddr 1), some (.ref 0), some (.ref 89), some (.int i)] [.long r] (HX w' (MC m)) 98 1755 q
  refine ev_go 6 (pc' := 1464) (L' := [some (.retAddr 1), some (.ref 0), some (.ref 89), some (.int i)]) (st' := [.int (i + 1), .retAddr 1, .ref 89]) (h' := HX w' (MC m)) (cs' := 98) (sl' := 1755) rfl ?_
  refine ev_xald rfl rfl h1 ?_
  show ai_ev (D2 xs) mlaw 1465 [some (.retAddr 1), some (.ref 0), some (.ref 89), some (.int i)] [.int a1, .ref 89] (HX w' (MC m)) 98 1755 q
  refine ev_call (M' := mm_part) (L' := [some (.ref 89), some (.int a1)]) (rest := []) (rv := some (.long s)) (h' := HX w' (MC m')) rfl (ev_hm xs (Em_part_89 a1 m _ _ hm (PX w') [])) ?_
  show ai_ev (D2 xs) mlaw 1468 [some (.retAddr 1), some (.ref 0), some (.ref 89), some (.int i)] [.long s] (HX w' (MC m')) 98 1755 q
  refine ev_go 2 (pc' := 1578) (L' := [some (.retAddr 1), some (.ref 0), some (.ref 89), some (.int i)]) (st' := []) (h' := HX w' (MC m')) (cs' := 98) (sl' := 1755) rfl ?_
  exact e
set_option maxHeartbeats 40000000 in
set_option maxRecDepth 100000 in
theorem LW_36 (xs : List Int32) (i : Int32) (n : Nat) (a1 : Int32) (h1 : ai_ix xs (i + 1) = some a1) (w w' : WX) (m m' : WM) (r s : Int32) (hc : Ff_image_0 a1 w = some (r, w')) (hm : Fm_image_89 n a1 m = some (s, m')) {q : Option Value × ai_H} (e : ai_ev (D2 xs) mlaw 1578 [some (.retAddr 1), some (.ref 0), some (.ref 89), some (.int i)] [] (HX w' (MC m')) 98 1755 q) : ai_ev (D2 xs) mlaw 1472 [some (.retAddr 1), some (.ref 0), some (.ref 89), some (.int i)] [] (HX w (MC m)) 98 1755 q := by
  refine ev_go 5 (pc' := 1477) (L' := [some (.retAddr 1), some (.ref 0), some (.ref 89), some (.int i)]) (st' := [.int (i + 1), .retAddr 1, .ref 0]) (h' := HX w (MC m)) (cs' := 98) (sl' := 1755) rfl ?_
  refine ev_xald rfl rfl h1 ?_
  show ai_ev (D2 xs) mlaw 1478 [some (.retAddr 1), some (.ref 0), some (.ref 89), some (.int i)] [.int a1, .ref 0] (HX w (MC m)) 98 1755 q
  refine ev_call (M' := mf_image) (L' := [some (.ref 0), some (.int a1)]) (rest := []) (rv := some (.int r)) (h' := HX w' (MC m)) rfl (ev_sub (D12 xs) (Ef_image_0 a1 w _ _ hc (MC m))) ?_
  show ai_ev (D2 xs) mlaw 1481 [some (.retAddr 1), some (.ref 0), some (.ref 89), some (.int i)] [.int r] (HX w' (MC m)) 98 1755 q
  refine ev_go 6 (pc' := 1487) (L' := [some (.retAddr 1), some (.ref 0), some (.ref 89), some (.int i)]) (st' := [.int (i + 1), .retAddr 1, .ref 89]) (h' := HX w' (MC m)) (cs' := 98) (sl' := 1755) rfl ?_
  refine ev_xald rfl rfl h1 ?_
  show ai_ev (D2 xs) mlaw 1488 [some (.retAddr 1), some (.ref 0), some (.ref 89), some (.int i)] [.int a1, .ref 89] (HX w' (MC m)) 98 1755 q
  refine ev_call (M' := mm_image) (L' := [some (.ref 89), some (.int a1)]) (rest := []) (rv := some (.int s)) (h' := HX w' (MC m')) rfl (ev_hm xs (Em_image_89 n a1 m _ _ hm (PX w') [])) ?_
  show ai_ev (D2 xs) mlaw 1491 [some (.retAddr 1), some (.ref 0), some (.ref 89), some (.int i)] [.int s] (HX w' (MC m')) 98 1755 q
  refine ev_go 2 (pc' := 1578) (L' := [some (.retAddr 1), some (.ref 0), some (.ref 89), some (.int i)]) (st' := []) (h' := HX w' (MC m')) (cs' := 98) (sl' := 1755) rfl ?_
  exact e
set_option maxHeartbeats 40000000 in
set_option maxRecDepth 100000 in
theorem LW_37 (xs : List Int32) (i : Int32) (n : Nat) (a1 : Int32) (h1 : ai_ix xs (i + 1) = some a1) (w w' : WX) (m m' : WM) (r s : Int32) (hc : Ff_from_0 a1 w = some (r, w')) (hm : Fm_from_89 n a1 m = some (s, m')) {q : Option Value × ai_H} (e : ai_ev (D2 xs) mlaw 1578 [some (.retAddr 1), some (.ref 0), some (.ref 89), some (.int i)] [] (HX w' (MC m')) 98 1755 q) : ai_ev (D2 xs) mlaw 1495 [some (.retAddr 1), some (.ref 0), some (.ref 89), some (.int i)] [] (HX w (MC m)) 98 1755 q := by
  refine ev_go 5 (pc' := 1500) (L' := [some (.retAddr 1), some (.ref 0), some (.ref 89), some (.int i)]) (st' := [.int (i + 1), .retAddr 1, .ref 0]) (h' := HX w (MC m)) (cs' := 98) (sl' := 1755) rfl ?_
  refine ev_xald rfl rfl h1 ?_
  show ai_ev (D2 xs) mlaw 1501 [some (.retAddr 1), some (.ref 0), some (.ref 89), some (.int i)] [.int a1, .ref 0] (HX w (MC m)) 98 1755 q
  refine ev_call (M' := mf_from) (L' := [some (.ref 0), some (.int a1)]) (rest := []) (rv := some (.int r)) (h' := HX w' (MC m)) rfl (ev_sub (D12 xs) (Ef_from_0 a1 w _ _ hc (MC m))) ?_
  show ai_ev (D2 xs) mlaw 1504 [some (.retAddr 1), some (.ref 0), some (.ref 89), some (.int i)] [.int r] (HX w' (MC m)) 98 1755 q
  refine ev_go 6 (pc' := 1510) (L' := [some (.retAddr 1), some (.ref 0), some (.ref 89), some (.int i)]) (st' := [.int (i + 1), .retAddr 1, .ref 89]) (h' := HX w' (MC m)) (cs' := 98) (sl' := 1755) rfl ?_
  refine ev_xald rfl rfl h1 ?_
  show ai_ev (D2 xs) mlaw 1511 [some (.retAddr 1), some (.ref 0), some (.ref 89), some (.int i)] [.int a1, .ref 89] (HX w' (MC m)) 98 1755 q
  refine ev_call (M' := mm_from) (L' := [some (.ref 89), some (.int a1)]) (rest := []) (rv := some (.int s)) (h' := HX w' (MC m')) rfl (ev_hm xs (Em_from_89 n a1 m _ _ hm (PX w') [])) ?_
  show ai_ev (D2 xs) mlaw 1514 [some (.retAddr 1), some (.ref 0), some (.ref 89), some (.int i)] [.int s] (HX w' (MC m')) 98 1755 q
  refine ev_go 2 (pc' := 1578) (L' := [some (.retAddr 1), some (.ref 0), some (.ref 89), some (.int i)]) (st' := []) (h' := HX w' (MC m')) (cs' := 98) (sl' := 1755) rfl ?_
  exact e
set_option maxHeartbeats 40000000 in
set_option maxRecDepth 100000 in
theorem LW_38 (xs : List Int32) (i : Int32) (a1 : Int32) (h1 : ai_ix xs (i + 1) = some a1) (w w' : WX) (m m' : WM) (r s : Int32) (hc : Ff_status_0 a1 w = some (r, w')) (hm : Fm_status_89 a1 m = some (s, m')) {q : Option Value × ai_H} (e : ai_ev (D2 xs) mlaw 1578 [some (.retAddr 1), some (.ref 0), some (.ref 89), some (.int i)] [] (HX w' (MC m')) 98 1755 q) : ai_ev (D2 xs) mlaw 1518 [some (.retAddr 1), some (.ref 0), some (.ref 89), some (.int i)] [] (HX w (MC m)) 98 1755 q := by
  refine ev_go 5 (pc' := 1523) (L' := [some (.retAddr 1), some (.ref 0), some (.ref 89), some (.int i)]) (st' := [.int (i + 1), .retAddr 1, .ref 0]) (h' := HX w (MC m)) (cs' := 98) (sl' := 1755) rfl ?_
  refine ev_xald rfl rfl h1 ?_
  show ai_ev (D2 xs) mlaw 1524 [some (.retAddr 1), some (.ref 0), some (.ref 89), some (.int i)] [.int a1, .ref 0] (HX w (MC m)) 98 1755 q
  refine ev_call (M' := mf_status) (L' := [some (.ref 0), some (.int a1)]) (rest := []) (rv := some (.int r)) (h' := HX w' (MC m)) rfl (ev_sub (D12 xs) (Ef_status_0 a1 w _ _ hc (MC m))) ?_
  show ai_ev (D2 xs) mlaw 1527 [some (.retAddr 1), some (.ref 0), some (.ref 89), some (.int i)] [.int r] (HX w' (MC m)) 98 1755 q
  refine ev_go 6 (pc' := 1533) (L' := [some (.retAddr 1), some (.ref 0), some (.ref 89), some (.int i)]) (st' := [.int (i + 1), .retAddr 1, .ref 89]) (h' := HX w' (MC m)) (cs' := 98) (sl' := 1755) rfl ?_
  refine ev_xald rfl rfl h1 ?_
  show ai_ev (D2 xs) mlaw 1534 [some (.retAddr 1), some (.ref 0), some (.ref 89), some (.int i)] [.int a1, .ref 89] (HX w' (MC m)) 98 1755 q
  refine ev_call (M' := mm_status) (L' := [some (.ref 89), some (.int a1)]) (rest := []) (rv := some (.int s)) (h' := HX w' (MC m')) rfl (ev_hm xs (Em_status_89 a1 m _ _ hm (PX w') [])) ?_
  show ai_ev (D2 xs) mlaw 1537 [some (.retAddr 1), some (.ref 0), some (.ref 89), some (.int i)] [.int s] (HX w' (MC m')) 98 1755 q
  refine ev_go 2 (pc' := 1578) (L' := [some (.retAddr 1), some (.ref 0), some (.ref 89), some (.int i)]) (st' := []) (h' := HX w' (MC m')) (cs' := 98) (sl' := 1755) rfl ?_
  exact e
set_option maxHeartbeats 40000000 in
set_option maxRecDepth 100000 in
theorem LW_39 (xs : List Int32) (i : Int32) (a1 : Int32) (h1 : ai_ix xs (i + 1) = some a1) (w w' : WX) (m m' : WM) (r s : Int32) (hc : Ff_count_0 a1 w = some (r, w')) (hm : Fm_count_89 a1 m = some (s, m')) {q : Option Value × ai_H} (e : ai_ev (D2 xs) mlaw 1578 [some (.retAddr 1), some (.ref 0), some (.ref 89), some (.int i)] [] (HX w' (MC m')) 98 1755 q) : ai_ev (D2 xs) mlaw 1541 [some (.retAddr 1), some (.ref 0), some (.ref 89), some (.int i)] [] (HX w (MC m)) 98 1755 q := by
  refine ev_go 5 (pc' := 1546) (L' := [some (.retAddr 1), some (.ref 0), some (.ref 89), some (.int i)]) (st' := [.int (i + 1), .retAddr 1, .ref 0]) (h' := HX w (MC m)) (cs' := 98) (sl' := 1755) rfl ?_
  refine ev_xald rfl rfl h1 ?_
  show ai_ev (D2 xs) mlaw 1547 [some (.retAddr 1), some (.ref 0), some (.ref 89), some (.int i)] [.int a1, .ref 0] (HX w (MC m)) 98 1755 q
  refine ev_call (M' := mf_count) (L' := [some (.ref 0), some (.int a1)]) (rest := []) (rv := some (.int r)) (h' := HX w' (MC m)) rfl (ev_sub (D12 xs) (Ef_count_0 a1 w _ _ hc (MC m))) ?_
  show ai_ev (D2 xs) mlaw 1550 [some (.retAddr 1), some (.ref 0), some (.ref 89), some (.int i)] [.int r] (HX w' (MC m)) 98 1755 q
  refine ev_go 6 (pc' := 1556) (L' := [some (.retAddr 1), some (.ref 0), some (.ref 89), some (.int i)]) (st' := [.int (i + 1), .retAddr 1, .ref 89]) (h' := HX w' (MC m)) (cs' := 98) (sl' := 1755) rfl ?_
  refine ev_xald rfl rfl h1 ?_
  show ai_ev (D2 xs) mlaw 1557 [some (.retAddr 1), some (.ref 0), some (.ref 89), some (.int i)] [.int a1, .ref 89] (HX w' (MC m)) 98 1755 q
  refine ev_call (M' := mm_count) (L' := [some (.ref 89), some (.int a1)]) (rest := []) (rv := some (.int s)) (h' := HX w' (MC m')) rfl (ev_hm xs (Em_count_89 a1 m _ _ hm (PX w') [])) ?_
  show ai_ev (D2 xs) mlaw 1560 [some (.retAddr 1), some (.ref 0), some (.ref 89), some (.int i)] [.int s] (HX w' (MC m')) 98 1755 q
  refine ev_go 2 (pc' := 1578) (L' := [some (.retAddr 1), some (.ref 0), some (.ref 89), some (.int i)]) (st' := []) (h' := HX w' (MC m')) (cs' := 98) (sl' := 1755) rfl ?_
  exact e
set_option maxHeartbeats 40000000 in
set_option maxRecDepth 100000 in
theorem LW_40 (xs : List Int32) (i : Int32) (n : Nat)  (w w' : WX) (m m' : WM) (r : Int64) (hc : Ff_digest_0 n w = some (r, w')) (hm : Fm_digest_89 n m = some (r, m')) {q : Option Value × ai_H} (e : ai_ev (D2 xs) mlaw 1578 [some (.retAddr 1), some (.ref 0), some (.ref 89), some (.int i)] [] (HX w' (MC m')) 98 1755 q) : ai_ev (D2 xs) mlaw 1564 [some (.retAddr 1), some (.ref 0), some (.ref 89), some (.int i)] [] (HX w (MC m)) 98 1755 q := by
  refine ev_go 1 (pc' := 1565) (L' := [some (.retAddr 1), some (.ref 0), some (.ref 89), some (.int i)]) (st' := [.ref 0]) (h' := HX w (MC m)) (cs' := 98) (sl' := 1755) rfl ?_
  refine ev_call (M' := mf_digest) (L' := [some (.ref 0), none, none, none]) (rest := []) (rv := some (.long r)) (h' := HX w' (MC m)) rfl (ev_sub (D12 xs) (Ef_digest_0 n w _ _ hc (MC m))) ?_
  show ai_ev (D2 xs) mlaw 1568 [some (.retAddr 1), some (.ref 0), some (.ref 89), some (.int i)] [.long r] (HX w' (MC m)) 98 1755 q
  refine ev_go 1 (pc' := 1569) (L' := [some (.retAddr 1), some (.ref 0), some (.ref 89), some (.int i)]) (st' := [.ref 89, .long r]) (h' := HX w' (MC m)) (cs' := 98) (sl' := 1755) rfl ?_
  refine ev_call (M' := mm_digest) (L' := [some (.ref 89), none]) (rest := [.long r]) (rv := some (.long r)) (h' := HX w' (MC m')) rfl (ev_hm xs (Em_digest_89 n m _ _ hm (PX w') [])) ?_
  show ai_ev (D2 xs) mlaw 1572 [some (.retAddr 1), some (.ref 0), some (.ref 89), some (.int i)] [.long r, .long r] (HX w' (MC m')) 98 1755 q
  refine ev_go 1 (pc' := 1573) (L' := [some (.retAddr 1), some (.ref 0), some (.ref 89), some (.int i)]) (st' := [.int (lg_cmp r r)]) (h' := HX w' (MC m')) (cs' := 98) (sl' := 1755) rfl ?_
  refine ev_if_eq (t := 1578) rfl rfl (fun _ => ?_) (fun c9 => absurd (lg_self r) c9)
  exact e
