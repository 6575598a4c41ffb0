/-! the fresh object of each side, and ranges: written by a program of the verifier -/
def wx0 : WX := (([0, 0], [0, 0, 0, 0, 0, 0], 0, 1, 0, 0, 0), (4, 0, 0, [10, 13, 16, 20], [0, 0, 0, 0], [0, 0, 0, 0, 0, 0, 0, 0, 0, 0, 0, 0, 0, 0, 0, 0, 0, 0, 0, 0, 0, 0, 0, 0], [3, 3, 3, 3, 3, 3, 3, 3, 3, 3, 3, 3, 3, 3, 3, 3, 3, 3, 3, 3, 3, 3, 3, 3], [0, 0, 0], 0, [0, 0, 0, 0, 0, 0], 0, [0, 0, 0, 0, 0, 0], [0, 0, 0, 0, 0, 0], 0, [0, 0, 0, 0, 0, 0, 0, 0, 0, 0]), (0, [0, 0, 0, 0, 0, 0], [0, 0, 0, 0, 0, 0], [0, 0, 0, 0, 0, 0], [0, 0, 0, 0, 0, 0]), (0, [0, 0, 0, 0, 0, 0, 0, 0, 0, 0], [0, 0, 0, 0, 0, 0, 0, 0, 0, 0], [0, 0, 0, 0, 0, 0, 0, 0, 0, 0]), (4, 0, 0, [10, 13, 16, 20], [0, 0, 0, 0], [0, 0, 0, 0, 0, 0, 0, 0, 0, 0, 0, 0, 0, 0, 0, 0, 0, 0, 0, 0, 0, 0, 0, 0], [3, 3, 3, 3, 3, 3, 3, 3, 3, 3, 3, 3, 3, 3, 3, 3, 3, 3, 3, 3, 3, 3, 3, 3], [0, 0, 0], 0, [0, 0, 0, 0, 0, 0], 0, [0, 0, 0, 0, 0, 0], [0, 0, 0, 0, 0, 0], 0, [0, 0, 0, 0, 0, 0, 0, 0, 0, 0]), (0, [0, 0, 0, 0, 0, 0], [0, 0, 0, 0, 0, 0], [0, 0, 0, 0, 0, 0], [0, 0, 0, 0, 0, 0]), (0, [0, 0, 0, 0, 0, 0, 0, 0, 0, 0], [0, 0, 0, 0, 0, 0, 0, 0, 0, 0], [0, 0, 0, 0, 0, 0, 0, 0, 0, 0]), (4, 0, 0, [10, 13, 16, 20], [0, 0, 0, 0], [0, 0, 0, 0, 0, 0, 0, 0, 0, 0, 0, 0, 0, 0, 0, 0, 0, 0, 0, 0, 0, 0, 0, 0], [3, 3, 3, 3, 3, 3, 3, 3, 3, 3, 3, 3, 3, 3, 3, 3, 3, 3, 3, 3, 3, 3, 3, 3], [0, 0, 0], 0, [0, 0, 0, 0, 0, 0], 0, [0, 0, 0, 0, 0, 0], [0, 0, 0, 0, 0, 0], 0, [0, 0, 0, 0, 0, 0, 0, 0, 0, 0]), (0, [0, 0, 0, 0, 0, 0], [0, 0, 0, 0, 0, 0], [0, 0, 0, 0, 0, 0], [0, 0, 0, 0, 0, 0]), (0, [0, 0, 0, 0, 0, 0, 0, 0, 0, 0], [0, 0, 0, 0, 0, 0, 0, 0, 0, 0], [0, 0, 0, 0, 0, 0, 0, 0, 0, 0]), (4, 0, 0, [10, 13, 16, 20], [0, 0, 0, 0], [0, 0, 0, 0, 0, 0, 0, 0, 0, 0, 0, 0, 0, 0, 0, 0, 0, 0, 0, 0, 0, 0, 0, 0], [3, 3, 3, 3, 3, 3, 3, 3, 3, 3, 3, 3, 3, 3, 3, 3, 3, 3, 3, 3, 3, 3, 3, 3], [0, 0, 0], 0, [0, 0, 0, 0, 0, 0], 0, [0, 0, 0, 0, 0, 0], [0, 0, 0, 0, 0, 0], 0, [0, 0, 0, 0, 0, 0, 0, 0, 0, 0]), (0, [0, 0, 0, 0, 0, 0], [0, 0, 0, 0, 0, 0], [0, 0, 0, 0, 0, 0], [0, 0, 0, 0, 0, 0]), (0, [0, 0, 0, 0, 0, 0, 0, 0, 0, 0], [0, 0, 0, 0, 0, 0, 0, 0, 0, 0], [0, 0, 0, 0, 0, 0, 0, 0, 0, 0]), (0, 0, (-1), [0, 0, 0, 0, 0, 0, 0, 0, 0, 0, 0, 0, 0, 0, 0, 0, 0, 0, 0, 0, 0, 0, 0, 0, 0, 0, 0, 0, 0, 0, 0, 0, 0, 0, 0, 0, 0, 0, 0, 0, 0, 0, 0, 0, 0, 0, 0, 0, 0, 0, 0, 0, 0, 0, 0, 0, 0, 0, 0, 0, 0, 0, 0, 0, 0, 0, 0, 0, 0, 0, 0, 0, 0, 0, 0, 0, 0, 0, 0, 0, 0, 0, 0, 0, 0, 0, 0, 0, 0, 0, 0, 0, 0, 0, 0, 0, 0, 0, 0, 0, 0, 0, 0, 0, 0, 0, 0, 0, 0, 0, 0, 0, 0, 0, 0, 0, 0, 0, 0, 0, 0, 0, 0, 0, 0, 0, 0, 0, 0, 0, 0, 0, 0, 0, 0, 0, 0, 0, 0, 0, 0, 0, 0, 0, 0, 0, 0, 0, 0, 0], [0, 0, 0], 0), (0, 0, 0, 0, 0, 0, (-1), [0, 0, 0, 0]), ([0, 0, 0, 0, 0, 0], [0, 0, 0, 0, 0, 0]), [0, 0, 0, 0, 0, 0, 0, 0, 0, 0, 0, 0, 0, 0, 0, 0, 0, 0, 0, 0, 0, 0, 0, 0])
def wm0 : WM := ([4, 0, 0, 0, 0, 0, 0, 0, 10, 13, 16, 20, 0, 0, 0, 0, 0, 0, 0, 0, 0, 0, 0, 0, 0, 0, 0, 0, 0, 0, 0, 0, 0, 0, 0, 0, 0, 0, 0, 0, 3, 3, 3, 3, 3, 3, 3, 3, 3, 3, 3, 3, 3, 3, 3, 3, 3, 3, 3, 3, 3, 3, 3, 3, 0, 0, 0, 0, 0, 0, 0, 0, 0, 0, 0, 0, 0, 0, 0, 0, 0, 0, 0, 0, 0, 0, 0, 0, 0, 0, 0, 0, 0, 0, 0, 0, 0, 0, 0, 0, 0, 0, 0, 0, 0, 0, 0, 0, 0, 0, 0, 0, 0, 0, 0, 0, 0, 0, 0, 0, 0, 0, 0, 0, 0, 0, 0, 0, 0, 0, 0, 0, 0, 0, 0, 0, 0, 0, 0, 0, 0, 0, 0, 0, 0, 0, 0, 0, 0, 0, 0, 0, 0, 0, 0, 0, 0, 0, 0, 0, 0, 0, 0, 0, 0, 0, 0, 0, 0, 0, 0, 0, 0, 0, 0, 0, 0, 0, 0, 0, 0, 0, 0, 0, 0, 0, 0, 0, 0, 0, 0, 0, 0, 0, 0, 0, 0, 0, 0, 0, 0, 0, 0, 0, 0, 0, 0, 0, 0, 0, 0, 0, 0, 0, 0, 0, 0, 0, 0, 0, 0, 0, 0, 0, 0, 0, 0, 0, 0, 0, 0, 0, 0, 0, 0, 0, 0, 0, 0, 0, 0, 0, 0, 0, 0, 0, 0, 0, 0, 0, 0, 0, 0, 0, 0, 0, 0, 0, 0, 0, 0, 0, 0, 0, 0, 0, 0, 0, 0, 0, 0, 0, 0, 0, 0, 0, 0, 0, 0, 0, 0, 0, 0, 0, 0, 0, 0, 0, 0, 0, 0, 0, 0, 0, 0, 0, 0, 0, 0, 0, 0, 0, 0, 0, 0, 0, 0, 0, 0, 0, 0, 0, 0, 0, 0, 0, 0, 0, 0, 0, 0, 0, 0, 0, 0, 0, 0, 0, 0, 0, 0, 0, 0, 0, 0, 0, 0, 0, 0, 0, 0, 0, 0, 0, 0, 0, 0, 0, 0, 0, 0, 0, 0, 0, 0, 0, 0, 0, 0, 0, 0, 0, 0, 0, 0, 0, 0, 0, 0, 0, 0, 0, 0, 0, 0, 0, 0, 0, 0, 0, 0, 0, 0, 0, 0, 0, 0, 0, 0, 0, 0, 0, 0, 0, 0, 0, 0, 0, 0, 0, 0, 0, 0, 0, 0, 0, 0, 0, 0, 0, 0, 0, 0, 0, 0, 0, 0, 0, 0, 0, 0, 0, 0, 0, 0, 0, 0, 0, 0, 0, 0, 0, 0, 0, 0, 0, 0, 0, 0, 0, 0, 0, 0, 0, 0, 0, 0, 0, 0, 0, 0, 0, 0, 0, 0, 0, 0, 0, 0, 0, 0, 0, 0, 0, 0, 0, 0, 0, 0, 0, 0, 0, 0, 0, 0, 0, 0, 0, 0, 0, 0, 0, 0, 0, 0, 0, 0, 0, 0, 0, 0, 0, 0, 0, 0, 0, 0, 0, 0, 0, 0, 0, 0, 0, 0, 0, 0, 0, 0, 0, 0, 0, 0, 0, 0, 0, 0, 0, 0, 0, 0, 0, 0, 0, 0, 0, 0, 0, 0, 0, 0, 0, 0, 0, 0, 0, 0, 0, 0, 0, 0, 0, 0, 0, 0, 0, 0, 0, 0, 0, 0, 0, 0, 0, 0, 0, 0, 0, 0, 0, 0, 0, 0, 0, 0, 0, 0, 0, 0, 0, 0, 0, 0, 0, 0, 0, 0, 0, 0, 0, 0, 0, 0, 0, 0, 0, 0, 0, 0, 0, 0, 0, 0, 0, 0, 0], [0, 0], [0, 0, 0, 0, 0, 0, 0, 0, 0, 0, 0, 0, 0, 0, 0, 0, 0, 0, 0, 0, 0, 0, 0, 0, 0, 0, 0, 0, 0, 0, 0, 0, 0, 0, 0, 0, 0, 0, 0, 0, 0, 0, 0, 0, 0, 0, 0, 0, 0, 0, 0, 0, 0, 0, 0, 0, 0, 0, 0, 0, 0, 0, 0, 0, 0, 0, 0, 0, 0, 0, 0, 0, 0, 0, 0, 0, 0, 0, 0, 0, 0, 0, 0, 0, 0, 0, 0, 0, 0, 0, 0, 0, 0, 0, 0, 0, 0, 0, 0, 0, 0, 0, 0, 0, 0, 0, 0, 0, 0, 0, 0, 0, 0, 0, 0, 0, 0, 0, 0, 0, 0, 0, 0, 0, 0, 0, 0, 0, 0, 0, 0, 0, 0, 0, 0, 0, 0, 0, 0, 0, 0, 0, 0, 0, 0, 0, 0, 0, 0, 0], 0, [0, 0, 0], 0, 1, 0, 0, 0, 0, [0, 0, 0], 0, 0, 0, 0, 0, 0, 0, 0, 0, 0, 0, 0, [0, 0, 0, 0, 0, 0, 0, 0, 0, 0, 0, 0, 0, 0, 0, 0, 0, 0, 0, 0, 0, 0, 0, 0, 0, 0, 0, 0, 0, 0, 0, 0, 0, 0, 0, 0, 0, 0, 0, 0, 0, 0, 0, 0, 0, 0, 0, 0, 0, 0, 0, 0, 0, 0, 0, 0, 0, 0, 0, 0], [0, 0, 0, 0, 0, 0], [0, 0, 0, 0, 0, 0], 0)
def beqE : ai_E → ai_E → Bool
  | .inl a, .inl b => decide (a = b)
  | .inr a, .inr b => decide (a = b)
  | _, _ => false
theorem beqE_eq : ∀ (a b : ai_E), beqE a b = true → a = b
  | .inl a, .inl b, h => by rw [of_decide_eq_true h]
  | .inr a, .inr b, h => by rw [of_decide_eq_true h]
  | .inl _, .inr _, h => by cases h
  | .inr _, .inl _, h => by cases h
def beqH : ai_H → ai_H → Bool
  | [], [] => true
  | a :: s, b :: t => beqE a b && beqH s t
  | _, _ => false
theorem beqH_eq : ∀ (a b : ai_H), beqH a b = true → a = b
  | [], [], _ => rfl
  | a :: s, b :: t, h => by
    unfold beqH at h
    rw [Bool.and_eq_true] at h
    rw [beqE_eq a b h.1, beqH_eq s t h.2]
  | [], _ :: _, h => by cases h
  | _ :: _, [], h => by cases h
def beqR (o : Option (Option Value × ai_H)) (v : Option Value) (h : ai_H) : Bool := match o with
  | some q => decide (q.1 = v) && beqH q.2 h
  | none => false
theorem beqR_eq {o : Option (Option Value × ai_H)} {v : Option Value} {h : ai_H} (e : beqR o v h = true) : o = some (v, h) := by
  cases o with
  | none => cases e
  | some q =>
    unfold beqR at e
    rw [Bool.and_eq_true] at e
    rw [← of_decide_eq_true e.1, ← beqH_eq q.2 h e.2]
theorem fresh_x : (ai_run D1 2000 mf_init 0 [some (.ref 0)] [] [.inr (7, ai_df 7)] 0 0) = some (none, HX wx0 []) := beqR_eq (by decide +kernel)
theorem fresh_m : (ai_run D1 3000 mm_init 0 [some (.ref 89)] [] (HX wx0 [.inr (8, ai_df 8)]) 0 0) = some (none, HX wx0 (MC wm0)) := beqR_eq (by decide +kernel)
/-! the law's loop of calls, the worlds side by side; written by a program of the verifier -/
set_option maxRecDepth 100000 in
theorem law_begin (xs : List Int32) {q : Option Value × ai_H} (e : ai_ev (D2 xs) mlaw 18 [some (.retAddr 1), some (.ref 0), some (.ref 89), some (.int 0)] [] (HX wx0 (MC wm0)) 98 1755 q) : ai_ev (D2 xs) mlaw 0 [some (.retAddr 1), none, none, none] [] [] 0 0 q := by
  refine ev_go 2 (pc' := 4) (L' := [some (.retAddr 1), none, none, none]) (st' := [.ref 0, .ref 0]) (h' := [.inr (7, ai_df 7)]) (cs' := 1) (sl' := 15) rfl ?_
  refine ev_call (M' := mf_init) (L' := [some (.ref 0)]) (rest := [.ref 0]) (rv := none) (h' := HX wx0 []) rfl (ev_sub (D12 xs) (ev_of fresh_x)) ?_
  show ai_ev (D2 xs) mlaw 7 [some (.retAddr 1), none, none, none] [.ref 0] (HX wx0 []) 89 901 q
  refine ev_go 3 (pc' := 12) (L' := [some (.retAddr 1), some (.ref 0), none, none]) (st' := [.ref 89, .ref 89]) (h' := HX wx0 [.inr (8, ai_df 8)]) (cs' := 90) (sl' := 929) rfl ?_
  refine ev_call (M' := mm_init) (L' := [some (.ref 89)]) (rest := [.ref 89]) (rv := none) (h' := HX wx0 (MC wm0)) rfl (ev_sub (D12 xs) (ev_of fresh_m)) ?_
  show ai_ev (D2 xs) mlaw 15 [some (.retAddr 1), some (.ref 0), none, none] [.ref 89] (HX wx0 (MC wm0)) 98 1755 q
  refine ev_go 3 (pc' := 18) (L' := [some (.retAddr 1), some (.ref 0), some (.ref 89), some (.int 0)]) (st' := []) (h' := HX wx0 (MC wm0)) (cs' := 98) (sl' := 1755) rfl ?_
  exact e
set_option maxRecDepth 100000 in
theorem law_exit (xs : List Int32) (i : Int32) (h : ai_H) (hc : Int32.ofNat xs.length - 6 < i) : ai_ev (D2 xs) mlaw 18 [some (.retAddr 1), some (.ref 0), some (.ref 89), some (.int i)] [] h 98 1755 (some (.int 1), h) := by
  refine ev_go 5 (pc' := 24) (L' := [some (.retAddr 1), some (.ref 0), some (.ref 89), some (.int i)]) (st' := [.int (Int32.ofNat xs.length - 6), .int i]) (h' := h) (cs' := 98) (sl' := 1755) rfl ?_
  refine ev_ic_gt (t := 1584) rfl rfl (fun _ => ?_) (fun c9 => absurd hc c9)
  refine ev_go 1 (pc' := 1585) (L' := [some (.retAddr 1), some (.ref 0), some (.ref 89), some (.int i)]) (st' := [.int 1]) (h' := h) (cs' := 98) (sl' := 1755) rfl ?_
  exact ev_end rfl
set_option maxRecDepth 100000 in
theorem law_sw (xs : List Int32) (i c : Int32) (h : ai_H) {q : Option Value × ai_H} (hc : ¬ Int32.ofNat xs.length - 6 < i) (hx : ai_ix xs i = some c) (e : ai_ev (D2 xs) mlaw 33 [some (.retAddr 1), some (.ref 0), some (.ref 89), some (.int i)] [.int (c &&& 63)] h 98 1755 q) : ai_ev (D2 xs) mlaw 18 [some (.retAddr 1), some (.ref 0), some (.ref 89), some (.int i)] [] h 98 1755 q := by
  refine ev_go 5 (pc' := 24) (L' := [some (.retAddr 1), some (.ref 0), some (.ref 89), some (.int i)]) (st' := [.int (Int32.ofNat xs.length - 6), .int i]) (h' := h) (cs' := 98) (sl' := 1755) rfl ?_
  refine ev_ic_gt (t := 1584) rfl rfl (fun c9 => absurd c9 hc) (fun _ => ?_)
  refine ev_go 2 (pc' := 29) (L' := [some (.retAddr 1), some (.ref 0), some (.ref 89), some (.int i)]) (st' := [.int i, .retAddr 1]) (h' := h) (cs' := 98) (sl' := 1755) rfl ?_
  refine ev_xald rfl rfl hx ?_
  refine ev_go 2 (pc' := 33) (L' := [some (.retAddr 1), some (.ref 0), some (.ref 89), some (.int i)]) (st' := [.int (c &&& 63)]) (h' := h) (cs' := 98) (sl' := 1755) rfl ?_
  exact e
set_option maxRecDepth 100000 in
theorem law_back (xs : List Int32) (i : Int32) (h : ai_H) {q : Option Value × ai_H} (e : ai_ev (D2 xs) mlaw 18 [some (.retAddr 1), some (.ref 0), some (.ref 89), some (.int (i + 6))] [] h 98 1755 q) : ai_ev (D2 xs) mlaw 1578 [some (.retAddr 1), some (.ref 0), some (.ref 89), some (.int i)] [] h 98 1755 q := by
  refine ev_go 2 (pc' := 18) (L' := [some (.retAddr 1), some (.ref 0), some (.ref 89), some (.int (i + 6))]) (st' := []) (h' := h) (cs' := 98) (sl' := 1755) rfl ?_
  exact e
/-- the law goes on well from the end of its loop's body, whatever worlds stand side by side there -/
def lwGo (xs : List Int32) (i : Int32) : Prop := ∀ (w : WX) (m : WM), R w m → ∃ h', ai_ev (D2 xs) mlaw 1578 [some (.retAddr 1), some (.ref 0), some (.ref 89), some (.int i)] [] (HX w (MC m)) 98 1755 (some (.int 1), h')
set_option maxRecDepth 100000 in
theorem law_c0 (xs : List Int32) (i c a1 a2 a3 a4 a5 : Int32) (h1 : ai_ix xs (i + 1) = some a1) (h2 : ai_ix xs (i + 2) = some a2) (h3 : ai_ix xs (i + 3) = some a3) (h4 : ai_ix xs (i + 4) = some a4) (h5 : ai_ix xs (i + 5) = some a5) (hk : c &&& 63 = 0) {w : WX} {m : WM} (h : R w m) (go : lwGo xs i) : ∃ h', ai_ev (D2 xs) mlaw 33 [some (.retAddr 1), some (.ref 0), some (.ref 89), some (.int i)] [.int (c &&& 63)] (HX w (MC m)) 98 1755 (some (.int 1), h') := by
  obtain ⟨N, hN⟩ := C_sea h a1
  obtain ⟨r, w', m', hc, hm, hR⟩ := hN N (Nat.le_refl N)
  obtain ⟨h', e⟩ := go w' m' hR
  exact ⟨h', ev_swi (k := 0) (t := 212) rfl hk (by decide) (by decide) rfl rfl (LW_0 xs i N a1 h1 w w' m m' r r hc hm e)⟩
set_option maxRecDepth 100000 in
theorem law_c1 (xs : List Int32) (i c a1 a2 a3 a4 a5 : Int32) (h1 : ai_ix xs (i + 1) = some a1) (h2 : ai_ix xs (i + 2) = some a2) (h3 : ai_ix xs (i + 3) = some a3) (h4 : ai_ix xs (i + 4) = some a4) (h5 : ai_ix xs (i + 5) = some a5) (hk : c &&& 63 = 1) {w : WX} {m : WM} (h : R w m) (go : lwGo xs i) : ∃ h', ai_ev (D2 xs) mlaw 33 [some (.retAddr 1), some (.ref 0), some (.ref 89), some (.int i)] [.int (c &&& 63)] (HX w (MC m)) 98 1755 (some (.int 1), h') := by
  obtain ⟨N, hN⟩ := C_water h a1 a2
  obtain ⟨r, w', m', hc, hm, hR⟩ := hN N (Nat.le_refl N)
  obtain ⟨h', e⟩ := go w' m' hR
  exact ⟨h', ev_swi (k := 1) (t := 235) rfl hk (by decide) (by decide) rfl rfl (LW_1 xs i a1 a2 h1 h2 w w' m m' r r hc hm e)⟩
set_option maxRecDepth 100000 in
theorem law_c2 (xs : List Int32) (i c a1 a2 a3 a4 a5 : Int32) (h1 : ai_ix xs (i + 1) = some a1) (h2 : ai_ix xs (i + 2) = some a2) (h3 : ai_ix xs (i + 3) = some a3) (h4 : ai_ix xs (i + 4) = some a4) (h5 : ai_ix xs (i + 5) = some a5) (hk : c &&& 63 = 2) {w : WX} {m : WM} (h : R w m) (go : lwGo xs i) : ∃ h', ai_ev (D2 xs) mlaw 33 [some (.retAddr 1), some (.ref 0), some (.ref 89), some (.int i)] [.int (c &&& 63)] (HX w (MC m)) 98 1755 (some (.int 1), h') := by
  obtain ⟨N, hN⟩ := C_thick h a1 a2 a3
  obtain ⟨r, w', m', hc, hm, hR⟩ := hN N (Nat.le_refl N)
  obtain ⟨h', e⟩ := go w' m' hR
  exact ⟨h', ev_swi (k := 2) (t := 268) rfl hk (by decide) (by decide) rfl rfl (LW_2 xs i a1 a2 a3 h1 h2 h3 w w' m m' r r hc hm e)⟩
set_option maxRecDepth 100000 in
theorem law_c3 (xs : List Int32) (i c a1 a2 a3 a4 a5 : Int32) (h1 : ai_ix xs (i + 1) = some a1) (h2 : ai_ix xs (i + 2) = some a2) (h3 : ai_ix xs (i + 3) = some a3) (h4 : ai_ix xs (i + 4) = some a4) (h5 : ai_ix xs (i + 5) = some a5) (hk : c &&& 63 = 3) {w : WX} {m : WM} (h : R w m) (go : lwGo xs i) : ∃ h', ai_ev (D2 xs) mlaw 33 [some (.retAddr 1), some (.ref 0), some (.ref 89), some (.int i)] [.int (c &&& 63)] (HX w (MC m)) 98 1755 (some (.int 1), h') := by
  obtain ⟨N, hN⟩ := C_skin h a1 a2
  obtain ⟨r, w', m', hc, hm, hR⟩ := hN N (Nat.le_refl N)
  obtain ⟨h', e⟩ := go w' m' hR
  exact ⟨h', ev_swi (k := 3) (t := 311) rfl hk (by decide) (by decide) rfl rfl (LW_3 xs i a1 a2 h1 h2 w w' m m' r r hc hm e)⟩
set_option maxRecDepth 100000 in
theorem law_c4 (xs : List Int32) (i c a1 a2 a3 a4 a5 : Int32) (h1 : ai_ix xs (i + 1) = some a1) (h2 : ai_ix xs (i + 2) = some a2) (h3 : ai_ix xs (i + 3) = some a3) (h4 : ai_ix xs (i + 4) = some a4) (h5 : ai_ix xs (i + 5) = some a5) (hk : c &&& 63 = 4) {w : WX} {m : WM} (h : R w m) (go : lwGo xs i) : ∃ h', ai_ev (D2 xs) mlaw 33 [some (.retAddr 1), some (.ref 0), some (.ref 89), some (.int i)] [.int (c &&& 63)] (HX w (MC m)) 98 1755 (some (.int 1), h') := by
  obtain ⟨N, hN⟩ := C_tide h a1 a2 a3
  obtain ⟨r, w', m', hc, hm, hR⟩ := hN N (Nat.le_refl N)
  obtain ⟨h', e⟩ := go w' m' hR
  exact ⟨h', ev_swi (k := 4) (t := 344) rfl hk (by decide) (by decide) rfl rfl (LW_4 xs i a1 a2 a3 h1 h2 h3 w w' m m' r r hc hm e)⟩
set_option maxRecDepth 100000 in
theorem law_c5 (xs : List Int32) (i c a1 a2 a3 a4 a5 : Int32) (h1 : ai_ix xs (i + 1) = some a1) (h2 : ai_ix xs (i + 2) = some a2) (h3 : ai_ix xs (i + 3) = some a3) (h4 : ai_ix xs (i + 4) = some a4) (h5 : ai_ix xs (i + 5) = some a5) (hk : c &&& 63 = 5) {w : WX} {m : WM} (h : R w m) (go : lwGo xs i) : ∃ h', ai_ev (D2 xs) mlaw 33 [some (.retAddr 1), some (.ref 0), some (.ref 89), some (.int i)] [.int (c &&& 63)] (HX w (MC m)) 98 1755 (some (.int 1), h') := by
  obtain ⟨N, hN⟩ := C_current h a1 a2
  obtain ⟨r, w', m', hc, hm, hR⟩ := hN N (Nat.le_refl N)
  obtain ⟨h', e⟩ := go w' m' hR
  exact ⟨h', ev_swi (k := 5) (t := 387) rfl hk (by decide) (by decide) rfl rfl (LW_5 xs i a1 a2 h1 h2 w w' m m' r r hc hm e)⟩
set_option maxRecDepth 100000 in
theorem law_c6 (xs : List Int32) (i c a1 a2 a3 a4 a5 : Int32) (h1 : ai_ix xs (i + 1) = some a1) (h2 : ai_ix xs (i + 2) = some a2) (h3 : ai_ix xs (i + 3) = some a3) (h4 : ai_ix xs (i + 4) = some a4) (h5 : ai_ix xs (i + 5) = some a5) (hk : c &&& 63 = 6) {w : WX} {m : WM} (h : R w m) (go : lwGo xs i) : ∃ h', ai_ev (D2 xs) mlaw 33 [some (.retAddr 1), some (.ref 0), some (.ref 89), some (.int i)] [.int (c &&& 63)] (HX w (MC m)) 98 1755 (some (.int 1), h') := by
  obtain ⟨N, hN⟩ := C_thing h a1 a2 a3
  obtain ⟨r, w', m', hc, hm, hR⟩ := hN N (Nat.le_refl N)
  obtain ⟨h', e⟩ := go w' m' hR
  exact ⟨h', ev_swi (k := 6) (t := 420) rfl hk (by decide) (by decide) rfl rfl (LW_6 xs i a1 a2 a3 h1 h2 h3 w w' m m' r r hc hm e)⟩
set_option maxRecDepth 100000 in
theorem law_c7 (xs : List Int32) (i c a1 a2 a3 a4 a5 : Int32) (h1 : ai_ix xs (i + 1) = some a1) (h2 : ai_ix xs (i + 2) = some a2) (h3 : ai_ix xs (i + 3) = some a3) (h4 : ai_ix xs (i + 4) = some a4) (h5 : ai_ix xs (i + 5) = some a5) (hk : c &&& 63 = 7) {w : WX} {m : WM} (h : R w m) (go : lwGo xs i) : ∃ h', ai_ev (D2 xs) mlaw 33 [some (.retAddr 1), some (.ref 0), some (.ref 89), some (.int i)] [.int (c &&& 63)] (HX w (MC m)) 98 1755 (some (.int 1), h') := by
  obtain ⟨N, hN⟩ := C_ballast h a1 a2
  obtain ⟨r, w', m', hc, hm, hR⟩ := hN N (Nat.le_refl N)
  obtain ⟨h', e⟩ := go w' m' hR
  exact ⟨h', ev_swi (k := 7) (t := 463) rfl hk (by decide) (by decide) rfl rfl (LW_7 xs i a1 a2 h1 h2 w w' m m' r r hc hm e)⟩
set_option maxRecDepth 100000 in
theorem law_c8 (xs : List Int32) (i c a1 a2 a3 a4 a5 : Int32) (h1 : ai_ix xs (i + 1) = some a1) (h2 : ai_ix xs (i + 2) = some a2) (h3 : ai_ix xs (i + 3) = some a3) (h4 : ai_ix xs (i + 4) = some a4) (h5 : ai_ix xs (i + 5) = some a5) (hk : c &&& 63 = 8) {w : WX} {m : WM} (h : R w m) (go : lwGo xs i) : ∃ h', ai_ev (D2 xs) mlaw 33 [some (.retAddr 1), some (.ref 0), some (.ref 89), some (.int i)] [.int (c &&& 63)] (HX w (MC m)) 98 1755 (some (.int 1), h') := by
  obtain ⟨N, hN⟩ := C_lift h a1 a2 a3
  obtain ⟨r, w', m', hc, hm, hR⟩ := hN N (Nat.le_refl N)
  obtain ⟨h', e⟩ := go w' m' hR
  exact ⟨h', ev_swi (k := 8) (t := 496) rfl hk (by decide) (by decide) rfl rfl (LW_8 xs i a1 a2 a3 h1 h2 h3 w w' m m' r r hc hm e)⟩
set_option maxRecDepth 100000 in
theorem law_c9 (xs : List Int32) (i c a1 a2 a3 a4 a5 : Int32) (h1 : ai_ix xs (i + 1) = some a1) (h2 : ai_ix xs (i + 2) = some a2) (h3 : ai_ix xs (i + 3) = some a3) (h4 : ai_ix xs (i + 4) = some a4) (h5 : ai_ix xs (i + 5) = some a5) (hk : c &&& 63 = 9) {w : WX} {m : WM} (h : R w m) (go : lwGo xs i) : ∃ h', ai_ev (D2 xs) mlaw 33 [some (.retAddr 1), some (.ref 0), some (.ref 89), some (.int i)] [.int (c &&& 63)] (HX w (MC m)) 98 1755 (some (.int 1), h') := by
  obtain ⟨N, hN⟩ := C_town h a1
  obtain ⟨r, w', m', hc, hm, hR⟩ := hN N (Nat.le_refl N)
  obtain ⟨h', e⟩ := go w' m' hR
  exact ⟨h', ev_swi (k := 9) (t := 539) rfl hk (by decide) (by decide) rfl rfl (LW_9 xs i N a1 h1 w w' m m' r r hc hm e)⟩
set_option maxRecDepth 100000 in
theorem law_c10t (xs : List Int32) (i c a1 a2 a3 a4 a5 : Int32) (h1 : ai_ix xs (i + 1) = some a1) (h2 : ai_ix xs (i + 2) = some a2) (h3 : ai_ix xs (i + 3) = some a3) (h4 : ai_ix xs (i + 4) = some a4) (h5 : ai_ix xs (i + 5) = some a5) (hk : c &&& 63 = 10) (hb : a2 = 0) {w : WX} {m : WM} (h : R w m) (go : lwGo xs i) : ∃ h', ai_ev (D2 xs) mlaw 33 [some (.retAddr 1), some (.ref 0), some (.ref 89), some (.int i)] [.int (c &&& 63)] (HX w (MC m)) 98 1755 (some (.int 1), h') := by
  obtain ⟨N, hN⟩ := C_dam h a1 0 (Or.inl rfl)
  obtain ⟨r, w', m', hc, hm, hR⟩ := hN N (Nat.le_refl N)
  obtain ⟨h', e⟩ := go w' m' hR
  exact ⟨h', ev_swi (k := 10) (t := 562) rfl hk (by decide) (by decide) rfl rfl (LW_10t xs i a1 a2 h1 h2 hb w w' m m' r r hc hm e)⟩
set_option maxRecDepth 100000 in
theorem law_c10f (xs : List Int32) (i c a1 a2 a3 a4 a5 : Int32) (h1 : ai_ix xs (i + 1) = some a1) (h2 : ai_ix xs (i + 2) = some a2) (h3 : ai_ix xs (i + 3) = some a3) (h4 : ai_ix xs (i + 4) = some a4) (h5 : ai_ix xs (i + 5) = some a5) (hk : c &&& 63 = 10) (hb : ¬ a2 = 0) {w : WX} {m : WM} (h : R w m) (go : lwGo xs i) : ∃ h', ai_ev (D2 xs) mlaw 33 [some (.retAddr 1), some (.ref 0), some (.ref 89), some (.int i)] [.int (c &&& 63)] (HX w (MC m)) 98 1755 (some (.int 1), h') := by
  obtain ⟨N, hN⟩ := C_dam h a1 1 (Or.inr rfl)
  obtain ⟨r, w', m', hc, hm, hR⟩ := hN N (Nat.le_refl N)
  obtain ⟨h', e⟩ := go w' m' hR
  exact ⟨h', ev_swi (k := 10) (t := 562) rfl hk (by decide) (by decide) rfl rfl (LW_10f xs i a1 a2 h1 h2 hb w w' m m' r r hc hm e)⟩
set_option maxRecDepth 100000 in
theorem law_c11t (xs : List Int32) (i c a1 a2 a3 a4 a5 : Int32) (h1 : ai_ix xs (i + 1) = some a1) (h2 : ai_ix xs (i + 2) = some a2) (h3 : ai_ix xs (i + 3) = some a3) (h4 : ai_ix xs (i + 4) = some a4) (h5 : ai_ix xs (i + 5) = some a5) (hk : c &&& 63 = 11) (hb : a2 = 0) {w : WX} {m : WM} (h : R w m) (go : lwGo xs i) : ∃ h', ai_ev (D2 xs) mlaw 33 [some (.retAddr 1), some (.ref 0), some (.ref 89), some (.int i)] [.int (c &&& 63)] (HX w (MC m)) 98 1755 (some (.int 1), h') := by
  obtain ⟨N, hN⟩ := C_drop h a1 0
  obtain ⟨r, w', m', hc, hm, hR⟩ := hN N (Nat.le_refl N)
  obtain ⟨h', e⟩ := go w' m' hR
  exact ⟨h', ev_swi (k := 11) (t := 611) rfl hk (by decide) (by decide) rfl rfl (LW_11t xs i a1 a2 h1 h2 hb w w' m m' r r hc hm e)⟩
set_option maxRecDepth 100000 in
theorem law_c11f (xs : List Int32) (i c a1 a2 a3 a4 a5 : Int32) (h1 : ai_ix xs (i + 1) = some a1) (h2 : ai_ix xs (i + 2) = some a2) (h3 : ai_ix xs (i + 3) = some a3) (h4 : ai_ix xs (i + 4) = some a4) (h5 : ai_ix xs (i + 5) = some a5) (hk : c &&& 63 = 11) (hb : ¬ a2 = 0) {w : WX} {m : WM} (h : R w m) (go : lwGo xs i) : ∃ h', ai_ev (D2 xs) mlaw 33 [some (.retAddr 1), some (.ref 0), some (.ref 89), some (.int i)] [.int (c &&& 63)] (HX w (MC m)) 98 1755 (some (.int 1), h') := by
  obtain ⟨N, hN⟩ := C_drop h a1 1
  obtain ⟨r, w', m', hc, hm, hR⟩ := hN N (Nat.le_refl N)
  obtain ⟨h', e⟩ := go w' m' hR
  exact ⟨h', ev_swi (k := 11) (t := 611) rfl hk (by decide) (by decide) rfl rfl (LW_11f xs i a1 a2 h1 h2 hb w w' m m' r r hc hm e)⟩
set_option maxRecDepth 100000 in
theorem law_c12 (xs : List Int32) (i c a1 a2 a3 a4 a5 : Int32) (h1 : ai_ix xs (i + 1) = some a1) (h2 : ai_ix xs (i + 2) = some a2) (h3 : ai_ix xs (i + 3) = some a3) (h4 : ai_ix xs (i + 4) = some a4) (h5 : ai_ix xs (i + 5) = some a5) (hk : c &&& 63 = 12) {w : WX} {m : WM} (h : R w m) (go : lwGo xs i) : ∃ h', ai_ev (D2 xs) mlaw 33 [some (.retAddr 1), some (.ref 0), some (.ref 89), some (.int i)] [.int (c &&& 63)] (HX w (MC m)) 98 1755 (some (.int 1), h') := by
  obtain ⟨N, hN⟩ := C_clean h a1
  obtain ⟨r, w', m', hc, hm, hR⟩ := hN N (Nat.le_refl N)
  obtain ⟨h', e⟩ := go w' m' hR
  exact ⟨h', ev_swi (k := 12) (t := 660) rfl hk (by decide) (by decide) rfl rfl (LW_12 xs i a1 h1 w w' m m' r r hc hm e)⟩
set_option maxRecDepth 100000 in
theorem law_c13 (xs : List Int32) (i c a1 a2 a3 a4 a5 : Int32) (h1 : ai_ix xs (i + 1) = some a1) (h2 : ai_ix xs (i + 2) = some a2) (h3 : ai_ix xs (i + 3) = some a3) (h4 : ai_ix xs (i + 4) = some a4) (h5 : ai_ix xs (i + 5) = some a5) (hk : c &&& 63 = 13) {w : WX} {m : WM} (h : R w m) (go : lwGo xs i) : ∃ h', ai_ev (D2 xs) mlaw 33 [some (.retAddr 1), some (.ref 0), some (.ref 89), some (.int i)] [.int (c &&& 63)] (HX w (MC m)) 98 1755 (some (.int 1), h') := by
  obtain ⟨N, hN⟩ := C_type h a1
  obtain ⟨r, w', m', hc, hm, hR⟩ := hN N (Nat.le_refl N)
  obtain ⟨h', e⟩ := go w' m' hR
  exact ⟨h', ev_swi (k := 13) (t := 683) rfl hk (by decide) (by decide) rfl rfl (LW_13 xs i a1 h1 w w' m m' r r hc hm e)⟩
set_option maxRecDepth 100000 in
theorem law_c14 (xs : List Int32) (i c a1 a2 a3 a4 a5 : Int32) (h1 : ai_ix xs (i + 1) = some a1) (h2 : ai_ix xs (i + 2) = some a2) (h3 : ai_ix xs (i + 3) = some a3) (h4 : ai_ix xs (i + 4) = some a4) (h5 : ai_ix xs (i + 5) = some a5) (hk : c &&& 63 = 14) {w : WX} {m : WM} (h : R w m) (go : lwGo xs i) : ∃ h', ai_ev (D2 xs) mlaw 33 [some (.retAddr 1), some (.ref 0), some (.ref 89), some (.int i)] [.int (c &&& 63)] (HX w (MC m)) 98 1755 (some (.int 1), h') := by
  obtain ⟨N, hN⟩ := C_clear h 
  obtain ⟨r, w', m', hc, hm, hR⟩ := hN N (Nat.le_refl N)
  obtain ⟨h', e⟩ := go w' m' hR
  exact ⟨h', ev_swi (k := 14) (t := 706) rfl hk (by decide) (by decide) rfl rfl (LW_14 xs i w w' m m' r r hc hm e)⟩
set_option maxRecDepth 100000 in
theorem law_c15 (xs : List Int32) (i c a1 a2 a3 a4 a5 : Int32) (h1 : ai_ix xs (i + 1) = some a1) (h2 : ai_ix xs (i + 2) = some a2) (h3 : ai_ix xs (i + 3) = some a3) (h4 : ai_ix xs (i + 4) = some a4) (h5 : ai_ix xs (i + 5) = some a5) (hk : c &&& 63 = 15) {w : WX} {m : WM} (h : R w m) (go : lwGo xs i) : ∃ h', ai_ev (D2 xs) mlaw 33 [some (.retAddr 1), some (.ref 0), some (.ref 89), some (.int i)] [.int (c &&& 63)] (HX w (MC m)) 98 1755 (some (.int 1), h') := by
  obtain ⟨N, hN⟩ := Cg_read h 
  obtain ⟨r, s, w', m', hc, hm, hR⟩ := hN N (Nat.le_refl N)
  obtain ⟨h', e⟩ := go w' m' hR
  exact ⟨h', ev_swi (k := 15) (t := 719) rfl hk (by decide) (by decide) rfl rfl (LW_15 xs i N w w' m m' r s hc hm e)⟩
set_option maxRecDepth 100000 in
theorem law_c16 (xs : List Int32) (i c a1 a2 a3 a4 a5 : Int32) (h1 : ai_ix xs (i + 1) = some a1) (h2 : ai_ix xs (i + 2) = some a2) (h3 : ai_ix xs (i + 3) = some a3) (h4 : ai_ix xs (i + 4) = some a4) (h5 : ai_ix xs (i + 5) = some a5) (hk : c &&& 63 = 16) {w : WX} {m : WM} (h : R w m) (go : lwGo xs i) : ∃ h', ai_ev (D2 xs) mlaw 33 [some (.retAddr 1), some (.ref 0), some (.ref 89), some (.int i)] [.int (c &&& 63)] (HX w (MC m)) 98 1755 (some (.int 1), h') := by
  obtain ⟨N, hN⟩ := C_hours h a1
  obtain ⟨r, w', m', hc, hm, hR⟩ := hN N (Nat.le_refl N)
  obtain ⟨h', e⟩ := go w' m' hR
  exact ⟨h', ev_swi (k := 16) (t := 732) rfl hk (by decide) (by decide) rfl rfl (LW_16 xs i N a1 h1 w w' m m' r r hc hm e)⟩
set_option maxRecDepth 100000 in
theorem law_c17 (xs : List Int32) (i c a1 a2 a3 a4 a5 : Int32) (h1 : ai_ix xs (i + 1) = some a1) (h2 : ai_ix xs (i + 2) = some a2) (h3 : ai_ix xs (i + 3) = some a3) (h4 : ai_ix xs (i + 4) = some a4) (h5 : ai_ix xs (i + 5) = some a5) (hk : c &&& 63 = 17) {w : WX} {m : WM} (h : R w m) (go : lwGo xs i) : ∃ h', ai_ev (D2 xs) mlaw 33 [some (.retAddr 1), some (.ref 0), some (.ref 89), some (.int i)] [.int (c &&& 63)] (HX w (MC m)) 98 1755 (some (.int 1), h') := by
  obtain ⟨N, hN⟩ := C_undo h 
  obtain ⟨r, w', m', hc, hm, hR⟩ := hN N (Nat.le_refl N)
  obtain ⟨h', e⟩ := go w' m' hR
  exact ⟨h', ev_swi (k := 17) (t := 755) rfl hk (by decide) (by decide) rfl rfl (LW_17 xs i w w' m m' r r hc hm e)⟩
set_option maxRecDepth 100000 in
theorem law_c18 (xs : List Int32) (i c a1 a2 a3 a4 a5 : Int32) (h1 : ai_ix xs (i + 1) = some a1) (h2 : ai_ix xs (i + 2) = some a2) (h3 : ai_ix xs (i + 3) = some a3) (h4 : ai_ix xs (i + 4) = some a4) (h5 : ai_ix xs (i + 5) = some a5) (hk : c &&& 63 = 18) {w : WX} {m : WM} (h : R w m) (go : lwGo xs i) : ∃ h', ai_ev (D2 xs) mlaw 33 [some (.retAddr 1), some (.ref 0), some (.ref 89), some (.int i)] [.int (c &&& 63)] (HX w (MC m)) 98 1755 (some (.int 1), h') := by
  obtain ⟨N, hN⟩ := C_of h a1 a2
  obtain ⟨r, w', m', hc, hm, hR⟩ := hN N (Nat.le_refl N)
  obtain ⟨h', e⟩ := go w' m' hR
  exact ⟨h', ev_swi (k := 18) (t := 768) rfl hk (by decide) (by decide) rfl rfl (LW_18 xs i a1 a2 h1 h2 w w' m m' r r hc hm e)⟩
set_option maxRecDepth 100000 in
theorem law_c19 (xs : List Int32) (i c a1 a2 a3 a4 a5 : Int32) (h1 : ai_ix xs (i + 1) = some a1) (h2 : ai_ix xs (i + 2) = some a2) (h3 : ai_ix xs (i + 3) = some a3) (h4 : ai_ix xs (i + 4) = some a4) (h5 : ai_ix xs (i + 5) = some a5) (hk : c &&& 63 = 19) {w : WX} {m : WM} (h : R w m) (go : lwGo xs i) : ∃ h', ai_ev (D2 xs) mlaw 33 [some (.retAddr 1), some (.ref 0), some (.ref 89), some (.int i)] [.int (c &&& 63)] (HX w (MC m)) 98 1755 (some (.int 1), h') := by
  obtain ⟨N, hN⟩ := C_deep h a1 a2
  obtain ⟨r, w', m', hc, hm, hR⟩ := hN N (Nat.le_refl N)
  obtain ⟨h', e⟩ := go w' m' hR
  exact ⟨h', ev_swi (k := 19) (t := 801) rfl hk (by decide) (by decide) rfl rfl (LW_19 xs i a1 a2 h1 h2 w w' m m' r r hc hm e)⟩
set_option maxRecDepth 100000 in
theorem law_c20 (xs : List Int32) (i c a1 a2 a3 a4 a5 : Int32) (h1 : ai_ix xs (i + 1) = some a1) (h2 : ai_ix xs (i + 2) = some a2) (h3 : ai_ix xs (i + 3) = some a3) (h4 : ai_ix xs (i + 4) = some a4) (h5 : ai_ix xs (i + 5) = some a5) (hk : c &&& 63 = 20) {w : WX} {m : WM} (h : R w m) (go : lwGo xs i) : ∃ h', ai_ev (D2 xs) mlaw 33 [some (.retAddr 1), some (.ref 0), some (.ref 89), some (.int i)] [.int (c &&& 63)] (HX w (MC m)) 98 1755 (some (.int 1), h') := by
  obtain ⟨N, hN⟩ := C_rests h a1 a2 a3
  obtain ⟨r, w', m', hc, hm, hR⟩ := hN N (Nat.le_refl N)
  obtain ⟨h', e⟩ := go w' m' hR
  exact ⟨h', ev_swi (k := 20) (t := 834) rfl hk (by decide) (by decide) rfl rfl (LW_20 xs i N a1 a2 a3 h1 h2 h3 w w' m m' r r hc hm e)⟩
set_option maxRecDepth 100000 in
theorem law_c21 (xs : List Int32) (i c a1 a2 a3 a4 a5 : Int32) (h1 : ai_ix xs (i + 1) = some a1) (h2 : ai_ix xs (i + 2) = some a2) (h3 : ai_ix xs (i + 3) = some a3) (h4 : ai_ix xs (i + 4) = some a4) (h5 : ai_ix xs (i + 5) = some a5) (hk : c &&& 63 = 21) {w : WX} {m : WM} (h : R w m) (go : lwGo xs i) : ∃ h', ai_ev (D2 xs) mlaw 33 [some (.retAddr 1), some (.ref 0), some (.ref 89), some (.int i)] [.int (c &&& 63)] (HX w (MC m)) 98 1755 (some (.int 1), h') := by
  obtain ⟨N, hN⟩ := C_sink h a1 a2 a3
  obtain ⟨r, w', m', hc, hm, hR⟩ := hN N (Nat.le_refl N)
  obtain ⟨h', e⟩ := go w' m' hR
  exact ⟨h', ev_swi (k := 21) (t := 877) rfl hk (by decide) (by decide) rfl rfl (LW_21 xs i N a1 a2 a3 h1 h2 h3 w w' m m' r r hc hm e)⟩
set_option maxRecDepth 100000 in
theorem law_c22 (xs : List Int32) (i c a1 a2 a3 a4 a5 : Int32) (h1 : ai_ix xs (i + 1) = some a1) (h2 : ai_ix xs (i + 2) = some a2) (h3 : ai_ix xs (i + 3) = some a3) (h4 : ai_ix xs (i + 4) = some a4) (h5 : ai_ix xs (i + 5) = some a5) (hk : c &&& 63 = 22) {w : WX} {m : WM} (h : R w m) (go : lwGo xs i) : ∃ h', ai_ev (D2 xs) mlaw 33 [some (.retAddr 1), some (.ref 0), some (.ref 89), some (.int i)] [.int (c &&& 63)] (HX w (MC m)) 98 1755 (some (.int 1), h') := by
  obtain ⟨N, hN⟩ := C_holds h a1 a2
  obtain ⟨r, w', m', hc, hm, hR⟩ := hN N (Nat.le_refl N)
  obtain ⟨h', e⟩ := go w' m' hR
  exact ⟨h', ev_swi (k := 22) (t := 920) rfl hk (by decide) (by decide) rfl rfl (LW_22 xs i N a1 a2 h1 h2 w w' m m' r r hc hm e)⟩
set_option maxRecDepth 100000 in
theorem law_c23 (xs : List Int32) (i c a1 a2 a3 a4 a5 : Int32) (h1 : ai_ix xs (i + 1) = some a1) (h2 : ai_ix xs (i + 2) = some a2) (h3 : ai_ix xs (i + 3) = some a3) (h4 : ai_ix xs (i + 4) = some a4) (h5 : ai_ix xs (i + 5) = some a5) (hk : c &&& 63 = 23) {w : WX} {m : WM} (h : R w m) (go : lwGo xs i) : ∃ h', ai_ev (D2 xs) mlaw 33 [some (.retAddr 1), some (.ref 0), some (.ref 89), some (.int i)] [.int (c &&& 63)] (HX w (MC m)) 98 1755 (some (.int 1), h') := by
  obtain ⟨N, hN⟩ := C_bestHour h a1 a2 a3
  obtain ⟨r, w', m', hc, hm, hR⟩ := hN N (Nat.le_refl N)
  obtain ⟨h', e⟩ := go w' m' hR
  exact ⟨h', ev_swi (k := 23) (t := 953) rfl hk (by decide) (by decide) rfl rfl (LW_23 xs i N a1 a2 a3 h1 h2 h3 w w' m m' r r hc hm e)⟩
set_option maxRecDepth 100000 in
theorem law_c24 (xs : List Int32) (i c a1 a2 a3 a4 a5 : Int32) (h1 : ai_ix xs (i + 1) = some a1) (h2 : ai_ix xs (i + 2) = some a2) (h3 : ai_ix xs (i + 3) = some a3) (h4 : ai_ix xs (i + 4) = some a4) (h5 : ai_ix xs (i + 5) = some a5) (hk : c &&& 63 = 24) {w : WX} {m : WM} (h : R w m) (go : lwGo xs i) : ∃ h', ai_ev (D2 xs) mlaw 33 [some (.retAddr 1), some (.ref 0), some (.ref 89), some (.int i)] [.int (c &&& 63)] (HX w (MC m)) 98 1755 (some (.int 1), h') := by
  obtain ⟨N, hN⟩ := Cg_soonest h a1 a2
  obtain ⟨r, s, w', m', hc, hm, hR⟩ := hN N (Nat.le_refl N)
  obtain ⟨h', e⟩ := go w' m' hR
  exact ⟨h', ev_swi (k := 24) (t := 996) rfl hk (by decide) (by decide) rfl rfl (LW_24 xs i N a1 a2 h1 h2 w w' m m' r s hc hm e)⟩
set_option maxRecDepth 100000 in
theorem law_c25 (xs : List Int32) (i c a1 a2 a3 a4 a5 : Int32) (h1 : ai_ix xs (i + 1) = some a1) (h2 : ai_ix xs (i + 2) = some a2) (h3 : ai_ix xs (i + 3) = some a3) (h4 : ai_ix xs (i + 4) = some a4) (h5 : ai_ix xs (i + 5) = some a5) (hk : c &&& 63 = 25) {w : WX} {m : WM} (h : R w m) (go : lwGo xs i) : ∃ h', ai_ev (D2 xs) mlaw 33 [some (.retAddr 1), some (.ref 0), some (.ref 89), some (.int i)] [.int (c &&& 63)] (HX w (MC m)) 98 1755 (some (.int 1), h') := by
  obtain ⟨N, hN⟩ := C_net h a1
  obtain ⟨r, w', m', hc, hm, hR⟩ := hN N (Nat.le_refl N)
  obtain ⟨h', e⟩ := go w' m' hR
  exact ⟨h', ev_swi (k := 25) (t := 1029) rfl hk (by decide) (by decide) rfl rfl (LW_25 xs i N a1 h1 w w' m m' r r hc hm e)⟩
set_option maxRecDepth 100000 in
theorem law_c26 (xs : List Int32) (i c a1 a2 a3 a4 a5 : Int32) (h1 : ai_ix xs (i + 1) = some a1) (h2 : ai_ix xs (i + 2) = some a2) (h3 : ai_ix xs (i + 3) = some a3) (h4 : ai_ix xs (i + 4) = some a4) (h5 : ai_ix xs (i + 5) = some a5) (hk : c &&& 63 = 26) {w : WX} {m : WM} (h : R w m) (go : lwGo xs i) : ∃ h', ai_ev (D2 xs) mlaw 33 [some (.retAddr 1), some (.ref 0), some (.ref 89), some (.int i)] [.int (c &&& 63)] (HX w (MC m)) 98 1755 (some (.int 1), h') := by
  obtain ⟨N, hN⟩ := C_spill h a1 a2 a3 a4
  obtain ⟨r, w', m', hc, hm, hR⟩ := hN N (Nat.le_refl N)
  obtain ⟨h', e⟩ := go w' m' hR
  exact ⟨h', ev_swi (k := 26) (t := 1052) rfl hk (by decide) (by decide) rfl rfl (LW_26 xs i N a1 a2 a3 a4 h1 h2 h3 h4 w w' m m' r r hc hm e)⟩
set_option maxRecDepth 100000 in
theorem law_c27 (xs : List Int32) (i c a1 a2 a3 a4 a5 : Int32) (h1 : ai_ix xs (i + 1) = some a1) (h2 : ai_ix xs (i + 2) = some a2) (h3 : ai_ix xs (i + 3) = some a3) (h4 : ai_ix xs (i + 4) = some a4) (h5 : ai_ix xs (i + 5) = some a5) (hk : c &&& 63 = 27) {w : WX} {m : WM} (h : R w m) (go : lwGo xs i) : ∃ h', ai_ev (D2 xs) mlaw 33 [some (.retAddr 1), some (.ref 0), some (.ref 89), some (.int i)] [.int (c &&& 63)] (HX w (MC m)) 98 1755 (some (.int 1), h') := by
  obtain ⟨N, hN⟩ := C_keepOut h a1 a2 a3 a4
  obtain ⟨r, w', m', hc, hm, hR⟩ := hN N (Nat.le_refl N)
  obtain ⟨h', e⟩ := go w' m' hR
  exact ⟨h', ev_swi (k := 27) (t := 1105) rfl hk (by decide) (by decide) rfl rfl (LW_27 xs i N a1 a2 a3 a4 h1 h2 h3 h4 w w' m m' r r hc hm e)⟩
set_option maxRecDepth 100000 in
theorem law_c28 (xs : List Int32) (i c a1 a2 a3 a4 a5 : Int32) (h1 : ai_ix xs (i + 1) = some a1) (h2 : ai_ix xs (i + 2) = some a2) (h3 : ai_ix xs (i + 3) = some a3) (h4 : ai_ix xs (i + 4) = some a4) (h5 : ai_ix xs (i + 5) = some a5) (hk : c &&& 63 = 28) {w : WX} {m : WM} (h : R w m) (go : lwGo xs i) : ∃ h', ai_ev (D2 xs) mlaw 33 [some (.retAddr 1), some (.ref 0), some (.ref 89), some (.int i)] [.int (c &&& 63)] (HX w (MC m)) 98 1755 (some (.int 1), h') := by
  obtain ⟨N, hN⟩ := C_shaken h a1 a2 a3
  obtain ⟨r, w', m', hc, hm, hR⟩ := hN N (Nat.le_refl N)
  obtain ⟨h', e⟩ := go w' m' hR
  exact ⟨h', ev_swi (k := 28) (t := 1158) rfl hk (by decide) (by decide) rfl rfl (LW_28 xs i N a1 a2 a3 h1 h2 h3 w w' m m' r r hc hm e)⟩
set_option maxRecDepth 100000 in
theorem law_c29 (xs : List Int32) (i c a1 a2 a3 a4 a5 : Int32) (h1 : ai_ix xs (i + 1) = some a1) (h2 : ai_ix xs (i + 2) = some a2) (h3 : ai_ix xs (i + 3) = some a3) (h4 : ai_ix xs (i + 4) = some a4) (h5 : ai_ix xs (i + 5) = some a5) (hk : c &&& 63 = 29) {w : WX} {m : WM} (h : R w m) (go : lwGo xs i) : ∃ h', ai_ev (D2 xs) mlaw 33 [some (.retAddr 1), some (.ref 0), some (.ref 89), some (.int i)] [.int (c &&& 63)] (HX w (MC m)) 98 1755 (some (.int 1), h') := by
  obtain ⟨N, hN⟩ := C_lies h a1 a2 a3 a4 a5
  obtain ⟨r, w', m', hc, hm, hR⟩ := hN N (Nat.le_refl N)
  obtain ⟨h', e⟩ := go w' m' hR
  exact ⟨h', ev_swi (k := 29) (t := 1201) rfl hk (by decide) (by decide) rfl rfl (LW_29 xs i N a1 a2 a3 a4 a5 h1 h2 h3 h4 h5 w w' m m' r r hc hm e)⟩
set_option maxRecDepth 100000 in
theorem law_c30 (xs : List Int32) (i c a1 a2 a3 a4 a5 : Int32) (h1 : ai_ix xs (i + 1) = some a1) (h2 : ai_ix xs (i + 2) = some a2) (h3 : ai_ix xs (i + 3) = some a3) (h4 : ai_ix xs (i + 4) = some a4) (h5 : ai_ix xs (i + 5) = some a5) (hk : c &&& 63 = 30) {w : WX} {m : WM} (h : R w m) (go : lwGo xs i) : ∃ h', ai_ev (D2 xs) mlaw 33 [some (.retAddr 1), some (.ref 0), some (.ref 89), some (.int i)] [.int (c &&& 63)] (HX w (MC m)) 98 1755 (some (.int 1), h') := by
  obtain ⟨N, hN⟩ := C_wentIn h a1 a2
  obtain ⟨r, w', m', hc, hm, hR⟩ := hN N (Nat.le_refl N)
  obtain ⟨h', e⟩ := go w' m' hR
  exact ⟨h', ev_swi (k := 30) (t := 1264) rfl hk (by decide) (by decide) rfl rfl (LW_30 xs i N a1 a2 h1 h2 w w' m m' r r hc hm e)⟩
set_option maxRecDepth 100000 in
theorem law_c31 (xs : List Int32) (i c a1 a2 a3 a4 a5 : Int32) (h1 : ai_ix xs (i + 1) = some a1) (h2 : ai_ix xs (i + 2) = some a2) (h3 : ai_ix xs (i + 3) = some a3) (h4 : ai_ix xs (i + 4) = some a4) (h5 : ai_ix xs (i + 5) = some a5) (hk : c &&& 63 = 31) {w : WX} {m : WM} (h : R w m) (go : lwGo xs i) : ∃ h', ai_ev (D2 xs) mlaw 33 [some (.retAddr 1), some (.ref 0), some (.ref 89), some (.int i)] [.int (c &&& 63)] (HX w (MC m)) 98 1755 (some (.int 1), h') := by
  obtain ⟨N, hN⟩ := C_nets h a1 a2 a3
  obtain ⟨r, w', m', hc, hm, hR⟩ := hN N (Nat.le_refl N)
  obtain ⟨h', e⟩ := go w' m' hR
  exact ⟨h', ev_swi (k := 31) (t := 1297) rfl hk (by decide) (by decide) rfl rfl (LW_31 xs i N a1 a2 a3 h1 h2 h3 w w' m m' r r hc hm e)⟩
set_option maxRecDepth 100000 in
theorem law_c32 (xs : List Int32) (i c a1 a2 a3 a4 a5 : Int32) (h1 : ai_ix xs (i + 1) = some a1) (h2 : ai_ix xs (i + 2) = some a2) (h3 : ai_ix xs (i + 3) = some a3) (h4 : ai_ix xs (i + 4) = some a4) (h5 : ai_ix xs (i + 5) = some a5) (hk : c &&& 63 = 32) {w : WX} {m : WM} (h : R w m) (go : lwGo xs i) : ∃ h', ai_ev (D2 xs) mlaw 33 [some (.retAddr 1), some (.ref 0), some (.ref 89), some (.int i)] [.int (c &&& 63)] (HX w (MC m)) 98 1755 (some (.int 1), h') := by
  obtain ⟨N, hN⟩ := C_tap h a1
  obtain ⟨r, w', m', hc, hm, hR⟩ := hN N (Nat.le_refl N)
  obtain ⟨h', e⟩ := go w' m' hR
  exact ⟨h', ev_swi (k := 32) (t := 1340) rfl hk (by decide) (by decide) rfl rfl (LW_32 xs i N a1 h1 w w' m m' r r hc hm e)⟩
set_option maxRecDepth 100000 in
theorem law_c33 (xs : List Int32) (i c a1 a2 a3 a4 a5 : Int32) (h1 : ai_ix xs (i + 1) = some a1) (h2 : ai_ix xs (i + 2) = some a2) (h3 : ai_ix xs (i + 3) = some a3) (h4 : ai_ix xs (i + 4) = some a4) (h5 : ai_ix xs (i + 5) = some a5) (hk : c &&& 63 = 33) {w : WX} {m : WM} (h : R w m) (go : lwGo xs i) : ∃ h', ai_ev (D2 xs) mlaw 33 [some (.retAddr 1), some (.ref 0), some (.ref 89), some (.int i)] [.int (c &&& 63)] (HX w (MC m)) 98 1755 (some (.int 1), h') := by
  obtain ⟨N, hN⟩ := C_known h a1 a2
  obtain ⟨r, w', m', hc, hm, hR⟩ := hN N (Nat.le_refl N)
  obtain ⟨h', e⟩ := go w' m' hR
  exact ⟨h', ev_swi (k := 33) (t := 1363) rfl hk (by decide) (by decide) rfl rfl (LW_33 xs i N a1 a2 h1 h2 w w' m m' r r hc hm e)⟩
set_option maxRecDepth 100000 in
theorem law_c34 (xs : List Int32) (i c a1 a2 a3 a4 a5 : Int32) (h1 : ai_ix xs (i + 1) = some a1) (h2 : ai_ix xs (i + 2) = some a2) (h3 : ai_ix xs (i + 3) = some a3) (h4 : ai_ix xs (i + 4) = some a4) (h5 : ai_ix xs (i + 5) = some a5) (hk : c &&& 63 = 34) {w : WX} {m : WM} (h : R w m) (go : lwGo xs i) : ∃ h', ai_ev (D2 xs) mlaw 33 [some (.retAddr 1), some (.ref 0), some (.ref 89), some (.int i)] [.int (c &&& 63)] (HX w (MC m)) 98 1755 (some (.int 1), h') := by
  obtain ⟨N, hN⟩ := C_storm h a1 a2 a3 a4
  obtain ⟨r, w', m', hc, hm, hR⟩ := hN N (Nat.le_refl N)
  obtain ⟨h', e⟩ := go w' m' hR
  exact ⟨h', ev_swi (k := 34) (t := 1396) rfl hk (by decide) (by decide) rfl rfl (LW_34 xs i N a1 a2 a3 a4 h1 h2 h3 h4 w w' m m' r r hc hm e)⟩
set_option maxRecDepth 100000 in
theorem law_c35 (xs : List Int32) (i c a1 a2 a3 a4 a5 : Int32) (h1 : ai_ix xs (i + 1) = some a1) (h2 : ai_ix xs (i + 2) = some a2) (h3 : ai_ix xs (i + 3) = some a3) (h4 : ai_ix xs (i + 4) = some a4) (h5 : ai_ix xs (i + 5) = some a5) (hk : c &&& 63 = 35) {w : WX} {m : WM} (h : R w m) (go : lwGo xs i) : ∃ h', ai_ev (D2 xs) mlaw 33 [some (.retAddr 1), some (.ref 0), some (.ref 89), some (.int i)] [.int (c &&& 63)] (HX w (MC m)) 98 1755 (some (.int 1), h') := by
  obtain ⟨N, hN⟩ := C_part h a1
  obtain ⟨r, w', m', hc, hm, hR⟩ := hN N (Nat.le_refl N)
  obtain ⟨h', e⟩ := go w' m' hR
  exact ⟨h', ev_swi (k := 35) (t := 1449) rfl hk (by decide) (by decide) rfl rfl (LW_35 xs i a1 h1 w w' m m' r r hc hm e)⟩
set_option maxRecDepth 100000 in
theorem law_c36 (xs : List Int32) (i c a1 a2 a3 a4 a5 : Int32) (h1 : ai_ix xs (i + 1) = some a1) (h2 : ai_ix xs (i + 2) = some a2) (h3 : ai_ix xs (i + 3) = some a3) (h4 : ai_ix xs (i + 4) = some a4) (h5 : ai_ix xs (i + 5) = some a5) (hk : c &&& 63 = 36) {w : WX} {m : WM} (h : R w m) (go : lwGo xs i) : ∃ h', ai_ev (D2 xs) mlaw 33 [some (.retAddr 1), some (.ref 0), some (.ref 89), some (.int i)] [.int (c &&& 63)] (HX w (MC m)) 98 1755 (some (.int 1), h') := by
  obtain ⟨N, hN⟩ := C_image h a1
  obtain ⟨r, w', m', hc, hm, hR⟩ := hN N (Nat.le_refl N)
  obtain ⟨h', e⟩ := go w' m' hR
  exact ⟨h', ev_swi (k := 36) (t := 1472) rfl hk (by decide) (by decide) rfl rfl (LW_36 xs i N a1 h1 w w' m m' r r hc hm e)⟩
set_option maxRecDepth 100000 in
theorem law_c37 (xs : List Int32) (i c a1 a2 a3 a4 a5 : Int32) (h1 : ai_ix xs (i + 1) = some a1) (h2 : ai_ix xs (i + 2) = some a2) (h3 : ai_ix xs (i + 3) = some a3) (h4 : ai_ix xs (i + 4) = some a4) (h5 : ai_ix xs (i + 5) = some a5) (hk : c &&& 63 = 37) {w : WX} {m : WM} (h : R w m) (go : lwGo xs i) : ∃ h', ai_ev (D2 xs) mlaw 33 [some (.retAddr 1), some (.ref 0), some (.ref 89), some (.int i)] [.int (c &&& 63)] (HX w (MC m)) 98 1755 (some (.int 1), h') := by
  obtain ⟨N, hN⟩ := C_from h a1
  obtain ⟨r, w', m', hc, hm, hR⟩ := hN N (Nat.le_refl N)
  obtain ⟨h', e⟩ := go w' m' hR
  exact ⟨h', ev_swi (k := 37) (t := 1495) rfl hk (by decide) (by decide) rfl rfl (LW_37 xs i N a1 h1 w w' m m' r r hc hm e)⟩
set_option maxRecDepth 100000 in
theorem law_c38 (xs : List Int32) (i c a1 a2 a3 a4 a5 : Int32) (h1 : ai_ix xs (i + 1) = some a1) (h2 : ai_ix xs (i + 2) = some a2) (h3 : ai_ix xs (i + 3) = some a3) (h4 : ai_ix xs (i + 4) = some a4) (h5 : ai_ix xs (i + 5) = some a5) (hk : c &&& 63 = 38) {w : WX} {m : WM} (h : R w m) (go : lwGo xs i) : ∃ h', ai_ev (D2 xs) mlaw 33 [some (.retAddr 1), some (.ref 0), some (.ref 89), some (.int i)] [.int (c &&& 63)] (HX w (MC m)) 98 1755 (some (.int 1), h') := by
  obtain ⟨N, hN⟩ := C_status h a1
  obtain ⟨r, w', m', hc, hm, hR⟩ := hN N (Nat.le_refl N)
  obtain ⟨h', e⟩ := go w' m' hR
  exact ⟨h', ev_swi (k := 38) (t := 1518) rfl hk (by decide) (by decide) rfl rfl (LW_38 xs i a1 h1 w w' m m' r r hc hm e)⟩
set_option maxRecDepth 100000 in
theorem law_c39 (xs : List Int32) (i c a1 a2 a3 a4 a5 : Int32) (h1 : ai_ix xs (i + 1) = some a1) (h2 : ai_ix xs (i + 2) = some a2) (h3 : ai_ix xs (i + 3) = some a3) (h4 : ai_ix xs (i + 4) = some a4) (h5 : ai_ix xs (i + 5) = some a5) (hk : c &&& 63 = 39) {w : WX} {m : WM} (h : R w m) (go : lwGo xs i) : ∃ h', ai_ev (D2 xs) mlaw 33 [some (.retAddr 1), some (.ref 0), some (.ref 89), some (.int i)] [.int (c &&& 63)] (HX w (MC m)) 98 1755 (some (.int 1), h') := by
  obtain ⟨N, hN⟩ := C_count h a1
  obtain ⟨r, w', m', hc, hm, hR⟩ := hN N (Nat.le_refl N)
  obtain ⟨h', e⟩ := go w' m' hR
  exact ⟨h', ev_swi (k := 39) (t := 1541) rfl hk (by decide) (by decide) rfl rfl (LW_39 xs i a1 h1 w w' m m' r r hc hm e)⟩
set_option maxRecDepth 100000 in
theorem law_c40 (xs : List Int32) (i c a1 a2 a3 a4 a5 : Int32) (h1 : ai_ix xs (i + 1) = some a1) (h2 : ai_ix xs (i + 2) = some a2) (h3 : ai_ix xs (i + 3) = some a3) (h4 : ai_ix xs (i + 4) = some a4) (h5 : ai_ix xs (i + 5) = some a5) (hk : c &&& 63 = 40) {w : WX} {m : WM} (h : R w m) (go : lwGo xs i) : ∃ h', ai_ev (D2 xs) mlaw 33 [some (.retAddr 1), some (.ref 0), some (.ref 89), some (.int i)] [.int (c &&& 63)] (HX w (MC m)) 98 1755 (some (.int 1), h') := by
  obtain ⟨N, hN⟩ := C_digest h 
  obtain ⟨r, w', m', hc, hm, hR⟩ := hN N (Nat.le_refl N)
  obtain ⟨h', e⟩ := go w' m' hR
  exact ⟨h', ev_swi (k := 40) (t := 1564) rfl hk (by decide) (by decide) rfl rfl (LW_40 xs i N w w' m m' r hc hm e)⟩
set_option maxRecDepth 100000 in
theorem law_cd (xs : List Int32) (i c : Int32) (j : Nat) (hj : j < 64) (hk : c &&& 63 = nI j) (h41 : 41 ≤ j) {w : WX} {m : WM} (h : R w m) (go : lwGo xs i) : ∃ h', ai_ev (D2 xs) mlaw 33 [some (.retAddr 1), some (.ref 0), some (.ref 89), some (.int i)] [.int (c &&& 63)] (HX w (MC m)) 98 1755 (some (.int 1), h') := by
  obtain ⟨h', e⟩ := go w m h
  refine ⟨h', ev_swo (t := 1578) (lo := 0) (n := 41) rfl (Or.inr (Or.inl ?_)) ⟨rfl, by decide⟩ rfl e⟩
  rw [hk, nI_toInt (by omega)]
  omega
theorem law_call (xs : List Int32) (i c a1 a2 a3 a4 a5 : Int32) (h1 : ai_ix xs (i + 1) = some a1) (h2 : ai_ix xs (i + 2) = some a2) (h3 : ai_ix xs (i + 3) = some a3) (h4 : ai_ix xs (i + 4) = some a4) (h5 : ai_ix xs (i + 5) = some a5) {w : WX} {m : WM} (h : R w m) (go : lwGo xs i) : ∃ h', ai_ev (D2 xs) mlaw 33 [some (.retAddr 1), some (.ref 0), some (.ref 89), some (.int i)] [.int (c &&& 63)] (HX w (MC m)) 98 1755 (some (.int 1), h') := by
  obtain ⟨j, hj, hk⟩ := pk_andE c (m := 63) 6 (by decide)
  by_cases h41 : 41 ≤ j
  · exact law_cd xs i c j hj hk h41 h go
  · match j, hk, h41 with
    | 0, hk, _ => exact law_c0 xs i c a1 a2 a3 a4 a5 h1 h2 h3 h4 h5 hk h go
    | 1, hk, _ => exact law_c1 xs i c a1 a2 a3 a4 a5 h1 h2 h3 h4 h5 hk h go
    | 2, hk, _ => exact law_c2 xs i c a1 a2 a3 a4 a5 h1 h2 h3 h4 h5 hk h go
    | 3, hk, _ => exact law_c3 xs i c a1 a2 a3 a4 a5 h1 h2 h3 h4 h5 hk h go
    | 4, hk, _ => exact law_c4 xs i c a1 a2 a3 a4 a5 h1 h2 h3 h4 h5 hk h go
    | 5, hk, _ => exact law_c5 xs i c a1 a2 a3 a4 a5 h1 h2 h3 h4 h5 hk h go
    | 6, hk, _ => exact law_c6 xs i c a1 a2 a3 a4 a5 h1 h2 h3 h4 h5 hk h go
    | 7, hk, _ => exact law_c7 xs i c a1 a2 a3 a4 a5 h1 h2 h3 h4 h5 hk h go
    | 8, hk, _ => exact law_c8 xs i c a1 a2 a3 a4 a5 h1 h2 h3 h4 h5 hk h go
    | 9, hk, _ => exact law_c9 xs i c a1 a2 a3 a4 a5 h1 h2 h3 h4 h5 hk h go
    | 10, hk, _ =>
      by_cases hb : a2 = 0
      · exact law_c10t xs i c a1 a2 a3 a4 a5 h1 h2 h3 h4 h5 hk hb h go
      · exact law_c10f xs i c a1 a2 a3 a4 a5 h1 h2 h3 h4 h5 hk hb h go
    | 11, hk, _ =>
      by_cases hb : a2 = 0
      · exact law_c11t xs i c a1 a2 a3 a4 a5 h1 h2 h3 h4 h5 hk hb h go
      · exact law_c11f xs i c a1 a2 a3 a4 a5 h1 h2 h3 h4 h5 hk hb h go
    | 12, hk, _ => exact law_c12 xs i c a1 a2 a3 a4 a5 h1 h2 h3 h4 h5 hk h go
    | 13, hk, _ => exact law_c13 xs i c a1 a2 a3 a4 a5 h1 h2 h3 h4 h5 hk h go
    | 14, hk, _ => exact law_c14 xs i c a1 a2 a3 a4 a5 h1 h2 h3 h4 h5 hk h go
    | 15, hk, _ => exact law_c15 xs i c a1 a2 a3 a4 a5 h1 h2 h3 h4 h5 hk h go
    | 16, hk, _ => exact law_c16 xs i c a1 a2 a3 a4 a5 h1 h2 h3 h4 h5 hk h go
    | 17, hk, _ => exact law_c17 xs i c a1 a2 a3 a4 a5 h1 h2 h3 h4 h5 hk h go
    | 18, hk, _ => exact law_c18 xs i c a1 a2 a3 a4 a5 h1 h2 h3 h4 h5 hk h go
    | 19, hk, _ => exact law_c19 xs i c a1 a2 a3 a4 a5 h1 h2 h3 h4 h5 hk h go
    | 20, hk, _ => exact law_c20 xs i c a1 a2 a3 a4 a5 h1 h2 h3 h4 h5 hk h go
    | 21, hk, _ => exact law_c21 xs i c a1 a2 a3 a4 a5 h1 h2 h3 h4 h5 hk h go
    | 22, hk, _ => exact law_c22 xs i c a1 a2 a3 a4 a5 h1 h2 h3 h4 h5 hk h go
    | 23, hk, _ => exact law_c23 xs i c a1 a2 a3 a4 a5 h1 h2 h3 h4 h5 hk h go
    | 24, hk, _ => exact law_c24 xs i c a1 a2 a3 a4 a5 h1 h2 h3 h4 h5 hk h go
    | 25, hk, _ => exact law_c25 xs i c a1 a2 a3 a4 a5 h1 h2 h3 h4 h5 hk h go
    | 26, hk, _ => exact law_c26 xs i c a1 a2 a3 a4 a5 h1 h2 h3 h4 h5 hk h go
    | 27, hk, _ => exact law_c27 xs i c a1 a2 a3 a4 a5 h1 h2 h3 h4 h5 hk h go
    | 28, hk, _ => exact law_c28 xs i c a1 a2 a3 a4 a5 h1 h2 h3 h4 h5 hk h go
    | 29, hk, _ => exact law_c29 xs i c a1 a2 a3 a4 a5 h1 h2 h3 h4 h5 hk h go
    | 30, hk, _ => exact law_c30 xs i c a1 a2 a3 a4 a5 h1 h2 h3 h4 h5 hk h go
    | 31, hk, _ => exact law_c31 xs i c a1 a2 a3 a4 a5 h1 h2 h3 h4 h5 hk h go
    | 32, hk, _ => exact law_c32 xs i c a1 a2 a3 a4 a5 h1 h2 h3 h4 h5 hk h go
    | 33, hk, _ => exact law_c33 xs i c a1 a2 a3 a4 a5 h1 h2 h3 h4 h5 hk h go
    | 34, hk, _ => exact law_c34 xs i c a1 a2 a3 a4 a5 h1 h2 h3 h4 h5 hk h go
    | 35, hk, _ => exact law_c35 xs i c a1 a2 a3 a4 a5 h1 h2 h3 h4 h5 hk h go
    | 36, hk, _ => exact law_c36 xs i c a1 a2 a3 a4 a5 h1 h2 h3 h4 h5 hk h go
    | 37, hk, _ => exact law_c37 xs i c a1 a2 a3 a4 a5 h1 h2 h3 h4 h5 hk h go
    | 38, hk, _ => exact law_c38 xs i c a1 a2 a3 a4 a5 h1 h2 h3 h4 h5 hk h go
    | 39, hk, _ => exact law_c39 xs i c a1 a2 a3 a4 a5 h1 h2 h3 h4 h5 hk h go
    | 40, hk, _ => exact law_c40 xs i c a1 a2 a3 a4 a5 h1 h2 h3 h4 h5 hk h go
    | j + 41, _, h => exact absurd (by omega) h
theorem law_loop (xs : List Int32) (hl : xs.length ≤ 384) : ∀ (d i : Nat) (w : WX) (m : WM), xs.length < i + 6 * d → i ≤ 384 → R w m → ∃ h', ai_ev (D2 xs) mlaw 18 [some (.retAddr 1), some (.ref 0), some (.ref 89), some (.int (nI i))] [] (HX w (MC m)) 98 1755 (some (.int 1), h') := by
  have lI : (Int32.ofNat xs.length - 6).toInt = (xs.length : Int) - 6 := pk_sub_toInt (a := xs.length) (b := 6) (by omega) (by omega)
  intro d
  induction d with
  | zero =>
    intro i w m hd hi h
    refine ⟨_, law_exit xs (nI i) _ ?_⟩
    rw [Int32.lt_iff_toInt_lt, lI, nI_toInt (by omega)]
    omega
  | succ d ih =>
    intro i w m hd hi h
    by_cases c : xs.length < i + 6
    · refine ⟨_, law_exit xs (nI i) _ ?_⟩
      rw [Int32.lt_iff_toInt_lt, lI, nI_toInt (by omega)]
      omega
    · have g : ∀ k, k < 6 → ai_ix xs (nI (i + k)) = some (xs.getD (i + k) 0) := fun k hk => ix_e (l := xs) (i := nI (i + k)) (i + k) rfl (by omega) (by omega)
      have go : lwGo xs (nI i) := by
        intro w' m' h'
        obtain ⟨q, e⟩ := ih (i + 6) w' m' (by omega) (by omega) h'
        exact ⟨q, law_back xs (nI i) _ (by rw [show nI i + 6 = nI (i + 6) from nI_add i 6]; exact e)⟩
      obtain ⟨q, e⟩ := law_call xs (nI i) (xs.getD i 0) (xs.getD (i + 1) 0) (xs.getD (i + 2) 0) (xs.getD (i + 3) 0) (xs.getD (i + 4) 0) (xs.getD (i + 5) 0) (by rw [show nI i + 1 = nI (i + 1) from nI_add i 1]; exact g 1 (by omega)) (by rw [show nI i + 2 = nI (i + 2) from nI_add i 2]; exact g 2 (by omega)) (by rw [show nI i + 3 = nI (i + 3) from nI_add i 3]; exact g 3 (by omega)) (by rw [show nI i + 4 = nI (i + 4) from nI_add i 4]; exact g 4 (by omega)) (by rw [show nI i + 5 = nI (i + 5) from nI_add i 5]; exact g 5 (by omega)) h go
      refine ⟨q, law_sw xs (nI i) (xs.getD i 0) _ ?_ (g 0 (by omega)) e⟩
      rw [Int32.lt_iff_toInt_lt, lI, nI_toInt (by omega)]
      omega
/-! the worlds at the law's beginning stand side by side; the law as a whole -/
theorem LS0 : LSe wx0.2.1 wx0.2.2.1 wx0.2.2.2.1 := by unfold LSe; decide
theorem LS2 : LSe wx0.2.2.2.2.1 wx0.2.2.2.2.2.1 wx0.2.2.2.2.2.2.1 := by unfold LSe; decide
theorem LS3 : LSe wx0.2.2.2.2.2.2.2.1 wx0.2.2.2.2.2.2.2.2.1 wx0.2.2.2.2.2.2.2.2.2.1 := by unfold LSe; decide
theorem LS4 : LSe wx0.2.2.2.2.2.2.2.2.2.2.1 wx0.2.2.2.2.2.2.2.2.2.2.2.1 wx0.2.2.2.2.2.2.2.2.2.2.2.2.1 := by unfold LSe; decide
theorem beg0 : ∀ k, k < 149 → beg 4 k = sl (a_m_w wm0) 0 k := by decide +kernel
theorem RS0 : RS wx0.2.1 wx0.2.2.1 wx0.2.2.2.1 (sl (a_m_w wm0) 0) := by
  have h := RS_beg LS0 (x := 4) (isN_nI (k := 4) (a := 1) (b := 6) (by decide) (by decide) (by decide))
  exact RS_congr beg0 h
theorem R0 : R wx0 wm0 := ⟨by decide +kernel, RS0, ⟨⟨LS2, LS3, LS4⟩, by decide +kernel, by decide +kernel⟩, ⟨0, 0, rfl, rfl, fun q => absurd rfl q, fun q => absurd rfl q⟩, ⟨0, by decide, rfl, rfl, by decide +kernel, by decide +kernel, fun k hk => absurd hk (Nat.not_lt_zero k)⟩, rfl, ⟨rfl, rfl⟩, ⟨rfl, rfl, rfl, rfl, rfl, rfl⟩, ⟨rfl, rfl, rfl, rfl⟩⟩
theorem law_pure (xs : List Int32) (hl : xs.length ≤ 384) : ∃ h', ai_ev [[10, 13, 16, 20], xs] mlaw 0 [some (.retAddr 1), none, none, none] [] [] 0 0 (some (.int 1), h') := by
  obtain ⟨h', e⟩ := law_loop xs hl 65 0 wx0 wm0 (by omega) (by omega) R0
  exact ⟨h', law_begin xs e⟩
