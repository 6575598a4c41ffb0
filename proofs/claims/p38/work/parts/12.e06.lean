set_option maxHeartbeats 40000000 in
set_option maxRecDepth 100000 in
theorem Em_duesOf_89 (x558 : Int32) (w : WM) (r : Int32) (w' : WM) (h : Fm_duesOf_89 x558 w = some (r, w')) (P : Nat → ai_E) (T : ai_H) : ai_ev D1 mm_duesOf 0 [some (.ref 89), some (.int x558), none] [] (HM P w T) 0 0 (some (.int r), HM P w' T) := by
  unfold Fm_duesOf_89 at h
  refine ev_go 5 (pc' := 8) (L' := [some (.ref 89), some (.int x558), none]) (st' := [.int (121 + x558), .ref 90]) (h' := (HM P w T)) (cs' := 0) (sl' := 0) rfl ?_
  obtain ⟨v559, hq, h⟩ := ai_bdE h
  refine ev_iald rfl rfl hq ?_
  refine ev_go 11 (pc' := 24) (L' := [some (.ref 89), some (.int x558), some (.int v559)]) (st' := [.int 1, .ref 90, .int (v559 / 10), .int (v559 - v559 / 10 * 10), .ref 89]) (h' := (HM P w T)) (cs' := 0) (sl' := 0) rfl ?_
  obtain ⟨v560, hq, h⟩ := ai_bdE h
  refine ev_iald rfl rfl hq ?_
  obtain ⟨c561, hq, h⟩ := ai_bdE h
  refine ev_call (M' := mm_thickIn) (L' := [some (.ref 89), some (.int (v559 - v559 / 10 * 10)), some (.int (v559 / 10)), some (.int v560), none]) (rest := []) (rv := some (.int c561.1)) (h' := (HM P c561.2 T)) rfl (Em_thickIn_89 (v559 - v559 / 10 * 10) (v559 / 10) v560 w _ _ hq P T) ?_
  show ai_ev D1 mm_duesOf 28 [some (.ref 89), some (.int x558), some (.int v559)] [.int c561.1] (HM P c561.2 T) 0 0 _
  obtain ⟨rfl, rfl⟩ := ai_smP h
  exact ev_end rfl
set_option maxHeartbeats 40000000 in
set_option maxRecDepth 100000 in
theorem EGm_net_89 : ∀ n : Nat, (∀ (y564 : Int32) (y565 : Int32) (y566 : Int32) (w : WM) (r : Int32) (w' : WM), Gm_net_89 n 0 y564 y565 y566 w = some (r, w') → ∀ (P : Nat → ai_E) (T : ai_H), ai_ev D1 mm_net 48 [some (.ref 89), some (.int y564), some (.int y565), some (.int y566)] [] (HM P w T) 0 0 (some (.int r), HM P w' T)) := by
  intro n
  induction n with
  | zero =>
    exact (fun _ _ _ _ _ _ h => by cases h)
  | succ n ih0 =>
    intro y564 y565 y566 w r w' h P T
    simp only [Gm_net_89] at h
    refine ev_go 4 (pc' := 54) (L' := [some (.ref 89), some (.int y564), some (.int y565), some (.int y566)]) (st' := [.int 4, .ref 90, .int y566]) (h' := (HM P w T)) (cs' := 0) (sl' := 0) rfl ?_
    obtain ⟨v567, hq, h⟩ := ai_bdE h
    refine ev_iald rfl rfl hq ?_
    rcases ai_ifE h with ⟨hc, h⟩ | ⟨hc, h⟩
    · refine ev_ic_ge (t := 85) rfl rfl (fun _ => ?_) (fun c9 => absurd hc c9)
      refine ev_go 1 (pc' := 86) (L' := [some (.ref 89), some (.int y564), some (.int y565), some (.int y566)]) (st' := [.int y565]) (h' := (HM P w T)) (cs' := 0) (sl' := 0) rfl ?_
      obtain ⟨rfl, rfl⟩ := ai_smP h
      exact ev_end rfl
    · refine ev_ic_ge (t := 85) rfl rfl (fun c9 => absurd c9 hc) (fun _ => ?_)
      refine ev_go 3 (pc' := 61) (L' := [some (.ref 89), some (.int y564), some (.int y565), some (.int y566)]) (st' := [.int y566, .ref 89, .int y565]) (h' := (HM P w T)) (cs' := 0) (sl' := 0) rfl ?_
      obtain ⟨c568, hq, h⟩ := ai_bdE h
      refine ev_call (M' := mm_ceilingOf) (L' := [some (.ref 89), some (.int y566), none, none, none, none, none]) (rest := [.int y565]) (rv := some (.int c568.1)) (h' := (HM P c568.2 T)) rfl (Em_ceilingOf_89 n y566 w _ _ hq P T) ?_
      show ai_ev D1 mm_net 64 [some (.ref 89), some (.int y564), some (.int y565), some (.int y566)] [.int c568.1, .int y565] (HM P c568.2 T) 0 0 _
      refine ev_go 1 (pc' := 65) (L' := [some (.ref 89), some (.int y564), some (.int y565), some (.int y566)]) (st' := [.int y564, .int c568.1, .int y565]) (h' := (HM P c568.2 T)) (cs' := 0) (sl' := 0) rfl ?_
      rcases ai_ifE h with ⟨hc, h⟩ | ⟨hc, h⟩
      · refine ev_ic_ne (t := 76) rfl rfl (fun c9 => absurd hc c9) (fun _ => ?_)
        refine ev_go 2 (pc' := 70) (L' := [some (.ref 89), some (.int y564), some (.int y565), some (.int y566)]) (st' := [.int y566, .ref 89, .int y565]) (h' := (HM P c568.2 T)) (cs' := 0) (sl' := 0) rfl ?_
        obtain ⟨c569, hq, h⟩ := ai_bdE h
        refine ev_call (M' := mm_duesOf) (L' := [some (.ref 89), some (.int y566), none]) (rest := [.int y565]) (rv := some (.int c569.1)) (h' := (HM P c569.2 T)) rfl (Em_duesOf_89 y566 c568.2 _ _ hq P T) ?_
        show ai_ev D1 mm_net 73 [some (.ref 89), some (.int y564), some (.int y565), some (.int y566)] [.int c569.1, .int y565] (HM P c569.2 T) 0 0 _
        refine ev_go 5 (pc' := 48) (L' := [some (.ref 89), some (.int y564), some (.int (y565 + c569.1)), some (.int (y566 + 1))]) (st' := []) (h' := (HM P c569.2 T)) (cs' := 0) (sl' := 0) rfl ?_
        exact ih0 _ _ _ _ _ _ h P T
      · refine ev_ic_ne (t := 76) rfl rfl (fun _ => ?_) (fun c9 => absurd c9 hc)
        refine ev_go 5 (pc' := 48) (L' := [some (.ref 89), some (.int y564), some (.int (y565 + 0)), some (.int (y566 + 1))]) (st' := []) (h' := (HM P c568.2 T)) (cs' := 0) (sl' := 0) rfl ?_
        exact ih0 _ _ _ _ _ _ h P T
set_option maxHeartbeats 40000000 in
set_option maxRecDepth 100000 in
theorem Em_net_89 (n : Nat) (x545 : Int32) (w : WM) (r : Int32) (w' : WM) (h : Fm_net_89 n x545 w = some (r, w')) (P : Nat → ai_E) (T : ai_H) : ai_ev D1 mm_net 0 [some (.ref 89), some (.int x545), none, none] [] (HM P w T) 0 0 (some (.int r), HM P w' T) := by
  unfold Fm_net_89 at h
  have ih0 := EGm_net_89 n
  refine ev_go 6 (pc' := 8) (L' := [some (.ref 89), some (.int x545), none, none]) (st' := [.int 4, .ref 90, .long 0, .long (x545).toInt64]) (h' := (HM P w T)) (cs' := 0) (sl' := 0) rfl ?_
  obtain ⟨v546, hq, h⟩ := ai_bdE h
  refine ev_iald rfl rfl hq ?_
  refine ev_go 3 (pc' := 12) (L' := [some (.ref 89), some (.int x545), none, none]) (st' := [.long ((v546 - 1)).toInt64, .long 0, .long (x545).toInt64]) (h' := (HM P w T)) (cs' := 0) (sl' := 0) rfl ?_
  obtain ⟨c547, hq, h⟩ := ai_bdE h
  refine ev_call (M' := mm_in) (L' := [some (.long (x545).toInt64), none, some (.long 0), none, some (.long ((v546 - 1)).toInt64), none]) (rest := []) (rv := some (.int c547)) (h' := (HM P w T)) rfl (Em_in (x545).toInt64 0 ((v546 - 1)).toInt64 _ hq (HM P w T)) ?_
  show ai_ev D1 mm_net 15 [some (.ref 89), some (.int x545), none, none] [.int c547] (HM P w T) 0 0 _
  rcases ai_ifE h with ⟨hc, h⟩ | ⟨hc, h⟩
  · refine ev_if_ne (t := 26) rfl rfl (fun c9 => absurd hc c9) (fun _ => ?_)
    refine ev_go 2 (pc' := 22) (L' := [some (.ref 89), some (.int x545), none, none]) (st' := [.int (-1000), .ref 89]) (h' := (HM P w T)) (cs' := 0) (sl' := 0) rfl ?_
    obtain ⟨c563, hq, h⟩ := ai_bdE h
    refine ev_call (M' := mm_badAs) (L' := [some (.ref 89), some (.int (-1000))]) (rest := []) (rv := some (.int c563.1)) (h' := (HM P c563.2 T)) rfl (Em_badAs_89 (-1000) w _ _ hq P T) ?_
    show ai_ev D1 mm_net 25 [some (.ref 89), some (.int x545), none, none] [.int c563.1] (HM P c563.2 T) 0 0 _
    obtain ⟨rfl, rfl⟩ := ai_smP h
    exact ev_end rfl
  · refine ev_if_ne (t := 26) rfl rfl (fun _ => ?_) (fun c9 => absurd c9 hc)
    refine ev_go 2 (pc' := 28) (L' := [some (.ref 89), some (.int x545), none, none]) (st' := [.int x545, .ref 89]) (h' := (HM P w T)) (cs' := 0) (sl' := 0) rfl ?_
    obtain ⟨c557, hq, h⟩ := ai_bdE h
    refine ev_call (M' := mm_ceilingOf) (L' := [some (.ref 89), some (.int x545), none, none, none, none, none]) (rest := []) (rv := some (.int c557.1)) (h' := (HM P c557.2 T)) rfl (Em_ceilingOf_89 n x545 w _ _ hq P T) ?_
    show ai_ev D1 mm_net 31 [some (.ref 89), some (.int x545), none, none] [.int c557.1] (HM P c557.2 T) 0 0 _
    refine ev_go 1 (pc' := 32) (L' := [some (.ref 89), some (.int x545), none, none]) (st' := [.int (-1), .int c557.1]) (h' := (HM P c557.2 T)) (cs' := 0) (sl' := 0) rfl ?_
    rcases ai_ifE h with ⟨hc, h⟩ | ⟨hc, h⟩
    · refine ev_ic_ne (t := 39) rfl rfl (fun c9 => absurd hc c9) (fun _ => ?_)
      refine ev_go 5 (pc' := 48) (L' := [some (.ref 89), some (.int x545), some (.int 0), some (.int 0)]) (st' := []) (h' := (HM P c557.2 T)) (cs' := 0) (sl' := 0) rfl ?_
      exact ih0 _ _ _ _ _ _ h P T
    · refine ev_ic_ne (t := 39) rfl rfl (fun _ => ?_) (fun c9 => absurd c9 hc)
      refine ev_go 2 (pc' := 41) (L' := [some (.ref 89), some (.int x545), none, none]) (st' := [.int x545, .ref 89]) (h' := (HM P c557.2 T)) (cs' := 0) (sl' := 0) rfl ?_
      obtain ⟨c562, hq, h⟩ := ai_bdE h
      refine ev_call (M' := mm_duesOf) (L' := [some (.ref 89), some (.int x545), none]) (rest := []) (rv := some (.int c562.1)) (h' := (HM P c562.2 T)) rfl (Em_duesOf_89 x545 c557.2 _ _ hq P T) ?_
      show ai_ev D1 mm_net 44 [some (.ref 89), some (.int x545), none, none] [.int c562.1] (HM P c562.2 T) 0 0 _
      refine ev_go 4 (pc' := 48) (L' := [some (.ref 89), some (.int x545), some (.int (-c562.1)), some (.int 0)]) (st' := []) (h' := (HM P c562.2 T)) (cs' := 0) (sl' := 0) rfl ?_
      exact ih0 _ _ _ _ _ _ h P T
set_option maxHeartbeats 40000000 in
set_option maxRecDepth 100000 in
theorem EGm_laySpill_89 : ∀ n : Nat, (∀ (y583 : Int32) (y584 : Int32) (y585 : Int32) (w : WM) (w' : WM), Gm_laySpill_89 n 0 y583 y584 y585 w = some w' → ∀ (P : Nat → ai_E) (T : ai_H), ai_ev D1 mm_laySpill 2 [some (.ref 89), some (.int y583), some (.int y584), some (.int y585)] [] (HM P w T) 0 0 (none, HM P w' T)) := by
  intro n
  induction n with
  | zero =>
    exact (fun _ _ _ _ _ h => by cases h)
  | succ n ih0 =>
    intro y583 y584 y585 w w' h P T
    simp only [Gm_laySpill_89] at h
    refine ev_go 2 (pc' := 5) (L' := [some (.ref 89), some (.int y583), some (.int y584), some (.int y585)]) (st' := [.int 6, .int y585]) (h' := (HM P w T)) (cs' := 0) (sl' := 0) rfl ?_
    rcases ai_ifE h with ⟨hc, h⟩ | ⟨hc, h⟩
    · refine ev_ic_ge (t := 30) rfl rfl (fun _ => ?_) (fun c9 => absurd hc c9)
      obtain rfl := Option.some.inj h
      exact ev_end rfl
    · refine ev_ic_ge (t := 30) rfl rfl (fun c9 => absurd c9 hc) (fun _ => ?_)
      refine ev_go 5 (pc' := 15) (L' := [some (.ref 89), some (.int y583), some (.int y584), some (.int y585)]) (st' := [.int y583, .int y585, .int y585, .ref 96]) (h' := (HM P w T)) (cs' := 0) (sl' := 0) rfl ?_
      rcases ai_ifE h with ⟨hc, h⟩ | ⟨hc, h⟩
      · refine ev_ic_ne (t := 22) rfl rfl (fun c9 => absurd hc c9) (fun _ => ?_)
        refine ev_go 2 (pc' := 23) (L' := [some (.ref 89), some (.int y583), some (.int y584), some (.int y585)]) (st' := [.int y584, .int y585, .ref 96]) (h' := (HM P w T)) (cs' := 0) (sl' := 0) rfl ?_
        obtain ⟨q587, hq, h⟩ := ai_bdE h
        refine ev_iast rfl rfl hq ?_
        rw [HMs_96]
        refine ev_go 2 (pc' := 2) (L' := [some (.ref 89), some (.int y583), some (.int y584), some (.int (y585 + 1))]) (st' := []) (h' := (HM P (u_m_there w q587) T)) (cs' := 0) (sl' := 0) rfl ?_
        exact ih0 _ _ _ _ _ h P T
      · refine ev_ic_ne (t := 22) rfl rfl (fun _ => ?_) (fun c9 => absurd c9 hc)
        refine ev_go 1 (pc' := 23) (L' := [some (.ref 89), some (.int y583), some (.int y584), some (.int y585)]) (st' := [.int 0, .int y585, .ref 96]) (h' := (HM P w T)) (cs' := 0) (sl' := 0) rfl ?_
        obtain ⟨q586, hq, h⟩ := ai_bdE h
        refine ev_iast rfl rfl hq ?_
        rw [HMs_96]
        refine ev_go 2 (pc' := 2) (L' := [some (.ref 89), some (.int y583), some (.int y584), some (.int (y585 + 1))]) (st' := []) (h' := (HM P (u_m_there w q586) T)) (cs' := 0) (sl' := 0) rfl ?_
        exact ih0 _ _ _ _ _ h P T
set_option maxHeartbeats 40000000 in
set_option maxRecDepth 100000 in
theorem Em_laySpill_89 (n : Nat) (x581 : Int32) (x582 : Int32) (w : WM) (w' : WM) (h : Fm_laySpill_89 n x581 x582 w = some w') (P : Nat → ai_E) (T : ai_H) : ai_ev D1 mm_laySpill 0 [some (.ref 89), some (.int x581), some (.int x582), none] [] (HM P w T) 0 0 (none, HM P w' T) := by
  unfold Fm_laySpill_89 at h
  have ih0 := EGm_laySpill_89 n
  refine ev_go 2 (pc' := 2) (L' := [some (.ref 89), some (.int x581), some (.int x582), some (.int 0)]) (st' := []) (h' := (HM P w T)) (cs' := 0) (sl' := 0) rfl ?_
  exact ih0 _ _ _ _ _ h P T
set_option maxHeartbeats 40000000 in
set_option maxRecDepth 100000 in
theorem EGm_spills_89 : ∀ n : Nat, (∀ (y598 : Int32) (y599 : Int32) (w : WM) (w' : WM), Gm_spills_89 n 0 y598 y599 w = some w' → ∀ (P : Nat → ai_E) (T : ai_H), ai_ev D1 mm_spills 2 [some (.ref 89), some (.int y598), some (.int y599)] [] (HM P w T) 0 0 (none, HM P w' T)) ∧ (∀ (y603 : Int32) (y604 : Int32) (w : WM) (w' : WM), Gm_spills_89 n 1 y603 y604 w = some w' → ∀ (P : Nat → ai_E) (T : ai_H), ai_ev D1 mm_spills 34 [some (.ref 89), some (.int y603), some (.int y604)] [] (HM P w T) 0 0 (none, HM P w' T)) := by
  intro n
  induction n with
  | zero =>
    exact ⟨(fun _ _ _ _ h => by cases h), (fun _ _ _ _ h => by cases h)⟩
  | succ n ih =>
    obtain ⟨ih0, ih1⟩ := ih
    refine ⟨?_, ?_⟩
    · intro y598 y599 w w' h P T
      simp only [Gm_spills_89] at h
      refine ev_go 4 (pc' := 8) (L' := [some (.ref 89), some (.int y598), some (.int y599)]) (st' := [.int 0, .ref 90, .int y599]) (h' := (HM P w T)) (cs' := 0) (sl' := 0) rfl ?_
      obtain ⟨v600, hq, h⟩ := ai_bdE h
      refine ev_iald rfl rfl hq ?_
      rcases ai_ifE h with ⟨hc, h⟩ | ⟨hc, h⟩
      · refine ev_ic_ge (t := 32) rfl rfl (fun _ => ?_) (fun c9 => absurd hc c9)
        refine ev_go 2 (pc' := 34) (L' := [some (.ref 89), some (.int y598), some (.int 0)]) (st' := []) (h' := (HM P w T)) (cs' := 0) (sl' := 0) rfl ?_
        exact ih1 _ _ _ _ h P T
      · refine ev_ic_ge (t := 32) rfl rfl (fun c9 => absurd c9 hc) (fun _ => ?_)
        refine ev_go 6 (pc' := 22) (L' := [some (.ref 89), some (.int y598), some (.int y599)]) (st' := [.int y599, .ref 96, .int y599, .ref 97]) (h' := (HM P w T)) (cs' := 0) (sl' := 0) rfl ?_
        obtain ⟨v601, hq, h⟩ := ai_bdE h
        refine ev_iald rfl rfl hq ?_
        refine ev_go 2 (pc' := 25) (L' := [some (.ref 89), some (.int y598), some (.int y599)]) (st' := [.int (v601 / 4), .int y599, .ref 97]) (h' := (HM P w T)) (cs' := 0) (sl' := 0) rfl ?_
        obtain ⟨q602, hq, h⟩ := ai_bdE h
        refine ev_iast rfl rfl hq ?_
        rw [HMs_97]
        refine ev_go 2 (pc' := 2) (L' := [some (.ref 89), some (.int y598), some (.int (y599 + 1))]) (st' := []) (h' := (HM P (u_m_gives w q602) T)) (cs' := 0) (sl' := 0) rfl ?_
        exact ih0 _ _ _ _ h P T
    · intro y603 y604 w w' h P T
      simp only [Gm_spills_89] at h
      refine ev_go 6 (pc' := 42) (L' := [some (.ref 89), some (.int y603), some (.int y604)]) (st' := [.int 0, .ref 90, .int (y604 + 1)]) (h' := (HM P w T)) (cs' := 0) (sl' := 0) rfl ?_
      obtain ⟨v605, hq, h⟩ := ai_bdE h
      refine ev_iald rfl rfl hq ?_
      rcases ai_ifE h with ⟨hc, h⟩ | ⟨hc, h⟩
      · refine ev_ic_ge (t := 110) rfl rfl (fun _ => ?_) (fun c9 => absurd hc c9)
        obtain rfl := Option.some.inj h
        exact ev_end rfl
      · refine ev_ic_ge (t := 110) rfl rfl (fun c9 => absurd c9 hc) (fun _ => ?_)
        refine ev_go 2 (pc' := 48) (L' := [some (.ref 89), some (.int y603), some (.int y604)]) (st' := [.int y604, .int y603]) (h' := (HM P w T)) (cs' := 0) (sl' := 0) rfl ?_
        obtain ⟨c606, hq, h⟩ := ai_bdE h
        refine ev_call (M' := mm_has) (L' := [some (.int y603), some (.int y604)]) (rest := []) (rv := some (.int c606)) (h' := (HM P w T)) rfl (Em_has y603 y604 _ hq (HM P w T)) ?_
        show ai_ev D1 mm_spills 51 [some (.ref 89), some (.int y603), some (.int y604)] [.int c606] (HM P w T) 0 0 _
        rcases ai_ifE h with ⟨hc, h⟩ | ⟨hc, h⟩
        · refine ev_if_ne (t := 104) rfl rfl (fun c9 => absurd hc c9) (fun _ => ?_)
          refine ev_go 4 (pc' := 60) (L' := [some (.ref 89), some (.int y603), some (.int y604)]) (st' := [.int y604, .ref 96, .int y604, .ref 96]) (h' := (HM P w T)) (cs' := 0) (sl' := 0) rfl ?_
          obtain ⟨v607, hq, h⟩ := ai_bdE h
          refine ev_iald rfl rfl hq ?_
          refine ev_go 5 (pc' := 68) (L' := [some (.ref 89), some (.int y603), some (.int y604)]) (st' := [.int (y604 + 1), .ref 97, .int v607, .int y604, .ref 96]) (h' := (HM P w T)) (cs' := 0) (sl' := 0) rfl ?_
          obtain ⟨v608, hq, h⟩ := ai_bdE h
          refine ev_iald rfl rfl hq ?_
          refine ev_go 3 (pc' := 74) (L' := [some (.ref 89), some (.int y603), some (.int y604)]) (st' := [.int y604, .ref 97, .int v608, .int v607, .int y604, .ref 96]) (h' := (HM P w T)) (cs' := 0) (sl' := 0) rfl ?_
          obtain ⟨v609, hq, h⟩ := ai_bdE h
          refine ev_iald rfl rfl hq ?_
          refine ev_go 2 (pc' := 77) (L' := [some (.ref 89), some (.int y603), some (.int y604)]) (st' := [.int (v607 + (v608 - v609)), .int y604, .ref 96]) (h' := (HM P w T)) (cs' := 0) (sl' := 0) rfl ?_
          obtain ⟨q610, hq, h⟩ := ai_bdE h
          refine ev_iast rfl rfl hq ?_
          rw [HMs_96]
          refine ev_go 6 (pc' := 86) (L' := [some (.ref 89), some (.int y603), some (.int y604)]) (st' := [.int (y604 + 1), .ref 96, .int (y604 + 1), .ref 96]) (h' := (HM P (u_m_there w q610) T)) (cs' := 0) (sl' := 0) rfl ?_
          obtain ⟨v611, hq, h⟩ := ai_bdE h
          refine ev_iald rfl rfl hq ?_
          refine ev_go 3 (pc' := 92) (L' := [some (.ref 89), some (.int y603), some (.int y604)]) (st' := [.int y604, .ref 97, .int v611, .int (y604 + 1), .ref 96]) (h' := (HM P (u_m_there w q610) T)) (cs' := 0) (sl' := 0) rfl ?_
          obtain ⟨v612, hq, h⟩ := ai_bdE h
          refine ev_iald rfl rfl hq ?_
          refine ev_go 5 (pc' := 100) (L' := [some (.ref 89), some (.int y603), some (.int y604)]) (st' := [.int (y604 + 1), .ref 97, .int v612, .int v611, .int (y604 + 1), .ref 96]) (h' := (HM P (u_m_there w q610) T)) (cs' := 0) (sl' := 0) rfl ?_
          obtain ⟨v613, hq, h⟩ := ai_bdE h
          refine ev_iald rfl rfl hq ?_
          refine ev_go 2 (pc' := 103) (L' := [some (.ref 89), some (.int y603), some (.int y604)]) (st' := [.int (v611 + (v612 - v613)), .int (y604 + 1), .ref 96]) (h' := (HM P (u_m_there w q610) T)) (cs' := 0) (sl' := 0) rfl ?_
          obtain ⟨q614, hq, h⟩ := ai_bdE h
          refine ev_iast rfl rfl hq ?_
          rw [HMs_96]
          refine ev_go 2 (pc' := 34) (L' := [some (.ref 89), some (.int y603), some (.int (y604 + 1))]) (st' := []) (h' := (HM P (u_m_there (u_m_there w q610) q614) T)) (cs' := 0) (sl' := 0) rfl ?_
          exact ih1 _ _ _ _ h P T
        · refine ev_if_ne (t := 104) rfl rfl (fun _ => ?_) (fun c9 => absurd c9 hc)
          refine ev_go 2 (pc' := 34) (L' := [some (.ref 89), some (.int y603), some (.int (y604 + 1))]) (st' := []) (h' := (HM P w T)) (cs' := 0) (sl' := 0) rfl ?_
          exact ih1 _ _ _ _ h P T
set_option maxHeartbeats 40000000 in
set_option maxRecDepth 100000 in
theorem Em_spills_89 (n : Nat) (x597 : Int32) (w : WM) (w' : WM) (h : Fm_spills_89 n x597 w = some w') (P : Nat → ai_E) (T : ai_H) : ai_ev D1 mm_spills 0 [some (.ref 89), some (.int x597), none] [] (HM P w T) 0 0 (none, HM P w' T) := by
  unfold Fm_spills_89 at h
  obtain ⟨ih0, ih1⟩ := EGm_spills_89 n
  refine ev_go 2 (pc' := 2) (L' := [some (.ref 89), some (.int x597), some (.int 0)]) (st' := []) (h' := (HM P w T)) (cs' := 0) (sl' := 0) rfl ?_
  exact ih0 _ _ _ _ h P T
set_option maxHeartbeats 40000000 in
set_option maxRecDepth 100000 in
theorem EGm_spill_89 : ∀ n : Nat, (∀ (y590 : Int32) (y591 : Int32) (y592 : Int32) (y593 : Int32) (y594 : Int32) (w : WM) (r : Int32) (w' : WM), Gm_spill_89 n 0 y590 y591 y592 y593 y594 w = some (r, w') → ∀ (P : Nat → ai_E) (T : ai_H), ai_ev D1 mm_spill 55 [some (.ref 89), some (.int y590), some (.int y591), some (.int y592), some (.int y593), some (.int y594)] [] (HM P w T) 0 0 (some (.int r), HM P w' T)) := by
  intro n
  induction n with
  | zero =>
    exact (fun _ _ _ _ _ _ _ _ h => by cases h)
  | succ n ih0 =>
    intro y590 y591 y592 y593 y594 w r w' h P T
    simp only [Gm_spill_89] at h
    refine ev_go 2 (pc' := 58) (L' := [some (.ref 89), some (.int y590), some (.int y591), some (.int y592), some (.int y593), some (.int y594)]) (st' := [.int y592, .int y594]) (h' := (HM P w T)) (cs' := 0) (sl' := 0) rfl ?_
    rcases ai_ifE h with ⟨hc, h⟩ | ⟨hc, h⟩
    · refine ev_ic_ge (t := 77) rfl rfl (fun _ => ?_) (fun c9 => absurd hc c9)
      refine ev_go 3 (pc' := 83) (L' := [some (.ref 89), some (.int y590), some (.int y591), some (.int y592), some (.int y593), some (.int y594)]) (st' := [.int y593, .ref 96]) (h' := (HM P w T)) (cs' := 0) (sl' := 0) rfl ?_
      obtain ⟨v595, hq, h⟩ := ai_bdE h
      refine ev_iald rfl rfl hq ?_
      obtain ⟨rfl, rfl⟩ := ai_smP h
      exact ev_end rfl
    · refine ev_ic_ge (t := 77) rfl rfl (fun c9 => absurd c9 hc) (fun _ => ?_)
      refine ev_go 4 (pc' := 67) (L' := [some (.ref 89), some (.int y590), some (.int y591), some (.int y592), some (.int y593), some (.int y594)]) (st' := [.int 5, .ref 90, .ref 89]) (h' := (HM P w T)) (cs' := 0) (sl' := 0) rfl ?_
      obtain ⟨v596, hq, h⟩ := ai_bdE h
      refine ev_iald rfl rfl hq ?_
      obtain ⟨c615, hq, h⟩ := ai_bdE h
      refine ev_call (M' := mm_spills) (L' := [some (.ref 89), some (.int v596), none]) (rest := []) (rv := none) (h' := (HM P c615 T)) rfl (Em_spills_89 n v596 w _ hq P T) ?_
      show ai_ev D1 mm_spill 71 [some (.ref 89), some (.int y590), some (.int y591), some (.int y592), some (.int y593), some (.int y594)] [] (HM P c615 T) 0 0 _
      refine ev_go 2 (pc' := 55) (L' := [some (.ref 89), some (.int y590), some (.int y591), some (.int y592), some (.int y593), some (.int (y594 + 1))]) (st' := []) (h' := (HM P c615 T)) (cs' := 0) (sl' := 0) rfl ?_
      exact ih0 _ _ _ _ _ _ _ _ h P T
set_option maxHeartbeats 40000000 in
set_option maxRecDepth 100000 in
theorem Em_spill_89 (n : Nat) (x570 : Int32) (x571 : Int32) (x572 : Int32) (x573 : Int32) (w : WM) (r : Int32) (w' : WM) (h : Fm_spill_89 n x570 x571 x572 x573 w = some (r, w')) (P : Nat → ai_E) (T : ai_H) : ai_ev D1 mm_spill 0 [some (.ref 89), some (.int x570), some (.int x571), some (.int x572), some (.int x573), none] [] (HM P w T) 0 0 (some (.int r), HM P w' T) := by
  unfold Fm_spill_89 at h
  have ih0 := EGm_spill_89 n
  refine ev_go 2 (pc' := 2) (L' := [some (.ref 89), some (.int x570), some (.int x571), some (.int x572), some (.int x573), none]) (st' := [.int x570, .ref 89]) (h' := (HM P w T)) (cs' := 0) (sl' := 0) rfl ?_
  obtain ⟨c574, hq, h⟩ := ai_bdE h
  refine ev_call (M' := mm_isCell) (L' := [some (.ref 89), some (.int x570)]) (rest := []) (rv := some (.int c574.1)) (h' := (HM P c574.2 T)) rfl (Em_isCell_89 x570 w _ _ hq P T) ?_
  show ai_ev D1 mm_spill 5 [some (.ref 89), some (.int x570), some (.int x571), some (.int x572), some (.int x573), none] [.int c574.1] (HM P c574.2 T) 0 0 _
  rcases ai_ifE h with ⟨hc, h⟩ | ⟨hc, h⟩
  · refine ev_if_eq (t := 41) rfl rfl (fun _ => ?_) (fun c9 => absurd hc c9)
    refine ev_go 1 (pc' := 42) (L' := [some (.ref 89), some (.int x570), some (.int x571), some (.int x572), some (.int x573), none]) (st' := [.ref 89]) (h' := (HM P c574.2 T)) (cs' := 0) (sl' := 0) rfl ?_
    obtain ⟨c575, hq, h⟩ := ai_bdE h
    refine ev_call (M' := mm_bad) (L' := [some (.ref 89)]) (rest := []) (rv := some (.int c575.1)) (h' := (HM P c575.2 T)) rfl (Em_bad_89 c574.2 _ _ hq P T) ?_
    show ai_ev D1 mm_spill 45 [some (.ref 89), some (.int x570), some (.int x571), some (.int x572), some (.int x573), none] [.int c575.1] (HM P c575.2 T) 0 0 _
    obtain ⟨rfl, rfl⟩ := ai_smP h
    exact ev_end rfl
  · refine ev_if_eq (t := 41) rfl rfl (fun c9 => absurd c9 hc) (fun _ => ?_)
    refine ev_go 4 (pc' := 14) (L' := [some (.ref 89), some (.int x570), some (.int x571), some (.int x572), some (.int x573), none]) (st' := [.long 999, .long 0, .long (x571).toInt64]) (h' := (HM P c574.2 T)) (cs' := 0) (sl' := 0) rfl ?_
    obtain ⟨c576, hq, h⟩ := ai_bdE h
    refine ev_call (M' := mm_in) (L' := [some (.long (x571).toInt64), none, some (.long 0), none, some (.long 999), none]) (rest := []) (rv := some (.int c576)) (h' := (HM P c574.2 T)) rfl (Em_in (x571).toInt64 0 999 _ hq (HM P c574.2 T)) ?_
    show ai_ev D1 mm_spill 17 [some (.ref 89), some (.int x570), some (.int x571), some (.int x572), some (.int x573), none] [.int c576] (HM P c574.2 T) 0 0 _
    rcases ai_ifE h with ⟨hc, h⟩ | ⟨hc, h⟩
    · refine ev_if_eq (t := 41) rfl rfl (fun _ => ?_) (fun c9 => absurd hc c9)
      refine ev_go 1 (pc' := 42) (L' := [some (.ref 89), some (.int x570), some (.int x571), some (.int x572), some (.int x573), none]) (st' := [.ref 89]) (h' := (HM P c574.2 T)) (cs' := 0) (sl' := 0) rfl ?_
      obtain ⟨c577, hq, h⟩ := ai_bdE h
      refine ev_call (M' := mm_bad) (L' := [some (.ref 89)]) (rest := []) (rv := some (.int c577.1)) (h' := (HM P c577.2 T)) rfl (Em_bad_89 c574.2 _ _ hq P T) ?_
      show ai_ev D1 mm_spill 45 [some (.ref 89), some (.int x570), some (.int x571), some (.int x572), some (.int x573), none] [.int c577.1] (HM P c577.2 T) 0 0 _
      obtain ⟨rfl, rfl⟩ := ai_smP h
      exact ev_end rfl
    · refine ev_if_eq (t := 41) rfl rfl (fun c9 => absurd c9 hc) (fun _ => ?_)
      refine ev_go 4 (pc' := 26) (L' := [some (.ref 89), some (.int x570), some (.int x571), some (.int x572), some (.int x573), none]) (st' := [.long 40, .long 0, .long (x572).toInt64]) (h' := (HM P c574.2 T)) (cs' := 0) (sl' := 0) rfl ?_
      obtain ⟨c578, hq, h⟩ := ai_bdE h
      refine ev_call (M' := mm_in) (L' := [some (.long (x572).toInt64), none, some (.long 0), none, some (.long 40), none]) (rest := []) (rv := some (.int c578)) (h' := (HM P c574.2 T)) rfl (Em_in (x572).toInt64 0 40 _ hq (HM P c574.2 T)) ?_
      show ai_ev D1 mm_spill 29 [some (.ref 89), some (.int x570), some (.int x571), some (.int x572), some (.int x573), none] [.int c578] (HM P c574.2 T) 0 0 _
      rcases ai_ifE h with ⟨hc, h⟩ | ⟨hc, h⟩
      · refine ev_if_eq (t := 41) rfl rfl (fun _ => ?_) (fun c9 => absurd hc c9)
        refine ev_go 1 (pc' := 42) (L' := [some (.ref 89), some (.int x570), some (.int x571), some (.int x572), some (.int x573), none]) (st' := [.ref 89]) (h' := (HM P c574.2 T)) (cs' := 0) (sl' := 0) rfl ?_
        obtain ⟨c579, hq, h⟩ := ai_bdE h
        refine ev_call (M' := mm_bad) (L' := [some (.ref 89)]) (rest := []) (rv := some (.int c579.1)) (h' := (HM P c579.2 T)) rfl (Em_bad_89 c574.2 _ _ hq P T) ?_
        show ai_ev D1 mm_spill 45 [some (.ref 89), some (.int x570), some (.int x571), some (.int x572), some (.int x573), none] [.int c579.1] (HM P c579.2 T) 0 0 _
        obtain ⟨rfl, rfl⟩ := ai_smP h
        exact ev_end rfl
      · refine ev_if_eq (t := 41) rfl rfl (fun c9 => absurd c9 hc) (fun _ => ?_)
        refine ev_go 2 (pc' := 35) (L' := [some (.ref 89), some (.int x570), some (.int x571), some (.int x572), some (.int x573), none]) (st' := [.int x573, .ref 89]) (h' := (HM P c574.2 T)) (cs' := 0) (sl' := 0) rfl ?_
        obtain ⟨c580, hq, h⟩ := ai_bdE h
        refine ev_call (M' := mm_isCell) (L' := [some (.ref 89), some (.int x573)]) (rest := []) (rv := some (.int c580.1)) (h' := (HM P c580.2 T)) rfl (Em_isCell_89 x573 c574.2 _ _ hq P T) ?_
        show ai_ev D1 mm_spill 38 [some (.ref 89), some (.int x570), some (.int x571), some (.int x572), some (.int x573), none] [.int c580.1] (HM P c580.2 T) 0 0 _
        rcases ai_ifE h with ⟨hc, h⟩ | ⟨hc, h⟩
        · refine ev_if_ne (t := 46) rfl rfl (fun c9 => absurd hc c9) (fun _ => ?_)
          refine ev_go 1 (pc' := 42) (L' := [some (.ref 89), some (.int x570), some (.int x571), some (.int x572), some (.int x573), none]) (st' := [.ref 89]) (h' := (HM P c580.2 T)) (cs' := 0) (sl' := 0) rfl ?_
          obtain ⟨c589, hq, h⟩ := ai_bdE h
          refine ev_call (M' := mm_bad) (L' := [some (.ref 89)]) (rest := []) (rv := some (.int c589.1)) (h' := (HM P c589.2 T)) rfl (Em_bad_89 c580.2 _ _ hq P T) ?_
          show ai_ev D1 mm_spill 45 [some (.ref 89), some (.int x570), some (.int x571), some (.int x572), some (.int x573), none] [.int c589.1] (HM P c589.2 T) 0 0 _
          obtain ⟨rfl, rfl⟩ := ai_smP h
          exact ev_end rfl
        · refine ev_if_ne (t := 46) rfl rfl (fun _ => ?_) (fun c9 => absurd c9 hc)
          refine ev_go 3 (pc' := 49) (L' := [some (.ref 89), some (.int x570), some (.int x571), some (.int x572), some (.int x573), none]) (st' := [.int x571, .int x570, .ref 89]) (h' := (HM P c580.2 T)) (cs' := 0) (sl' := 0) rfl ?_
          obtain ⟨c588, hq, h⟩ := ai_bdE h
          refine ev_call (M' := mm_laySpill) (L' := [some (.ref 89), some (.int x570), some (.int x571), none]) (rest := []) (rv := none) (h' := (HM P c588 T)) rfl (Em_laySpill_89 n x570 x571 c580.2 _ hq P T) ?_
          show ai_ev D1 mm_spill 52 [some (.ref 89), some (.int x570), some (.int x571), some (.int x572), some (.int x573), none] [] (HM P c588 T) 0 0 _
          refine ev_go 2 (pc' := 55) (L' := [some (.ref 89), some (.int x570), some (.int x571), some (.int x572), some (.int x573), some (.int 0)]) (st' := []) (h' := (HM P c588 T)) (cs' := 0) (sl' := 0) rfl ?_
          exact ih0 _ _ _ _ _ _ _ _ h P T
set_option maxHeartbeats 40000000 in
set_option maxRecDepth 100000 in
theorem EGm_keepsOut_89 : ∀ n : Nat, (∀ (y644 : Int32) (y645 : Int32) (y646 : Int32) (y647 : Int32) (y648 : Int32) (y649 : Int32) (w : WM) (r : Int32) (w' : WM), Gm_keepsOut_89 n 0 y644 y645 y646 y647 y648 y649 0 w = some (r, w') → ∀ (P : Nat → ai_E) (T : ai_H) (o7 : Option Value), ai_ev D1 mm_keepsOut 9 [some (.ref 89), some (.int y644), some (.int y645), some (.int y646), some (.int y647), some (.int y648), some (.int y649), o7] [] (HM P w T) 0 0 (some (.int r), HM P w' T)) ∧ (∀ (y650 : Int32) (y651 : Int32) (y652 : Int32) (y653 : Int32) (y654 : Int32) (y655 : Int32) (y656 : Int32) (w : WM) (r : Int32) (w' : WM), Gm_keepsOut_89 n 1 y650 y651 y652 y653 y654 y655 y656 w = some (r, w') → ∀ (P : Nat → ai_E) (T : ai_H), ai_ev D1 mm_keepsOut 18 [some (.ref 89), some (.int y650), some (.int y651), some (.int y652), some (.int y653), some (.int y654), some (.int y655), some (.int y656)] [] (HM P w T) 0 0 (some (.int r), HM P w' T)) := by
  intro n
  induction n with
  | zero =>
    exact ⟨(fun _ _ _ _ _ _ _ _ _ h => by cases h), (fun _ _ _ _ _ _ _ _ _ _ h => by cases h)⟩
  | succ n ih =>
    obtain ⟨ih0, ih1⟩ := ih
    refine ⟨?_, ?_⟩
    · intro y644 y645 y646 y647 y648 y649 w r w' h P T o7
      simp only [Gm_keepsOut_89] at h
      refine ev_go 2 (pc' := 12) (L' := [some (.ref 89), some (.int y644), some (.int y645), some (.int y646), some (.int y647), some (.int y648), some (.int y649), o7]) (st' := [.int y646, .int y649]) (h' := (HM P w T)) (cs' := 0) (sl' := 0) rfl ?_
      rcases ai_ifE h with ⟨hc, h⟩ | ⟨hc, h⟩
      · refine ev_ic_gt (t := 69) rfl rfl (fun _ => ?_) (fun c9 => absurd hc c9)
        refine ev_go 1 (pc' := 70) (L' := [some (.ref 89), some (.int y644), some (.int y645), some (.int y646), some (.int y647), some (.int y648), some (.int y649), o7]) (st' := [.int 1]) (h' := (HM P w T)) (cs' := 0) (sl' := 0) rfl ?_
        obtain ⟨rfl, rfl⟩ := ai_smP h
        exact ev_end rfl
      · refine ev_ic_gt (t := 69) rfl rfl (fun c9 => absurd c9 hc) (fun _ => ?_)
        refine ev_go 2 (pc' := 18) (L' := [some (.ref 89), some (.int y644), some (.int y645), some (.int y646), some (.int y647), some (.int y648), some (.int y649), some (.int 0)]) (st' := []) (h' := (HM P w T)) (cs' := 0) (sl' := 0) rfl ?_
        exact ih1 _ _ _ _ _ _ _ _ _ _ h P T
    · intro y650 y651 y652 y653 y654 y655 y656 w r w' h P T
      simp only [Gm_keepsOut_89] at h
      refine ev_go 4 (pc' := 25) (L' := [some (.ref 89), some (.int y650), some (.int y651), some (.int y652), some (.int y653), some (.int y654), some (.int y655), some (.int y656)]) (st' := [.int 0, .ref 90, .int y656]) (h' := (HM P w T)) (cs' := 0) (sl' := 0) rfl ?_
      obtain ⟨v657, hq, h⟩ := ai_bdE h
      refine ev_iald rfl rfl hq ?_
      rcases ai_ifE h with ⟨hc, h⟩ | ⟨hc, h⟩
      · refine ev_ic_ge (t := 57) rfl rfl (fun _ => ?_) (fun c9 => absurd hc c9)
        refine ev_go 2 (pc' := 60) (L' := [some (.ref 89), some (.int y650), some (.int y651), some (.int y652), some (.int y653), some (.int y654), some (.int y655), some (.int y656)]) (st' := [.int y654, .ref 89]) (h' := (HM P w T)) (cs' := 0) (sl' := 0) rfl ?_
        obtain ⟨c658, hq, h⟩ := ai_bdE h
        refine ev_call (M' := mm_spills) (L' := [some (.ref 89), some (.int y654), none]) (rest := []) (rv := none) (h' := (HM P c658 T)) rfl (Em_spills_89 n y654 w _ hq P T) ?_
        show ai_ev D1 mm_keepsOut 63 [some (.ref 89), some (.int y650), some (.int y651), some (.int y652), some (.int y653), some (.int y654), some (.int y655), some (.int y656)] [] (HM P c658 T) 0 0 _
        refine ev_go 2 (pc' := 9) (L' := [some (.ref 89), some (.int y650), some (.int y651), some (.int y652), some (.int y653), some (.int y654), some (.int (y655 + 1)), some (.int y656)]) (st' := []) (h' := (HM P c658 T)) (cs' := 0) (sl' := 0) rfl ?_
        exact ih0 _ _ _ _ _ _ _ _ _ h P T _
      · refine ev_ic_ge (t := 57) rfl rfl (fun c9 => absurd c9 hc) (fun _ => ?_)
        refine ev_go 2 (pc' := 33) (L' := [some (.ref 89), some (.int y650), some (.int y651), some (.int y652), some (.int y653), some (.int y654), some (.int y655), some (.int y656)]) (st' := [.int y656, .int y653]) (h' := (HM P w T)) (cs' := 0) (sl' := 0) rfl ?_
        obtain ⟨c659, hq, h⟩ := ai_bdE h
        refine ev_call (M' := mm_has) (L' := [some (.int y653), some (.int y656)]) (rest := []) (rv := some (.int c659)) (h' := (HM P w T)) rfl (Em_has y653 y656 _ hq (HM P w T)) ?_
        show ai_ev D1 mm_keepsOut 36 [some (.ref 89), some (.int y650), some (.int y651), some (.int y652), some (.int y653), some (.int y654), some (.int y655), some (.int y656)] [.int c659] (HM P w T) 0 0 _
        rcases ai_ifE h with ⟨hc, h⟩ | ⟨hc, h⟩
        · refine ev_if_eq (t := 51) rfl rfl (fun _ => ?_) (fun c9 => absurd hc c9)
          refine ev_go 2 (pc' := 18) (L' := [some (.ref 89), some (.int y650), some (.int y651), some (.int y652), some (.int y653), some (.int y654), some (.int y655), some (.int (y656 + 1))]) (st' := []) (h' := (HM P w T)) (cs' := 0) (sl' := 0) rfl ?_
          exact ih1 _ _ _ _ _ _ _ _ _ _ h P T
        · refine ev_if_eq (t := 51) rfl rfl (fun c9 => absurd c9 hc) (fun _ => ?_)
          refine ev_go 3 (pc' := 45) (L' := [some (.ref 89), some (.int y650), some (.int y651), some (.int y652), some (.int y653), some (.int y654), some (.int y655), some (.int y656)]) (st' := [.int y656, .ref 96]) (h' := (HM P w T)) (cs' := 0) (sl' := 0) rfl ?_
          obtain ⟨v660, hq, h⟩ := ai_bdE h
          refine ev_iald rfl rfl hq ?_
          rcases ai_ifE h with ⟨hc, h⟩ | ⟨hc, h⟩
          · refine ev_if_le (t := 51) rfl rfl (fun _ => ?_) (fun c9 => absurd hc c9)
            refine ev_go 2 (pc' := 18) (L' := [some (.ref 89), some (.int y650), some (.int y651), some (.int y652), some (.int y653), some (.int y654), some (.int y655), some (.int (y656 + 1))]) (st' := []) (h' := (HM P w T)) (cs' := 0) (sl' := 0) rfl ?_
            exact ih1 _ _ _ _ _ _ _ _ _ _ h P T
          · refine ev_if_le (t := 51) rfl rfl (fun c9 => absurd c9 hc) (fun _ => ?_)
            refine ev_go 1 (pc' := 50) (L' := [some (.ref 89), some (.int y650), some (.int y651), some (.int y652), some (.int y653), some (.int y654), some (.int y655), some (.int y656)]) (st' := [.int 0]) (h' := (HM P w T)) (cs' := 0) (sl' := 0) rfl ?_
            obtain ⟨rfl, rfl⟩ := ai_smP h
            exact ev_end rfl
set_option maxHeartbeats 40000000 in
set_option maxRecDepth 100000 in
theorem Em_keepsOut_89 (n : Nat) (x638 : Int32) (x639 : Int32) (x640 : Int32) (x641 : Int32) (x642 : Int32) (w : WM) (r : Int32) (w' : WM) (h : Fm_keepsOut_89 n x638 x639 x640 x641 x642 w = some (r, w')) (P : Nat → ai_E) (T : ai_H) : ai_ev D1 mm_keepsOut 0 [some (.ref 89), some (.int x638), some (.int x639), some (.int x640), some (.int x641), some (.int x642), none, none] [] (HM P w T) 0 0 (some (.int r), HM P w' T) := by
  unfold Fm_keepsOut_89 at h
  obtain ⟨ih0, ih1⟩ := EGm_keepsOut_89 n
  refine ev_go 3 (pc' := 3) (L' := [some (.ref 89), some (.int x638), some (.int x639), some (.int x640), some (.int x641), some (.int x642), none, none]) (st' := [.int x639, .int x638, .ref 89]) (h' := (HM P w T)) (cs' := 0) (sl' := 0) rfl ?_
  obtain ⟨c643, hq, h⟩ := ai_bdE h
  refine ev_call (M' := mm_laySpill) (L' := [some (.ref 89), some (.int x638), some (.int x639), none]) (rest := []) (rv := none) (h' := (HM P c643 T)) rfl (Em_laySpill_89 n x638 x639 w _ hq P T) ?_
  show ai_ev D1 mm_keepsOut 6 [some (.ref 89), some (.int x638), some (.int x639), some (.int x640), some (.int x641), some (.int x642), none, none] [] (HM P c643 T) 0 0 _
  refine ev_go 2 (pc' := 9) (L' := [some (.ref 89), some (.int x638), some (.int x639), some (.int x640), some (.int x641), some (.int x642), some (.int 0), none]) (st' := []) (h' := (HM P c643 T)) (cs' := 0) (sl' := 0) rfl ?_
  exact ih0 _ _ _ _ _ _ _ _ _ h P T _
set_option maxHeartbeats 40000000 in
set_option maxRecDepth 100000 in
theorem EGm_ones : ∀ n : Nat, (∀ (y663 : Int32) (y664 : Int32) (y665 : Int32) (r : Int32), Gm_ones n 0 y663 y664 y665 = some r → ∀ (hh : ai_H), ai_ev D1 mm_ones 4 [some (.int y663), some (.int y664), some (.int y665)] [] hh 0 0 (some (.int r), hh)) := by
  intro n
  induction n with
  | zero =>
    exact (fun _ _ _ _ h => by cases h)
  | succ n ih0 =>
    intro y663 y664 y665 r h hh
    simp only [Gm_ones] at h
    refine ev_go 2 (pc' := 7) (L' := [some (.int y663), some (.int y664), some (.int y665)]) (st' := [.int 6, .int y665]) (h' := hh) (cs' := 0) (sl' := 0) rfl ?_
    rcases ai_ifE h with ⟨hc, h⟩ | ⟨hc, h⟩
    · refine ev_ic_ge (t := 24) rfl rfl (fun _ => ?_) (fun c9 => absurd hc c9)
      refine ev_go 1 (pc' := 25) (L' := [some (.int y663), some (.int y664), some (.int y665)]) (st' := [.int y664]) (h' := hh) (cs' := 0) (sl' := 0) rfl ?_
      obtain rfl := Option.some.inj h
      exact ev_end rfl
    · refine ev_ic_ge (t := 24) rfl rfl (fun c9 => absurd c9 hc) (fun _ => ?_)
      refine ev_go 10 (pc' := 4) (L' := [some (.int y663), some (.int (y664 + ((y663 >>> (y665 &&& 31)) &&& 1))), some (.int (y665 + 1))]) (st' := []) (h' := hh) (cs' := 0) (sl' := 0) rfl ?_
      exact ih0 _ _ _ _ h hh
set_option maxHeartbeats 40000000 in
set_option maxRecDepth 100000 in
theorem Em_ones (n : Nat) (x662 : Int32) (r : Int32) (h : Fm_ones n x662 = some r) (hh : ai_H) : ai_ev D1 mm_ones 0 [some (.int x662), none, none] [] hh 0 0 (some (.int r), hh) := by
  unfold Fm_ones at h
  have ih0 := EGm_ones n
  refine ev_go 4 (pc' := 4) (L' := [some (.int x662), some (.int 0), some (.int 0)]) (st' := []) (h' := hh) (cs' := 0) (sl' := 0) rfl ?_
  exact ih0 _ _ _ _ h hh
set_option maxHeartbeats 40000000 in
set_option maxRecDepth 100000 in
theorem EGm_keepOut_89 : ∀ n : Nat, (∀ (y629 : Int32) (y630 : Int32) (y631 : Int32) (y632 : Int32) (y633 : Int32) (y634 : Int32) (w : WM) (r : Int32) (w' : WM), Gm_keepOut_89 n 0 y629 y630 y631 y632 y633 y634 w = some (r, w') → ∀ (P : Nat → ai_E) (T : ai_H) (o7 : Option Value), ai_ev D1 mm_keepOut 64 [some (.ref 89), some (.int y629), some (.int y630), some (.int y631), some (.int y632), some (.int y633), some (.int y634), o7] [] (HM P w T) 0 0 (some (.int r), HM P w' T)) := by
  intro n
  induction n with
  | zero =>
    exact (fun _ _ _ _ _ _ _ _ _ h => by cases h)
  | succ n ih0 =>
    intro y629 y630 y631 y632 y633 y634 w r w' h P T o7
    simp only [Gm_keepOut_89] at h
    refine ev_go 5 (pc' := 72) (L' := [some (.ref 89), some (.int y629), some (.int y630), some (.int y631), some (.int y632), some (.int y633), some (.int y634), o7]) (st' := [.int 0, .ref 90, .int 1, .int y634]) (h' := (HM P w T)) (cs' := 0) (sl' := 0) rfl ?_
    obtain ⟨v635, hq, h⟩ := ai_bdE h
    refine ev_iald rfl rfl hq ?_
    refine ev_go 3 (pc' := 76) (L' := [some (.ref 89), some (.int y629), some (.int y630), some (.int y631), some (.int y632), some (.int y633), some (.int y634), o7]) (st' := [.int (1 <<< ((v635 - 1) &&& 31)), .int y634]) (h' := (HM P w T)) (cs' := 0) (sl' := 0) rfl ?_
    rcases ai_ifE h with ⟨hc, h⟩ | ⟨hc, h⟩
    · refine ev_ic_ge (t := 158) rfl rfl (fun _ => ?_) (fun c9 => absurd hc c9)
      refine ev_go 1 (pc' := 160) (L' := [some (.ref 89), some (.int y629), some (.int y630), some (.int y631), some (.int y632), some (.int y633), some (.int y634), o7]) (st' := [.int y633]) (h' := (HM P w T)) (cs' := 0) (sl' := 0) rfl ?_
      obtain ⟨rfl, rfl⟩ := ai_smP h
      exact ev_end rfl
    · refine ev_ic_ge (t := 158) rfl rfl (fun c9 => absurd c9 hc) (fun _ => ?_)
      refine ev_go 4 (pc' := 86) (L' := [some (.ref 89), some (.int y629), some (.int y630), some (.int y631), some (.int y632), some (.int y633), some (.int y634), o7]) (st' := [.int 5, .ref 90, .int y634]) (h' := (HM P w T)) (cs' := 0) (sl' := 0) rfl ?_
      obtain ⟨v636, hq, h⟩ := ai_bdE h
      refine ev_iald rfl rfl hq ?_
      refine ev_go 1 (pc' := 88) (L' := [some (.ref 89), some (.int y629), some (.int y630), some (.int y631), some (.int y632), some (.int y633), some (.int y634), o7]) (st' := [.int (y634 &&& v636)]) (h' := (HM P w T)) (cs' := 0) (sl' := 0) rfl ?_
      rcases ai_ifE h with ⟨hc, h⟩ | ⟨hc, h⟩
      · refine ev_if_ne (t := 114) rfl rfl (fun c9 => absurd hc c9) (fun _ => ?_)
        refine ev_go 2 (pc' := 94) (L' := [some (.ref 89), some (.int y629), some (.int y630), some (.int y631), some (.int y632), some (.int y633), some (.int y634), o7]) (st' := [.int (-1), .int y633]) (h' := (HM P w T)) (cs' := 0) (sl' := 0) rfl ?_
        rcases ai_ifE h with ⟨hc, h⟩ | ⟨hc, h⟩
        · refine ev_ic_eq (t := 110) rfl rfl (fun _ => ?_) (fun c9 => absurd hc c9)
          refine ev_go 13 (pc' := 133) (L' := [some (.ref 89), some (.int y629), some (.int y630), some (.int y631), some (.int y632), some (.int y633), some (.int y634), some (.int 1)]) (st' := [.int 5, .ref 90, .int y632, .int y631, .int y630, .int y629, .ref 89]) (h' := (HM P w T)) (cs' := 0) (sl' := 0) rfl ?_
          obtain ⟨v637, hq, h⟩ := ai_bdE h
          refine ev_iald rfl rfl hq ?_
          refine ev_go 2 (pc' := 137) (L' := [some (.ref 89), some (.int y629), some (.int y630), some (.int y631), some (.int y632), some (.int y633), some (.int y634), some (.int 1)]) (st' := [.int (v637 ||| y634), .int y632, .int y631, .int y630, .int y629, .ref 89]) (h' := (HM P w T)) (cs' := 0) (sl' := 0) rfl ?_
          obtain ⟨c661, hq, h⟩ := ai_bdE h
          refine ev_call (M' := mm_keepsOut) (L' := [some (.ref 89), some (.int y629), some (.int y630), some (.int y631), some (.int y632), some (.int (v637 ||| y634)), none, none]) (rest := []) (rv := some (.int c661.1)) (h' := (HM P c661.2 T)) rfl (Em_keepsOut_89 n y629 y630 y631 y632 (v637 ||| y634) w _ _ hq P T) ?_
          show ai_ev D1 mm_keepOut 140 [some (.ref 89), some (.int y629), some (.int y630), some (.int y631), some (.int y632), some (.int y633), some (.int y634), some (.int 1)] [.int c661.1] (HM P c661.2 T) 0 0 _
          rcases ai_ifE h with ⟨hc, h⟩ | ⟨hc, h⟩
          · refine ev_if_eq (t := 148) rfl rfl (fun _ => ?_) (fun c9 => absurd hc c9)
            refine ev_go 4 (pc' := 64) (L' := [some (.ref 89), some (.int y629), some (.int y630), some (.int y631), some (.int y632), some (.int y633), some (.int (y634 + 1)), some (.int 1)]) (st' := []) (h' := (HM P c661.2 T)) (cs' := 0) (sl' := 0) rfl ?_
            exact ih0 _ _ _ _ _ _ _ _ _ h P T _
          · refine ev_if_eq (t := 148) rfl rfl (fun c9 => absurd c9 hc) (fun _ => ?_)
            refine ev_go 5 (pc' := 64) (L' := [some (.ref 89), some (.int y629), some (.int y630), some (.int y631), some (.int y632), some (.int y634), some (.int (y634 + 1)), some (.int 1)]) (st' := []) (h' := (HM P c661.2 T)) (cs' := 0) (sl' := 0) rfl ?_
            exact ih0 _ _ _ _ _ _ _ _ _ h P T _
        · refine ev_ic_eq (t := 110) rfl rfl (fun c9 => absurd c9 hc) (fun _ => ?_)
          refine ev_go 1 (pc' := 99) (L' := [some (.ref 89), some (.int y629), some (.int y630), some (.int y631), some (.int y632), some (.int y633), some (.int y634), o7]) (st' := [.int y634]) (h' := (HM P w T)) (cs' := 0) (sl' := 0) rfl ?_
          obtain ⟨c666, hq, h⟩ := ai_bdE h
          refine ev_call (M' := mm_ones) (L' := [some (.int y634), none, none]) (rest := []) (rv := some (.int c666)) (h' := (HM P w T)) rfl (Em_ones n y634 _ hq (HM P w T)) ?_
          show ai_ev D1 mm_keepOut 102 [some (.ref 89), some (.int y629), some (.int y630), some (.int y631), some (.int y632), some (.int y633), some (.int y634), o7] [.int c666] (HM P w T) 0 0 _
          refine ev_go 1 (pc' := 104) (L' := [some (.ref 89), some (.int y629), some (.int y630), some (.int y631), some (.int y632), some (.int y633), some (.int y634), o7]) (st' := [.int y633, .int c666]) (h' := (HM P w T)) (cs' := 0) (sl' := 0) rfl ?_
          obtain ⟨c667, hq, h⟩ := ai_bdE h
          refine ev_call (M' := mm_ones) (L' := [some (.int y633), none, none]) (rest := [.int c666]) (rv := some (.int c667)) (h' := (HM P w T)) rfl (Em_ones n y633 _ hq (HM P w T)) ?_
          show ai_ev D1 mm_keepOut 107 [some (.ref 89), some (.int y629), some (.int y630), some (.int y631), some (.int y632), some (.int y633), some (.int y634), o7] [.int c667, .int c666] (HM P w T) 0 0 _
          rcases ai_ifE h with ⟨hc, h⟩ | ⟨hc, h⟩
          · refine ev_ic_ge (t := 114) rfl rfl (fun _ => ?_) (fun c9 => absurd hc c9)
            refine ev_go 8 (pc' := 64) (L' := [some (.ref 89), some (.int y629), some (.int y630), some (.int y631), some (.int y632), some (.int y633), some (.int (y634 + 1)), some (.int 0)]) (st' := []) (h' := (HM P w T)) (cs' := 0) (sl' := 0) rfl ?_
            exact ih0 _ _ _ _ _ _ _ _ _ h P T _
          · refine ev_ic_ge (t := 114) rfl rfl (fun c9 => absurd c9 hc) (fun _ => ?_)
            refine ev_go 13 (pc' := 133) (L' := [some (.ref 89), some (.int y629), some (.int y630), some (.int y631), some (.int y632), some (.int y633), some (.int y634), some (.int 1)]) (st' := [.int 5, .ref 90, .int y632, .int y631, .int y630, .int y629, .ref 89]) (h' := (HM P w T)) (cs' := 0) (sl' := 0) rfl ?_
            obtain ⟨v668, hq, h⟩ := ai_bdE h
            refine ev_iald rfl rfl hq ?_
            refine ev_go 2 (pc' := 137) (L' := [some (.ref 89), some (.int y629), some (.int y630), some (.int y631), some (.int y632), some (.int y633), some (.int y634), some (.int 1)]) (st' := [.int (v668 ||| y634), .int y632, .int y631, .int y630, .int y629, .ref 89]) (h' := (HM P w T)) (cs' := 0) (sl' := 0) rfl ?_
            obtain ⟨c669, hq, h⟩ := ai_bdE h
            refine ev_call (M' := mm_keepsOut) (L' := [some (.ref 89), some (.int y629), some (.int y630), some (.int y631), some (.int y632), some (.int (v668 ||| y634)), none, none]) (rest := []) (rv := some (.int c669.1)) (h' := (HM P c669.2 T)) rfl (Em_keepsOut_89 n y629 y630 y631 y632 (v668 ||| y634) w _ _ hq P T) ?_
            show ai_ev D1 mm_keepOut 140 [some (.ref 89), some (.int y629), some (.int y630), some (.int y631), some (.int y632), some (.int y633), some (.int y634), some (.int 1)] [.int c669.1] (HM P c669.2 T) 0 0 _
            rcases ai_ifE h with ⟨hc, h⟩ | ⟨hc, h⟩
            · refine ev_if_eq (t := 148) rfl rfl (fun _ => ?_) (fun c9 => absurd hc c9)
              refine ev_go 4 (pc' := 64) (L' := [some (.ref 89), some (.int y629), some (.int y630), some (.int y631), some (.int y632), some (.int y633), some (.int (y634 + 1)), some (.int 1)]) (st' := []) (h' := (HM P c669.2 T)) (cs' := 0) (sl' := 0) rfl ?_
              exact ih0 _ _ _ _ _ _ _ _ _ h P T _
            · refine ev_if_eq (t := 148) rfl rfl (fun c9 => absurd c9 hc) (fun _ => ?_)
              refine ev_go 5 (pc' := 64) (L' := [some (.ref 89), some (.int y629), some (.int y630), some (.int y631), some (.int y632), some (.int y634), some (.int (y634 + 1)), some (.int 1)]) (st' := []) (h' := (HM P c669.2 T)) (cs' := 0) (sl' := 0) rfl ?_
              exact ih0 _ _ _ _ _ _ _ _ _ h P T _
      · refine ev_if_ne (t := 114) rfl rfl (fun _ => ?_) (fun c9 => absurd c9 hc)
        refine ev_go 8 (pc' := 64) (L' := [some (.ref 89), some (.int y629), some (.int y630), some (.int y631), some (.int y632), some (.int y633), some (.int (y634 + 1)), some (.int 0)]) (st' := []) (h' := (HM P w T)) (cs' := 0) (sl' := 0) rfl ?_
        exact ih0 _ _ _ _ _ _ _ _ _ h P T _
set_option maxHeartbeats 40000000 in
set_option maxRecDepth 100000 in
theorem Em_keepOut_89 (n : Nat) (x616 : Int32) (x617 : Int32) (x618 : Int32) (x619 : Int32) (w : WM) (r : Int32) (w' : WM) (h : Fm_keepOut_89 n x616 x617 x618 x619 w = some (r, w')) (P : Nat → ai_E) (T : ai_H) : ai_ev D1 mm_keepOut 0 [some (.ref 89), some (.int x616), some (.int x617), some (.int x618), some (.int x619), none, none, none] [] (HM P w T) 0 0 (some (.int r), HM P w' T) := by
  unfold Fm_keepOut_89 at h
  have ih0 := EGm_keepOut_89 n
  refine ev_go 2 (pc' := 2) (L' := [some (.ref 89), some (.int x616), some (.int x617), some (.int x618), some (.int x619), none, none, none]) (st' := [.int x616, .ref 89]) (h' := (HM P w T)) (cs' := 0) (sl' := 0) rfl ?_
  obtain ⟨c620, hq, h⟩ := ai_bdE h
  refine ev_call (M' := mm_isCell) (L' := [some (.ref 89), some (.int x616)]) (rest := []) (rv := some (.int c620.1)) (h' := (HM P c620.2 T)) rfl (Em_isCell_89 x616 w _ _ hq P T) ?_
  show ai_ev D1 mm_keepOut 5 [some (.ref 89), some (.int x616), some (.int x617), some (.int x618), some (.int x619), none, none, none] [.int c620.1] (HM P c620.2 T) 0 0 _
  rcases ai_ifE h with ⟨hc, h⟩ | ⟨hc, h⟩
  · refine ev_if_eq (t := 53) rfl rfl (fun _ => ?_) (fun c9 => absurd hc c9)
    refine ev_go 1 (pc' := 54) (L' := [some (.ref 89), some (.int x616), some (.int x617), some (.int x618), some (.int x619), none, none, none]) (st' := [.ref 89]) (h' := (HM P c620.2 T)) (cs' := 0) (sl' := 0) rfl ?_
    obtain ⟨c621, hq, h⟩ := ai_bdE h
    refine ev_call (M' := mm_bad) (L' := [some (.ref 89)]) (rest := []) (rv := some (.int c621.1)) (h' := (HM P c621.2 T)) rfl (Em_bad_89 c620.2 _ _ hq P T) ?_
    show ai_ev D1 mm_keepOut 57 [some (.ref 89), some (.int x616), some (.int x617), some (.int x618), some (.int x619), none, none, none] [.int c621.1] (HM P c621.2 T) 0 0 _
    obtain ⟨rfl, rfl⟩ := ai_smP h
    exact ev_end rfl
  · refine ev_if_eq (t := 53) rfl rfl (fun c9 => absurd c9 hc) (fun _ => ?_)
    refine ev_go 4 (pc' := 14) (L' := [some (.ref 89), some (.int x616), some (.int x617), some (.int x618), some (.int x619), none, none, none]) (st' := [.long 999, .long 0, .long (x617).toInt64]) (h' := (HM P c620.2 T)) (cs' := 0) (sl' := 0) rfl ?_
    obtain ⟨c622, hq, h⟩ := ai_bdE h
    refine ev_call (M' := mm_in) (L' := [some (.long (x617).toInt64), none, some (.long 0), none, some (.long 999), none]) (rest := []) (rv := some (.int c622)) (h' := (HM P c620.2 T)) rfl (Em_in (x617).toInt64 0 999 _ hq (HM P c620.2 T)) ?_
    show ai_ev D1 mm_keepOut 17 [some (.ref 89), some (.int x616), some (.int x617), some (.int x618), some (.int x619), none, none, none] [.int c622] (HM P c620.2 T) 0 0 _
    rcases ai_ifE h with ⟨hc, h⟩ | ⟨hc, h⟩
    · refine ev_if_eq (t := 53) rfl rfl (fun _ => ?_) (fun c9 => absurd hc c9)
      refine ev_go 1 (pc' := 54) (L' := [some (.ref 89), some (.int x616), some (.int x617), some (.int x618), some (.int x619), none, none, none]) (st' := [.ref 89]) (h' := (HM P c620.2 T)) (cs' := 0) (sl' := 0) rfl ?_
      obtain ⟨c623, hq, h⟩ := ai_bdE h
      refine ev_call (M' := mm_bad) (L' := [some (.ref 89)]) (rest := []) (rv := some (.int c623.1)) (h' := (HM P c623.2 T)) rfl (Em_bad_89 c620.2 _ _ hq P T) ?_
      show ai_ev D1 mm_keepOut 57 [some (.ref 89), some (.int x616), some (.int x617), some (.int x618), some (.int x619), none, none, none] [.int c623.1] (HM P c623.2 T) 0 0 _
      obtain ⟨rfl, rfl⟩ := ai_smP h
      exact ev_end rfl
    · refine ev_if_eq (t := 53) rfl rfl (fun c9 => absurd c9 hc) (fun _ => ?_)
      refine ev_go 4 (pc' := 26) (L' := [some (.ref 89), some (.int x616), some (.int x617), some (.int x618), some (.int x619), none, none, none]) (st' := [.long 40, .long 0, .long (x618).toInt64]) (h' := (HM P c620.2 T)) (cs' := 0) (sl' := 0) rfl ?_
      obtain ⟨c624, hq, h⟩ := ai_bdE h
      refine ev_call (M' := mm_in) (L' := [some (.long (x618).toInt64), none, some (.long 0), none, some (.long 40), none]) (rest := []) (rv := some (.int c624)) (h' := (HM P c620.2 T)) rfl (Em_in (x618).toInt64 0 40 _ hq (HM P c620.2 T)) ?_
      show ai_ev D1 mm_keepOut 29 [some (.ref 89), some (.int x616), some (.int x617), some (.int x618), some (.int x619), none, none, none] [.int c624] (HM P c620.2 T) 0 0 _
      rcases ai_ifE h with ⟨hc, h⟩ | ⟨hc, h⟩
      · refine ev_if_eq (t := 53) rfl rfl (fun _ => ?_) (fun c9 => absurd hc c9)
        refine ev_go 1 (pc' := 54) (L' := [some (.ref 89), some (.int x616), some (.int x617), some (.int x618), some (.int x619), none, none, none]) (st' := [.ref 89]) (h' := (HM P c620.2 T)) (cs' := 0) (sl' := 0) rfl ?_
        obtain ⟨c625, hq, h⟩ := ai_bdE h
        refine ev_call (M' := mm_bad) (L' := [some (.ref 89)]) (rest := []) (rv := some (.int c625.1)) (h' := (HM P c625.2 T)) rfl (Em_bad_89 c620.2 _ _ hq P T) ?_
        show ai_ev D1 mm_keepOut 57 [some (.ref 89), some (.int x616), some (.int x617), some (.int x618), some (.int x619), none, none, none] [.int c625.1] (HM P c625.2 T) 0 0 _
        obtain ⟨rfl, rfl⟩ := ai_smP h
        exact ev_end rfl
      · refine ev_if_eq (t := 53) rfl rfl (fun c9 => absurd c9 hc) (fun _ => ?_)
        refine ev_go 7 (pc' := 42) (L' := [some (.ref 89), some (.int x616), some (.int x617), some (.int x618), some (.int x619), none, none, none]) (st' := [.int 0, .ref 90, .int 1, .long 0, .long (x619).toInt64]) (h' := (HM P c620.2 T)) (cs' := 0) (sl' := 0) rfl ?_
        obtain ⟨v626, hq, h⟩ := ai_bdE h
        refine ev_iald rfl rfl hq ?_
        refine ev_go 4 (pc' := 47) (L' := [some (.ref 89), some (.int x616), some (.int x617), some (.int x618), some (.int x619), none, none, none]) (st' := [.long (((1 <<< (v626 &&& 31)) - 1)).toInt64, .long 0, .long (x619).toInt64]) (h' := (HM P c620.2 T)) (cs' := 0) (sl' := 0) rfl ?_
        obtain ⟨c627, hq, h⟩ := ai_bdE h
        refine ev_call (M' := mm_in) (L' := [some (.long (x619).toInt64), none, some (.long 0), none, some (.long (((1 <<< (v626 &&& 31)) - 1)).toInt64), none]) (rest := []) (rv := some (.int c627)) (h' := (HM P c620.2 T)) rfl (Em_in (x619).toInt64 0 (((1 <<< (v626 &&& 31)) - 1)).toInt64 _ hq (HM P c620.2 T)) ?_
        show ai_ev D1 mm_keepOut 50 [some (.ref 89), some (.int x616), some (.int x617), some (.int x618), some (.int x619), none, none, none] [.int c627] (HM P c620.2 T) 0 0 _
        rcases ai_ifE h with ⟨hc, h⟩ | ⟨hc, h⟩
        · refine ev_if_ne (t := 58) rfl rfl (fun c9 => absurd hc c9) (fun _ => ?_)
          refine ev_go 1 (pc' := 54) (L' := [some (.ref 89), some (.int x616), some (.int x617), some (.int x618), some (.int x619), none, none, none]) (st' := [.ref 89]) (h' := (HM P c620.2 T)) (cs' := 0) (sl' := 0) rfl ?_
          obtain ⟨c628, hq, h⟩ := ai_bdE h
          refine ev_call (M' := mm_bad) (L' := [some (.ref 89)]) (rest := []) (rv := some (.int c628.1)) (h' := (HM P c628.2 T)) rfl (Em_bad_89 c620.2 _ _ hq P T) ?_
          show ai_ev D1 mm_keepOut 57 [some (.ref 89), some (.int x616), some (.int x617), some (.int x618), some (.int x619), none, none, none] [.int c628.1] (HM P c628.2 T) 0 0 _
          obtain ⟨rfl, rfl⟩ := ai_smP h
          exact ev_end rfl
        · refine ev_if_ne (t := 58) rfl rfl (fun _ => ?_) (fun c9 => absurd c9 hc)
          refine ev_go 4 (pc' := 64) (L' := [some (.ref 89), some (.int x616), some (.int x617), some (.int x618), some (.int x619), some (.int (-1)), some (.int 0), none]) (st' := []) (h' := (HM P c620.2 T)) (cs' := 0) (sl' := 0) rfl ?_
          exact ih0 _ _ _ _ _ _ _ _ _ h P T _
set_option maxHeartbeats 40000000 in
set_option maxRecDepth 100000 in
theorem EGm_shaken_89 : ∀ n : Nat, (∀ (y679 : Int32) (y680 : Int32) (y681 : Int32) (y682 : Int32) (y683 : Int32) (w : WM) (r : Int32) (w' : WM), Gm_shaken_89 n 0 y679 y680 y681 y682 y683 0 0 w = some (r, w') → ∀ (P : Nat → ai_E) (T : ai_H) (o6 o7 : Option Value), ai_ev D1 mm_shaken 41 [some (.ref 89), some (.int y679), some (.int y680), some (.int y681), some (.int y682), some (.int y683), o6, o7] [] (HM P w T) 0 0 (some (.int r), HM P w' T)) ∧ (∀ (y686 : Int32) (y687 : Int32) (y688 : Int32) (y689 : Int32) (y690 : Int32) (y691 : Int32) (y692 : Int32) (w : WM) (r : Int32) (w' : WM), Gm_shaken_89 n 1 y686 y687 y688 y689 y690 y691 y692 w = some (r, w') → ∀ (P : Nat → ai_E) (T : ai_H), ai_ev D1 mm_shaken 80 [some (.ref 89), some (.int y686), some (.int y687), some (.int y688), some (.int y689), some (.int y690), some (.int y691), some (.int y692)] [] (HM P w T) 0 0 (some (.int r), HM P w' T)) := by
  intro n
  induction n with
  | zero =>
    exact ⟨(fun _ _ _ _ _ _ _ _ h => by cases h), (fun _ _ _ _ _ _ _ _ _ _ h => by cases h)⟩
  | succ n ih =>
    obtain ⟨ih0, ih1⟩ := ih
    refine ⟨?_, ?_⟩
    · intro y679 y680 y681 y682 y683 w r w' h P T o6 o7
      simp only [Gm_shaken_89] at h
      refine ev_go 2 (pc' := 44) (L' := [some (.ref 89), some (.int y679), some (.int y680), some (.int y681), some (.int y682), some (.int y683), o6, o7]) (st' := [.int 4, .int y683]) (h' := (HM P w T)) (cs' := 0) (sl' := 0) rfl ?_
      rcases ai_ifE h with ⟨hc, h⟩ | ⟨hc, h⟩
      · refine ev_ic_ge (t := 71) rfl rfl (fun _ => ?_) (fun c9 => absurd hc c9)
        refine ev_go 6 (pc' := 80) (L' := [some (.ref 89), some (.int y679), some (.int y680), some (.int y681), some (.int y682), some (.int 0), some (.int 0), some (.int y679)]) (st' := []) (h' := (HM P w T)) (cs' := 0) (sl' := 0) rfl ?_
        exact ih1 _ _ _ _ _ _ _ _ _ _ h P T
      · refine ev_ic_ge (t := 71) rfl rfl (fun c9 => absurd c9 hc) (fun _ => ?_)
        refine ev_go 7 (pc' := 58) (L' := [some (.ref 89), some (.int y679), some (.int y680), some (.int y681), some (.int y682), some (.int y683), o6, o7]) (st' := [.int 1, .ref 90, .int y680, .int y683, .ref 89, .int y682]) (h' := (HM P w T)) (cs' := 0) (sl' := 0) rfl ?_
        obtain ⟨v684, hq, h⟩ := ai_bdE h
        refine ev_iald rfl rfl hq ?_
        obtain ⟨c685, hq, h⟩ := ai_bdE h
        refine ev_call (M' := mm_thickIn) (L' := [some (.ref 89), some (.int y683), some (.int y680), some (.int v684), none]) (rest := [.int y682]) (rv := some (.int c685.1)) (h' := (HM P c685.2 T)) rfl (Em_thickIn_89 y683 y680 v684 w _ _ hq P T) ?_
        show ai_ev D1 mm_shaken 62 [some (.ref 89), some (.int y679), some (.int y680), some (.int y681), some (.int y682), some (.int y683), o6, o7] [.int c685.1, .int y682] (HM P c685.2 T) 0 0 _
        refine ev_go 4 (pc' := 41) (L' := [some (.ref 89), some (.int y679), some (.int y680), some (.int y681), some (.int (y682 + c685.1)), some (.int (y683 + 1)), o6, o7]) (st' := []) (h' := (HM P c685.2 T)) (cs' := 0) (sl' := 0) rfl ?_
        exact ih0 _ _ _ _ _ _ _ _ h P T _ _
    · intro y686 y687 y688 y689 y690 y691 y692 w r w' h P T
      simp only [Gm_shaken_89] at h
      refine ev_go 1 (pc' := 82) (L' := [some (.ref 89), some (.int y686), some (.int y687), some (.int y688), some (.int y689), some (.int y690), some (.int y691), some (.int y692)]) (st' := [.int y692]) (h' := (HM P w T)) (cs' := 0) (sl' := 0) rfl ?_
      rcases ai_ifE h with ⟨hc, h⟩ | ⟨hc, h⟩
      · refine ev_if_le (t := 119) rfl rfl (fun _ => ?_) (fun c9 => absurd hc c9)
        refine ev_go 1 (pc' := 120) (L' := [some (.ref 89), some (.int y686), some (.int y687), some (.int y688), some (.int y689), some (.int y690), some (.int y691), some (.int y692)]) (st' := [.int y688]) (h' := (HM P w T)) (cs' := 0) (sl' := 0) rfl ?_
        rcases ai_ifE h with ⟨hc, h⟩ | ⟨hc, h⟩
        · refine ev_if_ne (t := 128) rfl rfl (fun c9 => absurd hc c9) (fun _ => ?_)
          refine ev_go 2 (pc' := 130) (L' := [some (.ref 89), some (.int y686), some (.int y687), some (.int y688), some (.int y689), some (.int y690), some (.int y691), some (.int y692)]) (st' := [.int y690]) (h' := (HM P w T)) (cs' := 0) (sl' := 0) rfl ?_
          obtain ⟨rfl, rfl⟩ := ai_smP h
          exact ev_end rfl
        · refine ev_if_ne (t := 128) rfl rfl (fun _ => ?_) (fun c9 => absurd c9 hc)
          refine ev_go 1 (pc' := 130) (L' := [some (.ref 89), some (.int y686), some (.int y687), some (.int y688), some (.int y689), some (.int y690), some (.int y691), some (.int y692)]) (st' := [.int y691]) (h' := (HM P w T)) (cs' := 0) (sl' := 0) rfl ?_
          obtain ⟨rfl, rfl⟩ := ai_smP h
          exact ev_end rfl
      · refine ev_if_le (t := 119) rfl rfl (fun c9 => absurd c9 hc) (fun _ => ?_)
        refine ev_go 4 (pc' := 94) (L' := [some (.ref 89), some (.int y686), some (.int y687), some (.int y688), some (.int y689), some (.int (y690 + 1)), some (.int y691), some (.int y692)]) (st' := [.int y689, .int y692, .int y691]) (h' := (HM P w T)) (cs' := 0) (sl' := 0) rfl ?_
        rcases ai_ifE h with ⟨hc, h⟩ | ⟨hc, h⟩
        · refine ev_ic_le (t := 101) rfl rfl (fun _ => ?_) (fun c9 => absurd hc c9)
          refine ev_go 12 (pc' := 80) (L' := [some (.ref 89), some (.int y686), some (.int y687), some (.int y688), some (.int y689), some (.int (y690 + 1)), some (.int (y691 + 0)), some (.int (y692 - ((y692 + 3) / 4)))]) (st' := []) (h' := (HM P w T)) (cs' := 0) (sl' := 0) rfl ?_
          exact ih1 _ _ _ _ _ _ _ _ _ _ h P T
        · refine ev_ic_le (t := 101) rfl rfl (fun c9 => absurd c9 hc) (fun _ => ?_)
          refine ev_go 13 (pc' := 80) (L' := [some (.ref 89), some (.int y686), some (.int y687), some (.int y688), some (.int y689), some (.int (y690 + 1)), some (.int (y691 + 1)), some (.int (y692 - ((y692 + 3) / 4)))]) (st' := []) (h' := (HM P w T)) (cs' := 0) (sl' := 0) rfl ?_
          exact ih1 _ _ _ _ _ _ _ _ _ _ h P T
set_option maxHeartbeats 40000000 in
set_option maxRecDepth 100000 in
theorem Em_shaken_89 (n : Nat) (x670 : Int32) (x671 : Int32) (x672 : Int32) (w : WM) (r : Int32) (w' : WM) (h : Fm_shaken_89 n x670 x671 x672 w = some (r, w')) (P : Nat → ai_E) (T : ai_H) : ai_ev D1 mm_shaken 0 [some (.ref 89), some (.int x670), some (.int x671), some (.int x672), none, none, none, none] [] (HM P w T) 0 0 (some (.int r), HM P w' T) := by
  unfold Fm_shaken_89 at h
  obtain ⟨ih0, ih1⟩ := EGm_shaken_89 n
  refine ev_go 4 (pc' := 6) (L' := [some (.ref 89), some (.int x670), some (.int x671), some (.int x672), none, none, none, none]) (st' := [.long 99, .long 0, .long (x670).toInt64]) (h' := (HM P w T)) (cs' := 0) (sl' := 0) rfl ?_
  obtain ⟨c673, hq, h⟩ := ai_bdE h
  refine ev_call (M' := mm_in) (L' := [some (.long (x670).toInt64), none, some (.long 0), none, some (.long 99), none]) (rest := []) (rv := some (.int c673)) (h' := (HM P w T)) rfl (Em_in (x670).toInt64 0 99 _ hq (HM P w T)) ?_
  show ai_ev D1 mm_shaken 9 [some (.ref 89), some (.int x670), some (.int x671), some (.int x672), none, none, none, none] [.int c673] (HM P w T) 0 0 _
  rcases ai_ifE h with ⟨hc, h⟩ | ⟨hc, h⟩
  · refine ev_if_eq (t := 30) rfl rfl (fun _ => ?_) (fun c9 => absurd hc c9)
    refine ev_go 1 (pc' := 31) (L' := [some (.ref 89), some (.int x670), some (.int x671), some (.int x672), none, none, none, none]) (st' := [.ref 89]) (h' := (HM P w T)) (cs' := 0) (sl' := 0) rfl ?_
    obtain ⟨c674, hq, h⟩ := ai_bdE h
    refine ev_call (M' := mm_bad) (L' := [some (.ref 89)]) (rest := []) (rv := some (.int c674.1)) (h' := (HM P c674.2 T)) rfl (Em_bad_89 w _ _ hq P T) ?_
    show ai_ev D1 mm_shaken 34 [some (.ref 89), some (.int x670), some (.int x671), some (.int x672), none, none, none, none] [.int c674.1] (HM P c674.2 T) 0 0 _
    obtain ⟨rfl, rfl⟩ := ai_smP h
    exact ev_end rfl
  · refine ev_if_eq (t := 30) rfl rfl (fun c9 => absurd c9 hc) (fun _ => ?_)
    refine ev_go 2 (pc' := 14) (L' := [some (.ref 89), some (.int x670), some (.int x671), some (.int x672), none, none, none, none]) (st' := [.int x671, .ref 89]) (h' := (HM P w T)) (cs' := 0) (sl' := 0) rfl ?_
    obtain ⟨c675, hq, h⟩ := ai_bdE h
    refine ev_call (M' := mm_isCell) (L' := [some (.ref 89), some (.int x671)]) (rest := []) (rv := some (.int c675.1)) (h' := (HM P c675.2 T)) rfl (Em_isCell_89 x671 w _ _ hq P T) ?_
    show ai_ev D1 mm_shaken 17 [some (.ref 89), some (.int x670), some (.int x671), some (.int x672), none, none, none, none] [.int c675.1] (HM P c675.2 T) 0 0 _
    rcases ai_ifE h with ⟨hc, h⟩ | ⟨hc, h⟩
    · refine ev_if_eq (t := 30) rfl rfl (fun _ => ?_) (fun c9 => absurd hc c9)
      refine ev_go 1 (pc' := 31) (L' := [some (.ref 89), some (.int x670), some (.int x671), some (.int x672), none, none, none, none]) (st' := [.ref 89]) (h' := (HM P c675.2 T)) (cs' := 0) (sl' := 0) rfl ?_
      obtain ⟨c676, hq, h⟩ := ai_bdE h
      refine ev_call (M' := mm_bad) (L' := [some (.ref 89)]) (rest := []) (rv := some (.int c676.1)) (h' := (HM P c676.2 T)) rfl (Em_bad_89 c675.2 _ _ hq P T) ?_
      show ai_ev D1 mm_shaken 34 [some (.ref 89), some (.int x670), some (.int x671), some (.int x672), none, none, none, none] [.int c676.1] (HM P c676.2 T) 0 0 _
      obtain ⟨rfl, rfl⟩ := ai_smP h
      exact ev_end rfl
    · refine ev_if_eq (t := 30) rfl rfl (fun c9 => absurd c9 hc) (fun _ => ?_)
      refine ev_go 4 (pc' := 24) (L' := [some (.ref 89), some (.int x670), some (.int x671), some (.int x672), none, none, none, none]) (st' := [.long 1, .long 0, .long (x672).toInt64]) (h' := (HM P c675.2 T)) (cs' := 0) (sl' := 0) rfl ?_
      obtain ⟨c677, hq, h⟩ := ai_bdE h
      refine ev_call (M' := mm_in) (L' := [some (.long (x672).toInt64), none, some (.long 0), none, some (.long 1), none]) (rest := []) (rv := some (.int c677)) (h' := (HM P c675.2 T)) rfl (Em_in (x672).toInt64 0 1 _ hq (HM P c675.2 T)) ?_
      show ai_ev D1 mm_shaken 27 [some (.ref 89), some (.int x670), some (.int x671), some (.int x672), none, none, none, none] [.int c677] (HM P c675.2 T) 0 0 _
      rcases ai_ifE h with ⟨hc, h⟩ | ⟨hc, h⟩
      · refine ev_if_ne (t := 35) rfl rfl (fun c9 => absurd hc c9) (fun _ => ?_)
        refine ev_go 1 (pc' := 31) (L' := [some (.ref 89), some (.int x670), some (.int x671), some (.int x672), none, none, none, none]) (st' := [.ref 89]) (h' := (HM P c675.2 T)) (cs' := 0) (sl' := 0) rfl ?_
        obtain ⟨c678, hq, h⟩ := ai_bdE h
        refine ev_call (M' := mm_bad) (L' := [some (.ref 89)]) (rest := []) (rv := some (.int c678.1)) (h' := (HM P c678.2 T)) rfl (Em_bad_89 c675.2 _ _ hq P T) ?_
        show ai_ev D1 mm_shaken 34 [some (.ref 89), some (.int x670), some (.int x671), some (.int x672), none, none, none, none] [.int c678.1] (HM P c678.2 T) 0 0 _
        obtain ⟨rfl, rfl⟩ := ai_smP h
        exact ev_end rfl
      · refine ev_if_ne (t := 35) rfl rfl (fun _ => ?_) (fun c9 => absurd c9 hc)
        refine ev_go 4 (pc' := 41) (L' := [some (.ref 89), some (.int x670), some (.int x671), some (.int x672), some (.int 0), some (.int 0), none, none]) (st' := []) (h' := (HM P c675.2 T)) (cs' := 0) (sl' := 0) rfl ?_
        exact ih0 _ _ _ _ _ _ _ _ h P T _ _
