/-! the spills on the fresh object: both sides in step -/
def XS (w : WX) (A g : List Int32) : Prop := a_spread_amounts w = A ∧ a_spread_gifts w = g ∧ a_s1_cells w = 4 ∧ a_s1_dams w = 0
def YS (m : WM) (A g : List Int32) : Prop := a_m_there m = A ∧ a_m_gives m = g ∧ ai_ix (a_m_w m) 0 = some 4 ∧ ai_ix (a_m_w m) 5 = some 0
theorem XSa {w : WX} {A g : List Int32} (h : XS w A g) (q : List Int32) : XS (u_spread_amounts w q) q g := ⟨rfl, h.2.1, h.2.2.1, h.2.2.2⟩
theorem XSg {w : WX} {A g : List Int32} (h : XS w A g) (q : List Int32) : XS (u_spread_gifts w q) A q := ⟨h.1, rfl, h.2.2.1, h.2.2.2⟩
theorem YSa {m : WM} {A g : List Int32} (h : YS m A g) (q : List Int32) : YS (u_m_there m q) q g := ⟨rfl, h.2.1, h.2.2.1, h.2.2.2⟩
theorem YSg {m : WM} {A g : List Int32} (h : YS m A g) (q : List Int32) : YS (u_m_gives m q) A q := ⟨h.1, rfl, h.2.2.1, h.2.2.2⟩
def l8 : List Int32 := [0, 1, 2, 3, 4, 5, 6, 7]
def l4 : List Int32 := [0, 1, 2, 3]
theorem l8c {d : Int32} (h : d ∈ l8) : d = 0 ∨ d = 1 ∨ d = 2 ∨ d = 3 ∨ d = 4 ∨ d = 5 ∨ d = 6 ∨ d = 7 := by
  unfold l8 at h
  simpa only [List.mem_cons, List.not_mem_nil, or_false] using h
theorem l4c {d : Int32} (h : d ∈ l4) : d = 0 ∨ d = 1 ∨ d = 2 ∨ d = 3 := by
  unfold l4 at h
  simpa only [List.mem_cons, List.not_mem_nil, or_false] using h
theorem go0_s {n : Nat} {d : Int32} (c a : Int32) {A g : List Int32} (g' : List Int32) {w : WX} (hw : XS w A g) (hl : ¬ 4 ≤ c) (ha : ai_ix A c = some a) (hg : ai_up g c (a / 4) = some g') : ∃ w', Gspr_goOn_83 (n + 1) 0 4 d c w = Gspr_goOn_83 n 0 4 d (c + 1) w' ∧ XS w' A g' := by
  refine ⟨u_spread_gifts w g', ?_, XSg hw g'⟩
  rw [Gspr_goOn_83, if_neg hl, hw.1, ha, bd_some, hw.2.1, hg, bd_some]
theorem go0_e {n : Nat} {d c : Int32} {w : WX} (hl : 4 ≤ c) : Gspr_goOn_83 (n + 1) 0 4 d c w = Gspr_goOn_83 n 1 4 d 0 w := by
  rw [Gspr_goOn_83, if_pos hl]
theorem go1_e {n : Nat} {d c : Int32} {w : WX} (hl : 4 - 1 ≤ c) : Gspr_goOn_83 (n + 1) 1 4 d c w = some w := by
  rw [Gspr_goOn_83, if_pos hl]
theorem go1_k {n : Nat} {d : Int32} (c : Int32) {A g : List Int32} {w : WX} (hw : XS w A g) (hl : ¬ 4 - 1 ≤ c) (hb : ¬ ((d >>> (c &&& 31)) &&& 1) = 0) : ∃ w', Gspr_goOn_83 (n + 1) 1 4 d c w = Gspr_goOn_83 n 1 4 d (c + 1) w' ∧ XS w' A g := by
  refine ⟨w, ?_, hw⟩
  rw [Gspr_goOn_83, if_neg hl, if_neg hb]
theorem go1_m {n : Nat} {d : Int32} (c a b p q : Int32) {A g : List Int32} (A' A2 : List Int32) {w : WX} (hw : XS w A g) (hl : ¬ 4 - 1 ≤ c) (hb : ((d >>> (c &&& 31)) &&& 1) = 0) (h1 : ai_ix A c = some a) (h2 : ai_ix g (c + 1) = some q) (h3 : ai_ix g c = some p) (h4 : ai_up A c (a + (q - p)) = some A') (h5 : ai_ix A' (c + 1) = some b) (h6 : ai_up A' (c + 1) (b + (p - q)) = some A2) : ∃ w', Gspr_goOn_83 (n + 1) 1 4 d c w = Gspr_goOn_83 n 1 4 d (c + 1) w' ∧ XS w' A2 g := by
  refine ⟨u_spread_amounts (u_spread_amounts w A') A2, ?_, XSa (XSa hw A') A2⟩
  rw [Gspr_goOn_83, if_neg hl, if_pos hb, hw.1, h1, bd_some, hw.2.1, h2, bd_some, h3, bd_some, h4, bd_some, h5, bd_some, bd_some, bd_some, h6, bd_some]
theorem has_eq (b c : Int32) : Fm_has b c = some (if ((b >>> (c &&& 31)) &&& 1) = 1 then 1 else 0) := by
  unfold Fm_has
  by_cases h : ((b >>> (c &&& 31)) &&& 1) = 1
  · rw [if_pos h, if_pos h]
  · rw [if_neg h, if_neg h]
theorem sm0_s {n : Nat} {d : Int32} (c a : Int32) {A g : List Int32} (g' : List Int32) {w : WM} (hw : YS w A g) (hl : ¬ 4 ≤ c) (ha : ai_ix A c = some a) (hg : ai_up g c (a / 4) = some g') : ∃ w', Gm_spills_89 (n + 1) 0 d c w = Gm_spills_89 n 0 d (c + 1) w' ∧ YS w' A g' := by
  refine ⟨u_m_gives w g', ?_, YSg hw g'⟩
  rw [Gm_spills_89, hw.2.2.1, bd_some, if_neg hl, hw.1, ha, bd_some, hw.2.1, hg, bd_some]
theorem sm0_e {n : Nat} {d c : Int32} {A g : List Int32} {w : WM} (hw : YS w A g) (hl : 4 ≤ c) : Gm_spills_89 (n + 1) 0 d c w = Gm_spills_89 n 1 d 0 w := by
  rw [Gm_spills_89, hw.2.2.1, bd_some, if_pos hl]
theorem sm1_e {n : Nat} {d c : Int32} {A g : List Int32} {w : WM} (hw : YS w A g) (hl : 4 ≤ c + 1) : Gm_spills_89 (n + 1) 1 d c w = some w := by
  rw [Gm_spills_89, hw.2.2.1, bd_some, if_pos hl]
theorem sm1_k {n : Nat} {d : Int32} (c : Int32) {A g : List Int32} {w : WM} (hw : YS w A g) (hl : ¬ 4 ≤ c + 1) (hb : Fm_has d c = some 1) : ∃ w', Gm_spills_89 (n + 1) 1 d c w = Gm_spills_89 n 1 d (c + 1) w' ∧ YS w' A g := by
  refine ⟨w, ?_, hw⟩
  rw [Gm_spills_89, hw.2.2.1, bd_some, if_neg hl, hb, bd_some, if_neg (by decide)]
theorem sm1_m {n : Nat} {d : Int32} (c a b p q : Int32) {A g : List Int32} (A' A2 : List Int32) {w : WM} (hw : YS w A g) (hl : ¬ 4 ≤ c + 1) (hb : Fm_has d c = some 0) (h1 : ai_ix A c = some a) (h2 : ai_ix g (c + 1) = some q) (h3 : ai_ix g c = some p) (h4 : ai_up A c (a + (q - p)) = some A') (h5 : ai_ix A' (c + 1) = some b) (h6 : ai_up A' (c + 1) (b + (p - q)) = some A2) : ∃ w', Gm_spills_89 (n + 1) 1 d c w = Gm_spills_89 n 1 d (c + 1) w' ∧ YS w' A2 g := by
  refine ⟨u_m_there (u_m_there w A') A2, ?_, YSa (YSa hw A') A2⟩
  rw [Gm_spills_89, hw.2.2.1, bd_some, if_neg hl, hb, bd_some, if_pos rfl, hw.1, h1, bd_some, hw.2.1, h2, bd_some, h3, bd_some, h4, bd_some, h5, bd_some, bd_some, bd_some, h6, bd_some]
theorem sp_c0 (a0 a1 a2 a3 g0 g1 g2 g3 : Int32) (k : Nat) (w : WX) (h0 : XS w [a0, a1, a2, a3, 0, 0] [g0, g1, g2, g3, 0, 0]) : ∃ w', Fspr_goOn_83 (k + 20) 4 0 w = some w' ∧ XS w' [a0 + (a1 / 4 - a0 / 4), a1 + (a0 / 4 - a1 / 4) + (a2 / 4 - a1 / 4), a2 + (a1 / 4 - a2 / 4) + (a3 / 4 - a2 / 4), a3 + (a2 / 4 - a3 / 4), 0, 0] [a0 / 4, a1 / 4, a2 / 4, a3 / 4, 0, 0] := by
  obtain ⟨w1, e1, h1⟩ := go0_s (n := k + 19) (d := 0) 0 a0 [a0 / 4, g1, g2, g3, 0, 0] h0 (by decide) rfl rfl
  obtain ⟨w2, e2, h2⟩ := go0_s (n := k + 18) (d := 0) (0 + 1) a1 [a0 / 4, a1 / 4, g2, g3, 0, 0] h1 (by decide) rfl rfl
  obtain ⟨w3, e3, h3⟩ := go0_s (n := k + 17) (d := 0) (0 + 1 + 1) a2 [a0 / 4, a1 / 4, a2 / 4, g3, 0, 0] h2 (by decide) rfl rfl
  obtain ⟨w4, e4, h4⟩ := go0_s (n := k + 16) (d := 0) (0 + 1 + 1 + 1) a3 [a0 / 4, a1 / 4, a2 / 4, a3 / 4, 0, 0] h3 (by decide) rfl rfl
  obtain ⟨w5, e5, h5⟩ := go1_m (n := k + 14) (d := 0) 0 (a0) (a1) (a0 / 4) (a1 / 4) [a0 + (a1 / 4 - a0 / 4), a1, a2, a3, 0, 0] [a0 + (a1 / 4 - a0 / 4), a1 + (a0 / 4 - a1 / 4), a2, a3, 0, 0] h4 (by decide) (by decide) rfl rfl rfl rfl rfl rfl
  obtain ⟨w6, e6, h6⟩ := go1_m (n := k + 13) (d := 0) (0 + 1) (a1 + (a0 / 4 - a1 / 4)) (a2) (a1 / 4) (a2 / 4) [a0 + (a1 / 4 - a0 / 4), a1 + (a0 / 4 - a1 / 4) + (a2 / 4 - a1 / 4), a2, a3, 0, 0] [a0 + (a1 / 4 - a0 / 4), a1 + (a0 / 4 - a1 / 4) + (a2 / 4 - a1 / 4), a2 + (a1 / 4 - a2 / 4), a3, 0, 0] h5 (by decide) (by decide) rfl rfl rfl rfl rfl rfl
  obtain ⟨w7, e7, h7⟩ := go1_m (n := k + 12) (d := 0) (0 + 1 + 1) (a2 + (a1 / 4 - a2 / 4)) (a3) (a2 / 4) (a3 / 4) [a0 + (a1 / 4 - a0 / 4), a1 + (a0 / 4 - a1 / 4) + (a2 / 4 - a1 / 4), a2 + (a1 / 4 - a2 / 4) + (a3 / 4 - a2 / 4), a3, 0, 0] [a0 + (a1 / 4 - a0 / 4), a1 + (a0 / 4 - a1 / 4) + (a2 / 4 - a1 / 4), a2 + (a1 / 4 - a2 / 4) + (a3 / 4 - a2 / 4), a3 + (a2 / 4 - a3 / 4), 0, 0] h6 (by decide) (by decide) rfl rfl rfl rfl rfl rfl
  refine ⟨w7, ?_, h7⟩
  unfold Fspr_goOn_83
  rw [e1, e2, e3, e4, go0_e (n := k + 15) (by decide), e5, e6, e7, go1_e (n := k + 11) (by decide)]
theorem sp_m0 (a0 a1 a2 a3 g0 g1 g2 g3 : Int32) (k : Nat) (w : WM) (h0 : YS w [a0, a1, a2, a3, 0, 0] [g0, g1, g2, g3, 0, 0]) : ∃ w', Fm_spills_89 (k + 20) 0 w = some w' ∧ YS w' [a0 + (a1 / 4 - a0 / 4), a1 + (a0 / 4 - a1 / 4) + (a2 / 4 - a1 / 4), a2 + (a1 / 4 - a2 / 4) + (a3 / 4 - a2 / 4), a3 + (a2 / 4 - a3 / 4), 0, 0] [a0 / 4, a1 / 4, a2 / 4, a3 / 4, 0, 0] := by
  obtain ⟨w1, e1, h1⟩ := sm0_s (n := k + 19) (d := 0) 0 a0 [a0 / 4, g1, g2, g3, 0, 0] h0 (by decide) rfl rfl
  obtain ⟨w2, e2, h2⟩ := sm0_s (n := k + 18) (d := 0) (0 + 1) a1 [a0 / 4, a1 / 4, g2, g3, 0, 0] h1 (by decide) rfl rfl
  obtain ⟨w3, e3, h3⟩ := sm0_s (n := k + 17) (d := 0) (0 + 1 + 1) a2 [a0 / 4, a1 / 4, a2 / 4, g3, 0, 0] h2 (by decide) rfl rfl
  obtain ⟨w4, e4, h4⟩ := sm0_s (n := k + 16) (d := 0) (0 + 1 + 1 + 1) a3 [a0 / 4, a1 / 4, a2 / 4, a3 / 4, 0, 0] h3 (by decide) rfl rfl
  obtain ⟨w5, e5, h5⟩ := sm1_m (n := k + 14) (d := 0) 0 (a0) (a1) (a0 / 4) (a1 / 4) [a0 + (a1 / 4 - a0 / 4), a1, a2, a3, 0, 0] [a0 + (a1 / 4 - a0 / 4), a1 + (a0 / 4 - a1 / 4), a2, a3, 0, 0] h4 (by decide) (by decide) rfl rfl rfl rfl rfl rfl
  obtain ⟨w6, e6, h6⟩ := sm1_m (n := k + 13) (d := 0) (0 + 1) (a1 + (a0 / 4 - a1 / 4)) (a2) (a1 / 4) (a2 / 4) [a0 + (a1 / 4 - a0 / 4), a1 + (a0 / 4 - a1 / 4) + (a2 / 4 - a1 / 4), a2, a3, 0, 0] [a0 + (a1 / 4 - a0 / 4), a1 + (a0 / 4 - a1 / 4) + (a2 / 4 - a1 / 4), a2 + (a1 / 4 - a2 / 4), a3, 0, 0] h5 (by decide) (by decide) rfl rfl rfl rfl rfl rfl
  obtain ⟨w7, e7, h7⟩ := sm1_m (n := k + 12) (d := 0) (0 + 1 + 1) (a2 + (a1 / 4 - a2 / 4)) (a3) (a2 / 4) (a3 / 4) [a0 + (a1 / 4 - a0 / 4), a1 + (a0 / 4 - a1 / 4) + (a2 / 4 - a1 / 4), a2 + (a1 / 4 - a2 / 4) + (a3 / 4 - a2 / 4), a3, 0, 0] [a0 + (a1 / 4 - a0 / 4), a1 + (a0 / 4 - a1 / 4) + (a2 / 4 - a1 / 4), a2 + (a1 / 4 - a2 / 4) + (a3 / 4 - a2 / 4), a3 + (a2 / 4 - a3 / 4), 0, 0] h6 (by decide) (by decide) rfl rfl rfl rfl rfl rfl
  refine ⟨w7, ?_, h7⟩
  unfold Fm_spills_89
  rw [e1, e2, e3, e4, sm0_e (n := k + 15) h4 (by decide), e5, e6, e7, sm1_e (n := k + 11) h7 (by decide)]
theorem sp_c1 (a0 a1 a2 a3 g0 g1 g2 g3 : Int32) (k : Nat) (w : WX) (h0 : XS w [a0, a1, a2, a3, 0, 0] [g0, g1, g2, g3, 0, 0]) : ∃ w', Fspr_goOn_83 (k + 20) 4 1 w = some w' ∧ XS w' [a0, a1 + (a2 / 4 - a1 / 4), a2 + (a1 / 4 - a2 / 4) + (a3 / 4 - a2 / 4), a3 + (a2 / 4 - a3 / 4), 0, 0] [a0 / 4, a1 / 4, a2 / 4, a3 / 4, 0, 0] := by
  obtain ⟨w1, e1, h1⟩ := go0_s (n := k + 19) (d := 1) 0 a0 [a0 / 4, g1, g2, g3, 0, 0] h0 (by decide) rfl rfl
  obtain ⟨w2, e2, h2⟩ := go0_s (n := k + 18) (d := 1) (0 + 1) a1 [a0 / 4, a1 / 4, g2, g3, 0, 0] h1 (by decide) rfl rfl
  obtain ⟨w3, e3, h3⟩ := go0_s (n := k + 17) (d := 1) (0 + 1 + 1) a2 [a0 / 4, a1 / 4, a2 / 4, g3, 0, 0] h2 (by decide) rfl rfl
  obtain ⟨w4, e4, h4⟩ := go0_s (n := k + 16) (d := 1) (0 + 1 + 1 + 1) a3 [a0 / 4, a1 / 4, a2 / 4, a3 / 4, 0, 0] h3 (by decide) rfl rfl
  obtain ⟨w5, e5, h5⟩ := go1_k (n := k + 14) (d := 1) 0 h4 (by decide) (by decide)
  obtain ⟨w6, e6, h6⟩ := go1_m (n := k + 13) (d := 1) (0 + 1) (a1) (a2) (a1 / 4) (a2 / 4) [a0, a1 + (a2 / 4 - a1 / 4), a2, a3, 0, 0] [a0, a1 + (a2 / 4 - a1 / 4), a2 + (a1 / 4 - a2 / 4), a3, 0, 0] h5 (by decide) (by decide) rfl rfl rfl rfl rfl rfl
  obtain ⟨w7, e7, h7⟩ := go1_m (n := k + 12) (d := 1) (0 + 1 + 1) (a2 + (a1 / 4 - a2 / 4)) (a3) (a2 / 4) (a3 / 4) [a0, a1 + (a2 / 4 - a1 / 4), a2 + (a1 / 4 - a2 / 4) + (a3 / 4 - a2 / 4), a3, 0, 0] [a0, a1 + (a2 / 4 - a1 / 4), a2 + (a1 / 4 - a2 / 4) + (a3 / 4 - a2 / 4), a3 + (a2 / 4 - a3 / 4), 0, 0] h6 (by decide) (by decide) rfl rfl rfl rfl rfl rfl
  refine ⟨w7, ?_, h7⟩
  unfold Fspr_goOn_83
  rw [e1, e2, e3, e4, go0_e (n := k + 15) (by decide), e5, e6, e7, go1_e (n := k + 11) (by decide)]
theorem sp_m1 (a0 a1 a2 a3 g0 g1 g2 g3 : Int32) (k : Nat) (w : WM) (h0 : YS w [a0, a1, a2, a3, 0, 0] [g0, g1, g2, g3, 0, 0]) : ∃ w', Fm_spills_89 (k + 20) 1 w = some w' ∧ YS w' [a0, a1 + (a2 / 4 - a1 / 4), a2 + (a1 / 4 - a2 / 4) + (a3 / 4 - a2 / 4), a3 + (a2 / 4 - a3 / 4), 0, 0] [a0 / 4, a1 / 4, a2 / 4, a3 / 4, 0, 0] := by
  obtain ⟨w1, e1, h1⟩ := sm0_s (n := k + 19) (d := 1) 0 a0 [a0 / 4, g1, g2, g3, 0, 0] h0 (by decide) rfl rfl
  obtain ⟨w2, e2, h2⟩ := sm0_s (n := k + 18) (d := 1) (0 + 1) a1 [a0 / 4, a1 / 4, g2, g3, 0, 0] h1 (by decide) rfl rfl
  obtain ⟨w3, e3, h3⟩ := sm0_s (n := k + 17) (d := 1) (0 + 1 + 1) a2 [a0 / 4, a1 / 4, a2 / 4, g3, 0, 0] h2 (by decide) rfl rfl
  obtain ⟨w4, e4, h4⟩ := sm0_s (n := k + 16) (d := 1) (0 + 1 + 1 + 1) a3 [a0 / 4, a1 / 4, a2 / 4, a3 / 4, 0, 0] h3 (by decide) rfl rfl
  obtain ⟨w5, e5, h5⟩ := sm1_k (n := k + 14) (d := 1) 0 h4 (by decide) (by decide)
  obtain ⟨w6, e6, h6⟩ := sm1_m (n := k + 13) (d := 1) (0 + 1) (a1) (a2) (a1 / 4) (a2 / 4) [a0, a1 + (a2 / 4 - a1 / 4), a2, a3, 0, 0] [a0, a1 + (a2 / 4 - a1 / 4), a2 + (a1 / 4 - a2 / 4), a3, 0, 0] h5 (by decide) (by decide) rfl rfl rfl rfl rfl rfl
  obtain ⟨w7, e7, h7⟩ := sm1_m (n := k + 12) (d := 1) (0 + 1 + 1) (a2 + (a1 / 4 - a2 / 4)) (a3) (a2 / 4) (a3 / 4) [a0, a1 + (a2 / 4 - a1 / 4), a2 + (a1 / 4 - a2 / 4) + (a3 / 4 - a2 / 4), a3, 0, 0] [a0, a1 + (a2 / 4 - a1 / 4), a2 + (a1 / 4 - a2 / 4) + (a3 / 4 - a2 / 4), a3 + (a2 / 4 - a3 / 4), 0, 0] h6 (by decide) (by decide) rfl rfl rfl rfl rfl rfl
  refine ⟨w7, ?_, h7⟩
  unfold Fm_spills_89
  rw [e1, e2, e3, e4, sm0_e (n := k + 15) h4 (by decide), e5, e6, e7, sm1_e (n := k + 11) h7 (by decide)]
theorem sp_c2 (a0 a1 a2 a3 g0 g1 g2 g3 : Int32) (k : Nat) (w : WX) (h0 : XS w [a0, a1, a2, a3, 0, 0] [g0, g1, g2, g3, 0, 0]) : ∃ w', Fspr_goOn_83 (k + 20) 4 2 w = some w' ∧ XS w' [a0 + (a1 / 4 - a0 / 4), a1 + (a0 / 4 - a1 / 4), a2 + (a3 / 4 - a2 / 4), a3 + (a2 / 4 - a3 / 4), 0, 0] [a0 / 4, a1 / 4, a2 / 4, a3 / 4, 0, 0] := by
  obtain ⟨w1, e1, h1⟩ := go0_s (n := k + 19) (d := 2) 0 a0 [a0 / 4, g1, g2, g3, 0, 0] h0 (by decide) rfl rfl
  obtain ⟨w2, e2, h2⟩ := go0_s (n := k + 18) (d := 2) (0 + 1) a1 [a0 / 4, a1 / 4, g2, g3, 0, 0] h1 (by decide) rfl rfl
  obtain ⟨w3, e3, h3⟩ := go0_s (n := k + 17) (d := 2) (0 + 1 + 1) a2 [a0 / 4, a1 / 4, a2 / 4, g3, 0, 0] h2 (by decide) rfl rfl
  obtain ⟨w4, e4, h4⟩ := go0_s (n := k + 16) (d := 2) (0 + 1 + 1 + 1) a3 [a0 / 4, a1 / 4, a2 / 4, a3 / 4, 0, 0] h3 (by decide) rfl rfl
  obtain ⟨w5, e5, h5⟩ := go1_m (n := k + 14) (d := 2) 0 (a0) (a1) (a0 / 4) (a1 / 4) [a0 + (a1 / 4 - a0 / 4), a1, a2, a3, 0, 0] [a0 + (a1 / 4 - a0 / 4), a1 + (a0 / 4 - a1 / 4), a2, a3, 0, 0] h4 (by decide) (by decide) rfl rfl rfl rfl rfl rfl
  obtain ⟨w6, e6, h6⟩ := go1_k (n := k + 13) (d := 2) (0 + 1) h5 (by decide) (by decide)
  obtain ⟨w7, e7, h7⟩ := go1_m (n := k + 12) (d := 2) (0 + 1 + 1) (a2) (a3) (a2 / 4) (a3 / 4) [a0 + (a1 / 4 - a0 / 4), a1 + (a0 / 4 - a1 / 4), a2 + (a3 / 4 - a2 / 4), a3, 0, 0] [a0 + (a1 / 4 - a0 / 4), a1 + (a0 / 4 - a1 / 4), a2 + (a3 / 4 - a2 / 4), a3 + (a2 / 4 - a3 / 4), 0, 0] h6 (by decide) (by decide) rfl rfl rfl rfl rfl rfl
  refine ⟨w7, ?_, h7⟩
  unfold Fspr_goOn_83
  rw [e1, e2, e3, e4, go0_e (n := k + 15) (by decide), e5, e6, e7, go1_e (n := k + 11) (by decide)]
theorem sp_m2 (a0 a1 a2 a3 g0 g1 g2 g3 : Int32) (k : Nat) (w : WM) (h0 : YS w [a0, a1, a2, a3, 0, 0] [g0, g1, g2, g3, 0, 0]) : ∃ w', Fm_spills_89 (k + 20) 2 w = some w' ∧ YS w' [a0 + (a1 / 4 - a0 / 4), a1 + (a0 / 4 - a1 / 4), a2 + (a3 / 4 - a2 / 4), a3 + (a2 / 4 - a3 / 4), 0, 0] [a0 / 4, a1 / 4, a2 / 4, a3 / 4, 0, 0] := by
  obtain ⟨w1, e1, h1⟩ := sm0_s (n := k + 19) (d := 2) 0 a0 [a0 / 4, g1, g2, g3, 0, 0] h0 (by decide) rfl rfl
  obtain ⟨w2, e2, h2⟩ := sm0_s (n := k + 18) (d := 2) (0 + 1) a1 [a0 / 4, a1 / 4, g2, g3, 0, 0] h1 (by decide) rfl rfl
  obtain ⟨w3, e3, h3⟩ := sm0_s (n := k + 17) (d := 2) (0 + 1 + 1) a2 [a0 / 4, a1 / 4, a2 / 4, g3, 0, 0] h2 (by decide) rfl rfl
  obtain ⟨w4, e4, h4⟩ := sm0_s (n := k + 16) (d := 2) (0 + 1 + 1 + 1) a3 [a0 / 4, a1 / 4, a2 / 4, a3 / 4, 0, 0] h3 (by decide) rfl rfl
  obtain ⟨w5, e5, h5⟩ := sm1_m (n := k + 14) (d := 2) 0 (a0) (a1) (a0 / 4) (a1 / 4) [a0 + (a1 / 4 - a0 / 4), a1, a2, a3, 0, 0] [a0 + (a1 / 4 - a0 / 4), a1 + (a0 / 4 - a1 / 4), a2, a3, 0, 0] h4 (by decide) (by decide) rfl rfl rfl rfl rfl rfl
  obtain ⟨w6, e6, h6⟩ := sm1_k (n := k + 13) (d := 2) (0 + 1) h5 (by decide) (by decide)
  obtain ⟨w7, e7, h7⟩ := sm1_m (n := k + 12) (d := 2) (0 + 1 + 1) (a2) (a3) (a2 / 4) (a3 / 4) [a0 + (a1 / 4 - a0 / 4), a1 + (a0 / 4 - a1 / 4), a2 + (a3 / 4 - a2 / 4), a3, 0, 0] [a0 + (a1 / 4 - a0 / 4), a1 + (a0 / 4 - a1 / 4), a2 + (a3 / 4 - a2 / 4), a3 + (a2 / 4 - a3 / 4), 0, 0] h6 (by decide) (by decide) rfl rfl rfl rfl rfl rfl
  refine ⟨w7, ?_, h7⟩
  unfold Fm_spills_89
  rw [e1, e2, e3, e4, sm0_e (n := k + 15) h4 (by decide), e5, e6, e7, sm1_e (n := k + 11) h7 (by decide)]
theorem sp_c3 (a0 a1 a2 a3 g0 g1 g2 g3 : Int32) (k : Nat) (w : WX) (h0 : XS w [a0, a1, a2, a3, 0, 0] [g0, g1, g2, g3, 0, 0]) : ∃ w', Fspr_goOn_83 (k + 20) 4 3 w = some w' ∧ XS w' [a0, a1, a2 + (a3 / 4 - a2 / 4), a3 + (a2 / 4 - a3 / 4), 0, 0] [a0 / 4, a1 / 4, a2 / 4, a3 / 4, 0, 0] := by
  obtain ⟨w1, e1, h1⟩ := go0_s (n := k + 19) (d := 3) 0 a0 [a0 / 4, g1, g2, g3, 0, 0] h0 (by decide) rfl rfl
  obtain ⟨w2, e2, h2⟩ := go0_s (n := k + 18) (d := 3) (0 + 1) a1 [a0 / 4, a1 / 4, g2, g3, 0, 0] h1 (by decide) rfl rfl
  obtain ⟨w3, e3, h3⟩ := go0_s (n := k + 17) (d := 3) (0 + 1 + 1) a2 [a0 / 4, a1 / 4, a2 / 4, g3, 0, 0] h2 (by decide) rfl rfl
  obtain ⟨w4, e4, h4⟩ := go0_s (n := k + 16) (d := 3) (0 + 1 + 1 + 1) a3 [a0 / 4, a1 / 4, a2 / 4, a3 / 4, 0, 0] h3 (by decide) rfl rfl
  obtain ⟨w5, e5, h5⟩ := go1_k (n := k + 14) (d := 3) 0 h4 (by decide) (by decide)
  obtain ⟨w6, e6, h6⟩ := go1_k (n := k + 13) (d := 3) (0 + 1) h5 (by decide) (by decide)
  obtain ⟨w7, e7, h7⟩ := go1_m (n := k + 12) (d := 3) (0 + 1 + 1) (a2) (a3) (a2 / 4) (a3 / 4) [a0, a1, a2 + (a3 / 4 - a2 / 4), a3, 0, 0] [a0, a1, a2 + (a3 / 4 - a2 / 4), a3 + (a2 / 4 - a3 / 4), 0, 0] h6 (by decide) (by decide) rfl rfl rfl rfl rfl rfl
  refine ⟨w7, ?_, h7⟩
  unfold Fspr_goOn_83
  rw [e1, e2, e3, e4, go0_e (n := k + 15) (by decide), e5, e6, e7, go1_e (n := k + 11) (by decide)]
theorem sp_m3 (a0 a1 a2 a3 g0 g1 g2 g3 : Int32) (k : Nat) (w : WM) (h0 : YS w [a0, a1, a2, a3, 0, 0] [g0, g1, g2, g3, 0, 0]) : ∃ w', Fm_spills_89 (k + 20) 3 w = some w' ∧ YS w' [a0, a1, a2 + (a3 / 4 - a2 / 4), a3 + (a2 / 4 - a3 / 4), 0, 0] [a0 / 4, a1 / 4, a2 / 4, a3 / 4, 0, 0] := by
  obtain ⟨w1, e1, h1⟩ := sm0_s (n := k + 19) (d := 3) 0 a0 [a0 / 4, g1, g2, g3, 0, 0] h0 (by decide) rfl rfl
  obtain ⟨w2, e2, h2⟩ := sm0_s (n := k + 18) (d := 3) (0 + 1) a1 [a0 / 4, a1 / 4, g2, g3, 0, 0] h1 (by decide) rfl rfl
  obtain ⟨w3, e3, h3⟩ := sm0_s (n := k + 17) (d := 3) (0 + 1 + 1) a2 [a0 / 4, a1 / 4, a2 / 4, g3, 0, 0] h2 (by decide) rfl rfl
  obtain ⟨w4, e4, h4⟩ := sm0_s (n := k + 16) (d := 3) (0 + 1 + 1 + 1) a3 [a0 / 4, a1 / 4, a2 / 4, a3 / 4, 0, 0] h3 (by decide) rfl rfl
  obtain ⟨w5, e5, h5⟩ := sm1_k (n := k + 14) (d := 3) 0 h4 (by decide) (by decide)
  obtain ⟨w6, e6, h6⟩ := sm1_k (n := k + 13) (d := 3) (0 + 1) h5 (by decide) (by decide)
  obtain ⟨w7, e7, h7⟩ := sm1_m (n := k + 12) (d := 3) (0 + 1 + 1) (a2) (a3) (a2 / 4) (a3 / 4) [a0, a1, a2 + (a3 / 4 - a2 / 4), a3, 0, 0] [a0, a1, a2 + (a3 / 4 - a2 / 4), a3 + (a2 / 4 - a3 / 4), 0, 0] h6 (by decide) (by decide) rfl rfl rfl rfl rfl rfl
  refine ⟨w7, ?_, h7⟩
  unfold Fm_spills_89
  rw [e1, e2, e3, e4, sm0_e (n := k + 15) h4 (by decide), e5, e6, e7, sm1_e (n := k + 11) h7 (by decide)]
theorem sp_c4 (a0 a1 a2 a3 g0 g1 g2 g3 : Int32) (k : Nat) (w : WX) (h0 : XS w [a0, a1, a2, a3, 0, 0] [g0, g1, g2, g3, 0, 0]) : ∃ w', Fspr_goOn_83 (k + 20) 4 4 w = some w' ∧ XS w' [a0 + (a1 / 4 - a0 / 4), a1 + (a0 / 4 - a1 / 4) + (a2 / 4 - a1 / 4), a2 + (a1 / 4 - a2 / 4), a3, 0, 0] [a0 / 4, a1 / 4, a2 / 4, a3 / 4, 0, 0] := by
  obtain ⟨w1, e1, h1⟩ := go0_s (n := k + 19) (d := 4) 0 a0 [a0 / 4, g1, g2, g3, 0, 0] h0 (by decide) rfl rfl
  obtain ⟨w2, e2, h2⟩ := go0_s (n := k + 18) (d := 4) (0 + 1) a1 [a0 / 4, a1 / 4, g2, g3, 0, 0] h1 (by decide) rfl rfl
  obtain ⟨w3, e3, h3⟩ := go0_s (n := k + 17) (d := 4) (0 + 1 + 1) a2 [a0 / 4, a1 / 4, a2 / 4, g3, 0, 0] h2 (by decide) rfl rfl
  obtain ⟨w4, e4, h4⟩ := go0_s (n := k + 16) (d := 4) (0 + 1 + 1 + 1) a3 [a0 / 4, a1 / 4, a2 / 4, a3 / 4, 0, 0] h3 (by decide) rfl rfl
  obtain ⟨w5, e5, h5⟩ := go1_m (n := k + 14) (d := 4) 0 (a0) (a1) (a0 / 4) (a1 / 4) [a0 + (a1 / 4 - a0 / 4), a1, a2, a3, 0, 0] [a0 + (a1 / 4 - a0 / 4), a1 + (a0 / 4 - a1 / 4), a2, a3, 0, 0] h4 (by decide) (by decide) rfl rfl rfl rfl rfl rfl
  obtain ⟨w6, e6, h6⟩ := go1_m (n := k + 13) (d := 4) (0 + 1) (a1 + (a0 / 4 - a1 / 4)) (a2) (a1 / 4) (a2 / 4) [a0 + (a1 / 4 - a0 / 4), a1 + (a0 / 4 - a1 / 4) + (a2 / 4 - a1 / 4), a2, a3, 0, 0] [a0 + (a1 / 4 - a0 / 4), a1 + (a0 / 4 - a1 / 4) + (a2 / 4 - a1 / 4), a2 + (a1 / 4 - a2 / 4), a3, 0, 0] h5 (by decide) (by decide) rfl rfl rfl rfl rfl rfl
  obtain ⟨w7, e7, h7⟩ := go1_k (n := k + 12) (d := 4) (0 + 1 + 1) h6 (by decide) (by decide)
  refine ⟨w7, ?_, h7⟩
  unfold Fspr_goOn_83
  rw [e1, e2, e3, e4, go0_e (n := k + 15) (by decide), e5, e6, e7, go1_e (n := k + 11) (by decide)]
theorem sp_m4 (a0 a1 a2 a3 g0 g1 g2 g3 : Int32) (k : Nat) (w : WM) (h0 : YS w [a0, a1, a2, a3, 0, 0] [g0, g1, g2, g3, 0, 0]) : ∃ w', Fm_spills_89 (k + 20) 4 w = some w' ∧ YS w' [a0 + (a1 / 4 - a0 / 4), a1 + (a0 / 4 - a1 / 4) + (a2 / 4 - a1 / 4), a2 + (a1 / 4 - a2 / 4), a3, 0, 0] [a0 / 4, a1 / 4, a2 / 4, a3 / 4, 0, 0] := by
  obtain ⟨w1, e1, h1⟩ := sm0_s (n := k + 19) (d := 4) 0 a0 [a0 / 4, g1, g2, g3, 0, 0] h0 (by decide) rfl rfl
  obtain ⟨w2, e2, h2⟩ := sm0_s (n := k + 18) (d := 4) (0 + 1) a1 [a0 / 4, a1 / 4, g2, g3, 0, 0] h1 (by decide) rfl rfl
  obtain ⟨w3, e3, h3⟩ := sm0_s (n := k + 17) (d := 4) (0 + 1 + 1) a2 [a0 / 4, a1 / 4, a2 / 4, g3, 0, 0] h2 (by decide) rfl rfl
  obtain ⟨w4, e4, h4⟩ := sm0_s (n := k + 16) (d := 4) (0 + 1 + 1 + 1) a3 [a0 / 4, a1 / 4, a2 / 4, a3 / 4, 0, 0] h3 (by decide) rfl rfl
  obtain ⟨w5, e5, h5⟩ := sm1_m (n := k + 14) (d := 4) 0 (a0) (a1) (a0 / 4) (a1 / 4) [a0 + (a1 / 4 - a0 / 4), a1, a2, a3, 0, 0] [a0 + (a1 / 4 - a0 / 4), a1 + (a0 / 4 - a1 / 4), a2, a3, 0, 0] h4 (by decide) (by decide) rfl rfl rfl rfl rfl rfl
  obtain ⟨w6, e6, h6⟩ := sm1_m (n := k + 13) (d := 4) (0 + 1) (a1 + (a0 / 4 - a1 / 4)) (a2) (a1 / 4) (a2 / 4) [a0 + (a1 / 4 - a0 / 4), a1 + (a0 / 4 - a1 / 4) + (a2 / 4 - a1 / 4), a2, a3, 0, 0] [a0 + (a1 / 4 - a0 / 4), a1 + (a0 / 4 - a1 / 4) + (a2 / 4 - a1 / 4), a2 + (a1 / 4 - a2 / 4), a3, 0, 0] h5 (by decide) (by decide) rfl rfl rfl rfl rfl rfl
  obtain ⟨w7, e7, h7⟩ := sm1_k (n := k + 12) (d := 4) (0 + 1 + 1) h6 (by decide) (by decide)
  refine ⟨w7, ?_, h7⟩
  unfold Fm_spills_89
  rw [e1, e2, e3, e4, sm0_e (n := k + 15) h4 (by decide), e5, e6, e7, sm1_e (n := k + 11) h7 (by decide)]
theorem sp_c5 (a0 a1 a2 a3 g0 g1 g2 g3 : Int32) (k : Nat) (w : WX) (h0 : XS w [a0, a1, a2, a3, 0, 0] [g0, g1, g2, g3, 0, 0]) : ∃ w', Fspr_goOn_83 (k + 20) 4 5 w = some w' ∧ XS w' [a0, a1 + (a2 / 4 - a1 / 4), a2 + (a1 / 4 - a2 / 4), a3, 0, 0] [a0 / 4, a1 / 4, a2 / 4, a3 / 4, 0, 0] := by
  obtain ⟨w1, e1, h1⟩ := go0_s (n := k + 19) (d := 5) 0 a0 [a0 / 4, g1, g2, g3, 0, 0] h0 (by decide) rfl rfl
  obtain ⟨w2, e2, h2⟩ := go0_s (n := k + 18) (d := 5) (0 + 1) a1 [a0 / 4, a1 / 4, g2, g3, 0, 0] h1 (by decide) rfl rfl
  obtain ⟨w3, e3, h3⟩ := go0_s (n := k + 17) (d := 5) (0 + 1 + 1) a2 [a0 / 4, a1 / 4, a2 / 4, g3, 0, 0] h2 (by decide) rfl rfl
  obtain ⟨w4, e4, h4⟩ := go0_s (n := k + 16) (d := 5) (0 + 1 + 1 + 1) a3 [a0 / 4, a1 / 4, a2 / 4, a3 / 4, 0, 0] h3 (by decide) rfl rfl
  obtain ⟨w5, e5, h5⟩ := go1_k (n := k + 14) (d := 5) 0 h4 (by decide) (by decide)
  obtain ⟨w6, e6, h6⟩ := go1_m (n := k + 13) (d := 5) (0 + 1) (a1) (a2) (a1 / 4) (a2 / 4) [a0, a1 + (a2 / 4 - a1 / 4), a2, a3, 0, 0] [a0, a1 + (a2 / 4 - a1 / 4), a2 + (a1 / 4 - a2 / 4), a3, 0, 0] h5 (by decide) (by decide) rfl rfl rfl rfl rfl rfl
  obtain ⟨w7, e7, h7⟩ := go1_k (n := k + 12) (d := 5) (0 + 1 + 1) h6 (by decide) (by decide)
  refine ⟨w7, ?_, h7⟩
  unfold Fspr_goOn_83
  rw [e1, e2, e3, e4, go0_e (n := k + 15) (by decide), e5, e6, e7, go1_e (n := k + 11) (by decide)]
theorem sp_m5 (a0 a1 a2 a3 g0 g1 g2 g3 : Int32) (k : Nat) (w : WM) (h0 : YS w [a0, a1, a2, a3, 0, 0] [g0, g1, g2, g3, 0, 0]) : ∃ w', Fm_spills_89 (k + 20) 5 w = some w' ∧ YS w' [a0, a1 + (a2 / 4 - a1 / 4), a2 + (a1 / 4 - a2 / 4), a3, 0, 0] [a0 / 4, a1 / 4, a2 / 4, a3 / 4, 0, 0] := by
  obtain ⟨w1, e1, h1⟩ := sm0_s (n := k + 19) (d := 5) 0 a0 [a0 / 4, g1, g2, g3, 0, 0] h0 (by decide) rfl rfl
  obtain ⟨w2, e2, h2⟩ := sm0_s (n := k + 18) (d := 5) (0 + 1) a1 [a0 / 4, a1 / 4, g2, g3, 0, 0] h1 (by decide) rfl rfl
  obtain ⟨w3, e3, h3⟩ := sm0_s (n := k + 17) (d := 5) (0 + 1 + 1) a2 [a0 / 4, a1 / 4, a2 / 4, g3, 0, 0] h2 (by decide) rfl rfl
  obtain ⟨w4, e4, h4⟩ := sm0_s (n := k + 16) (d := 5) (0 + 1 + 1 + 1) a3 [a0 / 4, a1 / 4, a2 / 4, a3 / 4, 0, 0] h3 (by decide) rfl rfl
  obtain ⟨w5, e5, h5⟩ := sm1_k (n := k + 14) (d := 5) 0 h4 (by decide) (by decide)
  obtain ⟨w6, e6, h6⟩ := sm1_m (n := k + 13) (d := 5) (0 + 1) (a1) (a2) (a1 / 4) (a2 / 4) [a0, a1 + (a2 / 4 - a1 / 4), a2, a3, 0, 0] [a0, a1 + (a2 / 4 - a1 / 4), a2 + (a1 / 4 - a2 / 4), a3, 0, 0] h5 (by decide) (by decide) rfl rfl rfl rfl rfl rfl
  obtain ⟨w7, e7, h7⟩ := sm1_k (n := k + 12) (d := 5) (0 + 1 + 1) h6 (by decide) (by decide)
  refine ⟨w7, ?_, h7⟩
  unfold Fm_spills_89
  rw [e1, e2, e3, e4, sm0_e (n := k + 15) h4 (by decide), e5, e6, e7, sm1_e (n := k + 11) h7 (by decide)]
theorem sp_c6 (a0 a1 a2 a3 g0 g1 g2 g3 : Int32) (k : Nat) (w : WX) (h0 : XS w [a0, a1, a2, a3, 0, 0] [g0, g1, g2, g3, 0, 0]) : ∃ w', Fspr_goOn_83 (k + 20) 4 6 w = some w' ∧ XS w' [a0 + (a1 / 4 - a0 / 4), a1 + (a0 / 4 - a1 / 4), a2, a3, 0, 0] [a0 / 4, a1 / 4, a2 / 4, a3 / 4, 0, 0] := by
  obtain ⟨w1, e1, h1⟩ := go0_s (n := k + 19) (d := 6) 0 a0 [a0 / 4, g1, g2, g3, 0, 0] h0 (by decide) rfl rfl
  obtain ⟨w2, e2, h2⟩ := go0_s (n := k + 18) (d := 6) (0 + 1) a1 [a0 / 4, a1 / 4, g2, g3, 0, 0] h1 (by decide) rfl rfl
  obtain ⟨w3, e3, h3⟩ := go0_s (n := k + 17) (d := 6) (0 + 1 + 1) a2 [a0 / 4, a1 / 4, a2 / 4, g3, 0, 0] h2 (by decide) rfl rfl
  obtain ⟨w4, e4, h4⟩ := go0_s (n := k + 16) (d := 6) (0 + 1 + 1 + 1) a3 [a0 / 4, a1 / 4, a2 / 4, a3 / 4, 0, 0] h3 (by decide) rfl rfl
  obtain ⟨w5, e5, h5⟩ := go1_m (n := k + 14) (d := 6) 0 (a0) (a1) (a0 / 4) (a1 / 4) [a0 + (a1 / 4 - a0 / 4), a1, a2, a3, 0, 0] [a0 + (a1 / 4 - a0 / 4), a1 + (a0 / 4 - a1 / 4), a2, a3, 0, 0] h4 (by decide) (by decide) rfl rfl rfl rfl rfl rfl
  obtain ⟨w6, e6, h6⟩ := go1_k (n := k + 13) (d := 6) (0 + 1) h5 (by decide) (by decide)
  obtain ⟨w7, e7, h7⟩ := go1_k (n := k + 12) (d := 6) (0 + 1 + 1) h6 (by decide) (by decide)
  refine ⟨w7, ?_, h7⟩
  unfold Fspr_goOn_83
  rw [e1, e2, e3, e4, go0_e (n := k + 15) (by decide), e5, e6, e7, go1_e (n := k + 11) (by decide)]
theorem sp_m6 (a0 a1 a2 a3 g0 g1 g2 g3 : Int32) (k : Nat) (w : WM) (h0 : YS w [a0, a1, a2, a3, 0, 0] [g0, g1, g2, g3, 0, 0]) : ∃ w', Fm_spills_89 (k + 20) 6 w = some w' ∧ YS w' [a0 + (a1 / 4 - a0 / 4), a1 + (a0 / 4 - a1 / 4), a2, a3, 0, 0] [a0 / 4, a1 / 4, a2 / 4, a3 / 4, 0, 0] := by
  obtain ⟨w1, e1, h1⟩ := sm0_s (n := k + 19) (d := 6) 0 a0 [a0 / 4, g1, g2, g3, 0, 0] h0 (by decide) rfl rfl
  obtain ⟨w2, e2, h2⟩ := sm0_s (n := k + 18) (d := 6) (0 + 1) a1 [a0 / 4, a1 / 4, g2, g3, 0, 0] h1 (by decide) rfl rfl
  obtain ⟨w3, e3, h3⟩ := sm0_s (n := k + 17) (d := 6) (0 + 1 + 1) a2 [a0 / 4, a1 / 4, a2 / 4, g3, 0, 0] h2 (by decide) rfl rfl
  obtain ⟨w4, e4, h4⟩ := sm0_s (n := k + 16) (d := 6) (0 + 1 + 1 + 1) a3 [a0 / 4, a1 / 4, a2 / 4, a3 / 4, 0, 0] h3 (by decide) rfl rfl
  obtain ⟨w5, e5, h5⟩ := sm1_m (n := k + 14) (d := 6) 0 (a0) (a1) (a0 / 4) (a1 / 4) [a0 + (a1 / 4 - a0 / 4), a1, a2, a3, 0, 0] [a0 + (a1 / 4 - a0 / 4), a1 + (a0 / 4 - a1 / 4), a2, a3, 0, 0] h4 (by decide) (by decide) rfl rfl rfl rfl rfl rfl
  obtain ⟨w6, e6, h6⟩ := sm1_k (n := k + 13) (d := 6) (0 + 1) h5 (by decide) (by decide)
  obtain ⟨w7, e7, h7⟩ := sm1_k (n := k + 12) (d := 6) (0 + 1 + 1) h6 (by decide) (by decide)
  refine ⟨w7, ?_, h7⟩
  unfold Fm_spills_89
  rw [e1, e2, e3, e4, sm0_e (n := k + 15) h4 (by decide), e5, e6, e7, sm1_e (n := k + 11) h7 (by decide)]
theorem sp_c7 (a0 a1 a2 a3 g0 g1 g2 g3 : Int32) (k : Nat) (w : WX) (h0 : XS w [a0, a1, a2, a3, 0, 0] [g0, g1, g2, g3, 0, 0]) : ∃ w', Fspr_goOn_83 (k + 20) 4 7 w = some w' ∧ XS w' [a0, a1, a2, a3, 0, 0] [a0 / 4, a1 / 4, a2 / 4, a3 / 4, 0, 0] := by
  obtain ⟨w1, e1, h1⟩ := go0_s (n := k + 19) (d := 7) 0 a0 [a0 / 4, g1, g2, g3, 0, 0] h0 (by decide) rfl rfl
  obtain ⟨w2, e2, h2⟩ := go0_s (n := k + 18) (d := 7) (0 + 1) a1 [a0 / 4, a1 / 4, g2, g3, 0, 0] h1 (by decide) rfl rfl
  obtain ⟨w3, e3, h3⟩ := go0_s (n := k + 17) (d := 7) (0 + 1 + 1) a2 [a0 / 4, a1 / 4, a2 / 4, g3, 0, 0] h2 (by decide) rfl rfl
  obtain ⟨w4, e4, h4⟩ := go0_s (n := k + 16) (d := 7) (0 + 1 + 1 + 1) a3 [a0 / 4, a1 / 4, a2 / 4, a3 / 4, 0, 0] h3 (by decide) rfl rfl
  obtain ⟨w5, e5, h5⟩ := go1_k (n := k + 14) (d := 7) 0 h4 (by decide) (by decide)
  obtain ⟨w6, e6, h6⟩ := go1_k (n := k + 13) (d := 7) (0 + 1) h5 (by decide) (by decide)
  obtain ⟨w7, e7, h7⟩ := go1_k (n := k + 12) (d := 7) (0 + 1 + 1) h6 (by decide) (by decide)
  refine ⟨w7, ?_, h7⟩
  unfold Fspr_goOn_83
  rw [e1, e2, e3, e4, go0_e (n := k + 15) (by decide), e5, e6, e7, go1_e (n := k + 11) (by decide)]
theorem sp_m7 (a0 a1 a2 a3 g0 g1 g2 g3 : Int32) (k : Nat) (w : WM) (h0 : YS w [a0, a1, a2, a3, 0, 0] [g0, g1, g2, g3, 0, 0]) : ∃ w', Fm_spills_89 (k + 20) 7 w = some w' ∧ YS w' [a0, a1, a2, a3, 0, 0] [a0 / 4, a1 / 4, a2 / 4, a3 / 4, 0, 0] := by
  obtain ⟨w1, e1, h1⟩ := sm0_s (n := k + 19) (d := 7) 0 a0 [a0 / 4, g1, g2, g3, 0, 0] h0 (by decide) rfl rfl
  obtain ⟨w2, e2, h2⟩ := sm0_s (n := k + 18) (d := 7) (0 + 1) a1 [a0 / 4, a1 / 4, g2, g3, 0, 0] h1 (by decide) rfl rfl
  obtain ⟨w3, e3, h3⟩ := sm0_s (n := k + 17) (d := 7) (0 + 1 + 1) a2 [a0 / 4, a1 / 4, a2 / 4, g3, 0, 0] h2 (by decide) rfl rfl
  obtain ⟨w4, e4, h4⟩ := sm0_s (n := k + 16) (d := 7) (0 + 1 + 1 + 1) a3 [a0 / 4, a1 / 4, a2 / 4, a3 / 4, 0, 0] h3 (by decide) rfl rfl
  obtain ⟨w5, e5, h5⟩ := sm1_k (n := k + 14) (d := 7) 0 h4 (by decide) (by decide)
  obtain ⟨w6, e6, h6⟩ := sm1_k (n := k + 13) (d := 7) (0 + 1) h5 (by decide) (by decide)
  obtain ⟨w7, e7, h7⟩ := sm1_k (n := k + 12) (d := 7) (0 + 1 + 1) h6 (by decide) (by decide)
  refine ⟨w7, ?_, h7⟩
  unfold Fm_spills_89
  rw [e1, e2, e3, e4, sm0_e (n := k + 15) h4 (by decide), e5, e6, e7, sm1_e (n := k + 11) h7 (by decide)]
theorem sp_joint {d : Int32} (hd : d ∈ l8) (a0 a1 a2 a3 : Int32) : ∃ b0 b1 b2 b3 e0 e1 e2 e3 : Int32, (∀ (g0 g1 g2 g3 : Int32) (k : Nat) (w : WX), XS w [a0, a1, a2, a3, 0, 0] [g0, g1, g2, g3, 0, 0] → ∃ w', Fspr_goOn_83 (k + 20) 4 d w = some w' ∧ XS w' [b0, b1, b2, b3, 0, 0] [e0, e1, e2, e3, 0, 0]) ∧ (∀ (g0 g1 g2 g3 : Int32) (k : Nat) (w : WM), YS w [a0, a1, a2, a3, 0, 0] [g0, g1, g2, g3, 0, 0] → ∃ w', Fm_spills_89 (k + 20) d w = some w' ∧ YS w' [b0, b1, b2, b3, 0, 0] [e0, e1, e2, e3, 0, 0]) := by
  rcases l8c hd with rfl | rfl | rfl | rfl | rfl | rfl | rfl | rfl
  · exact ⟨a0 + (a1 / 4 - a0 / 4), a1 + (a0 / 4 - a1 / 4) + (a2 / 4 - a1 / 4), a2 + (a1 / 4 - a2 / 4) + (a3 / 4 - a2 / 4), a3 + (a2 / 4 - a3 / 4), a0 / 4, a1 / 4, a2 / 4, a3 / 4, sp_c0 a0 a1 a2 a3, sp_m0 a0 a1 a2 a3⟩
  · exact ⟨a0, a1 + (a2 / 4 - a1 / 4), a2 + (a1 / 4 - a2 / 4) + (a3 / 4 - a2 / 4), a3 + (a2 / 4 - a3 / 4), a0 / 4, a1 / 4, a2 / 4, a3 / 4, sp_c1 a0 a1 a2 a3, sp_m1 a0 a1 a2 a3⟩
  · exact ⟨a0 + (a1 / 4 - a0 / 4), a1 + (a0 / 4 - a1 / 4), a2 + (a3 / 4 - a2 / 4), a3 + (a2 / 4 - a3 / 4), a0 / 4, a1 / 4, a2 / 4, a3 / 4, sp_c2 a0 a1 a2 a3, sp_m2 a0 a1 a2 a3⟩
  · exact ⟨a0, a1, a2 + (a3 / 4 - a2 / 4), a3 + (a2 / 4 - a3 / 4), a0 / 4, a1 / 4, a2 / 4, a3 / 4, sp_c3 a0 a1 a2 a3, sp_m3 a0 a1 a2 a3⟩
  · exact ⟨a0 + (a1 / 4 - a0 / 4), a1 + (a0 / 4 - a1 / 4) + (a2 / 4 - a1 / 4), a2 + (a1 / 4 - a2 / 4), a3, a0 / 4, a1 / 4, a2 / 4, a3 / 4, sp_c4 a0 a1 a2 a3, sp_m4 a0 a1 a2 a3⟩
  · exact ⟨a0, a1 + (a2 / 4 - a1 / 4), a2 + (a1 / 4 - a2 / 4), a3, a0 / 4, a1 / 4, a2 / 4, a3 / 4, sp_c5 a0 a1 a2 a3, sp_m5 a0 a1 a2 a3⟩
  · exact ⟨a0 + (a1 / 4 - a0 / 4), a1 + (a0 / 4 - a1 / 4), a2, a3, a0 / 4, a1 / 4, a2 / 4, a3 / 4, sp_c6 a0 a1 a2 a3, sp_m6 a0 a1 a2 a3⟩
  · exact ⟨a0, a1, a2, a3, a0 / 4, a1 / 4, a2 / 4, a3 / 4, sp_c7 a0 a1 a2 a3, sp_m7 a0 a1 a2 a3⟩
theorem fi_s {n : Nat} (c : Int32) {A g : List Int32} (A' : List Int32) {w : WX} (hw : XS w A g) (hl : ¬ 6 ≤ c) (ha : ai_up A c 0 = some A') : ∃ w', Garr_fill_84 (n + 1) 0 0 c 6 w = Garr_fill_84 n 0 0 (c + 1) 6 w' ∧ XS w' A' g := by
  refine ⟨u_spread_amounts w A', ?_, XSa hw A'⟩
  rw [Garr_fill_84, if_neg hl, hw.1, ha, bd_some]
theorem fi_e {n : Nat} {c : Int32} {w : WX} (hl : 6 ≤ c) : Garr_fill_84 (n + 1) 0 0 c 6 w = some w := by
  rw [Garr_fill_84, if_pos hl]
theorem la_s {n : Nat} {f x : Int32} (c v : Int32) {A g : List Int32} (A' : List Int32) {w : WM} (hw : YS w A g) (hl : ¬ 6 ≤ c) (hv : v = if c = f then x else 0) (ha : ai_up A c v = some A') : ∃ w', Gm_laySpill_89 (n + 1) 0 f x c w = Gm_laySpill_89 n 0 f x (c + 1) w' ∧ YS w' A' g := by
  refine ⟨u_m_there w A', ?_, YSa hw A'⟩
  rw [Gm_laySpill_89, if_neg hl]
  by_cases h : c = f
  · rw [if_pos h] at hv ⊢
    rw [← hv, hw.1, ha, bd_some]
  · rw [if_neg h] at hv ⊢
    rw [← hv, hw.1, ha, bd_some]
theorem la_e {n : Nat} {f x c : Int32} {w : WM} (hl : 6 ≤ c) : Gm_laySpill_89 (n + 1) 0 f x c w = some w := by
  rw [Gm_laySpill_89, if_pos hl]
theorem fill0 (a0 a1 a2 a3 : Int32) {g : List Int32} (k : Nat) (w : WX) (h0 : XS w [a0, a1, a2, a3, 0, 0] g) : ∃ w', Farr_fill_84 (k + 20) 0 w = some w' ∧ XS w' [0, 0, 0, 0, 0, 0] g := by
  obtain ⟨w1, e1, h1⟩ := fi_s (n := k + 19) 0 [0, a1, a2, a3, 0, 0] h0 (by decide) rfl
  obtain ⟨w2, e2, h2⟩ := fi_s (n := k + 18) (0 + 1) [0, 0, a2, a3, 0, 0] h1 (by decide) rfl
  obtain ⟨w3, e3, h3⟩ := fi_s (n := k + 17) (0 + 1 + 1) [0, 0, 0, a3, 0, 0] h2 (by decide) rfl
  obtain ⟨w4, e4, h4⟩ := fi_s (n := k + 16) (0 + 1 + 1 + 1) [0, 0, 0, 0, 0, 0] h3 (by decide) rfl
  obtain ⟨w5, e5, h5⟩ := fi_s (n := k + 15) (0 + 1 + 1 + 1 + 1) [0, 0, 0, 0, 0, 0] h4 (by decide) rfl
  obtain ⟨w6, e6, h6⟩ := fi_s (n := k + 14) (0 + 1 + 1 + 1 + 1 + 1) [0, 0, 0, 0, 0, 0] h5 (by decide) rfl
  refine ⟨w6, ?_, h6⟩
  unfold Farr_fill_84
  rw [h0.1, show Int32.ofNat (List.length [a0, a1, a2, a3, 0, 0]) = 6 from rfl, e1, e2, e3, e4, e5, e6, fi_e (n := k + 13) (by decide)]
theorem st_c0 (a0 a1 a2 a3 x : Int32) {g : List Int32} (k : Nat) (w : WX) (h0 : XS w [a0, a1, a2, a3, 0, 0] g) : ∃ w', Fspr_start_83 (k + 20) 0 x w = some w' ∧ XS w' [x, 0, 0, 0, 0, 0] g := by
  obtain ⟨w1, e1, h1⟩ := fill0 a0 a1 a2 a3 k w h0
  refine ⟨u_spread_amounts w1 [x, 0, 0, 0, 0, 0], ?_, XSa h1 _⟩
  unfold Fspr_start_83
  rw [e1, bd_some, h1.1, show ai_up [0, 0, 0, 0, 0, 0] 0 x = some [x, 0, 0, 0, 0, 0] from rfl, bd_some]
theorem st_m0 (a0 a1 a2 a3 x : Int32) {g : List Int32} (k : Nat) (w : WM) (h0 : YS w [a0, a1, a2, a3, 0, 0] g) : ∃ w', Fm_laySpill_89 (k + 20) 0 x w = some w' ∧ YS w' [x, 0, 0, 0, 0, 0] g := by
  obtain ⟨w1, e1, h1⟩ := la_s (n := k + 19) (f := 0) (x := x) 0 x [x, a1, a2, a3, 0, 0] h0 (by decide) (by rw [if_pos (by decide)]) rfl
  obtain ⟨w2, e2, h2⟩ := la_s (n := k + 18) (f := 0) (x := x) (0 + 1) 0 [x, 0, a2, a3, 0, 0] h1 (by decide) (by rw [if_neg (by decide)]) rfl
  obtain ⟨w3, e3, h3⟩ := la_s (n := k + 17) (f := 0) (x := x) (0 + 1 + 1) 0 [x, 0, 0, a3, 0, 0] h2 (by decide) (by rw [if_neg (by decide)]) rfl
  obtain ⟨w4, e4, h4⟩ := la_s (n := k + 16) (f := 0) (x := x) (0 + 1 + 1 + 1) 0 [x, 0, 0, 0, 0, 0] h3 (by decide) (by rw [if_neg (by decide)]) rfl
  obtain ⟨w5, e5, h5⟩ := la_s (n := k + 15) (f := 0) (x := x) (0 + 1 + 1 + 1 + 1) 0 [x, 0, 0, 0, 0, 0] h4 (by decide) (by rw [if_neg (by decide)]) rfl
  obtain ⟨w6, e6, h6⟩ := la_s (n := k + 14) (f := 0) (x := x) (0 + 1 + 1 + 1 + 1 + 1) 0 [x, 0, 0, 0, 0, 0] h5 (by decide) (by rw [if_neg (by decide)]) rfl
  refine ⟨w6, ?_, h6⟩
  unfold Fm_laySpill_89
  rw [e1, e2, e3, e4, e5, e6, la_e (n := k + 13) (by decide)]
theorem st_c1 (a0 a1 a2 a3 x : Int32) {g : List Int32} (k : Nat) (w : WX) (h0 : XS w [a0, a1, a2, a3, 0, 0] g) : ∃ w', Fspr_start_83 (k + 20) 1 x w = some w' ∧ XS w' [0, x, 0, 0, 0, 0] g := by
  obtain ⟨w1, e1, h1⟩ := fill0 a0 a1 a2 a3 k w h0
  refine ⟨u_spread_amounts w1 [0, x, 0, 0, 0, 0], ?_, XSa h1 _⟩
  unfold Fspr_start_83
  rw [e1, bd_some, h1.1, show ai_up [0, 0, 0, 0, 0, 0] 1 x = some [0, x, 0, 0, 0, 0] from rfl, bd_some]
theorem st_m1 (a0 a1 a2 a3 x : Int32) {g : List Int32} (k : Nat) (w : WM) (h0 : YS w [a0, a1, a2, a3, 0, 0] g) : ∃ w', Fm_laySpill_89 (k + 20) 1 x w = some w' ∧ YS w' [0, x, 0, 0, 0, 0] g := by
  obtain ⟨w1, e1, h1⟩ := la_s (n := k + 19) (f := 1) (x := x) 0 0 [0, a1, a2, a3, 0, 0] h0 (by decide) (by rw [if_neg (by decide)]) rfl
  obtain ⟨w2, e2, h2⟩ := la_s (n := k + 18) (f := 1) (x := x) (0 + 1) x [0, x, a2, a3, 0, 0] h1 (by decide) (by rw [if_pos (by decide)]) rfl
  obtain ⟨w3, e3, h3⟩ := la_s (n := k + 17) (f := 1) (x := x) (0 + 1 + 1) 0 [0, x, 0, a3, 0, 0] h2 (by decide) (by rw [if_neg (by decide)]) rfl
  obtain ⟨w4, e4, h4⟩ := la_s (n := k + 16) (f := 1) (x := x) (0 + 1 + 1 + 1) 0 [0, x, 0, 0, 0, 0] h3 (by decide) (by rw [if_neg (by decide)]) rfl
  obtain ⟨w5, e5, h5⟩ := la_s (n := k + 15) (f := 1) (x := x) (0 + 1 + 1 + 1 + 1) 0 [0, x, 0, 0, 0, 0] h4 (by decide) (by rw [if_neg (by decide)]) rfl
  obtain ⟨w6, e6, h6⟩ := la_s (n := k + 14) (f := 1) (x := x) (0 + 1 + 1 + 1 + 1 + 1) 0 [0, x, 0, 0, 0, 0] h5 (by decide) (by rw [if_neg (by decide)]) rfl
  refine ⟨w6, ?_, h6⟩
  unfold Fm_laySpill_89
  rw [e1, e2, e3, e4, e5, e6, la_e (n := k + 13) (by decide)]
theorem st_c2 (a0 a1 a2 a3 x : Int32) {g : List Int32} (k : Nat) (w : WX) (h0 : XS w [a0, a1, a2, a3, 0, 0] g) : ∃ w', Fspr_start_83 (k + 20) 2 x w = some w' ∧ XS w' [0, 0, x, 0, 0, 0] g := by
  obtain ⟨w1, e1, h1⟩ := fill0 a0 a1 a2 a3 k w h0
  refine ⟨u_spread_amounts w1 [0, 0, x, 0, 0, 0], ?_, XSa h1 _⟩
  unfold Fspr_start_83
  rw [e1, bd_some, h1.1, show ai_up [0, 0, 0, 0, 0, 0] 2 x = some [0, 0, x, 0, 0, 0] from rfl, bd_some]
theorem st_m2 (a0 a1 a2 a3 x : Int32) {g : List Int32} (k : Nat) (w : WM) (h0 : YS w [a0, a1, a2, a3, 0, 0] g) : ∃ w', Fm_laySpill_89 (k + 20) 2 x w = some w' ∧ YS w' [0, 0, x, 0, 0, 0] g := by
  obtain ⟨w1, e1, h1⟩ := la_s (n := k + 19) (f := 2) (x := x) 0 0 [0, a1, a2, a3, 0, 0] h0 (by decide) (by rw [if_neg (by decide)]) rfl
  obtain ⟨w2, e2, h2⟩ := la_s (n := k + 18) (f := 2) (x := x) (0 + 1) 0 [0, 0, a2, a3, 0, 0] h1 (by decide) (by rw [if_neg (by decide)]) rfl
  obtain ⟨w3, e3, h3⟩ := la_s (n := k + 17) (f := 2) (x := x) (0 + 1 + 1) x [0, 0, x, a3, 0, 0] h2 (by decide) (by rw [if_pos (by decide)]) rfl
  obtain ⟨w4, e4, h4⟩ := la_s (n := k + 16) (f := 2) (x := x) (0 + 1 + 1 + 1) 0 [0, 0, x, 0, 0, 0] h3 (by decide) (by rw [if_neg (by decide)]) rfl
  obtain ⟨w5, e5, h5⟩ := la_s (n := k + 15) (f := 2) (x := x) (0 + 1 + 1 + 1 + 1) 0 [0, 0, x, 0, 0, 0] h4 (by decide) (by rw [if_neg (by decide)]) rfl
  obtain ⟨w6, e6, h6⟩ := la_s (n := k + 14) (f := 2) (x := x) (0 + 1 + 1 + 1 + 1 + 1) 0 [0, 0, x, 0, 0, 0] h5 (by decide) (by rw [if_neg (by decide)]) rfl
  refine ⟨w6, ?_, h6⟩
  unfold Fm_laySpill_89
  rw [e1, e2, e3, e4, e5, e6, la_e (n := k + 13) (by decide)]
theorem st_c3 (a0 a1 a2 a3 x : Int32) {g : List Int32} (k : Nat) (w : WX) (h0 : XS w [a0, a1, a2, a3, 0, 0] g) : ∃ w', Fspr_start_83 (k + 20) 3 x w = some w' ∧ XS w' [0, 0, 0, x, 0, 0] g := by
  obtain ⟨w1, e1, h1⟩ := fill0 a0 a1 a2 a3 k w h0
  refine ⟨u_spread_amounts w1 [0, 0, 0, x, 0, 0], ?_, XSa h1 _⟩
  unfold Fspr_start_83
  rw [e1, bd_some, h1.1, show ai_up [0, 0, 0, 0, 0, 0] 3 x = some [0, 0, 0, x, 0, 0] from rfl, bd_some]
theorem st_m3 (a0 a1 a2 a3 x : Int32) {g : List Int32} (k : Nat) (w : WM) (h0 : YS w [a0, a1, a2, a3, 0, 0] g) : ∃ w', Fm_laySpill_89 (k + 20) 3 x w = some w' ∧ YS w' [0, 0, 0, x, 0, 0] g := by
  obtain ⟨w1, e1, h1⟩ := la_s (n := k + 19) (f := 3) (x := x) 0 0 [0, a1, a2, a3, 0, 0] h0 (by decide) (by rw [if_neg (by decide)]) rfl
  obtain ⟨w2, e2, h2⟩ := la_s (n := k + 18) (f := 3) (x := x) (0 + 1) 0 [0, 0, a2, a3, 0, 0] h1 (by decide) (by rw [if_neg (by decide)]) rfl
  obtain ⟨w3, e3, h3⟩ := la_s (n := k + 17) (f := 3) (x := x) (0 + 1 + 1) 0 [0, 0, 0, a3, 0, 0] h2 (by decide) (by rw [if_neg (by decide)]) rfl
  obtain ⟨w4, e4, h4⟩ := la_s (n := k + 16) (f := 3) (x := x) (0 + 1 + 1 + 1) x [0, 0, 0, x, 0, 0] h3 (by decide) (by rw [if_pos (by decide)]) rfl
  obtain ⟨w5, e5, h5⟩ := la_s (n := k + 15) (f := 3) (x := x) (0 + 1 + 1 + 1 + 1) 0 [0, 0, 0, x, 0, 0] h4 (by decide) (by rw [if_neg (by decide)]) rfl
  obtain ⟨w6, e6, h6⟩ := la_s (n := k + 14) (f := 3) (x := x) (0 + 1 + 1 + 1 + 1 + 1) 0 [0, 0, 0, x, 0, 0] h5 (by decide) (by rw [if_neg (by decide)]) rfl
  refine ⟨w6, ?_, h6⟩
  unfold Fm_laySpill_89
  rw [e1, e2, e3, e4, e5, e6, la_e (n := k + 13) (by decide)]
theorem st_joint {f : Int32} (hf : f ∈ l4) (x : Int32) : ∃ b0 b1 b2 b3 : Int32, (∀ (a0 a1 a2 a3 : Int32) (g : List Int32) (k : Nat) (w : WX), XS w [a0, a1, a2, a3, 0, 0] g → ∃ w', Fspr_start_83 (k + 20) f x w = some w' ∧ XS w' [b0, b1, b2, b3, 0, 0] g) ∧ (∀ (a0 a1 a2 a3 : Int32) (g : List Int32) (k : Nat) (w : WM), YS w [a0, a1, a2, a3, 0, 0] g → ∃ w', Fm_laySpill_89 (k + 20) f x w = some w' ∧ YS w' [b0, b1, b2, b3, 0, 0] g) := by
  rcases l4c hf with rfl | rfl | rfl | rfl
  · exact ⟨x, 0, 0, 0, fun a0 a1 a2 a3 g k w h => st_c0 a0 a1 a2 a3 x k w h, fun a0 a1 a2 a3 g k w h => st_m0 a0 a1 a2 a3 x k w h⟩
  · exact ⟨0, x, 0, 0, fun a0 a1 a2 a3 g k w h => st_c1 a0 a1 a2 a3 x k w h, fun a0 a1 a2 a3 g k w h => st_m1 a0 a1 a2 a3 x k w h⟩
  · exact ⟨0, 0, x, 0, fun a0 a1 a2 a3 g k w h => st_c2 a0 a1 a2 a3 x k w h, fun a0 a1 a2 a3 g k w h => st_m2 a0 a1 a2 a3 x k w h⟩
  · exact ⟨0, 0, 0, x, fun a0 a1 a2 a3 g k w h => st_c3 a0 a1 a2 a3 x k w h, fun a0 a1 a2 a3 g k w h => st_m3 a0 a1 a2 a3 x k w h⟩
theorem Gf_spill_s (n : Nat) (x1 x2 x3 x4 x5 : Int32) (w : WX) : Gf_spill_0 (n + 1) 0 x1 x2 x3 x4 x5 w = (if x3 ≤ x5 then ai_bd (ai_ix (a_spread_amounts w) x4) fun v => some (v, w) else ai_bd (Fspr_goOn_83 n (a_s1_cells w) (a_s1_dams w) w) fun c => Gf_spill_0 n 0 x1 x2 x3 x4 (x5 + 1) c) := by rw [Gf_spill_0]
theorem Gm_spill_s (n : Nat) (x1 x2 x3 x4 x5 : Int32) (w : WM) : Gm_spill_89 (n + 1) 0 x1 x2 x3 x4 x5 w = (if x3 ≤ x5 then ai_bd (ai_ix (a_m_there w) x4) fun v => some (v, w) else ai_bd (ai_ix (a_m_w w) 5) fun v => ai_bd (Fm_spills_89 n v w) fun c => Gm_spill_89 n 0 x1 x2 x3 x4 (x5 + 1) c) := by rw [Gm_spill_89]
theorem spill_loop (x1 x2 : Int32) (hN : Nat) (hh : hN ≤ 40) {c : Int32} (hc : c ∈ l4) : ∀ (r j : Nat), j + r = hN → ∀ n, r + 30 ≤ n → ∀ (a0 a1 a2 a3 g0 g1 g2 g3 f0 f1 f2 f3 : Int32) (w : WX) (m : WM), XS w [a0, a1, a2, a3, 0, 0] [g0, g1, g2, g3, 0, 0] → YS m [a0, a1, a2, a3, 0, 0] [f0, f1, f2, f3, 0, 0] → eqv (Gf_spill_0 n 0 x1 x2 (nI hN) c (nI j) w) (Gm_spill_89 n 0 x1 x2 (nI hN) c (nI j) m) = true := by
  intro r
  induction r with
  | zero =>
    intro j hj n hn a0 a1 a2 a3 g0 g1 g2 g3 f0 f1 f2 f3 w m hw hm
    obtain ⟨n, rfl⟩ : ∃ z, n = z + 1 := ⟨n - 1, by omega⟩
    rw [Gf_spill_s, Gm_spill_s, if_pos (nI_le (by omega) (by omega)), if_pos (nI_le (by omega) (by omega)), hw.1, hm.1]
    rcases l4c hc with rfl | rfl | rfl | rfl
    · exact eqv_some a0 _ _
    · exact eqv_some a1 _ _
    · exact eqv_some a2 _ _
    · exact eqv_some a3 _ _
  | succ r ih =>
    intro j hj n hn a0 a1 a2 a3 g0 g1 g2 g3 f0 f1 f2 f3 w m hw hm
    obtain ⟨k, rfl⟩ : ∃ z, n = (z + 20) + 1 := ⟨n - 21, by omega⟩
    rw [Gf_spill_s, Gm_spill_s, if_neg (nI_ge (by omega) (by omega)), if_neg (nI_ge (by omega) (by omega))]
    obtain ⟨b0, b1, b2, b3, e0, e1, e2, e3, h1, h2⟩ := sp_joint (d := 0) (by decide) a0 a1 a2 a3
    obtain ⟨w', k1, hw'⟩ := h1 g0 g1 g2 g3 k w hw
    obtain ⟨m', k2, hm'⟩ := h2 f0 f1 f2 f3 k m hm
    rw [hw.2.2.1, hw.2.2.2, k1, bd_some, hm.2.2.2, bd_some, k2, bd_some, nI_1]
    exact ih (j + 1) (by omega) (k + 20) (by omega) b0 b1 b2 b3 e0 e1 e2 e3 e0 e1 e2 e3 w' m' hw' hm'
theorem rgN {a U : Int32} (h : 0 ≤ a ∧ a ≤ U) (n : Nat) (hu : U.toInt = n) : ∃ j : Nat, j ≤ n ∧ a = nI j := nI_of2 hu (Int32.not_lt.mpr h.1) h.2
theorem rg4 {a : Int32} (h : 0 ≤ a ∧ a ≤ 3) : a ∈ l4 := rg32 h 0 4 (by decide) (by decide)
theorem XS0 : XS wx0 [0, 0, 0, 0, 0, 0] [0, 0, 0, 0, 0, 0] := ⟨rfl, rfl, rfl, rfl⟩
theorem YS0 : YS wm0 [0, 0, 0, 0, 0, 0] [0, 0, 0, 0, 0, 0] := ⟨rfl, rfl, rfl, rfl⟩
set_option maxHeartbeats 4000000 in
theorem spill_good (a1 a2 a3 a4 : Int32) (h0 : 0 ≤ a1 ∧ a1 ≤ 3) (h1 : 0 ≤ a2 ∧ a2 ≤ 999) (h2 : 0 ≤ a3 ∧ a3 ≤ 40) (h3 : 0 ≤ a4 ∧ a4 ≤ 3) : eqv (Ff_spill_0 4200 a1 a2 a3 a4 wx0) (Fm_spill_89 4200 a1 a2 a3 a4 wm0) = true := by
  obtain ⟨b0, b1, b2, b3, s1, s2⟩ := st_joint (rg4 h0) a2
  obtain ⟨w', e1, hw⟩ := s1 0 0 0 0 _ 4180 wx0 XS0
  obtain ⟨m', e2, hm⟩ := s2 0 0 0 0 _ 4180 wm0 YS0
  have f1 : Ff_spill_0 4200 a1 a2 a3 a4 wx0 = Gf_spill_0 4200 0 a1 a2 a3 a4 0 w' := by
    simp only [Ff_spill_0, Ff_isSpill_0, hasCell0, Ff_within_eq, bd_some, if_pos h0, if_pos h1, if_pos h2, if_pos h3, one_ne, if_false, e1]
  have f2 : Fm_spill_89 4200 a1 a2 a3 a4 wm0 = Gm_spill_89 4200 0 a1 a2 a3 a4 0 m' := by
    simp only [Fm_spill_89, isCell0, in_0_999, in_0_40, bd_some, if_pos h0, if_pos h1, if_pos h2, if_pos h3, one_ne, if_false, e2]
  rw [f1, f2]
  obtain ⟨hN, hh, rfl⟩ := rgN h2 40 (by decide)
  exact spill_loop a1 a2 hN hh (rg4 h3) hN 0 (by omega) 4200 (by omega) b0 b1 b2 b3 0 0 0 0 0 0 0 0 w' m' hw hm
