/-! which dams keep a spill out, on the fresh object -/
def XQ (w : WX) : Prop := ∃ a0 a1 a2 a3 g0 g1 g2 g3 : Int32, XS w [a0, a1, a2, a3, 0, 0] [g0, g1, g2, g3, 0, 0]
def YQ (m : WM) : Prop := ∃ a0 a1 a2 a3 g0 g1 g2 g3 : Int32, YS m [a0, a1, a2, a3, 0, 0] [g0, g1, g2, g3, 0, 0]
theorem XQi {w : WX} {a0 a1 a2 a3 g0 g1 g2 g3 : Int32} (h : XS w [a0, a1, a2, a3, 0, 0] [g0, g1, g2, g3, 0, 0]) : XQ w := ⟨_, _, _, _, _, _, _, _, h⟩
theorem YQi {m : WM} {a0 a1 a2 a3 g0 g1 g2 g3 : Int32} (h : YS m [a0, a1, a2, a3, 0, 0] [g0, g1, g2, g3, 0, 0]) : YQ m := ⟨_, _, _, _, _, _, _, _, h⟩
theorem Gm_ko_s0 (n : Nat) (x1 x2 x3 x4 x5 x6 x7 : Int32) (w : WM) : Gm_keepsOut_89 (n + 1) 0 x1 x2 x3 x4 x5 x6 x7 w = (if x3 < x6 then some (1, w) else Gm_keepsOut_89 n 1 x1 x2 x3 x4 x5 x6 0 w) := by rw [Gm_keepsOut_89]
theorem Gf_ko_s (n : Nat) (x1 x2 x3 x4 x5 x6 : Int32) (w : WX) : Gf_keepsOut_0 (n + 1) 0 x1 x2 x3 x4 x5 x6 w = (if x3 ≤ x6 then ai_bd (Fspr_isIn_83 n x4 w) fun c => if c.1 = 0 then some (1, c.2) else some (0, c.2) else ai_bd (Fspr_isIn_83 n x4 w) fun c => if c.1 = 0 then ai_bd (Fspr_goOn_83 n (a_s1_cells c.2) x5 c.2) fun e => Gf_keepsOut_0 n 0 x1 x2 x3 x4 x5 (x6 + 1) e else some (0, c.2)) := by rw [Gf_keepsOut_0]
theorem isIn_c {n : Nat} {b c a : Int32} {A g : List Int32} {w : WX} (hw : XS w A g) (hc : ¬ 6 ≤ c) (ha : ai_ix A c = some a) : Gspr_isIn_83 (n + 1) 0 b c w = if (((b >>> (c &&& 31)) &&& 1) = 1 ∧ ¬ a ≤ 0) then some (1, w) else Gspr_isIn_83 n 0 b (c + 1) w := by
  rw [Gspr_isIn_83, if_neg hc]
  by_cases h : ((b >>> (c &&& 31)) &&& 1) = 1
  · rw [if_pos h, hw.1, ha, bd_some]
    by_cases h2 : a ≤ 0
    · rw [if_pos h2, if_neg (fun z => z.2 h2)]
    · rw [if_neg h2, if_pos ⟨h, h2⟩]
  · rw [if_neg h, if_neg (fun z => h z.1)]
theorem isIn_e {n : Nat} {b c : Int32} {w : WX} (hc : 6 ≤ c) : Gspr_isIn_83 (n + 1) 0 b c w = some (0, w) := by
  rw [Gspr_isIn_83, if_pos hc]
theorem mIn_c {n : Nat} {x1 x2 x3 b d y c a : Int32} {A g : List Int32} {w : WM} (hw : YS w A g) (hc : ¬ 4 ≤ c) (ha : ai_ix A c = some a) : Gm_keepsOut_89 (n + 1) 1 x1 x2 x3 b d y c w = if (((b >>> (c &&& 31)) &&& 1) = 1 ∧ ¬ a ≤ 0) then some (0, w) else Gm_keepsOut_89 n 1 x1 x2 x3 b d y (c + 1) w := by
  rw [Gm_keepsOut_89, hw.2.2.1, bd_some, if_neg hc, has_eq, bd_some]
  by_cases h : ((b >>> (c &&& 31)) &&& 1) = 1
  · rw [if_pos h, if_neg (by decide), hw.1, ha, bd_some]
    by_cases h2 : a ≤ 0
    · rw [if_pos h2, if_neg (fun z => z.2 h2)]
    · rw [if_neg h2, if_pos ⟨h, h2⟩]
  · rw [if_neg h, if_pos rfl, if_neg (fun z => h z.1)]
theorem mIn_e {n : Nat} {x1 x2 x3 b d y c : Int32} {A g : List Int32} {w : WM} (hw : YS w A g) (hc : 4 ≤ c) : Gm_keepsOut_89 (n + 1) 1 x1 x2 x3 b d y c w = ai_bd (Fm_spills_89 n d w) fun c => Gm_keepsOut_89 n 0 x1 x2 x3 b d (y + 1) 0 c := by
  rw [Gm_keepsOut_89, hw.2.2.1, bd_some, if_pos hc]
theorem in_joint (b d : Int32) (a0 a1 a2 a3 : Int32) : ∃ I : Int32, (I = 0 ∨ I = 1) ∧ (∀ (g : List Int32) (k : Nat) (w : WX), XS w [a0, a1, a2, a3, 0, 0] g → Fspr_isIn_83 (k + 20) b w = some (I, w)) ∧ ∀ (g : List Int32) (w : WM), YS w [a0, a1, a2, a3, 0, 0] g → ∀ (z : Nat) (x1 x2 x3 y : Int32), Gm_keepsOut_89 (z + 5) 1 x1 x2 x3 b d y 0 w = (if I = 1 then some (0, w) else ai_bd (Fm_spills_89 z d w) fun c => Gm_keepsOut_89 z 0 x1 x2 x3 b d (y + 1) 0 c) := by
  by_cases p0 : (((b >>> (0 &&& 31)) &&& 1) = 1 ∧ ¬ a0 ≤ 0)
  · refine ⟨1, Or.inr rfl, fun g k w hw => ?_, fun g w hw z x1 x2 x3 y => ?_⟩
    · unfold Fspr_isIn_83
      rw [isIn_c (n := k + 19) (a := a0) hw (by decide) rfl, if_pos p0]
    · rw [mIn_c (n := z + 4) (a := a0) hw (by decide) rfl, if_pos p0, if_pos rfl]
  by_cases p1 : (((b >>> ((0 + 1) &&& 31)) &&& 1) = 1 ∧ ¬ a1 ≤ 0)
  · refine ⟨1, Or.inr rfl, fun g k w hw => ?_, fun g w hw z x1 x2 x3 y => ?_⟩
    · unfold Fspr_isIn_83
      rw [isIn_c (n := k + 19) (a := a0) hw (by decide) rfl, if_neg p0, isIn_c (n := k + 18) (a := a1) hw (by decide) rfl, if_pos p1]
    · rw [mIn_c (n := z + 4) (a := a0) hw (by decide) rfl, if_neg p0, mIn_c (n := z + 3) (a := a1) hw (by decide) rfl, if_pos p1, if_pos rfl]
  by_cases p2 : (((b >>> ((0 + 1 + 1) &&& 31)) &&& 1) = 1 ∧ ¬ a2 ≤ 0)
  · refine ⟨1, Or.inr rfl, fun g k w hw => ?_, fun g w hw z x1 x2 x3 y => ?_⟩
    · unfold Fspr_isIn_83
      rw [isIn_c (n := k + 19) (a := a0) hw (by decide) rfl, if_neg p0, isIn_c (n := k + 18) (a := a1) hw (by decide) rfl, if_neg p1, isIn_c (n := k + 17) (a := a2) hw (by decide) rfl, if_pos p2]
    · rw [mIn_c (n := z + 4) (a := a0) hw (by decide) rfl, if_neg p0, mIn_c (n := z + 3) (a := a1) hw (by decide) rfl, if_neg p1, mIn_c (n := z + 2) (a := a2) hw (by decide) rfl, if_pos p2, if_pos rfl]
  by_cases p3 : (((b >>> ((0 + 1 + 1 + 1) &&& 31)) &&& 1) = 1 ∧ ¬ a3 ≤ 0)
  · refine ⟨1, Or.inr rfl, fun g k w hw => ?_, fun g w hw z x1 x2 x3 y => ?_⟩
    · unfold Fspr_isIn_83
      rw [isIn_c (n := k + 19) (a := a0) hw (by decide) rfl, if_neg p0, isIn_c (n := k + 18) (a := a1) hw (by decide) rfl, if_neg p1, isIn_c (n := k + 17) (a := a2) hw (by decide) rfl, if_neg p2, isIn_c (n := k + 16) (a := a3) hw (by decide) rfl, if_pos p3]
    · rw [mIn_c (n := z + 4) (a := a0) hw (by decide) rfl, if_neg p0, mIn_c (n := z + 3) (a := a1) hw (by decide) rfl, if_neg p1, mIn_c (n := z + 2) (a := a2) hw (by decide) rfl, if_neg p2, mIn_c (n := z + 1) (a := a3) hw (by decide) rfl, if_pos p3, if_pos rfl]
  refine ⟨0, Or.inl rfl, fun g k w hw => ?_, fun g w hw z x1 x2 x3 y => ?_⟩
  · unfold Fspr_isIn_83
    rw [isIn_c (n := k + 19) (a := a0) hw (by decide) rfl, if_neg p0, isIn_c (n := k + 18) (a := a1) hw (by decide) rfl, if_neg p1, isIn_c (n := k + 17) (a := a2) hw (by decide) rfl, if_neg p2, isIn_c (n := k + 16) (a := a3) hw (by decide) rfl, if_neg p3, isIn_c (n := k + 15) (a := 0) hw (by decide) rfl, if_neg (fun z => z.2 (by decide)), isIn_c (n := k + 14) (a := 0) hw (by decide) rfl, if_neg (fun z => z.2 (by decide)), isIn_e (n := k + 13) (by decide)]
  · rw [mIn_c (n := z + 4) (a := a0) hw (by decide) rfl, if_neg p0, mIn_c (n := z + 3) (a := a1) hw (by decide) rfl, if_neg p1, mIn_c (n := z + 2) (a := a2) hw (by decide) rfl, if_neg p2, mIn_c (n := z + 1) (a := a3) hw (by decide) rfl, if_neg p3, mIn_e (n := z) hw (by decide), if_neg (by decide)]
theorem ko_loop (x1 x2 : Int32) (hN : Nat) (hh : hN ≤ 40) (b : Int32) {d : Int32} (hd : d ∈ l8) : ∀ (r j : Nat), j + r = hN → ∀ n m, r + 40 ≤ n → 7 * r + 60 ≤ m → ∀ (a0 a1 a2 a3 g0 g1 g2 g3 f0 f1 f2 f3 : Int32) (w : WX) (v : WM), XS w [a0, a1, a2, a3, 0, 0] [g0, g1, g2, g3, 0, 0] → YS v [a0, a1, a2, a3, 0, 0] [f0, f1, f2, f3, 0, 0] → ∃ (res : Int32) (w' : WX) (v' : WM), Gf_keepsOut_0 n 0 x1 x2 (nI hN) b d (nI j) w = some (res, w') ∧ XQ w' ∧ Gm_keepsOut_89 m 0 x1 x2 (nI hN) b d (nI j) 0 v = some (res, v') ∧ YQ v' := by
  intro r
  induction r with
  | zero =>
    intro j hj n m hn hm a0 a1 a2 a3 g0 g1 g2 g3 f0 f1 f2 f3 w v hw hv
    obtain ⟨k, rfl⟩ : ∃ z, n = (z + 20) + 1 := ⟨n - 21, by omega⟩
    obtain ⟨z, rfl⟩ : ∃ z, m = ((z + 20 + 5) + 1) := ⟨m - 26, by omega⟩
    obtain ⟨I, hI, h1, h2⟩ := in_joint b d a0 a1 a2 a3
    rw [Gf_ko_s, if_pos (nI_le (by omega) (by omega)), h1 _ k w hw, bd_some, Gm_ko_s0, if_neg (nI_nlt (by omega) (by omega)), h2 _ v hv]
    rcases hI with rfl | rfl
    · obtain ⟨b0, b1, b2, b3, e0, e1, e2, e3, -, k2⟩ := sp_joint hd a0 a1 a2 a3
      obtain ⟨v', k3, hv'⟩ := k2 f0 f1 f2 f3 z v hv
      refine ⟨1, w, v', if_pos (c := ((0 : Int32) = 0)) rfl, XQi hw, ?_, YQi hv'⟩
      rw [if_neg (by decide), k3, bd_some, Gm_ko_s0 (z + 19), if_pos (by rw [nI_1]; exact nI_lt (by omega) (by omega))]
    · exact ⟨0, w, v, if_neg (c := ((1 : Int32) = 0)) (by decide), XQi hw, if_pos rfl, YQi hv⟩
  | succ r ih =>
    intro j hj n m hn hm a0 a1 a2 a3 g0 g1 g2 g3 f0 f1 f2 f3 w v hw hv
    obtain ⟨k, rfl⟩ : ∃ z, n = (z + 20) + 1 := ⟨n - 21, by omega⟩
    obtain ⟨z, rfl⟩ : ∃ z, m = ((z + 20 + 5) + 1) := ⟨m - 26, by omega⟩
    obtain ⟨I, hI, h1, h2⟩ := in_joint b d a0 a1 a2 a3
    rw [Gf_ko_s, if_neg (nI_ge (by omega) (by omega)), h1 _ k w hw, bd_some, Gm_ko_s0, if_neg (nI_nlt (by omega) (by omega)), h2 _ v hv]
    rcases hI with rfl | rfl
    · obtain ⟨b0, b1, b2, b3, e0, e1, e2, e3, k1, k2⟩ := sp_joint hd a0 a1 a2 a3
      obtain ⟨w', kw, hw'⟩ := k1 g0 g1 g2 g3 k w hw
      obtain ⟨v', kv, hv'⟩ := k2 f0 f1 f2 f3 z v hv
      obtain ⟨res, w2, v2, y1, y2, y3, y4⟩ := ih (j + 1) (by omega) (k + 20) (z + 20) (by omega) (by omega) b0 b1 b2 b3 e0 e1 e2 e3 e0 e1 e2 e3 w' v' hw' hv'
      refine ⟨res, w2, v2, ?_, y2, ?_, y4⟩
      · refine (if_pos (c := ((0 : Int32) = 0)) rfl).trans ?_
        show ai_bd (Fspr_goOn_83 (k + 20) (a_s1_cells w) d w) (fun e => Gf_keepsOut_0 (k + 20) 0 x1 x2 (nI hN) b d (nI j + 1) e) = _
        rw [hw.2.2.1, kw, bd_some, nI_1]
        exact y1
      · rw [if_neg (by decide), kv, bd_some, nI_1]
        exact y3
    · exact ⟨0, w, v, if_neg (c := ((1 : Int32) = 0)) (by decide), XQi hw, if_pos rfl, YQi hv⟩
theorem ko_keeps {f : Int32} (hf : f ∈ l4) (x2 : Int32) (hN : Nat) (hh : hN ≤ 40) (b : Int32) {d : Int32} (hd : d ∈ l8) (n : Nat) (hn : 400 ≤ n) {w : WX} {v : WM} (hw : XQ w) (hv : YQ v) : ∃ (res : Int32) (w' : WX) (v' : WM), Ff_keepsOut_0 n f x2 (nI hN) b d w = some (res, w') ∧ XQ w' ∧ Fm_keepsOut_89 n f x2 (nI hN) b d v = some (res, v') ∧ YQ v' := by
  obtain ⟨k, rfl⟩ : ∃ z, n = z + 20 := ⟨n - 20, by omega⟩
  obtain ⟨b0, b1, b2, b3, s1, s2⟩ := st_joint hf x2
  obtain ⟨a0, a1, a2, a3, g0, g1, g2, g3, hw⟩ := hw
  obtain ⟨c0, c1, c2, c3, f0, f1, f2, f3, hv⟩ := hv
  obtain ⟨w1, e1, hw1⟩ := s1 a0 a1 a2 a3 _ k w hw
  obtain ⟨v1, e2, hv1⟩ := s2 c0 c1 c2 c3 _ k v hv
  obtain ⟨res, w', v', y1, y2, y3, y4⟩ := ko_loop f x2 hN hh b hd hN 0 (by omega) (k + 20) (k + 20) (by omega) (by omega) b0 b1 b2 b3 g0 g1 g2 g3 f0 f1 f2 f3 w1 v1 hw1 hv1
  refine ⟨res, w', v', ?_, y2, ?_, y4⟩
  · unfold Ff_keepsOut_0
    rw [e1, bd_some]
    exact y1
  · unfold Fm_keepsOut_89
    rw [e2, bd_some]
    exact y3
theorem bc_joint {x : Int32} (h : x ∈ l8) (k : Nat) : ∃ p : Int32, Fint_bitCount x = some p ∧ Fm_ones (k + 10) x = some p := by
  rcases l8c h with rfl | rfl | rfl | rfl | rfl | rfl | rfl | rfl
  · exact ⟨0, by decide +kernel, rfl⟩
  · exact ⟨1, by decide +kernel, rfl⟩
  · exact ⟨1, by decide +kernel, rfl⟩
  · exact ⟨2, by decide +kernel, rfl⟩
  · exact ⟨1, by decide +kernel, rfl⟩
  · exact ⟨2, by decide +kernel, rfl⟩
  · exact ⟨2, by decide +kernel, rfl⟩
  · exact ⟨3, by decide +kernel, rfl⟩
theorem l8n {j : Nat} (h : j < 8) : nI j ∈ l8 := by
  have key : ∀ j : Nat, j < 8 → nI j ∈ l8 := by decide +kernel
  exact key j h
theorem or0 {j : Nat} (h : j < 8) : (0 : Int32) ||| nI j = nI j ∧ nI j &&& 0 = 0 := by
  have key : ∀ j : Nat, j < 8 → ((0 : Int32) ||| nI j = nI j ∧ nI j &&& 0 = 0) := by decide +kernel
  exact key j h
theorem Gf_kO_s (n : Nat) (x1 x2 x3 x4 x5 x6 x7 : Int32) (w : WX) (hD : a_s1_dams w = 0) (h6 : ¬ x6 ≤ x7) (h0 : (x7 &&& 0) = 0) : Gf_keepOut_0 (n + 1) 0 x1 x2 x3 x4 x5 x6 x7 w = (if x5 = (-1) then ai_bd (Ff_keepsOut_0 n x1 x2 x3 x4 (0 ||| x7) w) fun c => if c.1 = 0 then Gf_keepOut_0 n 0 x1 x2 x3 x4 x5 x6 (x7 + 1) c.2 else Gf_keepOut_0 n 0 x1 x2 x3 x4 x7 x6 (x7 + 1) c.2 else ai_bd (Fint_bitCount x7) fun p => ai_bd (Fint_bitCount x5) fun q => if q ≤ p then Gf_keepOut_0 n 0 x1 x2 x3 x4 x5 x6 (x7 + 1) w else ai_bd (Ff_keepsOut_0 n x1 x2 x3 x4 (0 ||| x7) w) fun c => if c.1 = 0 then Gf_keepOut_0 n 0 x1 x2 x3 x4 x5 x6 (x7 + 1) c.2 else Gf_keepOut_0 n 0 x1 x2 x3 x4 x7 x6 (x7 + 1) c.2) := by
  rw [Gf_keepOut_0, if_neg h6, hD, if_pos h0]
theorem Gf_kO_e (n : Nat) (x1 x2 x3 x4 x5 x6 x7 : Int32) (w : WX) (h6 : x6 ≤ x7) : Gf_keepOut_0 (n + 1) 0 x1 x2 x3 x4 x5 x6 x7 w = some (x5, w) := by
  rw [Gf_keepOut_0, if_pos h6]
theorem Gm_kO_s (n : Nat) (x1 x2 x3 x4 x5 x7 : Int32) (w : WM) (hN : ai_ix (a_m_w w) 0 = some 4) (hD : ai_ix (a_m_w w) 5 = some 0) (h6 : ¬ 8 ≤ x7) (h0 : (x7 &&& 0) = 0) : Gm_keepOut_89 (n + 1) 0 x1 x2 x3 x4 x5 x7 w = (if x5 = (-1) then ai_bd (Fm_keepsOut_89 n x1 x2 x3 x4 (0 ||| x7) w) fun c => if c.1 = 0 then Gm_keepOut_89 n 0 x1 x2 x3 x4 x5 (x7 + 1) c.2 else Gm_keepOut_89 n 0 x1 x2 x3 x4 x7 (x7 + 1) c.2 else ai_bd (Fm_ones n x7) fun p => ai_bd (Fm_ones n x5) fun q => if q ≤ p then Gm_keepOut_89 n 0 x1 x2 x3 x4 x5 (x7 + 1) w else ai_bd (Fm_keepsOut_89 n x1 x2 x3 x4 (0 ||| x7) w) fun c => if c.1 = 0 then Gm_keepOut_89 n 0 x1 x2 x3 x4 x5 (x7 + 1) c.2 else Gm_keepOut_89 n 0 x1 x2 x3 x4 x7 (x7 + 1) c.2) := by
  rw [Gm_keepOut_89, hN, bd_some, show ((1 : Int32) <<< ((4 - 1 : Int32) &&& 31)) = 8 from by decide, if_neg h6]
  simp only [hD, bd_some, if_pos h0]
theorem Gm_kO_e (n : Nat) (x1 x2 x3 x4 x5 x7 : Int32) (w : WM) (hN : ai_ix (a_m_w w) 0 = some 4) (h6 : 8 ≤ x7) : Gm_keepOut_89 (n + 1) 0 x1 x2 x3 x4 x5 x7 w = some (x5, w) := by
  rw [Gm_keepOut_89, hN, bd_some, show ((1 : Int32) <<< ((4 - 1 : Int32) &&& 31)) = 8 from by decide, if_pos h6]
theorem XQd {w : WX} (h : XQ w) : a_s1_dams w = 0 := by
  obtain ⟨_, _, _, _, _, _, _, _, h⟩ := h
  exact h.2.2.2
theorem YQn {m : WM} (h : YQ m) : ai_ix (a_m_w m) 0 = some 4 := by
  obtain ⟨_, _, _, _, _, _, _, _, h⟩ := h
  exact h.2.2.1
theorem YQd {m : WM} (h : YQ m) : ai_ix (a_m_w m) 5 = some 0 := by
  obtain ⟨_, _, _, _, _, _, _, _, h⟩ := h
  exact h.2.2.2
theorem kO_loop {f : Int32} (hf : f ∈ l4) (x2 : Int32) (hN : Nat) (hh : hN ≤ 40) (b : Int32) : ∀ (r j : Nat), j + r = 8 → ∀ n, r + 400 ≤ n → ∀ best : Int32, (best = -1 ∨ best ∈ l8) → ∀ (w : WX) (v : WM), XQ w → YQ v → eqv (Gf_keepOut_0 n 0 f x2 (nI hN) b best 8 (nI j) w) (Gm_keepOut_89 n 0 f x2 (nI hN) b best (nI j) v) = true := by
  intro r
  induction r with
  | zero =>
    intro j hj n hn best hbest w v hw hv
    obtain ⟨n, rfl⟩ : ∃ z, n = z + 1 := ⟨n - 1, by omega⟩
    obtain rfl : j = 8 := by omega
    rw [Gf_kO_e _ _ _ _ _ _ _ _ _ (by decide), Gm_kO_e _ _ _ _ _ _ _ _ (YQn hv) (by decide)]
    exact eqv_some _ _ _
  | succ r ih =>
    intro j hj n hn best hbest w v hw hv
    obtain ⟨n, rfl⟩ : ∃ z, n = z + 1 := ⟨n - 1, by omega⟩
    have hj8 : j < 8 := by omega
    have hmem := l8n hj8
    obtain ⟨o1, o2⟩ := or0 hj8
    have hlt : ¬ (8 : Int32) ≤ nI j := nI_ge (b := 8) (by omega) (by decide)
    rw [Gf_kO_s _ _ _ _ _ _ _ _ _ (XQd hw) hlt o2, Gm_kO_s _ _ _ _ _ _ _ _ (YQn hv) (YQd hv) hlt o2, o1]
    obtain ⟨res, w', v', y1, hw', y2, hv'⟩ := ko_keeps hf x2 hN hh b (d := nI j) hmem n (by omega) hw hv
    have tail : eqv (if res = 0 then Gf_keepOut_0 n 0 f x2 (nI hN) b best 8 (nI j + 1) w' else Gf_keepOut_0 n 0 f x2 (nI hN) b (nI j) 8 (nI j + 1) w') (if res = 0 then Gm_keepOut_89 n 0 f x2 (nI hN) b best (nI j + 1) v' else Gm_keepOut_89 n 0 f x2 (nI hN) b (nI j) (nI j + 1) v') = true := by
      rw [nI_1]
      by_cases hr : res = 0
      · rw [if_pos hr, if_pos hr]
        exact ih (j + 1) (by omega) n (by omega) best hbest w' v' hw' hv'
      · rw [if_neg hr, if_neg hr]
        exact ih (j + 1) (by omega) n (by omega) (nI j) (Or.inr hmem) w' v' hw' hv'
    rcases hbest with rfl | hb
    · rw [if_pos rfl, if_pos rfl, y1, bd_some, y2, bd_some]
      exact tail
    · have hne : ¬ best = (-1) := by
        intro z
        rw [z] at hb
        revert hb
        decide
      obtain ⟨k, rfl⟩ : ∃ z, n = z + 10 := ⟨n - 10, by omega⟩
      obtain ⟨p, hp1, hp2⟩ := bc_joint hmem k
      obtain ⟨q, hq1, hq2⟩ := bc_joint hb k
      rw [if_neg hne, if_neg hne, hp1, bd_some, hq1, bd_some, hp2, bd_some, hq2, bd_some]
      by_cases hle : q ≤ p
      · rw [if_pos hle, if_pos hle, nI_1]
        exact ih (j + 1) (by omega) (k + 10) (by omega) best (Or.inr hb) w v hw hv
      · rw [if_neg hle, if_neg hle, y1, bd_some, y2, bd_some]
        exact tail
theorem sh8 : ((1 : Int32) <<< (((a_s1_cells wx0) - 1) &&& 31)) = 8 := by decide +kernel
theorem keep_f1 (a1 a2 a3 a4 : Int32) (h0 : 0 ≤ a1 ∧ a1 ≤ 3) (h1 : 0 ≤ a2 ∧ a2 ≤ 999) (h2 : 0 ≤ a3 ∧ a3 ≤ 40) (h3 : 0 ≤ a4 ∧ a4 ≤ 15) (n : Nat) : Ff_keepOut_0 n a1 a2 a3 a4 wx0 = Gf_keepOut_0 n 0 a1 a2 a3 a4 (-1) 8 0 wx0 := by
  simp only [Ff_keepOut_0, Ff_isSpill_0, hasCell0, Ff_within_eq, bd_some, if_pos h0, if_pos h1, if_pos h2, if_pos h3, one_ne, if_false, ce0, sh8]
theorem keep_f2 (a1 a2 a3 a4 : Int32) (h0 : 0 ≤ a1 ∧ a1 ≤ 3) (h1 : 0 ≤ a2 ∧ a2 ≤ 999) (h2 : 0 ≤ a3 ∧ a3 ≤ 40) (h3 : 0 ≤ a4 ∧ a4 ≤ 15) (n : Nat) : Fm_keepOut_89 n a1 a2 a3 a4 wm0 = Gm_keepOut_89 n 0 a1 a2 a3 a4 (-1) 0 wm0 := by
  simp only [Fm_keepOut_89, isCell0, in_0_999, in_0_40, in_cel, wN, bd_some, if_pos h0, if_pos h1, if_pos h2, if_pos h3, one_ne, if_false]
theorem keep_go (a1 a2 a3 a4 : Int32) (h0 : 0 ≤ a1 ∧ a1 ≤ 3) (h1 : 0 ≤ a2 ∧ a2 ≤ 999) (h2 : 0 ≤ a3 ∧ a3 ≤ 40) (h3 : 0 ≤ a4 ∧ a4 ≤ 15) (n : Nat) (hn : 408 ≤ n) : eqv (Ff_keepOut_0 n a1 a2 a3 a4 wx0) (Fm_keepOut_89 n a1 a2 a3 a4 wm0) = true := by
  rw [keep_f1 a1 a2 a3 a4 h0 h1 h2 h3 n, keep_f2 a1 a2 a3 a4 h0 h1 h2 h3 n]
  obtain ⟨hN, hh, rfl⟩ := rgN h2 40 (by decide)
  have e := kO_loop (rg4 h0) a2 hN hh a4 8 0 (by omega) n (by omega) (-1) (Or.inl rfl) wx0 wm0 (XQi XS0) (YQi YS0)
  rw [nI_0] at e
  exact e
theorem keep_good (a1 a2 a3 a4 : Int32) (h0 : 0 ≤ a1 ∧ a1 ≤ 3) (h1 : 0 ≤ a2 ∧ a2 ≤ 999) (h2 : 0 ≤ a3 ∧ a3 ≤ 40) (h3 : 0 ≤ a4 ∧ a4 ≤ 15) : eqv (Ff_keepOut_0 4200 a1 a2 a3 a4 wx0) (Fm_keepOut_89 4200 a1 a2 a3 a4 wm0) = true := keep_go a1 a2 a3 a4 h0 h1 h2 h3 4200 (by decide)
