/-! reading: an item told -/
def VV (m : WM) (v : List Int32) : Prop := v.length = 596 ∧ ∀ j, j < 447 → v.getD j 0 = (a_m_w m).getD j 0
/-- good, or refused -/
def gb (r : Int32) : Prop := 0 ≤ r ∨ r = -2 ∨ r = -3 ∨ r = -4
def mn : Nat → Nat
  | 0 => 1 | 1 => 2 | 2 => 3 | 3 => 2 | 4 => 3 | 5 => 3 | 6 => 1 | _ => 1
theorem mn_dec : ∀ j : Fin 8, Fm_manyOf (nI j.val) = some (nI (mn j.val)) ∧ Ftxt_numbersBehind (nI j.val) = some (nI (mn j.val)) ∧ mn j.val ≤ 3 := by decide +kernel
section RNG
variable {s : TS} {t : TT} {l : TL} {f : Nat → Int32}
theorem g_water (hs : RS s t l f) (a d : Int32) : gb (A_water a d f).1 := by
  unfold A_water gb
  by_cases c1 : C_lay a
  · rw [if_pos c1]
    by_cases c2 : 1 ≤ d ∧ d ≤ 99
    · rw [if_pos c2]
      by_cases c3 : (Nn a = 0 ∨ f (8 + (Nn a - 1)) < d) ∧ (Nn a = 3 ∨ d < f (8 + (Nn a + 1)))
      · rw [if_pos c3]
        obtain ⟨j, hj, rfl⟩ := lay_N c1
        rw [Nn_nI (by omega)]
        have o := hs.ok (k := 8 + j) (by omega)
        rw [okv_r8 _ _ (by omega) (by omega)] at o
        exact Or.inl (o.ge (by decide))
      · rw [if_neg c3]; exact Or.inr (Or.inr (Or.inl rfl))
    · rw [if_neg c2]; exact Or.inr (Or.inl rfl)
  · rw [if_neg c1]; exact Or.inr (Or.inl rfl)
theorem g_thick (hs : RS s t l f) (a b c : Int32) : gb (A_thick a b c f).1 := by
  unfold A_thick gb
  by_cases c1 : C_lay a
  · rw [if_pos c1]
    by_cases c2 : C_cell (f 0) b
    · rw [if_pos c2]
      by_cases c3 : 0 ≤ c ∧ c ≤ 9
      · rw [if_pos c3]
        obtain ⟨j, hj, rfl⟩ := lay_N c1
        obtain ⟨k, hk, rfl⟩ := cell_N hs.c0 (by decide) c2
        have h6 := hs.c0.2.1
        rw [Nn_nI (by omega), Nn_nI (by omega)]
        have o := hs.ok (k := 40 + (6 * j + k)) (by omega)
        rw [okv_r40 _ _ (by omega) (by omega)] at o
        exact Or.inl (o.ge (by decide))
      · rw [if_neg c3]; exact Or.inr (Or.inl rfl)
    · rw [if_neg c2]; exact Or.inr (Or.inl rfl)
  · rw [if_neg c1]; exact Or.inr (Or.inl rfl)
theorem g_skin (hs : RS s t l f) (a c : Int32) : gb (A_skin a c f).1 := by
  unfold A_skin gb
  by_cases c1 : 0 ≤ a ∧ a ≤ 2
  · rw [if_pos c1]
    by_cases c3 : 0 ≤ c ∧ c ≤ 99
    · rw [if_pos c3]
      obtain ⟨j, hj, rfl⟩ := in0 2 rfl c1
      rw [Nn_nI (by omega)]
      have o := hs.ok (k := 64 + j) (by omega)
      rw [okv_r64 _ _ (by omega) (by omega)] at o
      exact Or.inl (o.ge (by decide))
    · rw [if_neg c3]; exact Or.inr (Or.inl rfl)
  · rw [if_neg c1]; exact Or.inr (Or.inl rfl)
theorem g_thing (hs : RS s t l f) (a b c : Int32) : gb (A_thing a b c f).1 := by
  unfold A_thing gb
  by_cases c1 : 0 ≤ a ∧ a ≤ 5
  · rw [if_pos c1]
    by_cases c2 : 1 ≤ b ∧ b ≤ 99
    · rw [if_pos c2]
      by_cases c3 : 1 ≤ c ∧ c ≤ 9
      · rw [if_pos c3]
        by_cases c4 : Nn (f 2) = 6
        · rw [if_pos c4]; exact Or.inr (Or.inr (Or.inr rfl))
        · rw [if_neg c4]; exact Or.inl (hs.c2.ge (by decide))
      · rw [if_neg c3]; exact Or.inr (Or.inl rfl)
    · rw [if_neg c2]; exact Or.inr (Or.inl rfl)
  · rw [if_neg c1]; exact Or.inr (Or.inl rfl)
theorem g_lift (hs : RS s t l f) (a b c : Int32) : gb (A_lift a b c f).1 := by
  unfold A_lift gb
  by_cases c1 : C_pl (f 0) a
  · rw [if_pos c1]
    by_cases c2 : C_pl (f 0) b
    · rw [if_pos c2]
      by_cases c5 : a = b
      · rw [if_pos c5]; exact Or.inr (Or.inl rfl)
      rw [if_neg c5]
      by_cases c3 : 1 ≤ c ∧ c ≤ 9
      · rw [if_pos c3]
        by_cases c4 : Nn (f 3) = 10
        · rw [if_pos c4]; exact Or.inr (Or.inr (Or.inr rfl))
        · rw [if_neg c4]; exact Or.inl (hs.c3.ge (by decide))
      · rw [if_neg c3]; exact Or.inr (Or.inl rfl)
    · rw [if_neg c2]; exact Or.inr (Or.inl rfl)
  · rw [if_neg c1]; exact Or.inr (Or.inl rfl)
theorem g_town (hs : RS s t l f) (p : Int32) : gb (A_town p f).1 := by
  unfold A_town gb
  by_cases c1 : C_pl (f 0) p
  · rw [if_pos c1]
    by_cases c2 : twn f p (Nn (f 4)) = true
    · rw [if_pos c2]; exact Or.inr (Or.inr (Or.inl rfl))
    rw [if_neg c2]
    by_cases c4 : Nn (f 4) = 6
    · rw [if_pos c4]; exact Or.inr (Or.inr (Or.inr rfl))
    · rw [if_neg c4]; exact Or.inl (hs.c4.ge (by decide))
  · rw [if_neg c1]; exact Or.inr (Or.inl rfl)
theorem g_dam (k b : Int32) (f : Nat → Int32) : gb (A_dam k b f).1 := by
  unfold A_dam gb
  by_cases c1 : 0 ≤ k ∧ k ≤ f 0 - 2
  · rw [if_pos c1]
    by_cases c2 : (if C_bit (f 5) k then (1 : Int32) else 0) = b
    · rw [if_pos c2]; exact Or.inr (Or.inr (Or.inl rfl))
    · rw [if_neg c2]; exact Or.inl (show (0 : Int32) ≤ 1 by decide)
  · rw [if_neg c1]; exact Or.inr (Or.inl rfl)
end RNG
section C61
variable {w : WX} {m : WM}
theorem ix3 {nu : List Int32} (h : nu.length = 3) : ai_ix nu 0 = some (nu.getD 0 0) ∧ ai_ix nu 1 = some (nu.getD 1 0) ∧ ai_ix nu 2 = some (nu.getD 2 0) :=
  ⟨ix_e (l := nu) (i := 0) 0 rfl (by omega) (by decide), ix_e (l := nu) (i := 1) 1 rfl (by omega) (by decide), ix_e (l := nu) (i := 2) 2 rfl (by omega) (by decide)⟩
theorem ap_of {s : TS} {t : TT} {l : TL} {it rf a : Int32} {nu : List Int32} {v : List Int32} (hV : VV m v) {a1 a2 a3 a4 : Int32} {nu2 : List Int32} {wo : Int32} {ox : Option (Int32 × WX)} {om : Option (Int32 × WM)} {A : Int32 × (Nat → Int32)} (hg : gb A.1) (hx : ∃ s' t' l', ox = some (A.1, X2 (mkT w s t l it rf nu a) s' t' l') ∧ RS s' t' l' A.2) (hm : ∃ m', om = some (A.1, m') ∧ MW (mkP m v a1 a2 a3 a4 nu2 wo) m' 447 A.2) : ∃ r s' t' l' v', (ai_bd ox fun c => some (c.1, c.2)) = some (r, mkT w s' t' l' it rf nu a) ∧ (ai_bd om fun c => some (c.1, c.2)) = some (r, mkP m v' a1 a2 a3 a4 nu2 wo) ∧ VV m v' ∧ RS s' t' l' (sl v' 447) ∧ gb r := by
  obtain ⟨s', t', l', rfl, hS⟩ := hx
  obtain ⟨m', rfl, v', rfl, h1, h2, h3⟩ := hm
  refine ⟨A.1, s', t', l', v', ?_, ?_, ⟨?_, fun j hj => ?_⟩, RS_congr (fun k hk => (h2 k hk).symm) hS, hg⟩
  · simp only [bd_some, kT_X2]
  · simp only [bd_some, kPu_w]
  · rw [h1, kP_w]; exact hV.1
  · rw [h3 j (Or.inl hj), kP_w]; exact hV.2 j hj
theorem it_ap {s : TS} {t : TT} {l : TL} {v : List Int32} (hs : RS s t l (sl v 447)) (hV : VV m v) {j n : Nat} (h1 : 1 ≤ j) (h8 : j < 8) (hn : 300 ≤ n) {n2 : Nat} (hn2 : 300 ≤ n2) {nu nu2 : List Int32} (l1 : nu.length = 3) (l2 : nu2.length = 3) (he : ∀ i, i < mn j → nu.getD i 0 = nu2.getD i 0) (it rf a a1 a2 a3 a4 : Int32) : ∃ r s' t' l' v', Ftxt_tellItem_78_20 n (nI j) (mkT w s t l it rf nu a) = some (r, mkT w s' t' l' it rf nu a) ∧ Fm_done_89 n2 (mkP m v a1 a2 a3 a4 nu2 (nI j)) = some (r, mkP m v' a1 a2 a3 a4 nu2 (nI j)) ∧ VV m v' ∧ RS s' t' l' (sl v' 447) ∧ gb r := by
  obtain ⟨x0, x1, x2⟩ := ix3 l1
  obtain ⟨y0, y1, y2⟩ := ix3 l2
  have hw : ∀ wo, (a_m_w (mkP m v a1 a2 a3 a4 nu2 wo)).length = 596 := fun wo => by rw [kP_w]; exact hV.1
  have hsl : ∀ wo, sl (a_m_w (mkP m v a1 a2 a3 a4 nu2 wo)) 447 = sl v 447 := fun wo => by rw [kP_w]
  have e447 : (447 : Int32) = nI 447 := rfl
  unfold Ftxt_tellItem_78_20 Fm_done_89
  rw [kT_nu, kP_wo, kP_nu, x0, x1, x2, y0, y1, y2]
  simp only [bd_some]
  match j, h1, h8, he with
  | 1, _, _, he =>
    rw [if_neg (show ¬ nI 1 = 0 by decide), if_neg (show ¬ nI 1 = 0 by decide), if_pos (show nI 1 = 1 from rfl), if_pos (show nI 1 = 1 from rfl), he 0 (by decide), he 1 (by decide)]
    have hm := M_water (m := mkP m v a1 a2 a3 a4 nu2 (nI 1)) (a := nu2.getD 0 0) (d := nu2.getD 1 0) e447 (hw _) (by omega)
    rw [hsl] at hm
    exact ap_of hV (g_water hs _ _) (X2_water (w := mkT w s t l it rf nu a) hs (nu2.getD 0 0) (nu2.getD 1 0)) hm
  | 2, _, _, he =>
    rw [if_neg (show ¬ nI 2 = 0 by decide), if_neg (show ¬ nI 2 = 0 by decide), if_neg (show ¬ nI 2 = 1 by decide), if_neg (show ¬ nI 2 = 1 by decide), if_pos (show nI 2 = 2 from rfl), if_pos (show nI 2 = 2 from rfl), he 0 (by decide), he 1 (by decide), he 2 (by decide)]
    have hm := M_thick (m := mkP m v a1 a2 a3 a4 nu2 (nI 2)) (a := nu2.getD 0 0) (b := nu2.getD 1 0) (c := nu2.getD 2 0) e447 (hw _) (by omega) (by rw [hsl]; exact hs.c0)
    rw [hsl] at hm
    exact ap_of hV (g_thick hs _ _ _) (X2_thick (w := mkT w s t l it rf nu a) hs (nu2.getD 0 0) (nu2.getD 1 0) (nu2.getD 2 0)) hm
  | 3, _, _, he =>
    rw [if_neg (show ¬ nI 3 = 0 by decide), if_neg (show ¬ nI 3 = 0 by decide), if_neg (show ¬ nI 3 = 1 by decide), if_neg (show ¬ nI 3 = 1 by decide), if_neg (show ¬ nI 3 = 2 by decide), if_neg (show ¬ nI 3 = 2 by decide), if_pos (show nI 3 = 3 from rfl), if_pos (show nI 3 = 3 from rfl), he 0 (by decide), he 1 (by decide)]
    have hm := M_skin (m := mkP m v a1 a2 a3 a4 nu2 (nI 3)) (a := nu2.getD 0 0) (c := nu2.getD 1 0) e447 (hw _) (by omega)
    rw [hsl] at hm
    exact ap_of hV (g_skin hs _ _) (X2_skin (w := mkT w s t l it rf nu a) hs (nu2.getD 0 0) (nu2.getD 1 0)) hm
  | 4, _, _, he =>
    rw [if_neg (show ¬ nI 4 = 0 by decide), if_neg (show ¬ nI 4 = 0 by decide), if_neg (show ¬ nI 4 = 1 by decide), if_neg (show ¬ nI 4 = 1 by decide), if_neg (show ¬ nI 4 = 2 by decide), if_neg (show ¬ nI 4 = 2 by decide), if_neg (show ¬ nI 4 = 3 by decide), if_neg (show ¬ nI 4 = 3 by decide), if_pos (show nI 4 = 4 from rfl), if_pos (show nI 4 = 4 from rfl), he 0 (by decide), he 1 (by decide), he 2 (by decide)]
    have hm := M_thing (m := mkP m v a1 a2 a3 a4 nu2 (nI 4)) (a := nu2.getD 0 0) (b := nu2.getD 1 0) (c := nu2.getD 2 0) e447 (hw _) (by omega) (by rw [hsl]; exact hs.c2)
    rw [hsl] at hm
    exact ap_of hV (g_thing hs _ _ _) (X2_thing (w := mkT w s t l it rf nu a) hs (nu2.getD 0 0) (nu2.getD 1 0) (nu2.getD 2 0)) hm
  | 5, _, _, he =>
    rw [if_neg (show ¬ nI 5 = 0 by decide), if_neg (show ¬ nI 5 = 0 by decide), if_neg (show ¬ nI 5 = 1 by decide), if_neg (show ¬ nI 5 = 1 by decide), if_neg (show ¬ nI 5 = 2 by decide), if_neg (show ¬ nI 5 = 2 by decide), if_neg (show ¬ nI 5 = 3 by decide), if_neg (show ¬ nI 5 = 3 by decide), if_neg (show ¬ nI 5 = 4 by decide), if_neg (show ¬ nI 5 = 4 by decide), if_pos (show nI 5 = 5 from rfl), if_pos (show nI 5 = 5 from rfl), he 0 (by decide), he 1 (by decide), he 2 (by decide)]
    have hm := M_lift (m := mkP m v a1 a2 a3 a4 nu2 (nI 5)) (a := nu2.getD 0 0) (b := nu2.getD 1 0) (c := nu2.getD 2 0) e447 (hw _) (by omega) (by rw [hsl]; exact hs.c3)
    rw [hsl] at hm
    exact ap_of hV (g_lift hs _ _ _) (X2_lift (w := mkT w s t l it rf nu a) hs (nu2.getD 0 0) (nu2.getD 1 0) (nu2.getD 2 0)) hm
  | 6, _, _, he =>
    rw [if_neg (show ¬ nI 6 = 0 by decide), if_neg (show ¬ nI 6 = 0 by decide), if_neg (show ¬ nI 6 = 1 by decide), if_neg (show ¬ nI 6 = 1 by decide), if_neg (show ¬ nI 6 = 2 by decide), if_neg (show ¬ nI 6 = 2 by decide), if_neg (show ¬ nI 6 = 3 by decide), if_neg (show ¬ nI 6 = 3 by decide), if_neg (show ¬ nI 6 = 4 by decide), if_neg (show ¬ nI 6 = 4 by decide), if_neg (show ¬ nI 6 = 5 by decide), if_neg (show ¬ nI 6 = 5 by decide), if_pos (show nI 6 = 6 from rfl), if_pos (show nI 6 = 6 from rfl), he 0 (by decide)]
    have hm := M_town (m := mkP m v a1 a2 a3 a4 nu2 (nI 6)) (p := nu2.getD 0 0) (n := n2) (by omega) e447 (hw _) (by omega) (by rw [hsl]; exact hs.c4)
    rw [hsl] at hm
    exact ap_of hV (g_town hs _) (X2_town (w := mkT w s t l it rf nu a) (n := n) (by omega) hs (nu2.getD 0 0)) hm
  | 7, _, _, he =>
    rw [if_neg (show ¬ nI 7 = 0 by decide), if_neg (show ¬ nI 7 = 0 by decide), if_neg (show ¬ nI 7 = 1 by decide), if_neg (show ¬ nI 7 = 1 by decide), if_neg (show ¬ nI 7 = 2 by decide), if_neg (show ¬ nI 7 = 2 by decide), if_neg (show ¬ nI 7 = 3 by decide), if_neg (show ¬ nI 7 = 3 by decide), if_neg (show ¬ nI 7 = 4 by decide), if_neg (show ¬ nI 7 = 4 by decide), if_neg (show ¬ nI 7 = 5 by decide), if_neg (show ¬ nI 7 = 5 by decide), if_neg (show ¬ nI 7 = 6 by decide), if_neg (show ¬ nI 7 = 6 by decide), he 0 (by decide)]
    have hm := M_dam (m := mkP m v a1 a2 a3 a4 nu2 (nI 7)) (k := nu2.getD 0 0) (b := 1) e447 (hw _) (by omega)
    rw [hsl] at hm
    exact ap_of hV (g_dam _ _ _) (X2_dam (w := mkT w s t l it rf nu a) hs (nu2.getD 0 0) 1 (Or.inr rfl)) hm
  | k + 8, _, h8, _ => exact absurd h8 (by omega)
theorem RS.pos {s : TS} {t : TT} {l : TL} {f : Nat → Int32} (hs : RS s t l f) : LSe s t l ∧ 0 ≤ q_cells s ∧ 0 ≤ f 0 := by
  have e : q_cells s = f 0 := hs.k (k := 0) (by omega)
  have g := hs.c0.ge (by decide)
  exact ⟨hs.1, by rw [e]; exact g, g⟩
theorem it_sea {s : TS} {t : TT} {l : TL} {v : List Int32} (hL : LSe s t l) (h0 : 0 ≤ q_cells s) (h1 : 0 ≤ sl v 447 0) (hV : VV m v) {n : Nat} (hn : 300 ≤ n) {n2 : Nat} (hn2 : 300 ≤ n2) {nu nu2 : List Int32} (l1 : nu.length = 3) (l2 : nu2.length = 3) (he : nu.getD 0 0 = nu2.getD 0 0) (it rf a a1 a2 a3 a4 : Int32) : ∃ r r2 s' t' l' v', Ftxt_tellItem_78_20 n 0 (mkT w s t l it rf nu a) = some (r, mkT w s' t' l' it rf nu a) ∧ Fm_done_89 n2 (mkP m v a1 a2 a3 a4 nu2 0) = some (r2, mkP m v' a1 a2 a3 a4 nu2 0) ∧ VV m v' ∧ ((0 ≤ r ∧ -1 ≤ r2 ∧ RS s' t' l' (sl v' 447)) ∨ (¬ 0 ≤ r ∧ ¬ -1 ≤ r2 ∧ LSe s' t' l' ∧ 0 ≤ q_cells s' ∧ 0 ≤ sl v' 447 0)) := by
  obtain ⟨x0, x1, x2⟩ := ix3 l1
  obtain ⟨y0, y1, y2⟩ := ix3 l2
  have hw : (a_m_w (mkP m v a1 a2 a3 a4 nu2 0)).length = 596 := by rw [kP_w]; exact hV.1
  have hsl : sl (a_m_w (mkP m v a1 a2 a3 a4 nu2 0)) 447 = sl v 447 := by rw [kP_w]
  unfold Ftxt_tellItem_78_20 Fm_done_89
  rw [kT_nu, kP_wo, kP_nu, x0, y0]
  simp only [bd_some]
  rw [if_pos trivial, if_pos trivial, he]
  obtain ⟨m', em, v', rfl, k1, k2, k3⟩ := M_sea (m := mkP m v a1 a2 a3 a4 nu2 0) (y := nu2.getD 0 0) (n := n2) (r := 447) (by omega) (show (447 : Int32) = nI 447 from rfl) hw (by omega)
  rw [em]
  rw [hsl] at k2 ⊢
  rw [kP_w] at k1 k3
  simp only [bd_some, kPu_w]
  have hV' : VV m v' := ⟨by rw [k1]; exact hV.1, fun j hj => by rw [k3 j (Or.inl hj)]; exact hV.2 j hj⟩
  unfold A_sea at k2 ⊢
  by_cases c : 1 ≤ nu2.getD 0 0 ∧ nu2.getD 0 0 ≤ 6
  · rw [if_pos c] at k2 ⊢
    rw [X2_sea0 (w := mkT w s t l it rf nu a) (n := n) (by omega) hL (nu2.getD 0 0) c]
    simp only [bd_some, kT_X2]
    exact ⟨_, _, _, _, _, _, rfl, rfl, hV', Or.inl ⟨h0, Int32.le_trans (by decide) h1, RS_congr (fun k hk => (k2 k hk).symm) (RS_beg hL (isN_of1 (L := 1) (M := 6) (a := 1) (n := 6) rfl rfl c (by decide)))⟩⟩
  · rw [if_neg c] at k2 ⊢
    unfold Fsea_startAnew_20
    rw [Ff_within_eq, bd_some, ifz, if_neg c]
    simp only [bd_some]
    exact ⟨_, _, _, _, _, _, rfl, rfl, hV', Or.inr ⟨by decide, by decide, hL, h0, by rw [k2 0 (by omega)]; exact h1⟩⟩
theorem it_all {s : TS} {t : TT} {l : TL} {v : List Int32} (hL : LSe s t l) (h0 : 0 ≤ q_cells s) (h1 : 0 ≤ sl v 447 0) (hV : VV m v) {j n : Nat} (h8 : j < 8) (hs : 1 ≤ j → RS s t l (sl v 447)) (hn : 300 ≤ n) {n2 : Nat} (hn2 : 300 ≤ n2) {nu nu2 : List Int32} (l1 : nu.length = 3) (l2 : nu2.length = 3) (he : ∀ i, i < mn j → nu.getD i 0 = nu2.getD i 0) (it rf a a1 a2 a3 a4 : Int32) : ∃ r r2 s' t' l' v', Ftxt_tellItem_78_20 n (nI j) (mkT w s t l it rf nu a) = some (r, mkT w s' t' l' it rf nu a) ∧ Fm_done_89 n2 (mkP m v a1 a2 a3 a4 nu2 (nI j)) = some (r2, mkP m v' a1 a2 a3 a4 nu2 (nI j)) ∧ VV m v' ∧ ((0 ≤ r ∧ -1 ≤ r2 ∧ RS s' t' l' (sl v' 447)) ∨ (¬ 0 ≤ r ∧ ¬ -1 ≤ r2 ∧ LSe s' t' l' ∧ 0 ≤ q_cells s' ∧ 0 ≤ sl v' 447 0)) := by
  by_cases c : j = 0
  · subst c
    exact it_sea hL h0 h1 hV hn hn2 l1 l2 (he 0 (by decide)) it rf a a1 a2 a3 a4
  · obtain ⟨r, s', t', l', v', e1, e2, e3, e4, e5⟩ := it_ap (w := w) (hs (by omega)) hV (by omega) h8 hn hn2 l1 l2 he it rf a a1 a2 a3 a4
    refine ⟨r, r, s', t', l', v', e1, e2, e3, ?_⟩
    rcases e5 with g | rfl | rfl | rfl
    · exact Or.inl ⟨g, Int32.le_trans (by decide) g, e4⟩
    · exact Or.inr ⟨by decide, by decide, e4.pos⟩
    · exact Or.inr ⟨by decide, by decide, e4.pos⟩
    · exact Or.inr ⟨by decide, by decide, e4.pos⟩
end C61
