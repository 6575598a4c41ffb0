/-! the reference's fall of a thing, and the calls that ask for one fall -/
def mkK (m : WM) (a b c d e g : Int32) : WM := (m.1, m.2.1, m.2.2.1, m.2.2.2.1, m.2.2.2.2.1, m.2.2.2.2.2.1, m.2.2.2.2.2.2.1, m.2.2.2.2.2.2.2.1, m.2.2.2.2.2.2.2.2.1, m.2.2.2.2.2.2.2.2.2.1, m.2.2.2.2.2.2.2.2.2.2.1, m.2.2.2.2.2.2.2.2.2.2.2.1, m.2.2.2.2.2.2.2.2.2.2.2.2.1, a, b, c, d, e, g, m.2.2.2.2.2.2.2.2.2.2.2.2.2.2.2.2.2.2.2)
section MKK
variable (m : WM) (a b c d e g x : Int32) (i j k l o : Int32)
theorem mK_in : mkF (mkK m (a_m_kind m) (a_m_weight m) (a_m_volume m) (a_m_load m) (a_m_hour m) (a_m_torn m)) (a_m_restsIn m) (a_m_down m) (a_m_broken m) (a_m_passes m) (a_m_stops m) = m := by dsimp only [mkF, mkK, a_m_kind, a_m_weight, a_m_volume, a_m_load, a_m_hour, a_m_torn, a_m_restsIn, a_m_down, a_m_broken, a_m_passes, a_m_stops]
theorem mF_mF (i2 j2 k2 l2 o2 : Int32) : mkF (mkF m i j k l o) i2 j2 k2 l2 o2 = mkF m i2 j2 k2 l2 o2 := by dsimp only [mkF]
theorem mK_w : a_m_w (mkK m a b c d e g) = a_m_w m := rfl
theorem mK_kind : a_m_kind (mkK m a b c d e g) = a := rfl
theorem mK_weight : a_m_weight (mkK m a b c d e g) = b := rfl
theorem mK_volume : a_m_volume (mkK m a b c d e g) = c := rfl
theorem mK_load : a_m_load (mkK m a b c d e g) = d := rfl
theorem mK_hour : a_m_hour (mkK m a b c d e g) = e := rfl
theorem mK_torn : a_m_torn (mkK m a b c d e g) = g := rfl
theorem mKu_kind0 : u_m_kind (mkF (mkK m a b c d e g) i j k l o) x = mkF (mkK m x b c d e g) i j k l o := by dsimp only [mkF, mkK, u_m_kind]
theorem mKu_weight : u_m_weight (mkF (mkK m a b c d e g) i j k l o) x = mkF (mkK m a x c d e g) i j k l o := by dsimp only [mkF, mkK, u_m_weight]
theorem mKu_volume : u_m_volume (mkF (mkK m a b c d e g) i j k l o) x = mkF (mkK m a b x d e g) i j k l o := by dsimp only [mkF, mkK, u_m_volume]
theorem mKu_load : u_m_load (mkF (mkK m a b c d e g) i j k l o) x = mkF (mkK m a b c x e g) i j k l o := by dsimp only [mkF, mkK, u_m_load]
theorem mKu_hour : u_m_hour (mkF (mkK m a b c d e g) i j k l o) x = mkF (mkK m a b c d x g) i j k l o := by dsimp only [mkF, mkK, u_m_hour]
theorem mKu_torn : u_m_torn (mkF (mkK m a b c d e g) i j k l o) x = mkF (mkK m a b c d e x) i j k l o := by dsimp only [mkF, mkK, u_m_torn]
theorem mFK_w : a_m_w (mkF (mkK m a b c d e g) i j k l o) = a_m_w m := by dsimp only [a_m_w, mkF, mkK]
theorem mFK_kind : a_m_kind (mkF (mkK m a b c d e g) i j k l o) = a := by dsimp only [a_m_kind, mkF, mkK]
theorem mFK_weight : a_m_weight (mkF (mkK m a b c d e g) i j k l o) = b := by dsimp only [a_m_weight, mkF, mkK]
theorem mFK_volume : a_m_volume (mkF (mkK m a b c d e g) i j k l o) = c := by dsimp only [a_m_volume, mkF, mkK]
theorem mFK_load : a_m_load (mkF (mkK m a b c d e g) i j k l o) = d := by dsimp only [a_m_load, mkF, mkK]
theorem mFK_hour : a_m_hour (mkF (mkK m a b c d e g) i j k l o) = e := by dsimp only [a_m_hour, mkF, mkK]
theorem mFK_torn : a_m_torn (mkF (mkK m a b c d e g) i j k l o) = g := by dsimp only [a_m_torn, mkF, mkK]
end MKK
theorem M_comes {m : WM} (hw : (a_m_w m).length = 596) {f : Nat → Int32} (hf : sl (a_m_w m) 0 = f) {c h n : Nat} (hn : 6 ≤ n) (hc : c < 6) (hh : h < 2 ^ 31) (hsk : ∀ i, i < 3 → isN (f (64 + i)) 0 99) (ki we vo lo to : Int32) (i j k l o : Int32) : Fm_comesDown_89 n (nI c) (mkF (mkK m ki we vo lo (nI h) to) i j k l o) = some (mkF (mkK m ki we vo lo (nI h) to) (fS f c h to (Wt ki we lo (nI h)) (Ro ki vo (nI h)) (Fo ki (Wt ki we lo (nI h))) 4 0 (-1) 0 0 0 [0, 0, 0, 0]).1 (fS f c h to (Wt ki we lo (nI h)) (Ro ki vo (nI h)) (Fo ki (Wt ki we lo (nI h))) 4 0 (-1) 0 0 0 [0, 0, 0, 0]).2.1 (fS f c h to (Wt ki we lo (nI h)) (Ro ki vo (nI h)) (Fo ki (Wt ki we lo (nI h))) 4 0 (-1) 0 0 0 [0, 0, 0, 0]).2.2.1 (fS f c h to (Wt ki we lo (nI h)) (Ro ki vo (nI h)) (Fo ki (Wt ki we lo (nI h))) 4 0 (-1) 0 0 0 [0, 0, 0, 0]).2.2.2.2.1 (fS f c h to (Wt ki we lo (nI h)) (Ro ki vo (nI h)) (Fo ki (Wt ki we lo (nI h))) 4 0 (-1) 0 0 0 [0, 0, 0, 0]).2.2.2.1) := by
  unfold Fm_comesDown_89
  rw [mkF_in, mF_mF]
  have q := M_fallG (m := mkK m ki we vo lo (nI h) to) (f := f) (c := c) (h := h) (to := to) (W := Wt ki we lo (nI h)) (Rm := Ro ki vo (nI h)) (Fc := Fo ki (Wt ki we lo (nI h))) hw hf hc hh rfl hsk rfl rfl rfl rfl 4 0 n (-1) 0 0 0 [0, 0, 0, 0] (by omega) (by omega) (Or.inl rfl)
  rw [nI_0] at q
  exact q
/-- the reference's world at the end of the fall of thing t -/
def mT (m : WM) (f : Nat → Int32) (t c h : Nat) (b to : Int32) : WM := mkF (mkK m (f (67 + t)) (f (73 + t)) (f (79 + t)) b (nI h) to) (fT f t c h b to).1 (fT f t c h b to).2.1 (fT f t c h b to).2.2.1 (fT f t c h b to).2.2.2.2.1 (fT f t c h b to).2.2.2.1
theorem mXd_we (w : WX) (a b c d e g k : Int32) (p : List Int32) : a_fall_weighs (mkX w (a, b, c, d, e, g, k, p)) = a := by dsimp only [mkX, a_fall_weighs]
theorem mXd_ro (w : WX) (a b c d e g k : Int32) (p : List Int32) : a_fall_room (mkX w (a, b, c, d, e, g, k, p)) = b := by dsimp only [mkX, a_fall_room]
section MT
variable (w : WX) (m : WM) (f : Nat → Int32) (t c h : Nat) (b to : Int32)
theorem tT_la : a_fall_layer (mkX w (tT f t c h b to)) = (fT f t c h b to).1 := by dsimp only [mkX, tT, a_fall_layer]
theorem tT_dn : a_fall_down (mkX w (tT f t c h b to)) = (fT f t c h b to).2.1 := by dsimp only [mkX, tT, a_fall_down]
theorem tT_br : a_fall_broken (mkX w (tT f t c h b to)) = (fT f t c h b to).2.2.1 := by dsimp only [mkX, tT, a_fall_broken]
theorem tT_st : a_fall_stopper (mkX w (tT f t c h b to)) = (fT f t c h b to).2.2.2.1 := by dsimp only [mkX, tT, a_fall_stopper]
theorem tT_pt : a_fall_passedThick (mkX w (tT f t c h b to)) = (fT f t c h b to).2.2.2.2.2 := by dsimp only [mkX, tT, a_fall_passedThick]
theorem mT_la : a_m_restsIn (mT m f t c h b to) = (fT f t c h b to).1 := by dsimp only [mT, mkF, mkK, a_m_restsIn]
theorem mT_dn : a_m_down (mT m f t c h b to) = (fT f t c h b to).2.1 := by dsimp only [mT, mkF, mkK, a_m_down]
theorem mT_br : a_m_broken (mT m f t c h b to) = (fT f t c h b to).2.2.1 := by dsimp only [mT, mkF, mkK, a_m_broken]
theorem mT_ps : a_m_passes (mT m f t c h b to) = (fT f t c h b to).2.2.2.2.1 := by dsimp only [mT, mkF, mkK, a_m_passes]
theorem mT_st : a_m_stops (mT m f t c h b to) = (fT f t c h b to).2.2.2.1 := by dsimp only [mT, mkF, mkK, a_m_stops]
theorem mT_w : a_m_w (mT m f t c h b to) = a_m_w m := by dsimp only [mT, mkF, mkK, a_m_w]
theorem mT_kind : a_m_kind (mT m f t c h b to) = f (67 + t) := by dsimp only [mT, mkF, mkK, a_m_kind]
end MT
theorem M_goT {m : WM} (hw : (a_m_w m).length = 596) {f : Nat → Int32} (hf : sl (a_m_w m) 0 = f) {t c h n : Nat} (hn : 6 ≤ n) (hc : c < 6) (hh : h < 2 ^ 31) (hsk : ∀ i, i < 3 → isN (f (64 + i)) 0 99) (b to i j k l o : Int32) : Fm_comesDown_89 n (nI c) (mkF (mkK m (f (67 + t)) (f (73 + t)) (f (79 + t)) b (nI h) to) i j k l o) = some (mT m f t c h b to) := by
  unfold mT fT
  exact M_comes hw hf hn hc hh hsk (f (67 + t)) (f (73 + t)) (f (79 + t)) b to i j k l o
theorem M_lay {m : WM} (hw : (a_m_w m).length = 596) {f : Nat → Int32} (hf : sl (a_m_w m) 0 = f) {t : Nat} (ht : t < 6) : Fm_lay_89 (nI t) m = some (mkF (mkK m (f (67 + t)) (f (73 + t)) (f (79 + t)) (f (85 + t)) (f 1) 0) (a_m_restsIn m) (a_m_down m) (a_m_broken m) (a_m_passes m) (a_m_stops m)) := by
  unfold Fm_lay_89
  rw [m_ix0 hw (x := 67 + nI t) (67 + t) (by rw [show (67 : Int32) = nI 67 from rfl, nI_add]) (by omega), bd_some, m_ix0 hw (x := 73 + nI t) (73 + t) (by rw [show (73 : Int32) = nI 73 from rfl, nI_add]) (by omega), bd_some, m_ix0 hw (x := 79 + nI t) (79 + t) (by rw [show (79 : Int32) = nI 79 from rfl, nI_add]) (by omega), bd_some, m_ix0 hw (x := 85 + nI t) (85 + t) (by rw [show (85 : Int32) = nI 85 from rfl, nI_add]) (by omega), bd_some, m_ix0 hw (x := 1) 1 rfl (by omega), bd_some, hf]
  conv => lhs; rw [← mK_in m]
  rw [mKu_kind0, mKu_weight, mKu_volume, mKu_load, mKu_hour, mKu_torn]
theorem R.sk {w : WX} {m : WM} (h : R w m) : ∀ i, i < 3 → isN (sl (a_m_w m) 0 (64 + i)) 0 99 := fun i hi => by
  have := h.s.ok (k := 64 + i) (by omega)
  rw [okv_r64 _ _ (by omega) (by omega)] at this
  exact this
/-- falls leave the worlds side by side -/
theorem R_fall {w : WX} {m : WM} (h : R w m) {fa : TF} (hp : fa.2.2.2.2.2.2.2.length = 4) (a b c d e g i j k l o : Int32) : R (mkX w fa) (mkF (mkK m a b c d e g) i j k l o) := by
  obtain ⟨h1, h2, h3, h4, h5, h6, h7, ⟨c1, c2, c3, c4, c5, c6⟩, h9⟩ := h
  exact ⟨h1, h2, h3, h4, h5, h6, h7, ⟨c1, c2, hp, c4, c5, c6⟩, h9⟩
theorem mX_self (w : WX) : mkX w w.2.2.2.2.2.2.2.2.2.2.2.2.2.2.1 = w := rfl
theorem mF_self (m : WM) : m = mkF (mkK m (a_m_kind m) (a_m_weight m) (a_m_volume m) (a_m_load m) (a_m_hour m) (a_m_torn m)) (a_m_restsIn m) (a_m_down m) (a_m_broken m) (a_m_passes m) (a_m_stops m) := (mK_in m).symm
theorem R_falX {w : WX} {m : WM} (h : R w m) {fa : TF} (hp : fa.2.2.2.2.2.2.2.length = 4) : R (mkX w fa) m := by
  rw [mF_self m]
  exact R_fall h hp _ _ _ _ _ _ _ _ _ _ _
theorem R_falT {w : WX} {m : WM} (h : R w m) {fa : TF} (hp : fa.2.2.2.2.2.2.2.length = 4) (f : Nat → Int32) (t c hh : Nat) (b to : Int32) : R (mkX w fa) (mT m f t c hh b to) := by
  unfold mT
  exact R_fall h hp _ _ _ _ _ _ _ _ _ _ _
theorem R.pt {w : WX} {m : WM} (h : R w m) : w.2.2.2.2.2.2.2.2.2.2.2.2.2.2.1.2.2.2.2.2.2.2.length = 4 := h.2.2.2.2.2.2.2.1.2.2.1
theorem R_falP {w : WX} {m : WM} (h : R w m) (a1 a2 a3 a4 a5 a6 a7 : Int32) {p : List Int32} (hp : p.length = 4) (a b c d e g i j k l o : Int32) : R (mkX w (a1, a2, a3, a4, a5, a6, a7, p)) (mkF (mkK m a b c d e g) i j k l o) := R_fall h (fa := (a1, a2, a3, a4, a5, a6, a7, p)) hp a b c d e g i j k l o
theorem R.pt2 {w : WX} {m : WM} (h : R w m) : (a_fall_passedThick w).length = 4 := h.2.2.2.2.2.2.2.1.2.2.1
theorem R_falM {w : WX} {m : WM} (h : R w m) (a b c d e g i j k l o : Int32) : R w (mkF (mkK m a b c d e g) i j k l o) := by
  have q := R_fall h h.pt a b c d e g i j k l o
  rw [mX_self] at q
  exact q
theorem M_isCell {m : WM} (hw : (a_m_w m).length = 596) (x : Int32) : Fm_isCell_89 x m = some (if C_cell (sl (a_m_w m) 0 0) x then 1 else 0, m) := by
  unfold Fm_isCell_89
  rw [M_isCellOf (x := 0) (r := 0) rfl hw (by omega), bd_some]
  simp only [ifz2]
section C40
variable {w : WX} {m : WM}
theorem C_deep (h : R w m) (a b : Int32) : Ok (fun _ => Ff_deep_0 a b w) (fun _ => Fm_deep_89 a b m) := Ok.of 0 fun n hn => by
  obtain ⟨w2, m2, e1, e2, hR⟩ := R_bad h
  have f0 : a_s1_cells w = sl (a_m_w m) 0 0 := h.s.k (k := 0) (by omega)
  have f1 : a_s1_hour w = sl (a_m_w m) 0 1 := h.s.k (k := 1) (by omega)
  simp only [Ff_deep_0, Fm_deep_89, Ff_isLayer_eq, Fm_isLayer_eq, hasCell_1, M_isCell h.w, bd_some, ifz, e1, e2, f0, f1]
  by_cases c1 : C_lay a
  · simp only [if_pos c1]
    by_cases c2 : C_cell (sl (a_m_w m) 0 0) b
    · simp only [if_pos c2]
      obtain ⟨i, hi, rfl⟩ := lay_N c1
      obtain ⟨j, hj, rfl⟩ := cell_N h.s.c0 (by decide) c2
      have h6 := h.s.c0.2.1
      have q1 := h.s.c1.2.2
      have q2 := h.s.c1.2.1
      rw [m_ix0 h.w (x := 1) 1 rfl (by omega), bd_some, q1, X_thickAt h.s hi (by omega) (by omega), M_thickIn h.w hi (by omega) (by omega)]
      exact ⟨_, _, _, rfl, rfl, h⟩
    · simp only [if_neg c2]; exact ⟨_, _, _, rfl, rfl, hR⟩
  · simp only [if_neg c1]; exact ⟨_, _, _, rfl, rfl, hR⟩
theorem C_of (h : R w m) (a b : Int32) : Ok (fun _ => Ff_of_0 a b w) (fun _ => Fm_of_89 a b m) := Ok.of 0 fun n hn => by
  obtain ⟨w2, m2, e1, e2, hR⟩ := R_bad h
  have f2 : a_s1things_count w = sl (a_m_w m) 0 2 := h.s.k (k := 2) (by omega)
  have f1 : a_s1_hour w = sl (a_m_w m) 0 1 := h.s.k (k := 1) (by omega)
  simp only [Ff_of_0, Fm_of_89, has_7, M_isThing h.w, Ff_within_eq, Fm_in_eq b (lo := 0) (hi := 2) 0 2 rfl rfl, bd_some, ifz, e1, e2, f2]
  by_cases c1 : C_th (sl (a_m_w m) 0 2) a
  · simp only [if_pos c1]
    by_cases c2 : 0 ≤ b ∧ b ≤ 2
    · simp only [if_pos c2]
      obtain ⟨t, ht, rfl⟩ := th_N h.s.c2 (by decide) c1
      have h6 := h.s.c2.2.1
      obtain ⟨k1, k2, k3, k4⟩ := h.s.th ht
      have l1 : (a_s1things_kinds w).length = 6 := LSe_kinds h.s.1
      have l4 : (a_s1things_ballasts w).length = 6 := LSe_ballasts h.s.1
      rw [M_lay h.w rfl (by omega)]
      simp only [bd_some, M_weighs, M_room]
      have hK : ai_ix (a_s1things_kinds w) (nI t) = some (sl (a_m_w m) 0 (67 + t)) := by rw [← k1]; exact ix_e (l := a_s1things_kinds w) t rfl (by omega) (by omega)
      have hB : ai_ix (a_s1things_ballasts w) (nI t) = some (sl (a_m_w m) 0 (85 + t)) := by rw [← k4]; exact ix_e (l := a_s1things_ballasts w) t rfl (by omega) (by omega)
      by_cases b0 : b = 0
      · rw [if_pos b0, if_pos b0, hK]
        simp only [bd_some, mFK_kind]
        exact ⟨_, _, _, rfl, rfl, R_falM h _ _ _ _ _ _ _ _ _ _ _⟩
      rw [if_neg b0, if_neg b0]
      have hsh : Ff_shapeNow_0 (nI t) w = some (mkX w (Wt (sl (a_m_w m) 0 (67 + t)) (sl (a_m_w m) 0 (73 + t)) (sl (a_m_w m) 0 (85 + t)) (sl (a_m_w m) 0 1), Ro (sl (a_m_w m) 0 (67 + t)) (sl (a_m_w m) 0 (79 + t)) (sl (a_m_w m) 0 1), Fo (sl (a_m_w m) 0 (67 + t)) (Wt (sl (a_m_w m) 0 (67 + t)) (sl (a_m_w m) 0 (73 + t)) (sl (a_m_w m) 0 (85 + t)) (sl (a_m_w m) 0 1)), a_fall_layer w, a_fall_down w, a_fall_broken w, a_fall_stopper w, a_fall_passedThick w)) := by
        unfold Ff_shapeNow_0
        rw [hB, bd_some, f1]
        have := X_shapeB h.s ht (sl (a_m_w m) 0 (85 + t)) (sl (a_m_w m) 0 1) (fa := w.2.2.2.2.2.2.2.2.2.2.2.2.2.2.1)
        rw [mX_in] at this
        rw [this, bd_some]
      rw [hsh]
      simp only [bd_some]
      simp only [mXd_we, mXd_ro, mFK_kind, mFK_weight, mFK_volume, mFK_load, mFK_hour]
      by_cases b1 : b = 1
      · rw [if_pos b1, if_pos b1]
        exact ⟨_, _, _, rfl, rfl, R_falP h _ _ _ _ _ _ _ h.pt2 _ _ _ _ _ _ _ _ _ _ _⟩
      · rw [if_neg b1, if_neg b1]
        exact ⟨_, _, _, rfl, rfl, R_falP h _ _ _ _ _ _ _ h.pt2 _ _ _ _ _ _ _ _ _ _ _⟩
    · simp only [if_neg c2]; exact ⟨_, _, _, rfl, rfl, hR⟩
  · simp only [if_neg c1]; exact ⟨_, _, _, rfl, rfl, hR⟩
theorem C_rests (h : R w m) (a b d : Int32) : Ok (fun n => Ff_rests_0 n a b d w) (fun n => Fm_rests_89 n a b d m) := Ok.of 20 fun n hn => by
  obtain ⟨w2, m2, e1, e2, hR⟩ := R_bad h
  have f2 : a_s1things_count w = sl (a_m_w m) 0 2 := h.s.k (k := 2) (by omega)
  have f0 : a_s1_cells w = sl (a_m_w m) 0 0 := h.s.k (k := 0) (by omega)
  simp only [Ff_rests_0, Fm_rests_89, has_7, M_isThing h.w, hasCell_1, M_isCell h.w, Ff_within_eq, Fm_in_eq d (lo := 0) (hi := 2) 0 2 rfl rfl, bd_some, ifz, e1, e2, f2, f0]
  by_cases c1 : C_th (sl (a_m_w m) 0 2) a
  · simp only [if_pos c1]
    by_cases c2 : C_cell (sl (a_m_w m) 0 0) b
    · simp only [if_pos c2]
      by_cases c3 : 0 ≤ d ∧ d ≤ 2
      · simp only [if_pos c3]
        obtain ⟨t, ht, rfl⟩ := th_N h.s.c2 (by decide) c1
        obtain ⟨c, hc, rfl⟩ := cell_N h.s.c0 (by decide) c2
        have h6 := h.s.c2.2.1
        have h7 := h.s.c0.2.1
        have q1 := h.s.c1.2.2
        have q2 := h.s.c1.2.1
        have hx := X_goN h.s (n := n) (t := t) (c := c) (by omega) ht (by omega) 0 (fa := w.2.2.2.2.2.2.2.2.2.2.2.2.2.2.1) h.pt
        rw [mX_in] at hx
        obtain ⟨H, hH⟩ : ∃ H, Nn (sl (a_m_w m) 0 1) = H := ⟨_, rfl⟩
        rw [hH] at q1 q2 hx
        rw [hx, M_lay h.w rfl (by omega)]
        simp only [bd_some]
        rw [q1, M_goT h.w rfl (n := n) (t := t) (c := c) (h := H) (by omega) (by omega) (by omega) h.sk]
        simp only [bd_some, tT_la, tT_dn, tT_br, mT_la, mT_dn, mT_br]
        by_cases d0 : d = 0
        · rw [if_pos d0, if_pos d0]
          exact ⟨_, _, _, rfl, rfl, R_falT h (tT_len _ _ _ _ _ _) _ _ _ _ _ _⟩
        rw [if_neg d0, if_neg d0]
        by_cases d1 : d = 1
        · rw [if_pos d1, if_pos d1]
          exact ⟨_, _, _, rfl, rfl, R_falT h (tT_len _ _ _ _ _ _) _ _ _ _ _ _⟩
        · rw [if_neg d1, if_neg d1]
          exact ⟨_, _, _, rfl, rfl, R_falT h (tT_len _ _ _ _ _ _) _ _ _ _ _ _⟩
      · simp only [if_neg c3]; exact ⟨_, _, _, rfl, rfl, hR⟩
    · simp only [if_neg c2]; exact ⟨_, _, _, rfl, rfl, hR⟩
  · simp only [if_neg c1]; exact ⟨_, _, _, rfl, rfl, hR⟩
end C40
