/-! the class's fall -/
abbrev TF : Type := Int32 × Int32 × Int32 × Int32 × Int32 × Int32 × Int32 × List Int32
/-- the class's world with another fall -/
def mkX (w : WX) (fa : TF) : WX := (w.1, w.2.1, w.2.2.1, w.2.2.2.1, w.2.2.2.2.1, w.2.2.2.2.2.1, w.2.2.2.2.2.2.1, w.2.2.2.2.2.2.2.1, w.2.2.2.2.2.2.2.2.1, w.2.2.2.2.2.2.2.2.2.1, w.2.2.2.2.2.2.2.2.2.2.1, w.2.2.2.2.2.2.2.2.2.2.2.1, w.2.2.2.2.2.2.2.2.2.2.2.2.1, w.2.2.2.2.2.2.2.2.2.2.2.2.2.1, fa, w.2.2.2.2.2.2.2.2.2.2.2.2.2.2.2)
section MKX
variable (w : WX) (a b c d e g k x : Int32) (p q : List Int32) (fa fb : TF)
theorem mX_in : mkX w w.2.2.2.2.2.2.2.2.2.2.2.2.2.2.1 = w := rfl
theorem mX_mX : mkX (mkX w fa) fb = mkX w fb := rfl
theorem mX_s : (mkX w fa).2.1 = w.2.1 := rfl
theorem mX_hour : a_s1_hour (mkX w fa) = a_s1_hour w := rfl
theorem mX_we : a_fall_weighs (mkX w (a, b, c, d, e, g, k, p)) = a := rfl
theorem mX_ro : a_fall_room (mkX w (a, b, c, d, e, g, k, p)) = b := rfl
theorem mX_fo : a_fall_force (mkX w (a, b, c, d, e, g, k, p)) = c := rfl
theorem mX_la : a_fall_layer (mkX w (a, b, c, d, e, g, k, p)) = d := rfl
theorem mX_dn : a_fall_down (mkX w (a, b, c, d, e, g, k, p)) = e := rfl
theorem mX_br : a_fall_broken (mkX w (a, b, c, d, e, g, k, p)) = g := rfl
theorem mX_st : a_fall_stopper (mkX w (a, b, c, d, e, g, k, p)) = k := rfl
theorem mX_pt : a_fall_passedThick (mkX w (a, b, c, d, e, g, k, p)) = p := rfl
theorem mX_dens : a_s1_densities (mkX w fa) = a_s1_densities w := rfl
theorem mX_skins : a_s1_skins (mkX w fa) = a_s1_skins w := rfl
theorem mXu_we : u_fall_weighs (mkX w (a, b, c, d, e, g, k, p)) x = mkX w (x, b, c, d, e, g, k, p) := rfl
theorem mXu_ro : u_fall_room (mkX w (a, b, c, d, e, g, k, p)) x = mkX w (a, x, c, d, e, g, k, p) := rfl
theorem mXu_fo : u_fall_force (mkX w (a, b, c, d, e, g, k, p)) x = mkX w (a, b, x, d, e, g, k, p) := rfl
theorem mXu_la : u_fall_layer (mkX w (a, b, c, d, e, g, k, p)) x = mkX w (a, b, c, x, e, g, k, p) := rfl
theorem mXu_dn : u_fall_down (mkX w (a, b, c, d, e, g, k, p)) x = mkX w (a, b, c, d, x, g, k, p) := rfl
theorem mXu_br : u_fall_broken (mkX w (a, b, c, d, e, g, k, p)) x = mkX w (a, b, c, d, e, x, k, p) := rfl
theorem mXu_st : u_fall_stopper (mkX w (a, b, c, d, e, g, k, p)) x = mkX w (a, b, c, d, e, g, x, p) := rfl
theorem mXu_pt : u_fall_passedThick (mkX w (a, b, c, d, e, g, k, p)) q = mkX w (a, b, c, d, e, g, k, q) := rfl
end MKX
theorem weightOf_eq (k w b h : Int32) : Ffall_weightOf k w b h = some (Wt k w b h) := by
  unfold Ffall_weightOf Wt
  by_cases k1 : k = 1
  · rw [if_pos k1, if_pos k1]
  rw [if_neg k1, if_neg k1]
  by_cases k2 : k = 2
  · rw [if_pos k2, if_pos k2]
  rw [if_neg k2, if_neg k2]
  by_cases k3 : k = 3
  · rw [if_pos k3, if_pos k3]
  rw [if_neg k3, if_neg k3]
theorem roomOf_eq (k v h : Int32) : Ffall_roomOf k v h = some (Ro k v h) := by
  unfold Ffall_roomOf Ro
  by_cases k2 : k = 2
  · rw [if_pos k2, if_pos k2]
  rw [if_neg k2, if_neg k2]
  by_cases k3 : k = 3
  · rw [if_pos k3, if_pos k3]
  rw [if_neg k3, if_neg k3]
  by_cases k4 : k = 4
  · rw [if_pos k4, if_pos k4]
  rw [if_neg k4, if_neg k4]
theorem forceOf_eq (k w : Int32) : Ffall_forceOf k w = some (Fo k w) := by
  unfold Ffall_forceOf Fo
  by_cases k2 : k = 2
  · rw [if_pos k2, if_pos k2]
  rw [if_neg k2, if_neg k2]
  by_cases k3 : k = 3
  · rw [if_pos k3, if_pos k3]
  rw [if_neg k3, if_neg k3]
  by_cases k4 : k = 4
  · rw [if_pos k4, if_pos k4]
  rw [if_neg k4, if_neg k4]
  by_cases k5 : k = 5
  · rw [if_pos k5, if_pos k5]
  rw [if_neg k5, if_neg k5]
theorem X_shape (W : WX) (k w v b h : Int32) (a0 b0 c0 d e g q : Int32) (p : List Int32) : Ffall_shape_81 k w v b h (mkX W (a0, b0, c0, d, e, g, q, p)) = some (mkX W (Wt k w b h, Ro k v h, Fo k (Wt k w b h), d, e, g, q, p)) := by
  unfold Ffall_shape_81
  rw [weightOf_eq, bd_some, roomOf_eq, bd_some, forceOf_eq, bd_some, mXu_we, mXu_ro, mXu_fo]
theorem X_getsThrough {W : WX} {f : Nat → Int32} (hs : RS W.2.1 W.2.2.1 W.2.2.2.1 f) {i : Nat} (hi : i < 3) (to a b c d e g q : Int32) (p : List Int32) : Ffall_getsThrough_81_1 (nI i) to (mkX W (a, b, c, d, e, g, q, p)) = if C_bit to (nI i) then some ((1 : Int32), mkX W (a, b, c, d, e, g, q, p)) else if f (64 + i) < c then some (1, mkX W (a, b, c, d, e, g ||| (1 <<< (nI i &&& 31)), q, p)) else some (0, mkX W (a, b, c, d, e, g, q, p)) := by
  unfold Ffall_getsThrough_81_1
  have l1 : (a_s1_skins W).length = 3 := LSe_skins hs.1
  have g1 : (a_s1_skins W).getD i 0 = f (64 + i) := hs.skins hi
  by_cases cb : C_bit to (nI i)
  · rw [if_pos cb, if_pos cb]
  · rw [if_neg cb, if_neg cb, mX_skins, ix_e (l := a_s1_skins W) i rfl (by omega) (by omega), bd_some, g1, mX_fo, mX_br, mXu_br]
theorem X_fallG {W : WX} {f : Nat → Int32} (hs : RS W.2.1 W.2.2.1 W.2.2.2.1 f) {c h : Nat} (hc : c < 6) (hh : h < 2 ^ 31) (to We Rm Fc : Int32) : ∀ (k i n : Nat) (la d b ps ly : Int32) (p : List Int32), i + k = 4 → k < n → p.length = 4 → (la = -1 ∨ (1 ≤ i ∧ ∃ j, j < 4 ∧ la = nI j)) → Gfall_letGo_81_1 n 0 (nI c) (nI h) to la (nI i) (mkX W (We, Rm, Fc, ly, d, b, -1, p)) = some (mkX W (We, Rm, Fc, (fS f c h to We Rm Fc k i la d b ps p).1, (fS f c h to We Rm Fc k i la d b ps p).2.1, (fS f c h to We Rm Fc k i la d b ps p).2.2.1, (fS f c h to We Rm Fc k i la d b ps p).2.2.2.1, (fS f c h to We Rm Fc k i la d b ps p).2.2.2.2.2)) := by
  intro k
  induction k with
  | zero =>
    intro i n la d b ps ly p hi hn hp hl
    obtain ⟨n, rfl⟩ : ∃ k, n = k + 1 := ⟨n - 1, by omega⟩
    rw [show i = 4 by omega, Gfall_letGo_81_1, if_pos (show (4 : Int32) ≤ nI 4 from Int32.le_refl _), mXu_la]
    rfl
  | succ k ih =>
    intro i n la d b ps ly p hi hn hp hl
    obtain ⟨n, rfl⟩ : ∃ k, n = k + 1 := ⟨n - 1, by omega⟩
    have step : nI i + 1 = nI (i + 1) := nI_1 i
    have l1 : (a_s1_densities W).length = 4 := LSe_dens hs.1
    have g1 : (a_s1_densities W).getD i 0 = f (8 + i) := hs.dens (by omega)
    have dg : ai_ix (a_s1_densities W) (nI i) = some (f (8 + i)) := by rw [ix_e (l := a_s1_densities W) i rfl (by omega) (by omega), g1]
    rw [Gfall_letGo_81_1, if_neg (show ¬ (4 : Int32) ≤ nI i from nI_ge (b := 4) (by omega) (by decide)), X_thickAt (W := mkX W (We, Rm, Fc, ly, d, b, -1, p)) (f := f) hs (by omega) hc hh]
    simp only [bd_some, step]
    unfold fS
    by_cases t0 : Tk f i c h = 0
    · rw [if_pos t0, if_pos t0]
      exact ih (i + 1) n la d b ps ly p (by omega) (by omega) hp (by
        rcases hl with q | ⟨q1, q2⟩
        · exact Or.inl q
        · exact Or.inr ⟨by omega, q2⟩)
    · rw [if_neg t0, if_neg t0]
      have goon : ∀ b' : Int32, (if (a_fall_room (mkX W (We, Rm, Fc, ly, d, b', -1, p))) * f (8 + i) < a_fall_weighs (mkX W (We, Rm, Fc, ly, d, b', -1, p)) then ai_bd (ai_up (a_fall_passedThick (mkX W (We, Rm, Fc, ly, d, b', -1, p))) (nI i) (Tk f i c h)) fun q1438 => Gfall_letGo_81_1 n 0 (nI c) (nI h) to (nI i) (nI (i + 1)) (u_fall_down (u_fall_passedThick (mkX W (We, Rm, Fc, ly, d, b', -1, p)) q1438) ((a_fall_down (mkX W (We, Rm, Fc, ly, d, b', -1, p))) + Tk f i c h)) else some (u_fall_layer (mkX W (We, Rm, Fc, ly, d, b', -1, p)) (nI i))) = some (mkX W (We, Rm, Fc, (if Rm * f (8 + i) < We then fS f c h to We Rm Fc k (i + 1) (nI i) (d + Tk f i c h) b' (ps ||| (1 <<< (nI i &&& 31))) (p.set i (Tk f i c h)) else (nI i, d, b', -1, ps, p)).1, (if Rm * f (8 + i) < We then fS f c h to We Rm Fc k (i + 1) (nI i) (d + Tk f i c h) b' (ps ||| (1 <<< (nI i &&& 31))) (p.set i (Tk f i c h)) else (nI i, d, b', -1, ps, p)).2.1, (if Rm * f (8 + i) < We then fS f c h to We Rm Fc k (i + 1) (nI i) (d + Tk f i c h) b' (ps ||| (1 <<< (nI i &&& 31))) (p.set i (Tk f i c h)) else (nI i, d, b', -1, ps, p)).2.2.1, (if Rm * f (8 + i) < We then fS f c h to We Rm Fc k (i + 1) (nI i) (d + Tk f i c h) b' (ps ||| (1 <<< (nI i &&& 31))) (p.set i (Tk f i c h)) else (nI i, d, b', -1, ps, p)).2.2.2.1, (if Rm * f (8 + i) < We then fS f c h to We Rm Fc k (i + 1) (nI i) (d + Tk f i c h) b' (ps ||| (1 <<< (nI i &&& 31))) (p.set i (Tk f i c h)) else (nI i, d, b', -1, ps, p)).2.2.2.2.2)) := by
        intro b'
        rw [mX_ro, mX_we, mX_pt, mX_dn, mXu_la]
        by_cases q : Rm * f (8 + i) < We
        · simp only [if_pos q]
          rw [up_e (l := p) (i := nI i) (Tk f i c h) i rfl (by omega) (by omega), bd_some, mXu_pt, mXu_dn]
          exact ih (i + 1) n (nI i) _ b' _ ly _ (by omega) (by omega) (by rw [List.length_set]; exact hp) (Or.inr ⟨by omega, i, by omega, rfl⟩)
        · simp only [if_neg q]
      by_cases l0 : la = -1
      · simp only [if_pos l0, mX_dens, dg, bd_some]
        exact goon b
      · simp only [if_neg l0]
        rcases hl with q | ⟨hi1, j, hj, hla⟩
        · exact absurd q l0
        have ei : nI i - 1 = nI (i - 1) := pk_sub (a := i) (b := 1) (by omega)
        rw [ei, X_getsThrough hs (by omega)]
        by_cases cb : C_bit to (nI (i - 1))
        · simp only [if_pos cb, bd_some]
          rw [if_neg (show ¬ (1 : Int32) = 0 by decide), mX_dens, dg, bd_some]
          exact goon b
        · simp only [if_neg cb]
          by_cases cf : f (64 + (i - 1)) < Fc
          · simp only [if_pos cf, bd_some]
            rw [if_neg (show ¬ (1 : Int32) = 0 by decide), mX_dens, dg, bd_some]
            exact goon _
          · simp only [if_neg cf, bd_some]
            rw [if_pos trivial, mXu_st, mXu_la]
theorem X_letGo {W : WX} {f : Nat → Int32} (hs : RS W.2.1 W.2.2.1 W.2.2.2.1 f) {c h n : Nat} (hn : 6 ≤ n) (hc : c < 6) (hh : h < 2 ^ 31) (to We Rm Fc : Int32) (ly d b q : Int32) {p : List Int32} (hp : p.length = 4) : Ffall_letGo_81_1 n (nI c) (nI h) to (mkX W (We, Rm, Fc, ly, d, b, q, p)) = some (mkX W (We, Rm, Fc, (fS f c h to We Rm Fc 4 0 (-1) 0 0 0 [0, 0, 0, 0]).1, (fS f c h to We Rm Fc 4 0 (-1) 0 0 0 [0, 0, 0, 0]).2.1, (fS f c h to We Rm Fc 4 0 (-1) 0 0 0 [0, 0, 0, 0]).2.2.1, (fS f c h to We Rm Fc 4 0 (-1) 0 0 0 [0, 0, 0, 0]).2.2.2.1, (fS f c h to We Rm Fc 4 0 (-1) 0 0 0 [0, 0, 0, 0]).2.2.2.2.2)) := by
  unfold Ffall_letGo_81_1 Ffall_forget_81
  rw [mXu_dn, mXu_br, mXu_st, fill_82 0 (N := 4) (n := n) (by decide) (by omega) (w := mkX W (We, Rm, Fc, ly, 0, 0, -1, p)) hp, bd_some, bd_some, mXu_pt]
  exact X_fallG hs hc hh to We Rm Fc 4 0 n (-1) 0 0 0 ly _ (by omega) (by omega) rfl (Or.inl rfl)
/-- a fall never loses its row of four -/
theorem fS_len (f : Nat → Int32) (c h : Nat) (to We Rm Fc : Int32) : ∀ (k i : Nat) (la d b ps : Int32) (p : List Int32), p.length = 4 → (fS f c h to We Rm Fc k i la d b ps p).2.2.2.2.2.length = 4 := by
  intro k
  induction k with
  | zero => intro i la d b ps p hp; exact hp
  | succ k ih =>
    intro i la d b ps p hp
    have hs : (p.set i (Tk f i c h)).length = 4 := by rw [List.length_set]; exact hp
    unfold fS
    by_cases t0 : Tk f i c h = 0
    · rw [if_pos t0]; exact ih _ _ _ _ _ _ hp
    rw [if_neg t0]
    by_cases q : Rm * f (8 + i) < We
    · simp only [if_pos q]
      by_cases l0 : la = -1
      · rw [if_pos l0]; exact ih _ _ _ _ _ _ hs
      rw [if_neg l0]
      by_cases cb : C_bit to (nI (i - 1))
      · rw [if_pos cb]; exact ih _ _ _ _ _ _ hs
      rw [if_neg cb]
      by_cases cf : f (64 + (i - 1)) < Fc
      · rw [if_pos cf]; exact ih _ _ _ _ _ _ hs
      · rw [if_neg cf]; exact hp
    · simp only [if_neg q]
      by_cases l0 : la = -1
      · rw [if_pos l0]; exact hp
      rw [if_neg l0]
      by_cases cb : C_bit to (nI (i - 1))
      · rw [if_pos cb]; exact hp
      rw [if_neg cb]
      by_cases cf : f (64 + (i - 1)) < Fc
      · rw [if_pos cf]; exact hp
      · rw [if_neg cf]; exact hp
/-- the fall of thing t with ballast b in cell c in hour h -/
def fT (f : Nat → Int32) (t c h : Nat) (b to : Int32) : FR := fS f c h to (Wt (f (67 + t)) (f (73 + t)) b (nI h)) (Ro (f (67 + t)) (f (79 + t)) (nI h)) (Fo (f (67 + t)) (Wt (f (67 + t)) (f (73 + t)) b (nI h))) 4 0 (-1) 0 0 0 [0, 0, 0, 0]
def tT (f : Nat → Int32) (t c h : Nat) (b to : Int32) : TF := (Wt (f (67 + t)) (f (73 + t)) b (nI h), Ro (f (67 + t)) (f (79 + t)) (nI h), Fo (f (67 + t)) (Wt (f (67 + t)) (f (73 + t)) b (nI h)), (fT f t c h b to).1, (fT f t c h b to).2.1, (fT f t c h b to).2.2.1, (fT f t c h b to).2.2.2.1, (fT f t c h b to).2.2.2.2.2)
theorem tT_len (f : Nat → Int32) (t c h : Nat) (b to : Int32) : (tT f t c h b to).2.2.2.2.2.2.2.length = 4 := fS_len f c h to _ _ _ 4 0 (-1) 0 0 0 [0, 0, 0, 0] rfl
theorem X_shapeB {W : WX} {f : Nat → Int32} (hs : RS W.2.1 W.2.2.1 W.2.2.2.1 f) {t : Nat} (ht : t < Nn (f 2)) (b h : Int32) {fa : TF} : Ff_shapeWithBallast_0 (nI t) b h (mkX W fa) = some (mkX W (Wt (f (67 + t)) (f (73 + t)) b h, Ro (f (67 + t)) (f (79 + t)) h, Fo (f (67 + t)) (Wt (f (67 + t)) (f (73 + t)) b h), fa.2.2.2.1, fa.2.2.2.2.1, fa.2.2.2.2.2.1, fa.2.2.2.2.2.2.1, fa.2.2.2.2.2.2.2)) := by
  have h6 := hs.c2.2.1
  obtain ⟨k1, k2, k3, k4⟩ := hs.th ht
  have l1 : (a_s1things_kinds W).length = 6 := LSe_kinds hs.1
  have l2 : (a_s1things_weights W).length = 6 := LSe_weights hs.1
  have l3 : (a_s1things_volumes W).length = 6 := LSe_volumes hs.1
  obtain ⟨f1, f2, f3, f4, f5, f6, f7, f8⟩ := fa
  unfold Ff_shapeWithBallast_0
  have e1 : ai_ix (a_s1things_kinds (mkX W (f1, f2, f3, f4, f5, f6, f7, f8))) (nI t) = some (f (67 + t)) := by rw [← k1]; exact ix_e (l := a_s1things_kinds W) t rfl (by omega) (by omega)
  have e2 : ai_ix (a_s1things_weights (mkX W (f1, f2, f3, f4, f5, f6, f7, f8))) (nI t) = some (f (73 + t)) := by rw [← k2]; exact ix_e (l := a_s1things_weights W) t rfl (by omega) (by omega)
  have e3 : ai_ix (a_s1things_volumes (mkX W (f1, f2, f3, f4, f5, f6, f7, f8))) (nI t) = some (f (79 + t)) := by rw [← k3]; exact ix_e (l := a_s1things_volumes W) t rfl (by omega) (by omega)
  rw [e1, bd_some, e2, bd_some, e3, bd_some, X_shape, bd_some]
theorem X_goB {W : WX} {f : Nat → Int32} (hs : RS W.2.1 W.2.2.1 W.2.2.2.1 f) {t c h n : Nat} (hn : 6 ≤ n) (ht : t < Nn (f 2)) (hc : c < 6) (hh : h < 2 ^ 31) (b : Int32) {fa : TF} (hp : fa.2.2.2.2.2.2.2.length = 4) : Ff_letGoWithBallast_0 n (nI t) (nI c) b (nI h) (mkX W fa) = some (mkX W (tT f t c h b 0)) := by
  unfold Ff_letGoWithBallast_0
  rw [X_shapeB hs ht b (nI h), bd_some, X_letGo hs hn hc hh 0 _ _ _ _ _ _ _ hp, bd_some]
  rfl
theorem X_goN {W : WX} {f : Nat → Int32} (hs : RS W.2.1 W.2.2.1 W.2.2.2.1 f) {t c n : Nat} (hn : 6 ≤ n) (ht : t < Nn (f 2)) (hc : c < 6) (to : Int32) {fa : TF} (hp : fa.2.2.2.2.2.2.2.length = 4) : Ff_letGoNow_0 n (nI t) (nI c) to (mkX W fa) = some (mkX W (tT f t c (Nn (f 1)) (f (85 + t)) to)) := by
  have h6 := hs.c2.2.1
  obtain ⟨k1, k2, k3, k4⟩ := hs.th ht
  have l4 : (a_s1things_ballasts W).length = 6 := LSe_ballasts hs.1
  have q1 := hs.c1.2.2
  have q2 := hs.c1.2.1
  obtain ⟨H, hH⟩ : ∃ H, Nn (f 1) = H := ⟨_, rfl⟩
  rw [hH] at q1 q2 ⊢
  have e1 : a_s1_hour W = nI H := (hs.k (k := 1) (by omega)).trans q1
  have e4 : ai_ix (a_s1things_ballasts (mkX W fa)) (nI t) = some (f (85 + t)) := by rw [← k4]; exact ix_e (l := a_s1things_ballasts W) t rfl (by omega) (by omega)
  unfold Ff_letGoNow_0 Ff_shapeNow_0
  rw [e4, bd_some, mX_hour, e1, X_shapeB hs ht (f (85 + t)) (nI H), bd_some, bd_some, mX_hour, e1, X_letGo hs hn hc (h := H) (by omega) to (Wt (f (67 + t)) (f (73 + t)) (f (85 + t)) (nI H)) (Ro (f (67 + t)) (f (79 + t)) (nI H)) (Fo (f (67 + t)) (Wt (f (67 + t)) (f (73 + t)) (f (85 + t)) (nI H))) fa.2.2.2.1 fa.2.2.2.2.1 fa.2.2.2.2.2.1 fa.2.2.2.2.2.2.1 hp, bd_some]
  rfl
