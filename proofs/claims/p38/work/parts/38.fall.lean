/-! how a thing falls: one word for both -/
/-- how thick a layer is in a cell in an hour -/
def Tk (f : Nat → Int32) (l c h : Nat) : Int32 := if 0 < f (40 + (6 * l + c)) + f (16 + (6 * l + h % 6)) then f (40 + (6 * l + c)) + f (16 + (6 * l + h % 6)) else 0
theorem Tk_pos (f : Nat → Int32) (l c h : Nat) : 0 ≤ Tk f l c h := by
  unfold Tk
  by_cases q : 0 < f (40 + (6 * l + c)) + f (16 + (6 * l + h % 6))
  · rw [if_pos q]; exact Int32.le_of_lt q
  · rw [if_neg q]; exact Int32.le_refl _
theorem Tk_le0 (f : Nat → Int32) (l c h : Nat) : Tk f l c h ≤ 0 ↔ Tk f l c h = 0 := ⟨fun q => Int32.le_antisymm q (Tk_pos f l c h), fun q => by rw [q]; exact Int32.le_refl _⟩
theorem rem6 {h : Nat} (hh : h < 2 ^ 31) : nI h - nI h / 6 * 6 = nI (h % 6) := pk_rem (d := 6) hh (by decide) (by decide)
theorem X_thickAt {W : WX} {f : Nat → Int32} (hs : RS W.2.1 W.2.2.1 W.2.2.2.1 f) {l c h : Nat} (hl : l < 4) (hc : c < 6) (hh : h < 2 ^ 31) : Fsea_thickAt_1 (nI l) (nI c) (nI h) W = some (Tk f l c h, W) := by
  unfold Fsea_thickAt_1
  have e1 : nI l * 6 + nI c = nI (6 * l + c) := by rw [show (6 : Int32) = nI 6 from rfl, pk_mul, nI_add, Nat.mul_comm]
  have e2 : nI l * 6 + (nI h - nI h / 6 * 6) = nI (6 * l + h % 6) := by rw [rem6 hh, show (6 : Int32) = nI 6 from rfl, pk_mul, nI_add, Nat.mul_comm]
  have l1 : (a_s1_thicks W).length = 24 := LSe_thicks hs.1
  have l2 : (a_s1_tides W).length = 24 := LSe_tides hs.1
  have hm : h % 6 < 6 := Nat.mod_lt _ (by decide)
  have g1 : (a_s1_thicks W).getD (6 * l + c) 0 = f (40 + (6 * l + c)) := hs.thicks (by omega)
  have g2 : (a_s1_tides W).getD (6 * l + h % 6) 0 = f (16 + (6 * l + h % 6)) := hs.tides (by omega)
  rw [ix_e (l := a_s1_thicks W) (6 * l + c) e1 (by omega) (by omega), bd_some, ix_e (l := a_s1_tides W) (6 * l + h % 6) e2 (by omega) (by omega), bd_some, g1, g2]
  rfl
theorem M_thickIn {m : WM} (hw : (a_m_w m).length = 596) {l c h : Nat} (hl : l < 4) (hc : c < 6) (hh : h < 2 ^ 31) : Fm_thickIn_89 (nI l) (nI c) (nI h) m = some (Tk (sl (a_m_w m) 0) l c h, m) := by
  unfold Fm_thickIn_89 Tk
  have hm : h % 6 < 6 := Nat.mod_lt _ (by decide)
  rw [m_ix0 hw (x := (40 + (6 * nI l)) + nI c) (40 + (6 * l + c)) (by rw [show (6 : Int32) = nI 6 from rfl, show (40 : Int32) = nI 40 from rfl, pk_mul, nI_add, nI_add]; congr 1; omega) (by omega), bd_some, m_ix0 hw (x := (16 + (6 * nI l)) + (nI h - nI h / 6 * 6)) (16 + (6 * l + h % 6)) (by rw [rem6 hh, show (6 : Int32) = nI 6 from rfl, show (16 : Int32) = nI 16 from rfl, pk_mul, nI_add, nI_add]; congr 1; omega) (by omega), bd_some]
  generalize sl (a_m_w m) 0 (40 + (6 * l + c)) + sl (a_m_w m) 0 (16 + (6 * l + h % 6)) = z
  by_cases c1 : 0 < z
  · rw [if_pos (Int32.le_of_lt c1), if_pos c1]
  · rw [if_neg c1]
    by_cases c2 : 0 ≤ z
    · rw [if_pos c2, Int32.le_antisymm (Int32.not_lt.mp c1) c2]
    · rw [if_neg c2]
/-- what it weighs, its room, what it breaks -/
def Wt (k w b h : Int32) : Int32 := if k = 1 then w + b else if k = 2 then w + b else if k = 3 then (w + b) + (2 * (if 10 < h then 10 else h)) else w
def Ro (k v h : Int32) : Int32 := if k = 2 then v + 1 else if k = 3 then v + 1 else if k = 4 then v + (if 5 < (h / 4) then 5 else (h / 4)) else v
def Fo (k w : Int32) : Int32 := if k = 2 then w / 2 else if k = 3 then 100 else if k = 4 then w else if k = 5 then 0 else w
theorem lesser_eq (x y : Int32) : Fm_lesser x y = some (if y < x then y else x) := by
  unfold Fm_lesser
  by_cases c : y < x
  · rw [if_pos c, if_pos (Int32.le_of_lt c)]
  · rw [if_neg c]
    by_cases d : y ≤ x
    · rw [if_pos d, Int32.le_antisymm d (Int32.not_lt.mp c)]
    · rw [if_neg d]
theorem M_weighs (m : WM) : Fm_weighs_89 m = some (Wt (a_m_kind m) (a_m_weight m) (a_m_load m) (a_m_hour m), m) := by
  unfold Fm_weighs_89 Wt
  simp only [lesser_eq, bd_some, Int32.add_zero]
  by_cases k1 : a_m_kind m = 1
  · rw [if_pos k1, if_neg (by rw [k1]; decide), if_pos k1]
  rw [if_neg k1, if_neg k1]
  by_cases k2 : a_m_kind m = 2
  · rw [if_pos k2, if_neg (by rw [k2]; decide), if_pos k2]
  rw [if_neg k2, if_neg k2]
  by_cases k3 : a_m_kind m = 3
  · rw [if_pos k3, if_pos k3, if_pos k3]
  rw [if_neg k3, if_neg k3, if_neg k3]
theorem M_room (m : WM) : Fm_room_89 m = some (Ro (a_m_kind m) (a_m_volume m) (a_m_hour m), m) := by
  unfold Fm_room_89 Ro
  simp only [lesser_eq, bd_some, Int32.add_zero]
  by_cases k2 : a_m_kind m = 2
  · rw [if_pos k2, if_pos k2]
  rw [if_neg k2, if_neg k2]
  by_cases k3 : a_m_kind m = 3
  · rw [if_pos k3, if_pos k3]
  rw [if_neg k3, if_neg k3]
  by_cases k4 : a_m_kind m = 4
  · rw [if_pos k4, if_pos k4]
  rw [if_neg k4, if_neg k4]
theorem M_breaks {m : WM} (hw : (a_m_w m).length = 596) {i : Nat} (hi : i < 3) (hb : isN (sl (a_m_w m) 0 (64 + i)) 0 99) : Fm_breaks_89 (nI i) m = some (if C_bit (a_m_torn m) (nI i) ∨ sl (a_m_w m) 0 (64 + i) < Fo (a_m_kind m) (Wt (a_m_kind m) (a_m_weight m) (a_m_load m) (a_m_hour m)) then 1 else 0, m) := by
  unfold Fm_breaks_89
  rw [Fm_has_eq, bd_some, ifz]
  by_cases c : C_bit (a_m_torn m) (nI i)
  · rw [if_pos c, if_pos (Or.inl c)]
  · rw [if_neg c, m_ix0 hw (x := 64 + nI i) (64 + i) (by rw [show (64 : Int32) = nI 64 from rfl, nI_add]) (by omega), bd_some, M_weighs]
    simp only [bd_some]
    generalize Wt (a_m_kind m) (a_m_weight m) (a_m_load m) (a_m_hour m) = z
    have b0 := hb.int (by decide)
    have b1 := hb.2.1
    generalize sl (a_m_w m) 0 (64 + i) = y at *
    unfold Fo
    by_cases k3 : a_m_kind m = 3
    · rw [if_pos k3, if_neg (show ¬ a_m_kind m = 2 by rw [k3]; decide), if_pos k3, if_pos (Or.inr (Int32.lt_iff_toInt_lt.mpr (by show y.toInt < 100; omega)))]
    rw [if_neg k3]
    by_cases k5 : a_m_kind m = 5
    · rw [if_pos k5, if_neg (show ¬ a_m_kind m = 2 by rw [k5]; decide), if_neg k3, if_neg (show ¬ a_m_kind m = 4 by rw [k5]; decide), if_pos k5, if_neg (fun q => by
        rcases q with q | q
        · exact c q
        · have := Int32.lt_iff_toInt_lt.mp q
          have z0 : (0 : Int32).toInt = 0 := rfl
          omega)]
    rw [if_neg k5]
    by_cases k2 : a_m_kind m = 2
    · rw [if_pos k2, if_pos k2]
      by_cases q : z / 2 ≤ y
      · rw [if_pos q, if_neg (fun o => o.elim c (fun o => absurd o (Int32.not_lt.mpr q)))]
      · rw [if_neg q, if_pos (Or.inr (Int32.not_le.mp q))]
    · rw [if_neg k2, if_neg k2, if_neg k3]
      have e : (if a_m_kind m = 4 then z else if a_m_kind m = 5 then 0 else z) = z := by
        by_cases k4 : a_m_kind m = 4
        · rw [if_pos k4]
        · rw [if_neg k4, if_neg k5]
      rw [e]
      by_cases q : z ≤ y
      · rw [if_pos q, if_neg (fun o => o.elim c (fun o => absurd o (Int32.not_lt.mpr q)))]
      · rw [if_neg q, if_pos (Or.inr (Int32.not_le.mp q))]
/-- the fall: layer, down, broken, stopper, passes, what it passed -/
abbrev FR : Type := Int32 × Int32 × Int32 × Int32 × Int32 × List Int32
def fS (f : Nat → Int32) (c h : Nat) (to W Rm Fc : Int32) : Nat → Nat → Int32 → Int32 → Int32 → Int32 → List Int32 → FR
  | 0, _, _, d, b, ps, p => (4, d, b, -1, ps, p)
  | k + 1, i, la, d, b, ps, p =>
    if Tk f i c h = 0 then fS f c h to W Rm Fc k (i + 1) la d b ps p else
    if la = -1 then
      if Rm * f (8 + i) < W then fS f c h to W Rm Fc k (i + 1) (nI i) (d + Tk f i c h) b (ps ||| (1 <<< (nI i &&& 31))) (p.set i (Tk f i c h)) else (nI i, d, b, -1, ps, p)
    else
      if C_bit to (nI (i - 1)) then
        if Rm * f (8 + i) < W then fS f c h to W Rm Fc k (i + 1) (nI i) (d + Tk f i c h) b (ps ||| (1 <<< (nI i &&& 31))) (p.set i (Tk f i c h)) else (nI i, d, b, -1, ps, p)
      else
        if f (64 + (i - 1)) < Fc then
          if Rm * f (8 + i) < W then fS f c h to W Rm Fc k (i + 1) (nI i) (d + Tk f i c h) (b ||| (1 <<< (nI (i - 1) &&& 31))) (ps ||| (1 <<< (nI i &&& 31))) (p.set i (Tk f i c h)) else (nI i, d, b ||| (1 <<< (nI (i - 1) &&& 31)), -1, ps, p)
        else (la, d, b, nI (i - 1), ps, p)
/-- the reference's world with the five numbers of a fall -/
def mkF (m : WM) (a b c d e : Int32) : WM := (m.1, m.2.1, m.2.2.1, m.2.2.2.1, m.2.2.2.2.1, m.2.2.2.2.2.1, m.2.2.2.2.2.2.1, m.2.2.2.2.2.2.2.1, m.2.2.2.2.2.2.2.2.1, m.2.2.2.2.2.2.2.2.2.1, m.2.2.2.2.2.2.2.2.2.2.1, m.2.2.2.2.2.2.2.2.2.2.2.1, m.2.2.2.2.2.2.2.2.2.2.2.2.1, m.2.2.2.2.2.2.2.2.2.2.2.2.2.1, m.2.2.2.2.2.2.2.2.2.2.2.2.2.2.1, m.2.2.2.2.2.2.2.2.2.2.2.2.2.2.2.1, m.2.2.2.2.2.2.2.2.2.2.2.2.2.2.2.2.1, m.2.2.2.2.2.2.2.2.2.2.2.2.2.2.2.2.2.1, m.2.2.2.2.2.2.2.2.2.2.2.2.2.2.2.2.2.2.1, a, b, c, d, e, m.2.2.2.2.2.2.2.2.2.2.2.2.2.2.2.2.2.2.2.2.2.2.2.2)
section MKF
variable (m : WM) (a b c d e x : Int32)
theorem mF_w : a_m_w (mkF m a b c d e) = a_m_w m := rfl
theorem mF_kind : a_m_kind (mkF m a b c d e) = a_m_kind m := rfl
theorem mF_weight : a_m_weight (mkF m a b c d e) = a_m_weight m := rfl
theorem mF_volume : a_m_volume (mkF m a b c d e) = a_m_volume m := rfl
theorem mF_load : a_m_load (mkF m a b c d e) = a_m_load m := rfl
theorem mF_hour : a_m_hour (mkF m a b c d e) = a_m_hour m := rfl
theorem mF_torn : a_m_torn (mkF m a b c d e) = a_m_torn m := rfl
theorem mF_ri : a_m_restsIn (mkF m a b c d e) = a := rfl
theorem mF_dn : a_m_down (mkF m a b c d e) = b := rfl
theorem mF_br : a_m_broken (mkF m a b c d e) = c := rfl
theorem mF_ps : a_m_passes (mkF m a b c d e) = d := rfl
theorem mF_st : a_m_stops (mkF m a b c d e) = e := rfl
theorem mFu_ri : u_m_restsIn (mkF m a b c d e) x = mkF m x b c d e := rfl
theorem mFu_dn : u_m_down (mkF m a b c d e) x = mkF m a x c d e := rfl
theorem mFu_br : u_m_broken (mkF m a b c d e) x = mkF m a b x d e := rfl
theorem mFu_ps : u_m_passes (mkF m a b c d e) x = mkF m a b c x e := rfl
theorem mFu_st : u_m_stops (mkF m a b c d e) x = mkF m a b c d x := rfl
theorem mFu_ri0 : u_m_restsIn m x = mkF m x (a_m_down m) (a_m_broken m) (a_m_passes m) (a_m_stops m) := rfl
end MKF
theorem mkF_in (m : WM) : u_m_stops (u_m_passes (u_m_broken (u_m_down (u_m_restsIn m 4) 0) 0) 0) (-1) = mkF m 4 0 0 0 (-1) := by
  rw [mFu_ri0, mFu_dn, mFu_br, mFu_ps, mFu_st]
theorem or0 (x : Int32) : x ||| 0 = x := by simp
theorem M_out {m : WM} {n i : Nat} {x la : Int32} {r b d e g : Int32} (hi : i ≤ 4) (hr : ¬ r = 4) : Gm_comesDown_89 (n + 1) 0 x la (nI i) (mkF m r b d e g) = some (mkF m r b d e g) := by
  rw [Gm_comesDown_89]
  by_cases c : (4 : Int32) ≤ nI i
  · rw [if_pos c]
  · rw [if_neg c, mF_ri, if_neg hr]
theorem M_fallG {m : WM} (hw : (a_m_w m).length = 596) {f : Nat → Int32} (hf : sl (a_m_w m) 0 = f) {c h : Nat} (hc : c < 6) (hh : h < 2 ^ 31) (eh : a_m_hour m = nI h) (hsk : ∀ i, i < 3 → isN (f (64 + i)) 0 99) {to W Rm Fc : Int32} (et : a_m_torn m = to) (eW : Wt (a_m_kind m) (a_m_weight m) (a_m_load m) (a_m_hour m) = W) (eR : Ro (a_m_kind m) (a_m_volume m) (a_m_hour m) = Rm) (eF : Fo (a_m_kind m) W = Fc) : ∀ (k i n : Nat) (la d b ps : Int32) (p : List Int32), i + k = 4 → k + 1 < n → (la = -1 ∨ (1 ≤ i ∧ ∃ j, j < 4 ∧ la = nI j)) → Gm_comesDown_89 n 0 (nI c) la (nI i) (mkF m 4 d b ps (-1)) = some (mkF m (fS f c h to W Rm Fc k i la d b ps p).1 (fS f c h to W Rm Fc k i la d b ps p).2.1 (fS f c h to W Rm Fc k i la d b ps p).2.2.1 (fS f c h to W Rm Fc k i la d b ps p).2.2.2.2.1 (fS f c h to W Rm Fc k i la d b ps p).2.2.2.1) := by
  intro k
  induction k with
  | zero =>
    intro i n la d b ps p hi hn hl
    obtain ⟨n, rfl⟩ : ∃ k, n = k + 1 := ⟨n - 1, by omega⟩
    rw [show i = 4 by omega, Gm_comesDown_89, if_pos (show (4 : Int32) ≤ nI 4 from Int32.le_refl _)]
    rfl
  | succ k ih =>
    intro i n la d b ps p hi hn hl
    obtain ⟨n, rfl⟩ : ∃ k, n = k + 1 := ⟨n - 1, by omega⟩
    obtain ⟨n', hn'⟩ : ∃ k, n = k + 1 := ⟨n - 1, by omega⟩
    have hw' : ∀ a b c d e, (a_m_w (mkF m a b c d e)).length = 596 := fun _ _ _ _ _ => hw
    have tk : ∀ a b c2 d e, Fm_thickIn_89 (nI i) (nI c) (a_m_hour (mkF m a b c2 d e)) (mkF m a b c2 d e) = some (Tk f i c h, mkF m a b c2 d e) := fun a b c2 d e => by
      rw [mF_hour, eh, M_thickIn (hw' a b c2 d e) (by omega) hc hh, mF_w, hf]
    have wg : ∀ a b c2 d e, Fm_weighs_89 (mkF m a b c2 d e) = some (W, mkF m a b c2 d e) := fun a b c2 d e => by
      rw [M_weighs, mF_kind, mF_weight, mF_load, mF_hour, eW]
    have rg : ∀ a b c2 d e, Fm_room_89 (mkF m a b c2 d e) = some (Rm, mkF m a b c2 d e) := fun a b c2 d e => by
      rw [M_room, mF_kind, mF_volume, mF_hour, eR]
    have dg : ai_ix (a_m_w m) (8 + nI i) = some (f (8 + i)) := by
      rw [m_ix0 hw (x := 8 + nI i) (8 + i) (by rw [show (8 : Int32) = nI 8 from rfl, nI_add]) (by omega), hf]
    have step : nI i + 1 = nI (i + 1) := nI_1 i
    rw [Gm_comesDown_89, if_neg (show ¬ (4 : Int32) ≤ nI i from nI_ge (b := 4) (by omega) (by decide)), mF_ri, if_pos rfl, mF_st, if_pos rfl, tk]
    simp only [bd_some, wg, rg, mF_w, dg, mFu_br, mF_br, mFu_ps, mF_ps, mFu_dn, mF_dn, mFu_ri, mFu_st, or0, step, mF_torn, et, Fm_has_eq, ifz]
    unfold fS
    by_cases t0 : Tk f i c h = 0
    · have t1 : Tk f i c h ≤ 0 := (Tk_le0 f i c h).mpr t0
      rw [if_pos t1, if_pos t1, if_pos t0]
      exact ih (i + 1) n la d b ps p (by omega) (by omega) (by
        rcases hl with q | ⟨q1, q2⟩
        · exact Or.inl q
        · exact Or.inr ⟨by omega, q2⟩)
    · have t1 : ¬ Tk f i c h ≤ 0 := fun q => t0 ((Tk_le0 f i c h).mp q)
      rw [if_neg t1, if_neg t0]
      simp only [if_neg t1]
      have goon : ∀ b' : Int32, (if Rm * f (8 + i) < W then Gm_comesDown_89 n 0 (nI c) (nI i) (nI (i + 1)) (mkF m 4 (d + Tk f i c h) b' (ps ||| (1 <<< (nI i &&& 31))) (-1)) else Gm_comesDown_89 n 0 (nI c) la (nI (i + 1)) (mkF m (nI i) d b' ps (-1))) = some (mkF m (if Rm * f (8 + i) < W then fS f c h to W Rm Fc k (i + 1) (nI i) (d + Tk f i c h) b' (ps ||| (1 <<< (nI i &&& 31))) (p.set i (Tk f i c h)) else (nI i, d, b', -1, ps, p)).1 (if Rm * f (8 + i) < W then fS f c h to W Rm Fc k (i + 1) (nI i) (d + Tk f i c h) b' (ps ||| (1 <<< (nI i &&& 31))) (p.set i (Tk f i c h)) else (nI i, d, b', -1, ps, p)).2.1 (if Rm * f (8 + i) < W then fS f c h to W Rm Fc k (i + 1) (nI i) (d + Tk f i c h) b' (ps ||| (1 <<< (nI i &&& 31))) (p.set i (Tk f i c h)) else (nI i, d, b', -1, ps, p)).2.2.1 (if Rm * f (8 + i) < W then fS f c h to W Rm Fc k (i + 1) (nI i) (d + Tk f i c h) b' (ps ||| (1 <<< (nI i &&& 31))) (p.set i (Tk f i c h)) else (nI i, d, b', -1, ps, p)).2.2.2.2.1 (if Rm * f (8 + i) < W then fS f c h to W Rm Fc k (i + 1) (nI i) (d + Tk f i c h) b' (ps ||| (1 <<< (nI i &&& 31))) (p.set i (Tk f i c h)) else (nI i, d, b', -1, ps, p)).2.2.2.1) := by
        intro b'
        by_cases q : Rm * f (8 + i) < W
        · simp only [if_pos q]
          exact ih (i + 1) n (nI i) _ b' _ _ (by omega) (by omega) (Or.inr ⟨by omega, i, by omega, rfl⟩)
        · simp only [if_neg q]
          rw [hn', M_out (by omega) (show ¬ nI i = 4 from fun z => by have := (nI_eq (a := i) (b := 4) (by omega) (by decide)).mp z; omega)]
      by_cases l0 : la = -1
      · simp only [if_pos l0]
        exact goon b
      · simp only [if_neg l0]
        rcases hl with q | ⟨hi1, j, hj, hla⟩
        · exact absurd q l0
        have ei : nI i - 1 = nI (i - 1) := pk_sub (a := i) (b := 1) (by omega)
        rw [ei]
        have bk : ∀ a b c2 d e, Fm_breaks_89 (nI (i - 1)) (mkF m a b c2 d e) = some (if C_bit to (nI (i - 1)) ∨ f (64 + (i - 1)) < Fc then 1 else 0, mkF m a b c2 d e) := fun a b c2 d e => by
          rw [M_breaks (hw' a b c2 d e) (by omega) (by rw [mF_w, hf]; exact hsk _ (by omega)), mF_torn, mF_w, hf, mF_kind, mF_weight, mF_load, mF_hour, eW, et, eF]
        rw [bk]
        simp only [bd_some, ifz, mFu_br, mF_br, mF_torn, wg, rg, mF_w, dg, mFu_ps, mF_ps, mFu_dn, mF_dn, mFu_ri, mFu_st, et]
        by_cases cb : C_bit to (nI (i - 1))
        · rw [if_pos (Or.inl cb)]
          simp only [if_pos cb]
          exact goon b
        · simp only [if_neg cb]
          by_cases cf : f (64 + (i - 1)) < Fc
          · rw [if_pos (Or.inr cf)]
            simp only [if_pos cf]
            exact goon _
          · rw [if_neg (fun o => o.elim cb cf)]
            simp only [if_neg cf]
            rw [hla, hn', M_out (by omega) (show ¬ nI j = 4 from fun z => by have := (nI_eq (a := j) (b := 4) (by omega) (by decide)).mp z; omega)]
