/-! how a thing falls: one word for both -/
/-- how thick a layer is in a cell in an hour -/
def Tk (f : Nat → Int32) (l c h : Nat) : Int32 := if 0 < f (40 + (6 * l + c)) + f (16 + (6 * l + h % 6)) then f (40 + (6 * l + c)) + f (16 + (6 * l + h % 6)) else 0
theorem Tk_pos (f : Nat → Int32) (l c h : Nat) : 0 ≤ Tk f l c h := by
  unfold Tk
  by_cases q : 0 < f (40 + (6 * l + c)) + f (16 + (6 * l + h % 6))
  · rw [if_pos q]; exact Int32.le_of_lt q
  · rw [if_neg q]; exact Int32.le_refl _
theorem Tk_le0 (f : Nat → Int32) (l c h : Nat) : Tk f l c h ≤ 0 ↔ Tk f l c h = 0 := ⟨fun q => Int32.le_antisymm q (Tk_pos f l c h), fun q => by rw [q]; exact Int32.le_refl _⟩
theorem rem6 {h : Nat} (hh : h < 2 ^ 31) : nI h - nI h / 6 * 6 = nI (h % 6) := pk_rem (d := 6) hh (by decide) (by decide)
theorem X_thickAt {W : WX} {f : Nat → Int32} (hs : RS W.2.1 W.2.2.1 W.2.2.2.1 f) {l c h : Nat} (hl : l < 4) (hc : c < 6) (hh : h < 2 ^ 31) : Fsea_thickAt_1 (nI l) (nI c) (nI h) W = some (Tk f l c h, W) := by
  unfold Fsea_thickAt_1
  have e1 : nI l * 6 + nI c = nI (6 * l + c) := by rw [show (6 : Int32) = nI 6 from rfl, pk_mul, nI_add, Nat.mul_comm]
  have e2 : nI l * 6 + (nI h - nI h / 6 * 6) = nI (6 * l + h % 6) := by rw [rem6 hh, show (6 : Int32) = nI 6 from rfl, pk_mul, nI_add, Nat.mul_comm]
  have l1 : (a_s1_thicks W).length = 24 := LSe_thicks hs.1
  have l2 : (a_s1_tides W).length = 24 := LSe_tides hs.1
  have hm : h % 6 < 6 := Nat.mod_lt _ (by decide)
  have g1 : (a_s1_thicks W).getD (6 * l + c) 0 = f (40 + (6 * l + c)) := hs.thicks (by omega)
  have g2 : (a_s1_tides W).getD (6 * l + h % 6) 0 = f (16 + (6 * l + h % 6)) := hs.tides (by omega)
  rw [ix_e (l := a_s1_thicks W) (6 * l + c) e1 (by omega) (by omega), bd_some, ix_e (l := a_s1_tides W) (6 * l + h % 6) e2 (by omega) (by omega), bd_some, g1, g2]
  rfl
theorem M_thickIn {m : WM} (hw : (a_m_w m).length = 596) {l c h : Nat} (hl : l < 4) (hc : c < 6) (hh : h < 2 ^ 31) : Fm_thickIn_89 (nI l) (nI c) (nI h) m = some (Tk (sl (a_m_w m) 0) l c h, m) := by
  unfold Fm_thickIn_89 Tk
  have hm : h % 6 < 6 := Nat.mod_lt _ (by decide)
  rw [m_ix0 hw (x := (40 + (6 * nI l)) + nI c) (40 + (6 * l + c)) (by rw [show (6 : Int32) = nI 6 from rfl, show (40 : Int32) = nI 40 from rfl, pk_mul, nI_add, nI_add]; congr 1; omega) (by omega), bd_some, m_ix0 hw (x := (16 + (6 * nI l)) + (nI h - nI h / 6 * 6)) (16 + (6 * l + h % 6)) (by rw [rem6 hh, show (6 : Int32) = nI 6 from rfl, show (16 : Int32) = nI 16 from rfl, pk_mul, nI_add, nI_add]; congr 1; omega) (by omega), bd_some]
  generalize sl (a_m_w m) 0 (40 + (6 * l + c)) + sl (a_m_w m) 0 (16 + (6 * l + h % 6)) = z
  by_cases c1 : 0 < z
  · rw [if_pos (Int32.le_of_lt c1), if_pos c1]
  · rw [if_neg c1]
    by_cases c2 : 0 ≤ z
    · rw [if_pos c2, Int32.le_antisymm (Int32.not_lt.mp c1) c2]
    · rw [if_neg c2]
/-- what it weighs, its room, what it breaks -/
def Wt (k w b h : Int32) : Int32 := if k = 1 then w + b else if k = 2 then w + b else if k = 3 then (w + b) + (2 * (if 10 < h then 10 else h)) else w
def Ro (k v h : Int32) : Int32 := if k = 2 then v + 1 else if k = 3 then v + 1 else if k = 4 then v + (if 5 < (h / 4) then 5 else (h / 4)) else v
def Fo (k w : Int32) : Int32 := if k = 2 then w / 2 else if k = 3 then 100 else if k = 4 then w else if k = 5 then 0 else w
theorem lesser_eq (x y : Int32) : Fm_lesser x y = some (if y < x then y else x) := by
  unfold Fm_lesser
  by_cases c : y < x
  · rw [if_pos c, if_pos (Int32.le_of_lt c)]
  · rw [if_neg c]
    by_cases d : y ≤ x
    · rw [if_pos d, Int32.le_antisymm d (Int32.not_lt.mp c)]
    · rw [if_neg d]
theorem M_weighs (m : WM) : Fm_weighs_89 m = some (Wt (a_m_kind m) (a_m_weight m) (a_m_load m) (a_m_hour m), m) := by
  unfold Fm_weighs_89 Wt
  simp only [lesser_eq, bd_some, Int32.add_zero]
  by_cases k1 : a_m_kind m = 1
  · rw [if_pos k1, if_neg (by rw [k1]; decide), if_pos k1]
  rw [if_neg k1, if_neg k1]
  by_cases k2 : a_m_kind m = 2
  · rw [if_pos k2, if_neg (by rw [k2]; decide), if_pos k2]
  rw [if_neg k2, if_neg k2]
  by_cases k3 : a_m_kind m = 3
  · rw [if_pos k3, if_pos k3, if_pos k3]
  rw [if_neg k3, if_neg k3, if_neg k3]
theorem M_room (m : WM) : Fm_room_89 m = some (Ro (a_m_kind m) (a_m_volume m) (a_m_hour m), m) := by
  unfold Fm_room_89 Ro
  simp only [lesser_eq, bd_some, Int32.add_zero]
  by_cases k2 : a_m_kind m = 2
  · rw [if_pos k2, if_pos k2]
  rw [if_neg k2, if_neg k2]
  by_cases k3 : a_m_kind m = 3
  · rw [if_pos k3, if_pos k3]
  rw [if_neg k3, if_neg k3]
  by_cases k4 : a_m_kind m = 4
  · rw [if_pos k4, if_pos k4]
  rw [if_neg k4, if_neg k4]
theorem M_breaks {m : WM} (hw : (a_m_w m).length = 596) {i : Nat} (hi : i < 3) (hb : isN (sl (a_m_w m) 0 (64 + i)) 0 99) : Fm_breaks_89 (nI i) m = some (if C_bit (a_m_torn m) (nI i) ∨ sl (a_m_w m) 0 (64 + i) < Fo (a_m_kind m) (Wt (a_m_kind m) (a_m_weight m) (a_m_load m) (a_m_hour m)) then 1 else 0, m) := by
  unfold Fm_breaks_89
  rw [Fm_has_eq, bd_some, ifz]
  by_cases c : C_bit (a_m_torn m) (nI i)
  · rw [if_pos c, if_pos (Or.inl c)]
  · rw [if_neg c, m_ix0 hw (x := 64 + nI i) (64 + i) (by rw [show (64 : Int32) = nI 64 from rfl, nI_add]) (by omega), bd_some, M_weighs]
    simp only [bd_some]
    generalize Wt (a_m_kind m) (a_m_weight m) (a_m_load m) (a_m_hour m) = z
    have b0 := hb.int (by decide)
    have b1 := hb.2.1
    generalize sl (a_m_w m) 0 (64 + i) = y at *
    unfold Fo
    by_cases k3 : a_m_kind m = 3
    · rw [if_pos k3, if_neg (show ¬ a_m_kind m = 2 by rw [k3]; decide), if_pos k3, if_pos (Or.inr (Int32.lt_iff_toInt_lt.mpr (by show y.toInt < 100; omega)))]
    rw [if_neg k3]
    by_cases k5 : a_m_kind m = 5
    · rw [if_pos k5, if_neg (show ¬ a_m_kind m = 2 by rw [k5]; decide), if_neg k3, if_neg (show ¬ a_m_kind m = 4 by rw [k5]; decide), if_pos k5, if_neg (fun q => by
        rcases q with q | q
        · exact c q
        · have := Int32.lt_iff_toInt_lt.mp q
          have z0 : (0 : Int32).toInt = 0 := rfl
          omega)]
    rw [if_neg k5]
    by_cases k2 : a_m_kind m = 2
    · rw [if_pos k2, if_pos k2]
      by_cases q : z / 2 ≤ y
      · rw [if_pos q, if_neg (fun o => o.elim c (fun o => absurd o (Int32.not_lt.mpr q)))]
      · rw [if_neg q, if_pos (Or.inr (Int32.not_le.mp q))]
    · rw [if_neg k2, if_neg k2, if_neg k3]
      have e : (if a_m_kind m = 4 then z else if a_m_kind m = 5 then 0 else z) = z := by
        by_cases k4 : a_m_kind m = 4
        · rw [if_pos k4]
        · rw [if_neg k4, if_neg k5]
      rw [e]
      by_cases q : z ≤ y
      · rw [if_pos q, if_neg (fun o => o.elim c (fun o => absurd o (Int32.not_lt.mpr q)))]
      · rw [if_neg q, if_pos (Or.inr (Int32.not_le.mp q))]
/-- the fall: layer, down, broken, stopper, passes, what it passed -/
abbrev FR : Type := Int32 × Int32 × Int32 × Int32 × Int32 × List Int32
def fS (f : Nat → Int32) (c h : Nat) (to W Rm Fc : Int32) : Nat → Nat → Int32 → Int32 → Int32 → Int32 → List Int32 → FR
  | 0, _, _, d, b, ps, p => (4, d, b, -1, ps, p)
  | k + 1, i, la, d, b, ps, p =>
    if Tk f i c h = 0 then fS f c h to W Rm Fc k (i + 1) la d b ps p else
    if la = -1 then
      if Rm * f (8 + i) < W then fS f c h to W Rm Fc k (i + 1) (nI i) (d + Tk f i c h) b (ps ||| (1 <<< (nI i &&& 31))) (p.set i (Tk f i c h)) else (nI i, d, b, -1, ps, p)
    else
      if C_bit to (nI (i - 1)) then
        if Rm * f (8 + i) < W then fS f c h to W Rm Fc k (i + 1) (nI i) (d + Tk f i c h) b (ps ||| (1 <<< (nI i &&& 31))) (p.set i (Tk f i c h)) else (nI i, d, b, -1, ps, p)
      else
        if f (64 + (i - 1)) < Fc then
          if Rm * f (8 + i) < W then fS f c h to W Rm Fc k (i + 1) (nI i) (d + Tk f i c h) (b ||| (1 <<< (nI (i - 1) &&& 31))) (ps ||| (1 <<< (nI i &&& 31))) (p.set i (Tk f i c h)) else (nI i, d, b ||| (1 <<< (nI (i - 1) &&& 31)), -1, ps, p)
        else (la, d, b, nI (i - 1), ps, p)
/-- the reference's world with the five numbers of a fall -/
def mkF (m : WM) (a b c d e : Int32) : WM := (m.1, m.2.1, m.2.2.1, m.2.2.2.1, m.2.2.2.2.1, m.2.2.2.2.2.1, m.2.2.2.2.2.2.1, m.2.2.2.2.2.2.2.1, m.2.2.2.2.2.2.2.2.1, m.2.2.2.2.2.2.2.2.2.1, m.2.2.2.2.2.2.2.2.2.2.1, m.2.2.2.2.2.2.2.2.2.2.2.1, m.2.2.2.2.2.2.2.2.2.2.2.2.1, m.2.2.2.2.2.2.2.2.2.2.2.2.2.1, m.2.2.2.2.2.2.2.2.2.2.2.2.2.2.1, m.2.2.2.2.2.2.2.2.2.2.2.2.2.2.2.1, m.2.2.2.2.2.2.2.2.2.2.2.2.2.2.2.2.1, m.2.2.2.2.2.2.2.2.2.2.2.2.2.2.2.2.2.1, m.2.2.2.2.2.2.2.2.2.2.2.2.2.2.2.2.2.2.1, a, b, c, d, e, m.2.2.2.2.2.2.2.2.2.2.2.2.2.2.2.2.2.2.2.2.2.2.2.2)
section MKF
variable (m : WM) (a b c d e x : Int32)
theorem mF_w : a_m_w (mkF m a b c d e) = a_m_w m := rfl
theorem mF_kind : a_m_kind (mkF m a b c d e) = a_m_kind m := rfl
theorem mF_weight : a_m_weight (mkF m a b c d e) = a_m_weight m := rfl
theorem mF_volume : a_m_volume (mkF m a b c d e) = a_m_volume m := rfl
theorem mF_load : a_m_load (mkF m a b c d e) = a_m_load m := rfl
theorem mF_hour : a_m_hour (mkF m a b c d e) = a_m_hour m := rfl
theorem mF_torn : a_m_torn (mkF m a b c d e) = a_m_torn m := rfl
theorem mF_ri : a_m_restsIn (mkF m a b c d e) = a := rfl
theorem mF_dn : a_m_down (mkF m a b c d e) = b := rfl
theorem mF_br : a_m_broken (mkF m a b c d e) = c := rfl
theorem mF_ps : a_m_passes (mkF m a b c d e) = d := rfl
theorem mF_st : a_m_stops (mkF m a b c d e) = e := rfl
theorem mFu_ri : u_m_restsIn (mkF m a b c d e) x = mkF m x b c d e := rfl
theorem mFu_dn : u_m_down (mkF m a b c d e) x = mkF m a x c d e := rfl
theorem mFu_br : u_m_broken (mkF m a b c d e) x = mkF m a b x d e := rfl
theorem mFu_ps : u_m_passes (mkF m a b c d e) x = mkF m a b c x e := rfl
theorem mFu_st : u_m_stops (mkF m a b c d e) x = mkF m a b c d x := rfl
theorem mFu_ri0 : u_m_restsIn m x = mkF m x (a_m_down m) (a_m_broken m) (a_m_passes m) (a_m_stops m) := rfl
end MKF
theorem mkF_in (m : WM) : u_m_stops (u_m_passes (u_m_broken (u_m_down (u_m_restsIn m 4) 0) 0) 0) (-1) = mkF m 4 0 0 0 (-1) := by
  rw [mFu_ri0, mFu_dn, mFu_br, mFu_ps, mFu_st]
theorem or0 (x : Int32) : x ||| 0 = x := by simp
theorem M_out {m : WM} {n i : Nat} {x la : Int32} {r b d e g : Int32} (hi : i ≤ 4) (hr : ¬ r = 4) : Gm_comesDown_89 (n + 1) 0 x la (nI i) (mkF m r b d e g) = some (mkF m r b d e g) := by
  rw [Gm_comesDown_89]
  by_cases c : (4 : Int32) ≤ nI i
  · rw [if_pos c]
  · rw [if_neg c, mF_ri, if_neg hr]
theorem M_fallG {m : WM} (hw : (a_m_w m).length = 596) {f : Nat → Int32} (hf : sl (a_m_w m) 0 = f) {c h : Nat} (hc : c < 6) (hh : h < 2 ^ 31) (eh : a_m_hour m = nI h) (hsk : ∀ i, i < 3 → isN (f (64 + i)) 0 99) {to W Rm Fc : Int32} (et : a_m_torn m = to) (eW : Wt (a_m_kind m) (a_m_weight m) (a_m_load m) (a_m_hour m) = W) (eR : Ro (a_m_kind m) (a_m_volume m) (a_m_hour m) = Rm) (eF : Fo (a_m_kind m) W = Fc) : ∀ (k i n : Nat) (la d b ps : Int32) (p : List Int32), i + k = 4 → k + 1 < n → (la = -1 ∨ (1 ≤ i ∧ ∃ j, j < 4 ∧ la = nI j)) → Gm_comesDown_89 n 0 (nI c) la (nI i) (mkF m 4 d b ps (-1)) = some (mkF m (fS f c h to W Rm Fc k i la d b ps p).1 (fS f c h to W Rm Fc k i la d b ps p).2.1 (fS f c h to W Rm Fc k i la d b ps p).2.2.1 (fS f c h to W Rm Fc k i la d b ps p).2.2.2.2.1 (fS f c h to W Rm Fc k i la d b ps p).2.2.2.1) := by
  intro k
  induction k with
  | zero =>
    intro i n la d b ps p hi hn hl
    obtain ⟨n, rfl⟩ : ∃ k, n = k + 1 := ⟨n - 1, by omega⟩
    rw [show i = 4 by omega, Gm_comesDown_89, if_pos (show (4 : Int32) ≤ nI 4 from Int32.le_refl _)]
    rfl
  | succ k ih =>
    intro i n la d b ps p hi hn hl
    obtain ⟨n, rfl⟩ : ∃ k, n = k + 1 := ⟨n - 1, by omega⟩
    obtain ⟨n', hn'⟩ : ∃ k, n = k + 1 := ⟨n - 1, by omega⟩
    have hw' : ∀ a b c d e, (a_m_w (mkF m a b c d e)).length = 596 := fun _ _ _ _ _ => hw
    have tk : ∀ a b c2 d e, Fm_thickIn_89 (nI i) (nI c) (a_m_hour (mkF m a b c2 d e)) (mkF m a b c2 d e) = some (Tk f i c h, mkF m a b c2 d e) := fun a b c2 d e => by
      rw [mF_hour, eh, M_thickIn (hw' a b c2 d e) (by omega) hc hh, mF_w, hf]
    have wg : ∀ a b c2 d e, Fm_weighs_89 (mkF m a b c2 d e) = some (W, mkF m a b c2 d e) := fun a b c2 d e => by
      rw [M_weighs, mF_kind, mF_weight, mF_load, mF_hour, eW]
    have rg : ∀ a b c2 d e, Fm_room_89 (mkF m a b c2 d e) = some (Rm, mkF m a b c2 d e) := fun a b c2 d e => by
      rw [M_room, mF_kind, mF_volume, mF_hour, eR]
    have dg : ai_ix (a_m_w m) (8 + nI i) = some (f (8 + i)) := by
      rw [m_ix0 hw (x := 8 + nI i) (8 + i) (by rw [show (8 : Int32) = nI 8 from rfl, nI_add]) (by omega), hf]
    have step : nI i + 1 = nI (i + 1) := nI_1 i
    rw [Gm_comesDown_89, if_neg (show ¬ (4 : Int32) ≤ nI i from nI_ge (b := 4) (by omega) (by decide)), mF_ri, if_pos rfl, mF_st, if_pos rfl, tk]
    simp only [bd_some, wg, rg, mF_w, dg, mFu_br, mF_br, mFu_ps, mF_ps, mFu_dn, mF_dn, mFu_ri, mFu_st, or0, step, mF_torn, et, Fm_has_eq, ifz]
    unfold fS
    by_cases t0 : Tk f i c h = 0
    · have t1 : Tk f i c h ≤ 0 := (Tk_le0 f i c h).mpr t0
      rw [if_pos t1, if_pos t1, if_pos t0]
      exact ih (i + 1) n la d b ps p (by omega) (by omega) (by
        rcases hl with q | ⟨q1, q2⟩
        · exact Or.inl q
        · exact Or.inr ⟨by omega, q2⟩)
    · have t1 : ¬ Tk f i c h ≤ 0 := fun q => t0 ((Tk_le0 f i c h).mp q)
      rw [if_neg t1, if_neg t0]
      simp only [if_neg t1]
      have goon : ∀ b' : Int32, (if Rm * f (8 + i) < W then Gm_comesDown_89 n 0 (nI c) (nI i) (nI (i + 1)) (mkF m 4 (d + Tk f i c h) b' (ps ||| (1 <<< (nI i &&& 31))) (-1)) else Gm_comesDown_89 n 0 (nI c) la (nI (i + 1)) (mkF m (nI i) d b' ps (-1))) = some (mkF m (if Rm * f (8 + i) < W then fS f c h to W Rm Fc k (i + 1) (nI i) (d + Tk f i c h) b' (ps ||| (1 <<< (nI i &&& 31))) (p.set i (Tk f i c h)) else (nI i, d, b', -1, ps, p)).1 (if Rm * f (8 + i) < W then fS f c h to W Rm Fc k (i + 1) (nI i) (d + Tk f i c h) b' (ps ||| (1 <<< (nI i &&& 31))) (p.set i (Tk f i c h)) else (nI i, d, b', -1, ps, p)).2.1 (if Rm * f (8 + i) < W then fS f c h to W Rm Fc k (i + 1) (nI i) (d + Tk f i c h) b' (ps ||| (1 <<< (nI i &&& 31))) (p.set i (Tk f i c h)) else (nI i, d, b', -1, ps, p)).2.2.1 (if Rm * f (8 + i) < W then fS f c h to W Rm Fc k (i + 1) (nI i) (d + Tk f i c h) b' (ps ||| (1 <<< (nI i &&& 31))) (p.set i (Tk f i c h)) else (nI i, d, b', -1, ps, p)).2.2.2.2.1 (if Rm * f (8 + i) < W then fS f c h to W Rm Fc k (i + 1) (nI i) (d + Tk f i c h) b' (ps ||| (1 <<< (nI i &&& 31))) (p.set i (Tk f i c h)) else (nI i, d, b', -1, ps, p)).2.2.2.1) := by
        intro b'
        by_cases q : Rm * f (8 + i) < W
        · simp only [if_pos q]
          exact ih (i + 1) n (nI i) _ b' _ _ (by omega) (by omega) (Or.inr ⟨by omega, i, by omega, rfl⟩)
        · simp only [if_neg q]
          rw [hn', M_out (by omega) (show ¬ nI i = 4 from fun z => by have := (nI_eq (a := i) (b := 4) (by omega) (by decide)).mp z; omega)]
      by_cases l0 : la = -1
      · simp only [if_pos l0]
        exact goon b
      · simp only [if_neg l0]
        rcases hl with q | ⟨hi1, j, hj, hla⟩
        · exact absurd q l0
        have ei : nI i - 1 = nI (i - 1) := pk_sub (a := i) (b := 1) (by omega)
        rw [ei]
        have bk : ∀ a b c2 d e, Fm_breaks_89 (nI (i - 1)) (mkF m a b c2 d e) = some (if C_bit to (nI (i - 1)) ∨ f (64 + (i - 1)) < Fc then 1 else 0, mkF m a b c2 d e) := fun a b c2 d e => by
          rw [M_breaks (hw' a b c2 d e) (by omega) (by rw [mF_w, hf]; exact hsk _ (by omega)), mF_torn, mF_w, hf, mF_kind, mF_weight, mF_load, mF_hour, eW, et, eF]
        rw [bk]
        simp only [bd_some, ifz, mFu_br, mF_br, mF_torn, wg, rg, mF_w, dg, mFu_ps, mF_ps, mFu_dn, mF_dn, mFu_ri, mFu_st, et]
        by_cases cb : C_bit to (nI (i - 1))
        · rw [if_pos (Or.inl cb)]
          simp only [if_pos cb]
          exact goon b
        · simp only [if_neg cb]
          by_cases cf : f (64 + (i - 1)) < Fc
          · rw [if_pos (Or.inr cf)]
            simp only [if_pos cf]
            exact goon _
          · rw [if_neg (fun o => o.elim cb cf)]
            simp only [if_neg cf]
            rw [hla, hn', M_out (by omega) (show ¬ nI j = 4 from fun z => by have := (nI_eq (a := j) (b := 4) (by omega) (by decide)).mp z; omega)]
/-! the class's fall -/
abbrev TF : Type := Int32 × Int32 × Int32 × Int32 × Int32 × Int32 × Int32 × List Int32
/-- the class's world with another fall -/
def mkX (w : WX) (fa : TF) : WX := (w.1, w.2.1, w.2.2.1, w.2.2.2.1, w.2.2.2.2.1, w.2.2.2.2.2.1, w.2.2.2.2.2.2.1, w.2.2.2.2.2.2.2.1, w.2.2.2.2.2.2.2.2.1, w.2.2.2.2.2.2.2.2.2.1, w.2.2.2.2.2.2.2.2.2.2.1, w.2.2.2.2.2.2.2.2.2.2.2.1, w.2.2.2.2.2.2.2.2.2.2.2.2.1, w.2.2.2.2.2.2.2.2.2.2.2.2.2.1, fa, w.2.2.2.2.2.2.2.2.2.2.2.2.2.2.2)
section MKX
variable (w : WX) (a b c d e g k x : Int32) (p q : List Int32) (fa fb : TF)
theorem mX_in : mkX w w.2.2.2.2.2.2.2.2.2.2.2.2.2.2.1 = w := rfl
theorem mX_mX : mkX (mkX w fa) fb = mkX w fb := rfl
theorem mX_s : (mkX w fa).2.1 = w.2.1 := rfl
theorem mX_hour : a_s1_hour (mkX w fa) = a_s1_hour w := rfl
theorem mX_we : a_fall_weighs (mkX w (a, b, c, d, e, g, k, p)) = a := rfl
theorem mX_ro : a_fall_room (mkX w (a, b, c, d, e, g, k, p)) = b := rfl
theorem mX_fo : a_fall_force (mkX w (a, b, c, d, e, g, k, p)) = c := rfl
theorem mX_la : a_fall_layer (mkX w (a, b, c, d, e, g, k, p)) = d := rfl
theorem mX_dn : a_fall_down (mkX w (a, b, c, d, e, g, k, p)) = e := rfl
theorem mX_br : a_fall_broken (mkX w (a, b, c, d, e, g, k, p)) = g := rfl
theorem mX_st : a_fall_stopper (mkX w (a, b, c, d, e, g, k, p)) = k := rfl
theorem mX_pt : a_fall_passedThick (mkX w (a, b, c, d, e, g, k, p)) = p := rfl
theorem mX_dens : a_s1_densities (mkX w fa) = a_s1_densities w := rfl
theorem mX_skins : a_s1_skins (mkX w fa) = a_s1_skins w := rfl
theorem mXu_we : u_fall_weighs (mkX w (a, b, c, d, e, g, k, p)) x = mkX w (x, b, c, d, e, g, k, p) := rfl
theorem mXu_ro : u_fall_room (mkX w (a, b, c, d, e, g, k, p)) x = mkX w (a, x, c, d, e, g, k, p) := rfl
theorem mXu_fo : u_fall_force (mkX w (a, b, c, d, e, g, k, p)) x = mkX w (a, b, x, d, e, g, k, p) := rfl
theorem mXu_la : u_fall_layer (mkX w (a, b, c, d, e, g, k, p)) x = mkX w (a, b, c, x, e, g, k, p) := rfl
theorem mXu_dn : u_fall_down (mkX w (a, b, c, d, e, g, k, p)) x = mkX w (a, b, c, d, x, g, k, p) := rfl
theorem mXu_br : u_fall_broken (mkX w (a, b, c, d, e, g, k, p)) x = mkX w (a, b, c, d, e, x, k, p) := rfl
theorem mXu_st : u_fall_stopper (mkX w (a, b, c, d, e, g, k, p)) x = mkX w (a, b, c, d, e, g, x, p) := rfl
theorem mXu_pt : u_fall_passedThick (mkX w (a, b, c, d, e, g, k, p)) q = mkX w (a, b, c, d, e, g, k, q) := rfl
end MKX
theorem weightOf_eq (k w b h : Int32) : Ffall_weightOf k w b h = some (Wt k w b h) := by
  unfold Ffall_weightOf Wt
  by_cases k1 : k = 1
  · rw [if_pos k1, if_pos k1]
  rw [if_neg k1, if_neg k1]
  by_cases k2 : k = 2
  · rw [if_pos k2, if_pos k2]
  rw [if_neg k2, if_neg k2]
  by_cases k3 : k = 3
  · rw [if_pos k3, if_pos k3]
  rw [if_neg k3, if_neg k3]
theorem roomOf_eq (k v h : Int32) : Ffall_roomOf k v h = some (Ro k v h) := by
  unfold Ffall_roomOf Ro
  by_cases k2 : k = 2
  · rw [if_pos k2, if_pos k2]
  rw [if_neg k2, if_neg k2]
  by_cases k3 : k = 3
  · rw [if_pos k3, if_pos k3]
  rw [if_neg k3, if_neg k3]
  by_cases k4 : k = 4
  · rw [if_pos k4, if_pos k4]
  rw [if_neg k4, if_neg k4]
theorem forceOf_eq (k w : Int32) : Ffall_forceOf k w = some (Fo k w) := by
  unfold Ffall_forceOf Fo
  by_cases k2 : k = 2
  · rw [if_pos k2, if_pos k2]
  rw [if_neg k2, if_neg k2]
  by_cases k3 : k = 3
  · rw [if_pos k3, if_pos k3]
  rw [if_neg k3, if_neg k3]
  by_cases k4 : k = 4
  · rw [if_pos k4, if_pos k4]
  rw [if_neg k4, if_neg k4]
  by_cases k5 : k = 5
  · rw [if_pos k5, if_pos k5]
  rw [if_neg k5, if_neg k5]
theorem X_shape (W : WX) (k w v b h : Int32) (a0 b0 c0 d e g q : Int32) (p : List Int32) : Ffall_shape_81 k w v b h (mkX W (a0, b0, c0, d, e, g, q, p)) = some (mkX W (Wt k w b h, Ro k v h, Fo k (Wt k w b h), d, e, g, q, p)) := by
  unfold Ffall_shape_81
  rw [weightOf_eq, bd_some, roomOf_eq, bd_some, forceOf_eq, bd_some, mXu_we, mXu_ro, mXu_fo]
theorem X_getsThrough {W : WX} {f : Nat → Int32} (hs : RS W.2.1 W.2.2.1 W.2.2.2.1 f) {i : Nat} (hi : i < 3) (to a b c d e g q : Int32) (p : List Int32) : Ffall_getsThrough_81_1 (nI i) to (mkX W (a, b, c, d, e, g, q, p)) = if C_bit to (nI i) then some ((1 : Int32), mkX W (a, b, c, d, e, g, q, p)) else if f (64 + i) < c then some (1, mkX W (a, b, c, d, e, g ||| (1 <<< (nI i &&& 31)), q, p)) else some (0, mkX W (a, b, c, d, e, g, q, p)) := by
  unfold Ffall_getsThrough_81_1
  have l1 : (a_s1_skins W).length = 3 := LSe_skins hs.1
  have g1 : (a_s1_skins W).getD i 0 = f (64 + i) := hs.skins hi
  by_cases cb : C_bit to (nI i)
  · rw [if_pos cb, if_pos cb]
  · rw [if_neg cb, if_neg cb, mX_skins, ix_e (l := a_s1_skins W) i rfl (by omega) (by omega), bd_some, g1, mX_fo, mX_br, mXu_br]
theorem X_fallG {W : WX} {f : Nat → Int32} (hs : RS W.2.1 W.2.2.1 W.2.2.2.1 f) {c h : Nat} (hc : c < 6) (hh : h < 2 ^ 31) (to We Rm Fc : Int32) : ∀ (k i n : Nat) (la d b ps ly : Int32) (p : List Int32), i + k = 4 → k < n → p.length = 4 → (la = -1 ∨ (1 ≤ i ∧ ∃ j, j < 4 ∧ la = nI j)) → Gfall_letGo_81_1 n 0 (nI c) (nI h) to la (nI i) (mkX W (We, Rm, Fc, ly, d, b, -1, p)) = some (mkX W (We, Rm, Fc, (fS f c h to We Rm Fc k i la d b ps p).1, (fS f c h to We Rm Fc k i la d b ps p).2.1, (fS f c h to We Rm Fc k i la d b ps p).2.2.1, (fS f c h to We Rm Fc k i la d b ps p).2.2.2.1, (fS f c h to We Rm Fc k i la d b ps p).2.2.2.2.2)) := by
  intro k
  induction k with
  | zero =>
    intro i n la d b ps ly p hi hn hp hl
    obtain ⟨n, rfl⟩ : ∃ k, n = k + 1 := ⟨n - 1, by omega⟩
    rw [show i = 4 by omega, Gfall_letGo_81_1, if_pos (show (4 : Int32) ≤ nI 4 from Int32.le_refl _), mXu_la]
    rfl
  | succ k ih =>
    intro i n la d b ps ly p hi hn hp hl
    obtain ⟨n, rfl⟩ : ∃ k, n = k + 1 := ⟨n - 1, by omega⟩
    have step : nI i + 1 = nI (i + 1) := nI_1 i
    have l1 : (a_s1_densities W).length = 4 := LSe_dens hs.1
    have g1 : (a_s1_densities W).getD i 0 = f (8 + i) := hs.dens (by omega)
    have dg : ai_ix (a_s1_densities W) (nI i) = some (f (8 + i)) := by rw [ix_e (l := a_s1_densities W) i rfl (by omega) (by omega), g1]
    rw [Gfall_letGo_81_1, if_neg (show ¬ (4 : Int32) ≤ nI i from nI_ge (b := 4) (by omega) (by decide)), X_thickAt (W := mkX W (We, Rm, Fc, ly, d, b, -1, p)) (f := f) hs (by omega) hc hh]
    simp only [bd_some, step]
    unfold fS
    by_cases t0 : Tk f i c h = 0
    · rw [if_pos t0, if_pos t0]
      exact ih (i + 1) n la d b ps ly p (by omega) (by omega) hp (by
        rcases hl with q | ⟨q1, q2⟩
        · exact Or.inl q
        · exact Or.inr ⟨by omega, q2⟩)
    · rw [if_neg t0, if_neg t0]
      have goon : ∀ b' : Int32, (if (a_fall_room (mkX W (We, Rm, Fc, ly, d, b', -1, p))) * f (8 + i) < a_fall_weighs (mkX W (We, Rm, Fc, ly, d, b', -1, p)) then ai_bd (ai_up (a_fall_passedThick (mkX W (We, Rm, Fc, ly, d, b', -1, p))) (nI i) (Tk f i c h)) fun q1438 => Gfall_letGo_81_1 n 0 (nI c) (nI h) to (nI i) (nI (i + 1)) (u_fall_down (u_fall_passedThick (mkX W (We, Rm, Fc, ly, d, b', -1, p)) q1438) ((a_fall_down (mkX W (We, Rm, Fc, ly, d, b', -1, p))) + Tk f i c h)) else some (u_fall_layer (mkX W (We, Rm, Fc, ly, d, b', -1, p)) (nI i))) = some (mkX W (We, Rm, Fc, (if Rm * f (8 + i) < We then fS f c h to We Rm Fc k (i + 1) (nI i) (d + Tk f i c h) b' (ps ||| (1 <<< (nI i &&& 31))) (p.set i (Tk f i c h)) else (nI i, d, b', -1, ps, p)).1, (if Rm * f (8 + i) < We then fS f c h to We Rm Fc k (i + 1) (nI i) (d + Tk f i c h) b' (ps ||| (1 <<< (nI i &&& 31))) (p.set i (Tk f i c h)) else (nI i, d, b', -1, ps, p)).2.1, (if Rm * f (8 + i) < We then fS f c h to We Rm Fc k (i + 1) (nI i) (d + Tk f i c h) b' (ps ||| (1 <<< (nI i &&& 31))) (p.set i (Tk f i c h)) else (nI i, d, b', -1, ps, p)).2.2.1, (if Rm * f (8 + i) < We then fS f c h to We Rm Fc k (i + 1) (nI i) (d + Tk f i c h) b' (ps ||| (1 <<< (nI i &&& 31))) (p.set i (Tk f i c h)) else (nI i, d, b', -1, ps, p)).2.2.2.1, (if Rm * f (8 + i) < We then fS f c h to We Rm Fc k (i + 1) (nI i) (d + Tk f i c h) b' (ps ||| (1 <<< (nI i &&& 31))) (p.set i (Tk f i c h)) else (nI i, d, b', -1, ps, p)).2.2.2.2.2)) := by
        intro b'
        rw [mX_ro, mX_we, mX_pt, mX_dn, mXu_la]
        by_cases q : Rm * f (8 + i) < We
        · simp only [if_pos q]
          rw [up_e (l := p) (i := nI i) (Tk f i c h) i rfl (by omega) (by omega), bd_some, mXu_pt, mXu_dn]
          exact ih (i + 1) n (nI i) _ b' _ ly _ (by omega) (by omega) (by rw [List.length_set]; exact hp) (Or.inr ⟨by omega, i, by omega, rfl⟩)
        · simp only [if_neg q]
      by_cases l0 : la = -1
      · simp only [if_pos l0, mX_dens, dg, bd_some]
        exact goon b
      · simp only [if_neg l0]
        rcases hl with q | ⟨hi1, j, hj, hla⟩
        · exact absurd q l0
        have ei : nI i - 1 = nI (i - 1) := pk_sub (a := i) (b := 1) (by omega)
        rw [ei, X_getsThrough hs (by omega)]
        by_cases cb : C_bit to (nI (i - 1))
        · simp only [if_pos cb, bd_some]
          rw [if_neg (show ¬ (1 : Int32) = 0 by decide), mX_dens, dg, bd_some]
          exact goon b
        · simp only [if_neg cb]
          by_cases cf : f (64 + (i - 1)) < Fc
          · simp only [if_pos cf, bd_some]
            rw [if_neg (show ¬ (1 : Int32) = 0 by decide), mX_dens, dg, bd_some]
            exact goon _
          · simp only [if_neg cf, bd_some]
            rw [if_pos trivial, mXu_st, mXu_la]
theorem X_letGo {W : WX} {f : Nat → Int32} (hs : RS W.2.1 W.2.2.1 W.2.2.2.1 f) {c h n : Nat} (hn : 6 ≤ n) (hc : c < 6) (hh : h < 2 ^ 31) (to We Rm Fc : Int32) (ly d b q : Int32) {p : List Int32} (hp : p.length = 4) : Ffall_letGo_81_1 n (nI c) (nI h) to (mkX W (We, Rm, Fc, ly, d, b, q, p)) = some (mkX W (We, Rm, Fc, (fS f c h to We Rm Fc 4 0 (-1) 0 0 0 [0, 0, 0, 0]).1, (fS f c h to We Rm Fc 4 0 (-1) 0 0 0 [0, 0, 0, 0]).2.1, (fS f c h to We Rm Fc 4 0 (-1) 0 0 0 [0, 0, 0, 0]).2.2.1, (fS f c h to We Rm Fc 4 0 (-1) 0 0 0 [0, 0, 0, 0]).2.2.2.1, (fS f c h to We Rm Fc 4 0 (-1) 0 0 0 [0, 0, 0, 0]).2.2.2.2.2)) := by
  unfold Ffall_letGo_81_1 Ffall_forget_81
  rw [mXu_dn, mXu_br, mXu_st, fill_82 0 (N := 4) (n := n) (by decide) (by omega) (w := mkX W (We, Rm, Fc, ly, 0, 0, -1, p)) hp, bd_some, bd_some, mXu_pt]
  exact X_fallG hs hc hh to We Rm Fc 4 0 n (-1) 0 0 0 ly _ (by omega) (by omega) rfl (Or.inl rfl)
/-- a fall never loses its row of four -/
theorem fS_len (f : Nat → Int32) (c h : Nat) (to We Rm Fc : Int32) : ∀ (k i : Nat) (la d b ps : Int32) (p : List Int32), p.length = 4 → (fS f c h to We Rm Fc k i la d b ps p).2.2.2.2.2.length = 4 := by
  intro k
  induction k with
  | zero => intro i la d b ps p hp; exact hp
  | succ k ih =>
    intro i la d b ps p hp
    have hs : (p.set i (Tk f i c h)).length = 4 := by rw [List.length_set]; exact hp
    unfold fS
    by_cases t0 : Tk f i c h = 0
    · rw [if_pos t0]; exact ih _ _ _ _ _ _ hp
    rw [if_neg t0]
    by_cases q : Rm * f (8 + i) < We
    · simp only [if_pos q]
      by_cases l0 : la = -1
      · rw [if_pos l0]; exact ih _ _ _ _ _ _ hs
      rw [if_neg l0]
      by_cases cb : C_bit to (nI (i - 1))
      · rw [if_pos cb]; exact ih _ _ _ _ _ _ hs
      rw [if_neg cb]
      by_cases cf : f (64 + (i - 1)) < Fc
      · rw [if_pos cf]; exact ih _ _ _ _ _ _ hs
      · rw [if_neg cf]; exact hp
    · simp only [if_neg q]
      by_cases l0 : la = -1
      · rw [if_pos l0]; exact hp
      rw [if_neg l0]
      by_cases cb : C_bit to (nI (i - 1))
      · rw [if_pos cb]; exact hp
      rw [if_neg cb]
      by_cases cf : f (64 + (i - 1)) < Fc
      · rw [if_pos cf]; exact hp
      · rw [if_neg cf]; exact hp
/-- the fall of thing t with ballast b in cell c in hour h -/
def fT (f : Nat → Int32) (t c h : Nat) (b to : Int32) : FR := fS f c h to (Wt (f (67 + t)) (f (73 + t)) b (nI h)) (Ro (f (67 + t)) (f (79 + t)) (nI h)) (Fo (f (67 + t)) (Wt (f (67 + t)) (f (73 + t)) b (nI h))) 4 0 (-1) 0 0 0 [0, 0, 0, 0]
def tT (f : Nat → Int32) (t c h : Nat) (b to : Int32) : TF := (Wt (f (67 + t)) (f (73 + t)) b (nI h), Ro (f (67 + t)) (f (79 + t)) (nI h), Fo (f (67 + t)) (Wt (f (67 + t)) (f (73 + t)) b (nI h)), (fT f t c h b to).1, (fT f t c h b to).2.1, (fT f t c h b to).2.2.1, (fT f t c h b to).2.2.2.1, (fT f t c h b to).2.2.2.2.2)
theorem tT_len (f : Nat → Int32) (t c h : Nat) (b to : Int32) : (tT f t c h b to).2.2.2.2.2.2.2.length = 4 := fS_len f c h to _ _ _ 4 0 (-1) 0 0 0 [0, 0, 0, 0] rfl
theorem X_shapeB {W : WX} {f : Nat → Int32} (hs : RS W.2.1 W.2.2.1 W.2.2.2.1 f) {t : Nat} (ht : t < Nn (f 2)) (b h : Int32) {fa : TF} : Ff_shapeWithBallast_0 (nI t) b h (mkX W fa) = some (mkX W (Wt (f (67 + t)) (f (73 + t)) b h, Ro (f (67 + t)) (f (79 + t)) h, Fo (f (67 + t)) (Wt (f (67 + t)) (f (73 + t)) b h), fa.2.2.2.1, fa.2.2.2.2.1, fa.2.2.2.2.2.1, fa.2.2.2.2.2.2.1, fa.2.2.2.2.2.2.2)) := by
  have h6 := hs.c2.2.1
  obtain ⟨k1, k2, k3, k4⟩ := hs.th ht
  have l1 : (a_s1things_kinds W).length = 6 := LSe_kinds hs.1
  have l2 : (a_s1things_weights W).length = 6 := LSe_weights hs.1
  have l3 : (a_s1things_volumes W).length = 6 := LSe_volumes hs.1
  obtain ⟨f1, f2, f3, f4, f5, f6, f7, f8⟩ := fa
  unfold Ff_shapeWithBallast_0
  have e1 : ai_ix (a_s1things_kinds (mkX W (f1, f2, f3, f4, f5, f6, f7, f8))) (nI t) = some (f (67 + t)) := by rw [← k1]; exact ix_e (l := a_s1things_kinds W) t rfl (by omega) (by omega)
  have e2 : ai_ix (a_s1things_weights (mkX W (f1, f2, f3, f4, f5, f6, f7, f8))) (nI t) = some (f (73 + t)) := by rw [← k2]; exact ix_e (l := a_s1things_weights W) t rfl (by omega) (by omega)
  have e3 : ai_ix (a_s1things_volumes (mkX W (f1, f2, f3, f4, f5, f6, f7, f8))) (nI t) = some (f (79 + t)) := by rw [← k3]; exact ix_e (l := a_s1things_volumes W) t rfl (by omega) (by omega)
  rw [e1, bd_some, e2, bd_some, e3, bd_some, X_shape, bd_some]
theorem X_goB {W : WX} {f : Nat → Int32} (hs : RS W.2.1 W.2.2.1 W.2.2.2.1 f) {t c h n : Nat} (hn : 6 ≤ n) (ht : t < Nn (f 2)) (hc : c < 6) (hh : h < 2 ^ 31) (b : Int32) {fa : TF} (hp : fa.2.2.2.2.2.2.2.length = 4) : Ff_letGoWithBallast_0 n (nI t) (nI c) b (nI h) (mkX W fa) = some (mkX W (tT f t c h b 0)) := by
  unfold Ff_letGoWithBallast_0
  rw [X_shapeB hs ht b (nI h), bd_some, X_letGo hs hn hc hh 0 _ _ _ _ _ _ _ hp, bd_some]
  rfl
theorem X_goN {W : WX} {f : Nat → Int32} (hs : RS W.2.1 W.2.2.1 W.2.2.2.1 f) {t c n : Nat} (hn : 6 ≤ n) (ht : t < Nn (f 2)) (hc : c < 6) (to : Int32) {fa : TF} (hp : fa.2.2.2.2.2.2.2.length = 4) : Ff_letGoNow_0 n (nI t) (nI c) to (mkX W fa) = some (mkX W (tT f t c (Nn (f 1)) (f (85 + t)) to)) := by
  have h6 := hs.c2.2.1
  obtain ⟨k1, k2, k3, k4⟩ := hs.th ht
  have l4 : (a_s1things_ballasts W).length = 6 := LSe_ballasts hs.1
  have q1 := hs.c1.2.2
  have q2 := hs.c1.2.1
  obtain ⟨H, hH⟩ : ∃ H, Nn (f 1) = H := ⟨_, rfl⟩
  rw [hH] at q1 q2 ⊢
  have e1 : a_s1_hour W = nI H := (hs.k (k := 1) (by omega)).trans q1
  have e4 : ai_ix (a_s1things_ballasts (mkX W fa)) (nI t) = some (f (85 + t)) := by rw [← k4]; exact ix_e (l := a_s1things_ballasts W) t rfl (by omega) (by omega)
  unfold Ff_letGoNow_0 Ff_shapeNow_0
  rw [e4, bd_some, mX_hour, e1, X_shapeB hs ht (f (85 + t)) (nI H), bd_some, bd_some, mX_hour, e1, X_letGo hs hn hc (h := H) (by omega) to (Wt (f (67 + t)) (f (73 + t)) (f (85 + t)) (nI H)) (Ro (f (67 + t)) (f (79 + t)) (nI H)) (Fo (f (67 + t)) (Wt (f (67 + t)) (f (73 + t)) (f (85 + t)) (nI H))) fa.2.2.2.1 fa.2.2.2.2.1 fa.2.2.2.2.2.1 fa.2.2.2.2.2.2.1 hp, bd_some]
  rfl
/-! the reference's fall of a thing, and the calls that ask for one fall -/
def mkK (m : WM) (a b c d e g : Int32) : WM := (m.1, m.2.1, m.2.2.1, m.2.2.2.1, m.2.2.2.2.1, m.2.2.2.2.2.1, m.2.2.2.2.2.2.1, m.2.2.2.2.2.2.2.1, m.2.2.2.2.2.2.2.2.1, m.2.2.2.2.2.2.2.2.2.1, m.2.2.2.2.2.2.2.2.2.2.1, m.2.2.2.2.2.2.2.2.2.2.2.1, m.2.2.2.2.2.2.2.2.2.2.2.2.1, a, b, c, d, e, g, m.2.2.2.2.2.2.2.2.2.2.2.2.2.2.2.2.2.2.2)
section MKK
variable (m : WM) (a b c d e g x : Int32) (i j k l o : Int32)
theorem mK_in : mkF (mkK m (a_m_kind m) (a_m_weight m) (a_m_volume m) (a_m_load m) (a_m_hour m) (a_m_torn m)) (a_m_restsIn m) (a_m_down m) (a_m_broken m) (a_m_passes m) (a_m_stops m) = m := by dsimp only [mkF, mkK, a_m_kind, a_m_weight, a_m_volume, a_m_load, a_m_hour, a_m_torn, a_m_restsIn, a_m_down, a_m_broken, a_m_passes, a_m_stops]
theorem mF_mF (i2 j2 k2 l2 o2 : Int32) : mkF (mkF m i j k l o) i2 j2 k2 l2 o2 = mkF m i2 j2 k2 l2 o2 := by dsimp only [mkF]
theorem mK_w : a_m_w (mkK m a b c d e g) = a_m_w m := rfl
theorem mK_kind : a_m_kind (mkK m a b c d e g) = a := rfl
theorem mK_weight : a_m_weight (mkK m a b c d e g) = b := rfl
theorem mK_volume : a_m_volume (mkK m a b c d e g) = c := rfl
theorem mK_load : a_m_load (mkK m a b c d e g) = d := rfl
theorem mK_hour : a_m_hour (mkK m a b c d e g) = e := rfl
theorem mK_torn : a_m_torn (mkK m a b c d e g) = g := rfl
theorem mKu_kind0 : u_m_kind (mkF (mkK m a b c d e g) i j k l o) x = mkF (mkK m x b c d e g) i j k l o := by dsimp only [mkF, mkK, u_m_kind]
theorem mKu_weight : u_m_weight (mkF (mkK m a b c d e g) i j k l o) x = mkF (mkK m a x c d e g) i j k l o := by dsimp only [mkF, mkK, u_m_weight]
theorem mKu_volume : u_m_volume (mkF (mkK m a b c d e g) i j k l o) x = mkF (mkK m a b x d e g) i j k l o := by dsimp only [mkF, mkK, u_m_volume]
theorem mKu_load : u_m_load (mkF (mkK m a b c d e g) i j k l o) x = mkF (mkK m a b c x e g) i j k l o := by dsimp only [mkF, mkK, u_m_load]
theorem mKu_hour : u_m_hour (mkF (mkK m a b c d e g) i j k l o) x = mkF (mkK m a b c d x g) i j k l o := by dsimp only [mkF, mkK, u_m_hour]
theorem mKu_torn : u_m_torn (mkF (mkK m a b c d e g) i j k l o) x = mkF (mkK m a b c d e x) i j k l o := by dsimp only [mkF, mkK, u_m_torn]
theorem mFK_w : a_m_w (mkF (mkK m a b c d e g) i j k l o) = a_m_w m := by dsimp only [a_m_w, mkF, mkK]
theorem mFK_kind : a_m_kind (mkF (mkK m a b c d e g) i j k l o) = a := by dsimp only [a_m_kind, mkF, mkK]
theorem mFK_weight : a_m_weight (mkF (mkK m a b c d e g) i j k l o) = b := by dsimp only [a_m_weight, mkF, mkK]
theorem mFK_volume : a_m_volume (mkF (mkK m a b c d e g) i j k l o) = c := by dsimp only [a_m_volume, mkF, mkK]
theorem mFK_load : a_m_load (mkF (mkK m a b c d e g) i j k l o) = d := by dsimp only [a_m_load, mkF, mkK]
theorem mFK_hour : a_m_hour (mkF (mkK m a b c d e g) i j k l o) = e := by dsimp only [a_m_hour, mkF, mkK]
theorem mFK_torn : a_m_torn (mkF (mkK m a b c d e g) i j k l o) = g := by dsimp only [a_m_torn, mkF, mkK]
end MKK
theorem M_comes {m : WM} (hw : (a_m_w m).length = 596) {f : Nat → Int32} (hf : sl (a_m_w m) 0 = f) {c h n : Nat} (hn : 6 ≤ n) (hc : c < 6) (hh : h < 2 ^ 31) (hsk : ∀ i, i < 3 → isN (f (64 + i)) 0 99) (ki we vo lo to : Int32) (i j k l o : Int32) : Fm_comesDown_89 n (nI c) (mkF (mkK m ki we vo lo (nI h) to) i j k l o) = some (mkF (mkK m ki we vo lo (nI h) to) (fS f c h to (Wt ki we lo (nI h)) (Ro ki vo (nI h)) (Fo ki (Wt ki we lo (nI h))) 4 0 (-1) 0 0 0 [0, 0, 0, 0]).1 (fS f c h to (Wt ki we lo (nI h)) (Ro ki vo (nI h)) (Fo ki (Wt ki we lo (nI h))) 4 0 (-1) 0 0 0 [0, 0, 0, 0]).2.1 (fS f c h to (Wt ki we lo (nI h)) (Ro ki vo (nI h)) (Fo ki (Wt ki we lo (nI h))) 4 0 (-1) 0 0 0 [0, 0, 0, 0]).2.2.1 (fS f c h to (Wt ki we lo (nI h)) (Ro ki vo (nI h)) (Fo ki (Wt ki we lo (nI h))) 4 0 (-1) 0 0 0 [0, 0, 0, 0]).2.2.2.2.1 (fS f c h to (Wt ki we lo (nI h)) (Ro ki vo (nI h)) (Fo ki (Wt ki we lo (nI h))) 4 0 (-1) 0 0 0 [0, 0, 0, 0]).2.2.2.1) := by
  unfold Fm_comesDown_89
  rw [mkF_in, mF_mF]
  have q := M_fallG (m := mkK m ki we vo lo (nI h) to) (f := f) (c := c) (h := h) (to := to) (W := Wt ki we lo (nI h)) (Rm := Ro ki vo (nI h)) (Fc := Fo ki (Wt ki we lo (nI h))) hw hf hc hh rfl hsk rfl rfl rfl rfl 4 0 n (-1) 0 0 0 [0, 0, 0, 0] (by omega) (by omega) (Or.inl rfl)
  rw [nI_0] at q
  exact q
/-- the reference's world at the end of the fall of thing t -/
def mT (m : WM) (f : Nat → Int32) (t c h : Nat) (b to : Int32) : WM := mkF (mkK m (f (67 + t)) (f (73 + t)) (f (79 + t)) b (nI h) to) (fT f t c h b to).1 (fT f t c h b to).2.1 (fT f t c h b to).2.2.1 (fT f t c h b to).2.2.2.2.1 (fT f t c h b to).2.2.2.1
theorem mXd_we (w : WX) (a b c d e g k : Int32) (p : List Int32) : a_fall_weighs (mkX w (a, b, c, d, e, g, k, p)) = a := by dsimp only [mkX, a_fall_weighs]
theorem mXd_ro (w : WX) (a b c d e g k : Int32) (p : List Int32) : a_fall_room (mkX w (a, b, c, d, e, g, k, p)) = b := by dsimp only [mkX, a_fall_room]
section MT
variable (w : WX) (m : WM) (f : Nat → Int32) (t c h : Nat) (b to : Int32)
theorem tT_la : a_fall_layer (mkX w (tT f t c h b to)) = (fT f t c h b to).1 := by dsimp only [mkX, tT, a_fall_layer]
theorem tT_dn : a_fall_down (mkX w (tT f t c h b to)) = (fT f t c h b to).2.1 := by dsimp only [mkX, tT, a_fall_down]
theorem tT_br : a_fall_broken (mkX w (tT f t c h b to)) = (fT f t c h b to).2.2.1 := by dsimp only [mkX, tT, a_fall_broken]
theorem tT_st : a_fall_stopper (mkX w (tT f t c h b to)) = (fT f t c h b to).2.2.2.1 := by dsimp only [mkX, tT, a_fall_stopper]
theorem tT_pt : a_fall_passedThick (mkX w (tT f t c h b to)) = (fT f t c h b to).2.2.2.2.2 := by dsimp only [mkX, tT, a_fall_passedThick]
theorem mT_la : a_m_restsIn (mT m f t c h b to) = (fT f t c h b to).1 := by dsimp only [mT, mkF, mkK, a_m_restsIn]
theorem mT_dn : a_m_down (mT m f t c h b to) = (fT f t c h b to).2.1 := by dsimp only [mT, mkF, mkK, a_m_down]
theorem mT_br : a_m_broken (mT m f t c h b to) = (fT f t c h b to).2.2.1 := by dsimp only [mT, mkF, mkK, a_m_broken]
theorem mT_ps : a_m_passes (mT m f t c h b to) = (fT f t c h b to).2.2.2.2.1 := by dsimp only [mT, mkF, mkK, a_m_passes]
theorem mT_st : a_m_stops (mT m f t c h b to) = (fT f t c h b to).2.2.2.1 := by dsimp only [mT, mkF, mkK, a_m_stops]
theorem mT_w : a_m_w (mT m f t c h b to) = a_m_w m := by dsimp only [mT, mkF, mkK, a_m_w]
theorem mT_kind : a_m_kind (mT m f t c h b to) = f (67 + t) := by dsimp only [mT, mkF, mkK, a_m_kind]
end MT
theorem M_goT {m : WM} (hw : (a_m_w m).length = 596) {f : Nat → Int32} (hf : sl (a_m_w m) 0 = f) {t c h n : Nat} (hn : 6 ≤ n) (hc : c < 6) (hh : h < 2 ^ 31) (hsk : ∀ i, i < 3 → isN (f (64 + i)) 0 99) (b to i j k l o : Int32) : Fm_comesDown_89 n (nI c) (mkF (mkK m (f (67 + t)) (f (73 + t)) (f (79 + t)) b (nI h) to) i j k l o) = some (mT m f t c h b to) := by
  unfold mT fT
  exact M_comes hw hf hn hc hh hsk (f (67 + t)) (f (73 + t)) (f (79 + t)) b to i j k l o
theorem M_lay {m : WM} (hw : (a_m_w m).length = 596) {f : Nat → Int32} (hf : sl (a_m_w m) 0 = f) {t : Nat} (ht : t < 6) : Fm_lay_89 (nI t) m = some (mkF (mkK m (f (67 + t)) (f (73 + t)) (f (79 + t)) (f (85 + t)) (f 1) 0) (a_m_restsIn m) (a_m_down m) (a_m_broken m) (a_m_passes m) (a_m_stops m)) := by
  unfold Fm_lay_89
  rw [m_ix0 hw (x := 67 + nI t) (67 + t) (by rw [show (67 : Int32) = nI 67 from rfl, nI_add]) (by omega), bd_some, m_ix0 hw (x := 73 + nI t) (73 + t) (by rw [show (73 : Int32) = nI 73 from rfl, nI_add]) (by omega), bd_some, m_ix0 hw (x := 79 + nI t) (79 + t) (by rw [show (79 : Int32) = nI 79 from rfl, nI_add]) (by omega), bd_some, m_ix0 hw (x := 85 + nI t) (85 + t) (by rw [show (85 : Int32) = nI 85 from rfl, nI_add]) (by omega), bd_some, m_ix0 hw (x := 1) 1 rfl (by omega), bd_some, hf]
  conv => lhs; rw [← mK_in m]
  rw [mKu_kind0, mKu_weight, mKu_volume, mKu_load, mKu_hour, mKu_torn]
theorem R.sk {w : WX} {m : WM} (h : R w m) : ∀ i, i < 3 → isN (sl (a_m_w m) 0 (64 + i)) 0 99 := fun i hi => by
  have := h.s.ok (k := 64 + i) (by omega)
  rw [okv_r64 _ _ (by omega) (by omega)] at this
  exact this
/-- falls leave the worlds side by side -/
theorem R_fall {w : WX} {m : WM} (h : R w m) {fa : TF} (hp : fa.2.2.2.2.2.2.2.length = 4) (a b c d e g i j k l o : Int32) : R (mkX w fa) (mkF (mkK m a b c d e g) i j k l o) := by
  obtain ⟨h1, h2, h3, h4, h5, h6, h7, ⟨c1, c2, c3, c4, c5, c6⟩, h9⟩ := h
  exact ⟨h1, h2, h3, h4, h5, h6, h7, ⟨c1, c2, hp, c4, c5, c6⟩, h9⟩
theorem mX_self (w : WX) : mkX w w.2.2.2.2.2.2.2.2.2.2.2.2.2.2.1 = w := rfl
theorem mF_self (m : WM) : m = mkF (mkK m (a_m_kind m) (a_m_weight m) (a_m_volume m) (a_m_load m) (a_m_hour m) (a_m_torn m)) (a_m_restsIn m) (a_m_down m) (a_m_broken m) (a_m_passes m) (a_m_stops m) := (mK_in m).symm
theorem R_falX {w : WX} {m : WM} (h : R w m) {fa : TF} (hp : fa.2.2.2.2.2.2.2.length = 4) : R (mkX w fa) m := by
  rw [mF_self m]
  exact R_fall h hp _ _ _ _ _ _ _ _ _ _ _
theorem R_falT {w : WX} {m : WM} (h : R w m) {fa : TF} (hp : fa.2.2.2.2.2.2.2.length = 4) (f : Nat → Int32) (t c hh : Nat) (b to : Int32) : R (mkX w fa) (mT m f t c hh b to) := by
  unfold mT
  exact R_fall h hp _ _ _ _ _ _ _ _ _ _ _
theorem R.pt {w : WX} {m : WM} (h : R w m) : w.2.2.2.2.2.2.2.2.2.2.2.2.2.2.1.2.2.2.2.2.2.2.length = 4 := h.2.2.2.2.2.2.2.1.2.2.1
theorem R_falP {w : WX} {m : WM} (h : R w m) (a1 a2 a3 a4 a5 a6 a7 : Int32) {p : List Int32} (hp : p.length = 4) (a b c d e g i j k l o : Int32) : R (mkX w (a1, a2, a3, a4, a5, a6, a7, p)) (mkF (mkK m a b c d e g) i j k l o) := R_fall h (fa := (a1, a2, a3, a4, a5, a6, a7, p)) hp a b c d e g i j k l o
theorem R.pt2 {w : WX} {m : WM} (h : R w m) : (a_fall_passedThick w).length = 4 := h.2.2.2.2.2.2.2.1.2.2.1
theorem R_falM {w : WX} {m : WM} (h : R w m) (a b c d e g i j k l o : Int32) : R w (mkF (mkK m a b c d e g) i j k l o) := by
  have q := R_fall h h.pt a b c d e g i j k l o
  rw [mX_self] at q
  exact q
theorem M_isCell {m : WM} (hw : (a_m_w m).length = 596) (x : Int32) : Fm_isCell_89 x m = some (if C_cell (sl (a_m_w m) 0 0) x then 1 else 0, m) := by
  unfold Fm_isCell_89
  rw [M_isCellOf (x := 0) (r := 0) rfl hw (by omega), bd_some]
  simp only [ifz2]
section C40
variable {w : WX} {m : WM}
theorem C_deep (h : R w m) (a b : Int32) : Ok (fun _ => Ff_deep_0 a b w) (fun _ => Fm_deep_89 a b m) := Ok.of 0 fun n hn => by
  obtain ⟨w2, m2, e1, e2, hR⟩ := R_bad h
  have f0 : a_s1_cells w = sl (a_m_w m) 0 0 := h.s.k (k := 0) (by omega)
  have f1 : a_s1_hour w = sl (a_m_w m) 0 1 := h.s.k (k := 1) (by omega)
  simp only [Ff_deep_0, Fm_deep_89, Ff_isLayer_eq, Fm_isLayer_eq, hasCell_1, M_isCell h.w, bd_some, ifz, e1, e2, f0, f1]
  by_cases c1 : C_lay a
  · simp only [if_pos c1]
    by_cases c2 : C_cell (sl (a_m_w m) 0 0) b
    · simp only [if_pos c2]
      obtain ⟨i, hi, rfl⟩ := lay_N c1
      obtain ⟨j, hj, rfl⟩ := cell_N h.s.c0 (by decide) c2
      have h6 := h.s.c0.2.1
      have q1 := h.s.c1.2.2
      have q2 := h.s.c1.2.1
      rw [m_ix0 h.w (x := 1) 1 rfl (by omega), bd_some, q1, X_thickAt h.s hi (by omega) (by omega), M_thickIn h.w hi (by omega) (by omega)]
      exact ⟨_, _, _, rfl, rfl, h⟩
    · simp only [if_neg c2]; exact ⟨_, _, _, rfl, rfl, hR⟩
  · simp only [if_neg c1]; exact ⟨_, _, _, rfl, rfl, hR⟩
theorem C_of (h : R w m) (a b : Int32) : Ok (fun _ => Ff_of_0 a b w) (fun _ => Fm_of_89 a b m) := Ok.of 0 fun n hn => by
  obtain ⟨w2, m2, e1, e2, hR⟩ := R_bad h
  have f2 : a_s1things_count w = sl (a_m_w m) 0 2 := h.s.k (k := 2) (by omega)
  have f1 : a_s1_hour w = sl (a_m_w m) 0 1 := h.s.k (k := 1) (by omega)
  simp only [Ff_of_0, Fm_of_89, has_7, M_isThing h.w, Ff_within_eq, Fm_in_eq b (lo := 0) (hi := 2) 0 2 rfl rfl, bd_some, ifz, e1, e2, f2]
  by_cases c1 : C_th (sl (a_m_w m) 0 2) a
  · simp only [if_pos c1]
    by_cases c2 : 0 ≤ b ∧ b ≤ 2
    · simp only [if_pos c2]
      obtain ⟨t, ht, rfl⟩ := th_N h.s.c2 (by decide) c1
      have h6 := h.s.c2.2.1
      obtain ⟨k1, k2, k3, k4⟩ := h.s.th ht
      have l1 : (a_s1things_kinds w).length = 6 := LSe_kinds h.s.1
      have l4 : (a_s1things_ballasts w).length = 6 := LSe_ballasts h.s.1
      rw [M_lay h.w rfl (by omega)]
      simp only [bd_some, M_weighs, M_room]
      have hK : ai_ix (a_s1things_kinds w) (nI t) = some (sl (a_m_w m) 0 (67 + t)) := by rw [← k1]; exact ix_e (l := a_s1things_kinds w) t rfl (by omega) (by omega)
      have hB : ai_ix (a_s1things_ballasts w) (nI t) = some (sl (a_m_w m) 0 (85 + t)) := by rw [← k4]; exact ix_e (l := a_s1things_ballasts w) t rfl (by omega) (by omega)
      by_cases b0 : b = 0
      · rw [if_pos b0, if_pos b0, hK]
        simp only [bd_some, mFK_kind]
        exact ⟨_, _, _, rfl, rfl, R_falM h _ _ _ _ _ _ _ _ _ _ _⟩
      rw [if_neg b0, if_neg b0]
      have hsh : Ff_shapeNow_0 (nI t) w = some (mkX w (Wt (sl (a_m_w m) 0 (67 + t)) (sl (a_m_w m) 0 (73 + t)) (sl (a_m_w m) 0 (85 + t)) (sl (a_m_w m) 0 1), Ro (sl (a_m_w m) 0 (67 + t)) (sl (a_m_w m) 0 (79 + t)) (sl (a_m_w m) 0 1), Fo (sl (a_m_w m) 0 (67 + t)) (Wt (sl (a_m_w m) 0 (67 + t)) (sl (a_m_w m) 0 (73 + t)) (sl (a_m_w m) 0 (85 + t)) (sl (a_m_w m) 0 1)), a_fall_layer w, a_fall_down w, a_fall_broken w, a_fall_stopper w, a_fall_passedThick w)) := by
        unfold Ff_shapeNow_0
        rw [hB, bd_some, f1]
        have := X_shapeB h.s ht (sl (a_m_w m) 0 (85 + t)) (sl (a_m_w m) 0 1) (fa := w.2.2.2.2.2.2.2.2.2.2.2.2.2.2.1)
        rw [mX_in] at this
        rw [this, bd_some]
      rw [hsh]
      simp only [bd_some]
      simp only [mXd_we, mXd_ro, mFK_kind, mFK_weight, mFK_volume, mFK_load, mFK_hour]
      by_cases b1 : b = 1
      · rw [if_pos b1, if_pos b1]
        exact ⟨_, _, _, rfl, rfl, R_falP h _ _ _ _ _ _ _ h.pt2 _ _ _ _ _ _ _ _ _ _ _⟩
      · rw [if_neg b1, if_neg b1]
        exact ⟨_, _, _, rfl, rfl, R_falP h _ _ _ _ _ _ _ h.pt2 _ _ _ _ _ _ _ _ _ _ _⟩
    · simp only [if_neg c2]; exact ⟨_, _, _, rfl, rfl, hR⟩
  · simp only [if_neg c1]; exact ⟨_, _, _, rfl, rfl, hR⟩
theorem C_rests (h : R w m) (a b d : Int32) : Ok (fun n => Ff_rests_0 n a b d w) (fun n => Fm_rests_89 n a b d m) := Ok.of 20 fun n hn => by
  obtain ⟨w2, m2, e1, e2, hR⟩ := R_bad h
  have f2 : a_s1things_count w = sl (a_m_w m) 0 2 := h.s.k (k := 2) (by omega)
  have f0 : a_s1_cells w = sl (a_m_w m) 0 0 := h.s.k (k := 0) (by omega)
  simp only [Ff_rests_0, Fm_rests_89, has_7, M_isThing h.w, hasCell_1, M_isCell h.w, Ff_within_eq, Fm_in_eq d (lo := 0) (hi := 2) 0 2 rfl rfl, bd_some, ifz, e1, e2, f2, f0]
  by_cases c1 : C_th (sl (a_m_w m) 0 2) a
  · simp only [if_pos c1]
    by_cases c2 : C_cell (sl (a_m_w m) 0 0) b
    · simp only [if_pos c2]
      by_cases c3 : 0 ≤ d ∧ d ≤ 2
      · simp only [if_pos c3]
        obtain ⟨t, ht, rfl⟩ := th_N h.s.c2 (by decide) c1
        obtain ⟨c, hc, rfl⟩ := cell_N h.s.c0 (by decide) c2
        have h6 := h.s.c2.2.1
        have h7 := h.s.c0.2.1
        have q1 := h.s.c1.2.2
        have q2 := h.s.c1.2.1
        have hx := X_goN h.s (n := n) (t := t) (c := c) (by omega) ht (by omega) 0 (fa := w.2.2.2.2.2.2.2.2.2.2.2.2.2.2.1) h.pt
        rw [mX_in] at hx
        obtain ⟨H, hH⟩ : ∃ H, Nn (sl (a_m_w m) 0 1) = H := ⟨_, rfl⟩
        rw [hH] at q1 q2 hx
        rw [hx, M_lay h.w rfl (by omega)]
        simp only [bd_some]
        rw [q1, M_goT h.w rfl (n := n) (t := t) (c := c) (h := H) (by omega) (by omega) (by omega) h.sk]
        simp only [bd_some, tT_la, tT_dn, tT_br, mT_la, mT_dn, mT_br]
        by_cases d0 : d = 0
        · rw [if_pos d0, if_pos d0]
          exact ⟨_, _, _, rfl, rfl, R_falT h (tT_len _ _ _ _ _ _) _ _ _ _ _ _⟩
        rw [if_neg d0, if_neg d0]
        by_cases d1 : d = 1
        · rw [if_pos d1, if_pos d1]
          exact ⟨_, _, _, rfl, rfl, R_falT h (tT_len _ _ _ _ _ _) _ _ _ _ _ _⟩
        · rw [if_neg d1, if_neg d1]
          exact ⟨_, _, _, rfl, rfl, R_falT h (tT_len _ _ _ _ _ _) _ _ _ _ _ _⟩
      · simp only [if_neg c3]; exact ⟨_, _, _, rfl, rfl, hR⟩
    · simp only [if_neg c2]; exact ⟨_, _, _, rfl, rfl, hR⟩
  · simp only [if_neg c1]; exact ⟨_, _, _, rfl, rfl, hR⟩
end C40
/-! ballast for a layer, what holds, the best hour -/
def mB (P : Nat → Prop) [DecidablePred P] : Nat → Int32 → Int32
  | 0, a => a
  | k + 1, a => mB P k (if P k then nI k else a)
theorem mB_none {P : Nat → Prop} [DecidablePred P] : ∀ (k : Nat) (a : Int32), (∀ j, j < k → ¬ P j) → mB P k a = a
  | 0, _, _ => rfl
  | k + 1, a, h => by
    rw [mB, if_neg (h k (by omega))]
    exact mB_none k a (fun j hj => h j (by omega))
theorem mB_first {P : Nat → Prop} [DecidablePred P] {b : Nat} (hb : P b) (hl : ∀ j, j < b → ¬ P j) : ∀ (k : Nat) (a : Int32), b < k → mB P k a = nI b
  | 0, _, h => absurd h (by omega)
  | k + 1, a, h => by
    rw [mB]
    by_cases e : b = k
    · subst e
      rw [if_pos hb]
      exact mB_none b _ hl
    · exact mB_first hb hl k _ (by omega)
theorem mB_rng {P : Nat → Prop} [DecidablePred P] : ∀ (k : Nat) (a : Int32), mB P k a = a ∨ ∃ j, j < k ∧ mB P k a = nI j
  | 0, _ => Or.inl rfl
  | k + 1, a => by
    rw [mB]
    rcases mB_rng (P := P) k (if P k then nI k else a) with q | ⟨j, hj, q⟩
    · by_cases c : P k
      · rw [if_pos c] at q ⊢
        exact Or.inr ⟨k, by omega, q⟩
      · rw [if_neg c] at q ⊢
        exact Or.inl q
    · exact Or.inr ⟨j, by omega, q⟩
/-- the least ballast by which thing t rests in a layer -/
abbrev lB (f : Nat → Int32) (t c h : Nat) (L : Int32) : Int32 := mB (fun b => (fT f t c h (nI b) 0).1 = L) 100 (-1)
theorem X_least {W : WX} {f : Nat → Int32} (hs : RS W.2.1 W.2.2.1 W.2.2.2.1 f) {t c h : Nat} (ht : t < Nn (f 2)) (hc : c < 6) (hh : h < 2 ^ 31) (L : Int32) : ∀ (d b n : Nat) (fa : TF), b + d = 100 → d + 7 < n → (∀ j, j < b → ¬ (fT f t c h (nI j) 0).1 = L) → fa.2.2.2.2.2.2.2.length = 4 → ∃ fb : TF, fb.2.2.2.2.2.2.2.length = 4 ∧ Gf_leastBallast_0 n 0 (nI t) (nI c) L (nI h) (nI b) (mkX W fa) = some (lB f t c h L, mkX W fb) := by
  intro d
  induction d with
  | zero =>
    intro b n fa hb hn hl hp
    obtain ⟨n, rfl⟩ : ∃ k, n = k + 1 := ⟨n - 1, by omega⟩
    have : b = 100 := by omega
    subst this
    rw [Gf_leastBallast_0, if_pos (show (99 : Int32) < nI 100 by decide)]
    exact ⟨fa, hp, by unfold lB; rw [mB_none 100 _ hl]⟩
  | succ d ih =>
    intro b n fa hb hn hl hp
    obtain ⟨n, rfl⟩ : ∃ k, n = k + 1 := ⟨n - 1, by omega⟩
    rw [Gf_leastBallast_0, if_neg (show ¬ (99 : Int32) < nI b from nI_nlt (a := 99) (by omega) (by decide)), X_goB hs (n := n) (by omega) ht hc hh (nI b) hp, bd_some]
    rw [tT_la]
    by_cases q : (fT f t c h (nI b) 0).1 = L
    · unfold lB
      rw [if_pos q, mB_first (P := fun b => (fT f t c h (nI b) 0).1 = L) q hl 100 (-1) (by omega)]
      exact ⟨_, tT_len _ _ _ _ _ _, rfl⟩
    · rw [if_neg q, nI_1]
      exact ih (b + 1) n _ (by omega) (by omega) (fun j hj => by
        by_cases z : j = b
        · rw [z]; exact q
        · exact hl j (by omega)) (tT_len _ _ _ _ _ _)
theorem M_least {m : WM} (hw : (a_m_w m).length = 596) {f : Nat → Int32} (hf : sl (a_m_w m) 0 = f) {t c h : Nat} (hc : c < 6) (hh : h < 2 ^ 31) (hsk : ∀ i, i < 3 → isN (f (64 + i)) 0 99) (L : Int32) : ∀ (k n : Nat) (a lo i j p l o : Int32), k ≤ 100 → k + 7 < n → ∃ lo' i' j' p' l' o', Gm_leastFor_89 n 0 (nI c) L a (nI k - 1) (mkF (mkK m (f (67 + t)) (f (73 + t)) (f (79 + t)) lo (nI h) 0) i j p l o) = some (mB (fun b => (fT f t c h (nI b) 0).1 = L) k a, mkF (mkK m (f (67 + t)) (f (73 + t)) (f (79 + t)) lo' (nI h) 0) i' j' p' l' o') := by
  intro k
  induction k with
  | zero =>
    intro n a lo i j p l o hk hn
    obtain ⟨n, rfl⟩ : ∃ k, n = k + 1 := ⟨n - 1, by omega⟩
    rw [Gm_leastFor_89, if_pos (show nI 0 - 1 < 0 by decide)]
    exact ⟨_, _, _, _, _, _, rfl⟩
  | succ k ih =>
    intro n a lo i j p l o hk hn
    obtain ⟨n, rfl⟩ : ∃ k, n = k + 1 := ⟨n - 1, by omega⟩
    rw [nI_pred, Gm_leastFor_89, if_neg (nI_pos (by omega)), mKu_load, M_goT hw hf (n := n) (by omega) hc hh hsk, bd_some]
    have e : a_m_restsIn (mT m f t c h (nI k) 0) = (fT f t c h (nI k) 0).1 := mT_la _ _ _ _ _ _ _
    have e2 : nI k + (-1) = nI k - 1 := (Int32.sub_eq_add_neg (nI k) 1).symm
    rw [e, e2, mB]
    unfold mT
    by_cases q : (fT f t c h (nI k) 0).1 = L
    · rw [if_pos q, if_pos q]
      exact ih n (nI k) _ _ _ _ _ _ (by omega) (by omega)
    · rw [if_neg q, if_neg q]
      exact ih n a _ _ _ _ _ _ (by omega) (by omega)
abbrev C_ld (f : Nat → Int32) (a : Int32) : Prop := C_th (f 2) a ∧ (1 ≤ f (67 + Nn a) ∧ f (67 + Nn a) ≤ 3)
section C41
variable {w : WX} {m : WM}
theorem X_takes {f : Nat → Int32} (hs : RS w.2.1 w.2.2.1 w.2.2.2.1 f) (a : Int32) : Ff_takesBallast_0 a w = some (if C_ld f a then 1 else 0, w) := by
  have f2 : a_s1things_count w = f 2 := hs.k (k := 2) (by omega)
  unfold Ff_takesBallast_0
  rw [has_7, bd_some, f2]
  simp only [ifz]
  by_cases c1 : C_th (f 2) a
  · rw [if_pos c1]
    obtain ⟨t, ht, rfl⟩ := th_N hs.c2 (by decide) c1
    have h6 := hs.c2.2.1
    obtain ⟨k1, -⟩ := hs.th ht
    have l1 : (a_s1things_kinds w).length = 6 := LSe_kinds hs.1
    have hK : ai_ix (a_s1things_kinds w) (nI t) = some (f (67 + t)) := by rw [← k1]; exact ix_e (l := a_s1things_kinds w) t rfl (by omega) (by omega)
    have nt : Nn (nI t) = t := Nn_nI (by omega)
    rw [hK, bd_some, Ff_within_eq, bd_some, ifz]
    by_cases c2 : 1 ≤ f (67 + t) ∧ f (67 + t) ≤ 3
    · rw [if_pos c2, if_pos ⟨c1, by rw [nt]; exact c2⟩]
    · rw [if_neg c2, if_neg (fun q => c2 (by have := q.2; rw [nt] at this; exact this))]
  · rw [if_neg c1, if_neg (fun q => c1 q.1)]
theorem M_isLoaded {f : Nat → Int32} (hw : (a_m_w m).length = 596) (hf : sl (a_m_w m) 0 = f) (h2 : isN (f 2) 0 6) (a : Int32) : Fm_isLoaded_89 a m = some (if C_ld f a then 1 else 0, m) := by
  unfold Fm_isLoaded_89
  rw [M_isThing hw, bd_some, hf]
  simp only [ifz]
  by_cases c1 : C_th (f 2) a
  · rw [if_pos c1]
    obtain ⟨t, ht, rfl⟩ := th_N h2 (by decide) c1
    have h6 := h2.2.1
    have nt : Nn (nI t) = t := Nn_nI (by omega)
    rw [m_ix0 hw (x := 67 + nI t) (67 + t) (by rw [show (67 : Int32) = nI 67 from rfl, nI_add]) (by omega), bd_some, hf, Fm_in_eq (f (67 + t)) (lo := 1) (hi := 3) 1 3 rfl rfl, bd_some, ifz]
    by_cases c2 : 1 ≤ f (67 + t) ∧ f (67 + t) ≤ 3
    · rw [if_pos c2, if_pos ⟨c1, by rw [nt]; exact c2⟩]
    · rw [if_neg c2, if_neg (fun q => c2 (by have := q.2; rw [nt] at this; exact this))]
  · rw [if_neg c1, if_neg (fun q => c1 q.1)]
theorem C_sink (h : R w m) (a b d : Int32) : Ok (fun n => Ff_sink_0 n a b d w) (fun n => Fm_sink_89 n a b d m) := Ok.of 200 fun n hn => by
  obtain ⟨w2, m2, e1, e2, hR⟩ := R_badAs h (-10)
  have f0 : a_s1_cells w = sl (a_m_w m) 0 0 := h.s.k (k := 0) (by omega)
  have f1 : a_s1_hour w = sl (a_m_w m) 0 1 := h.s.k (k := 1) (by omega)
  simp only [Ff_sink_0, Fm_sink_89, X_takes h.s, M_isLoaded h.w rfl h.s.c2, hasCell_1, M_isCell h.w, Ff_within_eq, Fm_in_eq d (lo := 0) (hi := 4) 0 4 rfl rfl, bd_some, ifz, e1, e2, f0, f1]
  by_cases c1 : C_ld (sl (a_m_w m) 0) a
  · simp only [if_pos c1]
    by_cases c2 : C_cell (sl (a_m_w m) 0 0) b
    · simp only [if_pos c2]
      by_cases c3 : 0 ≤ d ∧ d ≤ 4
      · simp only [if_pos c3]
        obtain ⟨t, ht, rfl⟩ := th_N h.s.c2 (by decide) c1.1
        obtain ⟨c, hc, rfl⟩ := cell_N h.s.c0 (by decide) c2
        have h6 := h.s.c2.2.1
        have h7 := h.s.c0.2.1
        have q1 := h.s.c1.2.2
        have q2 := h.s.c1.2.1
        obtain ⟨fb, hb, hx⟩ := X_least h.s (t := t) (c := c) (h := Nn (sl (a_m_w m) 0 1)) ht (by omega) (by omega) d 100 0 n w.2.2.2.2.2.2.2.2.2.2.2.2.2.2.1 (by omega) (by omega) (fun j hj => absurd hj (by omega)) h.pt
        rw [mX_in, ← q1] at hx
        have hx : Ff_leastBallast_0 n (nI t) (nI c) d (sl (a_m_w m) 0 1) w = some (lB (sl (a_m_w m) 0) t c (Nn (sl (a_m_w m) 0 1)) d, mkX w fb) := hx
        obtain ⟨lo', i', j', p', l', o', hm⟩ := M_least h.w rfl (t := t) (c := c) (h := Nn (sl (a_m_w m) 0 1)) (by omega) (by omega) h.sk d 100 n (-1) (sl (a_m_w m) 0 (85 + t)) (a_m_restsIn m) (a_m_down m) (a_m_broken m) (a_m_passes m) (a_m_stops m) (by omega) (by omega)
        rw [← q1] at hm
        have hm : Fm_leastFor_89 n (nI c) d (mkF (mkK m (sl (a_m_w m) 0 (67 + t)) (sl (a_m_w m) 0 (73 + t)) (sl (a_m_w m) 0 (79 + t)) (sl (a_m_w m) 0 (85 + t)) (sl (a_m_w m) 0 1) 0) (a_m_restsIn m) (a_m_down m) (a_m_broken m) (a_m_passes m) (a_m_stops m)) = some (lB (sl (a_m_w m) 0) t c (Nn (sl (a_m_w m) 0 1)) d, mkF (mkK m (sl (a_m_w m) 0 (67 + t)) (sl (a_m_w m) 0 (73 + t)) (sl (a_m_w m) 0 (79 + t)) lo' (sl (a_m_w m) 0 1) 0) i' j' p' l' o') := hm
        rw [hx, M_lay h.w rfl (by omega)]
        simp only [bd_some]
        rw [hm]
        simp only [bd_some]
        exact ⟨_, _, _, rfl, rfl, R_fall h hb _ _ _ _ _ _ _ _ _ _ _⟩
      · simp only [if_neg c3]; exact ⟨_, _, _, rfl, rfl, hR⟩
    · simp only [if_neg c2]; exact ⟨_, _, _, rfl, rfl, hR⟩
  · simp only [if_neg c1]; exact ⟨_, _, _, rfl, rfl, hR⟩
theorem C_holds (h : R w m) (a b : Int32) : Ok (fun n => Ff_holds_0 n a b w) (fun n => Fm_holds_89 n a b m) := Ok.of 20 fun n hn => by
  obtain ⟨w2, m2, e1, e2, hR⟩ := R_badAs h (-10)
  have f0 : a_s1_cells w = sl (a_m_w m) 0 0 := h.s.k (k := 0) (by omega)
  have f1 : a_s1_hour w = sl (a_m_w m) 0 1 := h.s.k (k := 1) (by omega)
  simp only [Ff_holds_0, Fm_holds_89, X_takes h.s, M_isLoaded h.w rfl h.s.c2, hasCell_1, M_isCell h.w, bd_some, ifz, e1, e2, f0, f1]
  by_cases c1 : C_ld (sl (a_m_w m) 0) a
  · simp only [if_pos c1]
    by_cases c2 : C_cell (sl (a_m_w m) 0 0) b
    · simp only [if_pos c2]
      obtain ⟨t, ht, rfl⟩ := th_N h.s.c2 (by decide) c1.1
      obtain ⟨c, hc, rfl⟩ := cell_N h.s.c0 (by decide) c2
      have h6 := h.s.c2.2.1
      have h7 := h.s.c0.2.1
      have q1 := h.s.c1.2.2
      have q2 := h.s.c1.2.1
      have hx := X_goB h.s (n := n) (t := t) (c := c) (h := Nn (sl (a_m_w m) 0 1)) (by omega) ht (by omega) (by omega) 99 (fa := w.2.2.2.2.2.2.2.2.2.2.2.2.2.2.1) h.pt
      rw [mX_in, ← q1] at hx
      rw [hx, M_lay h.w rfl (by omega)]
      simp only [bd_some]
      rw [mKu_load]
      have hm := M_goT h.w rfl (n := n) (t := t) (c := c) (h := Nn (sl (a_m_w m) 0 1)) (by omega) (by omega) (by omega) h.sk 99 0 (a_m_restsIn m) (a_m_down m) (a_m_broken m) (a_m_passes m) (a_m_stops m)
      rw [← q1] at hm
      rw [hm]
      simp only [bd_some, tT_st, mT_st]
      exact ⟨_, _, _, rfl, rfl, R_falT h (tT_len _ _ _ _ _ _) _ _ _ _ _ _⟩
    · simp only [if_neg c2]; exact ⟨_, _, _, rfl, rfl, hR⟩
  · simp only [if_neg c1]; exact ⟨_, _, _, rfl, rfl, hR⟩
/-- the best hour, both loops in step -/
theorem best_step (h : R w m) {t c : Nat} (ht : t < Nn (sl (a_m_w m) 0 2)) (hc : c < 6) (a b L : Int32) : ∀ (d k n : Nat) (be xl ml : Int32) (fa : TF) (lo ho i j p l o : Int32), k + d = 6 → d + 150 < n → fa.2.2.2.2.2.2.2.length = 4 → ((xl = 100 ∧ ml = 1000000) ∨ (xl = ml ∧ ∃ z, z < 100 ∧ xl = nI z)) → ∃ r w' m', Gf_bestHour_0 n 0 (nI t) (nI c) L be xl (nI k) (mkX w fa) = some (r, w') ∧ Gm_bestHour_89 n 0 (nI t) (nI c) L be ml (nI k) (mkF (mkK m (sl (a_m_w m) 0 (67 + t)) (sl (a_m_w m) 0 (73 + t)) (sl (a_m_w m) 0 (79 + t)) lo ho 0) i j p l o) = some (r, m') ∧ R w' m' := by
  have h6 := h.s.c2.2.1
  have q1 := h.s.c1.2.2
  have q2 := h.s.c1.2.1
  have f1 : ∀ fa, a_s1_hour (mkX w fa) = sl (a_m_w m) 0 1 := fun fa => h.s.k (k := 1) (by omega)
  intro d
  induction d with
  | zero =>
    intro k n be xl ml fa lo ho i j p l o hk hn hp hq
    obtain ⟨n, rfl⟩ : ∃ k, n = k + 1 := ⟨n - 1, by omega⟩
    have : k = 6 := by omega
    subst this
    rw [Gf_bestHour_0, Gm_bestHour_89, if_pos (show (6 : Int32) ≤ nI 6 from Int32.le_refl _), if_pos (show (6 : Int32) ≤ nI 6 from Int32.le_refl _)]
    exact ⟨_, _, _, rfl, rfl, R_fall h hp _ _ _ _ _ _ _ _ _ _ _⟩
  | succ d ih =>
    intro k n be xl ml fa lo ho i j p l o hk hn hp hq
    obtain ⟨n, rfl⟩ : ∃ k, n = k + 1 := ⟨n - 1, by omega⟩
    have hk6 : ¬ (6 : Int32) ≤ nI k := nI_ge (b := 6) (by omega) (by decide)
    have s1 : sl (a_m_w m) 0 1 + nI k = nI (Nn (sl (a_m_w m) 0 1) + k) := by
      have : sl (a_m_w m) 0 1 + nI k = nI (Nn (sl (a_m_w m) 0 1)) + nI k := by rw [← q1]
      rw [this, nI_add]
    obtain ⟨fb, hb, hx⟩ := X_least h.s (t := t) (c := c) (h := Nn (sl (a_m_w m) 0 1) + k) ht hc (by omega) L 100 0 n fa (by omega) (by omega) (fun j hj => absurd hj (by omega)) hp
    have hx : Ff_leastBallast_0 n (nI t) (nI c) L (nI (Nn (sl (a_m_w m) 0 1) + k)) (mkX w fa) = some (lB (sl (a_m_w m) 0) t c (Nn (sl (a_m_w m) 0 1) + k) L, mkX w fb) := hx
    obtain ⟨lo', i', j', p', l', o', hm⟩ := M_least h.w rfl (t := t) (c := c) (h := Nn (sl (a_m_w m) 0 1) + k) hc (by omega) h.sk L 100 n (-1) lo i j p l o (by omega) (by omega)
    have hm : Fm_leastFor_89 n (nI c) L (mkF (mkK m (sl (a_m_w m) 0 (67 + t)) (sl (a_m_w m) 0 (73 + t)) (sl (a_m_w m) 0 (79 + t)) lo (nI (Nn (sl (a_m_w m) 0 1) + k)) 0) i j p l o) = some (lB (sl (a_m_w m) 0) t c (Nn (sl (a_m_w m) 0 1) + k) L, mkF (mkK m (sl (a_m_w m) 0 (67 + t)) (sl (a_m_w m) 0 (73 + t)) (sl (a_m_w m) 0 (79 + t)) lo' (nI (Nn (sl (a_m_w m) 0 1) + k)) 0) i' j' p' l' o') := hm
    have hw1 : ai_ix (a_m_w m) 1 = some (sl (a_m_w m) 0 1) := m_ix0 h.w (x := 1) 1 rfl (by omega)
    rw [Gf_bestHour_0, Gm_bestHour_89, if_neg hk6, if_neg hk6, f1, s1, hx, mFK_w, hw1]
    simp only [bd_some]
    rw [s1, mKu_hour, hm]
    simp only [bd_some, nI_1]
    have rng : lB (sl (a_m_w m) 0) t c (Nn (sl (a_m_w m) 0 1) + k) L = -1 ∨ ∃ j, j < 100 ∧ lB (sl (a_m_w m) 0) t c (Nn (sl (a_m_w m) 0 1) + k) L = nI j := mB_rng (P := fun b => (fT (sl (a_m_w m) 0) t c (Nn (sl (a_m_w m) 0 1) + k) (nI b) 0).1 = L) 100 (-1)
    generalize hz : lB (sl (a_m_w m) 0) t c (Nn (sl (a_m_w m) 0 1) + k) L = z at *
    rcases rng with rng | ⟨y, hy, rng⟩
    · have z1 : z = -1 := rng
      rw [if_pos z1, if_pos (show z < 0 by rw [z1]; decide), if_pos (show z < 0 by rw [z1]; decide)]
      exact ih (k + 1) n be xl ml fb _ _ _ _ _ _ _ (by omega) (by omega) hb hq
    · have z1 : z = nI y := rng
      have zn : ¬ z < 0 := by rw [z1]; exact nI_pos (by omega)
      have zm : ¬ z = -1 := fun e => zn (by rw [e]; decide)
      rw [if_neg zm, if_neg zn, if_neg zn, if_neg zn]
      rcases hq with ⟨x1, x2⟩ | ⟨x1, u, hu, x2⟩
      · have a1 : ¬ xl ≤ z := by rw [x1, z1]; exact nI_ge (b := 100) (by omega) (by decide)
        have a2 : ¬ ml ≤ z := by rw [x2, z1]; exact nI_ge (b := 1000000) (by omega) (by decide)
        simp only [if_neg a1, if_neg a2]
        exact ih (k + 1) n (nI k) z z fb _ _ _ _ _ _ _ (by omega) (by omega) hb (Or.inr ⟨rfl, y, by omega, z1⟩)
      · subst x1
        by_cases a1 : xl ≤ z
        · simp only [if_pos a1]
          exact ih (k + 1) n be xl xl fb _ _ _ _ _ _ _ (by omega) (by omega) hb (Or.inr ⟨rfl, u, hu, x2⟩)
        · simp only [if_neg a1]
          exact ih (k + 1) n (nI k) z z fb _ _ _ _ _ _ _ (by omega) (by omega) hb (Or.inr ⟨rfl, y, by omega, z1⟩)
theorem C_bestHour (h : R w m) (a b d : Int32) : Ok (fun n => Ff_bestHour_0 n a b d w) (fun n => Fm_bestHour_89 n a b d m) := Ok.of 300 fun n hn => by
  obtain ⟨w2, m2, e1, e2, hR⟩ := R_badAs h (-10)
  have f0 : a_s1_cells w = sl (a_m_w m) 0 0 := h.s.k (k := 0) (by omega)
  simp only [Ff_bestHour_0, Fm_bestHour_89, X_takes h.s, M_isLoaded h.w rfl h.s.c2, hasCell_1, M_isCell h.w, Ff_within_eq, Fm_in_eq d (lo := 0) (hi := 4) 0 4 rfl rfl, bd_some, ifz, e1, e2, f0]
  by_cases c1 : C_ld (sl (a_m_w m) 0) a
  · simp only [if_pos c1]
    by_cases c2 : C_cell (sl (a_m_w m) 0 0) b
    · simp only [if_pos c2]
      by_cases c3 : 0 ≤ d ∧ d ≤ 4
      · simp only [if_pos c3]
        obtain ⟨t, ht, rfl⟩ := th_N h.s.c2 (by decide) c1.1
        obtain ⟨c, hc, rfl⟩ := cell_N h.s.c0 (by decide) c2
        have h6 := h.s.c2.2.1
        have h7 := h.s.c0.2.1
        rw [M_lay h.w rfl (by omega)]
        simp only [bd_some]
        have := best_step h ht (c := c) (by omega) (nI t) (nI c) d 6 0 n (-1) 100 1000000 w.2.2.2.2.2.2.2.2.2.2.2.2.2.2.1 (sl (a_m_w m) 0 (85 + t)) (sl (a_m_w m) 0 1) (a_m_restsIn m) (a_m_down m) (a_m_broken m) (a_m_passes m) (a_m_stops m) (by omega) (by omega) h.pt (Or.inl ⟨rfl, rfl⟩)
        rw [mX_in] at this
        exact this
      · simp only [if_neg c3]; exact ⟨_, _, _, rfl, rfl, hR⟩
    · simp only [if_neg c2]; exact ⟨_, _, _, rfl, rfl, hR⟩
  · simp only [if_neg c1]; exact ⟨_, _, _, rfl, rfl, hR⟩
end C41
