/-! what lies in a layer -/
def lS (f : Nat → Int32) (c h : Nat) (v : Int32) (k : Nat) : FR := fS f c h 0 (Wt 4 (nI k) 0 (nI h)) (Ro 4 v (nI h)) (Fo 4 (Wt 4 (nI k) 0 (nI h))) 4 0 (-1) 0 0 0 [0, 0, 0, 0]
def tL (f : Nat → Int32) (c h : Nat) (v : Int32) (k : Nat) : TF := (Wt 4 (nI k) 0 (nI h), Ro 4 v (nI h), Fo 4 (Wt 4 (nI k) 0 (nI h)), (lS f c h v k).1, (lS f c h v k).2.1, (lS f c h v k).2.2.1, (lS f c h v k).2.2.2.1, (lS f c h v k).2.2.2.2.2)
def mL (m : WM) (f : Nat → Int32) (c h : Nat) (v : Int32) (k : Nat) : WM := mkF (mkK m 4 (nI k) v 0 (nI h) 0) (lS f c h v k).1 (lS f c h v k).2.1 (lS f c h v k).2.2.1 (lS f c h v k).2.2.2.2.1 (lS f c h v k).2.2.2.1
theorem tL_len (f : Nat → Int32) (c h : Nat) (v : Int32) (k : Nat) : (tL f c h v k).2.2.2.2.2.2.2.length = 4 := fS_len f c h 0 _ _ _ 4 0 (-1) 0 0 0 [0, 0, 0, 0] rfl
theorem tL_la (w : WX) (f : Nat → Int32) (c h : Nat) (v : Int32) (k : Nat) : a_fall_layer (mkX w (tL f c h v k)) = (lS f c h v k).1 := by dsimp only [mkX, tL, a_fall_layer]
theorem mL_la (m : WM) (f : Nat → Int32) (c h : Nat) (v : Int32) (k : Nat) : a_m_restsIn (mL m f c h v k) = (lS f c h v k).1 := by dsimp only [mL, mkF, mkK, a_m_restsIn]
theorem X_lies1 {α : Type} {W : WX} {f : Nat → Int32} (hs : RS W.2.1 W.2.2.1 W.2.2.2.1 f) {c h n : Nat} (hn : 6 ≤ n) (hc : c < 6) (hh : h < 2 ^ 31) (v : Int32) (k : Nat) {fa : TF} (hp : fa.2.2.2.2.2.2.2.length = 4) (g : WX → Option α) : (ai_bd (Ffall_shape_81 4 (nI k) v 0 (nI h) (mkX W fa)) fun c1717 => ai_bd (Ffall_letGo_81_1 n (nI c) (nI h) 0 c1717) g) = g (mkX W (tL f c h v k)) := by
  obtain ⟨f1, f2, f3, f4, f5, f6, f7, f8⟩ := fa
  have hp : f8.length = 4 := hp
  unfold tL lS
  rw [X_shape, bd_some, X_letGo hs hn hc hh 0 _ _ _ _ _ _ _ hp, bd_some]
theorem M_lies1 {m : WM} (hw : (a_m_w m).length = 596) {f : Nat → Int32} (hf : sl (a_m_w m) 0 = f) {c h n : Nat} (hn : 6 ≤ n) (hc : c < 6) (hh : h < 2 ^ 31) (hsk : ∀ i, i < 3 → isN (f (64 + i)) 0 99) (v we : Int32) (k : Nat) (i j p l o : Int32) : Fm_comesDown_89 n (nI c) (u_m_weight (mkF (mkK m 4 we v 0 (nI h) 0) i j p l o) (nI k)) = some (mL m f c h v k) := by
  rw [mKu_weight]
  unfold mL lS
  exact M_comes hw hf hn hc hh hsk 4 (nI k) v 0 0 i j p l o
theorem mK_lies (m : WM) (v hh : Int32) : u_m_torn (u_m_hour (u_m_load (u_m_volume (u_m_kind m 4) v) 0) hh) 0 = mkF (mkK m 4 (a_m_weight m) v 0 hh 0) (a_m_restsIn m) (a_m_down m) (a_m_broken m) (a_m_passes m) (a_m_stops m) := by dsimp only [u_m_torn, u_m_hour, u_m_load, u_m_volume, u_m_kind, mkF, mkK, a_m_weight, a_m_restsIn, a_m_down, a_m_broken, a_m_passes, a_m_stops]
section C47
variable {w : WX} {m : WM}
theorem lies_step (h : R w m) {c hh : Nat} (hc : c < 6) (hhh : hh < 2 ^ 31) (v L q : Int32) : ∀ (d k n : Nat) (cnt lo hi : Int32) (fa : TF) (we i j p l o : Int32), k + d = 100 → d + 10 < n → fa.2.2.2.2.2.2.2.length = 4 → ∃ r w' m', Gf_lies_0 n 0 v (nI c) L (nI hh) q cnt lo hi (nI k) (mkX w fa) = some (r, w') ∧ Gm_lies_89 n 0 v (nI c) L (nI hh) q cnt lo hi (nI k) (mkF (mkK m 4 we v 0 (nI hh) 0) i j p l o) = some (r, m') ∧ R w' m' := by
  intro d
  induction d with
  | zero =>
    intro k n cnt lo hi fa we i j p l o hk hn hp
    obtain ⟨n, rfl⟩ : ∃ k, n = k + 1 := ⟨n - 1, by omega⟩
    have : k = 100 := by omega
    subst this
    rw [Gf_lies_0, Gm_lies_89, if_pos (show (99 : Int32) < nI 100 by decide), if_pos (show (100 : Int32) ≤ nI 100 by decide)]
    by_cases q0 : q = 0
    · rw [if_pos q0, if_pos q0]
      exact ⟨_, _, _, rfl, rfl, R_fall h hp _ _ _ _ _ _ _ _ _ _ _⟩
    rw [if_neg q0, if_neg q0]
    by_cases q1 : q = 1
    · rw [if_pos q1, if_pos q1]
      exact ⟨_, _, _, rfl, rfl, R_fall h hp _ _ _ _ _ _ _ _ _ _ _⟩
    · rw [if_neg q1, if_neg q1]
      exact ⟨_, _, _, rfl, rfl, R_fall h hp _ _ _ _ _ _ _ _ _ _ _⟩
  | succ d ih =>
    intro k n cnt lo hi fa we i j p l o hk hn hp
    obtain ⟨n, rfl⟩ : ∃ k, n = k + 1 := ⟨n - 1, by omega⟩
    rw [Gf_lies_0, Gm_lies_89, if_neg (show ¬ (99 : Int32) < nI k from nI_nlt (a := 99) (by omega) (by decide)), if_neg (show ¬ (100 : Int32) ≤ nI k from nI_ge (b := 100) (by omega) (by decide)), X_lies1 h.s (by omega) hc hhh v k hp, M_lies1 h.w rfl (by omega) hc hhh h.sk v we k, bd_some, tL_la, mL_la, nI_1]
    have go := fun cnt lo hi => ih (k + 1) n cnt lo hi (tL (sl (a_m_w m) 0) c hh v k) (nI k) (lS (sl (a_m_w m) 0) c hh v k).1 (lS (sl (a_m_w m) 0) c hh v k).2.1 (lS (sl (a_m_w m) 0) c hh v k).2.2.1 (lS (sl (a_m_w m) 0) c hh v k).2.2.2.2.1 (lS (sl (a_m_w m) 0) c hh v k).2.2.2.1 (by omega) (by omega) (tL_len _ _ _ _ _)
    unfold mL
    by_cases c1 : (lS (sl (a_m_w m) 0) c hh v k).1 = L
    · rw [if_pos c1, if_pos c1]
      by_cases c2 : lo = -1
      · rw [if_pos c2, if_pos c2]
        exact go _ _ _
      · rw [if_neg c2, if_neg c2]
        exact go _ _ _
    · rw [if_neg c1, if_neg c1]
      exact go _ _ _
theorem C_lies (h : R w m) (a b d e g : Int32) : Ok (fun n => Ff_lies_0 n a b d e g w) (fun n => Fm_lies_89 n a b d e g m) := Ok.of 200 fun n hn => by
  obtain ⟨w2, m2, e1, e2, hR⟩ := R_badAs h (-10)
  have f0 : a_s1_cells w = sl (a_m_w m) 0 0 := h.s.k (k := 0) (by omega)
  simp only [Ff_lies_0, Fm_lies_89, Ff_within_eq, hasCell_1, M_isCell h.w, Fm_in_eq a (lo := 1) (hi := 9) 1 9 rfl rfl, Fm_in_eq d (lo := 0) (hi := 4) 0 4 rfl rfl, Fm_in_eq e (lo := 0) (hi := 999) 0 999 rfl rfl, Fm_in_eq g (lo := 0) (hi := 2) 0 2 rfl rfl, bd_some, ifz, e1, e2, f0]
  by_cases c1 : 1 ≤ a ∧ a ≤ 9
  · simp only [if_pos c1]
    by_cases c2 : C_cell (sl (a_m_w m) 0 0) b
    · simp only [if_pos c2]
      by_cases c3 : 0 ≤ d ∧ d ≤ 4
      · simp only [if_pos c3]
        by_cases c4 : 0 ≤ e ∧ e ≤ 999
        · simp only [if_pos c4]
          by_cases c5 : 0 ≤ g ∧ g ≤ 2
          · simp only [if_pos c5]
            obtain ⟨c, hc, rfl⟩ := cell_N h.s.c0 (by decide) c2
            obtain ⟨hh, hhh, rfl⟩ := in0 999 rfl c4
            have h7 := h.s.c0.2.1
            rw [mK_lies]
            have q := lies_step h (c := c) (hh := hh) (by omega) (by omega) a d g 99 1 n 0 (-1) (-1) w.2.2.2.2.2.2.2.2.2.2.2.2.2.2.1 (a_m_weight m) (a_m_restsIn m) (a_m_down m) (a_m_broken m) (a_m_passes m) (a_m_stops m) (by omega) (by omega) h.pt
            rw [mX_in] at q
            exact q
          · simp only [if_neg c5]; exact ⟨_, _, _, rfl, rfl, hR⟩
        · simp only [if_neg c4]; exact ⟨_, _, _, rfl, rfl, hR⟩
      · simp only [if_neg c3]; exact ⟨_, _, _, rfl, rfl, hR⟩
    · simp only [if_neg c2]; exact ⟨_, _, _, rfl, rfl, hR⟩
  · simp only [if_neg c1]; exact ⟨_, _, _, rfl, rfl, hR⟩
end C47
/-! what drops tell -/
theorem RS.dr {s : TS} {t : TT} {l : TL} {f : Nat → Int32} (h : RS s t l f) {i : Nat} (hi : i < Nn (f 6)) : (q_dropLayers s).getD i 0 = f (127 + i) ∧ isN (f (127 + i)) 0 3 ∧ (q_dropFloats s).getD i 0 = f (133 + i) := by
  have h6 := h.c6.2.1
  have lv1 : lv f (127 + i) := Or.inr (Or.inr (Or.inr (Or.inr (Or.inl ⟨by omega, by omega, by omega⟩))))
  have lv2 : lv f (133 + i) := Or.inr (Or.inr (Or.inr (Or.inr (Or.inl ⟨by omega, by omega, by omega⟩))))
  have e1 := h.2.1 (127 + i) (by omega) lv1
  have e2 := h.2.1 (133 + i) (by omega) lv2
  have o := h.2.2 (127 + i) (by omega) lv1
  rw [okv_r127 _ _ (by omega) (by omega)] at o
  rw [fl_dropLayers s t l (by omega)] at e1
  rw [fl_dropFloats s t l (by omega)] at e2
  exact ⟨e1, o, e2⟩
def fB (f : Nat → Int32) (v wt : Int32) : Nat → Nat → Bool
  | 0, _ => true
  | d + 1, i => if v * f (8 + Nn (f (127 + i))) < wt then (if f (133 + i) = 1 then false else fB f v wt d (i + 1)) else (if f (133 + i) = 1 then fB f v wt d (i + 1) else false)
theorem X_fitsG {W : WX} {f : Nat → Int32} (hs : RS W.2.1 W.2.2.1 W.2.2.2.1 f) (v wt : Int32) : ∀ (d i n : Nat), i + d = Nn (f 6) → d < n → Gsea_fitsDrops_1 n 0 v wt (nI i) W = some (if fB f v wt d i = true then 1 else 0, W) := by
  have h6 := hs.c6.2.1
  have e6 : a_s1_drops W = nI (Nn (f 6)) := (hs.k (k := 6) (by omega)).trans hs.c6.2.2
  have l1 : (a_s1_dropLayers W).length = 6 := LSe_dropLayers hs.1
  have l2 : (a_s1_dropFloats W).length = 6 := LSe_dropFloats hs.1
  have l3 : (a_s1_densities W).length = 4 := LSe_dens hs.1
  intro d
  induction d with
  | zero =>
    intro i n hi hn
    obtain ⟨n, rfl⟩ : ∃ k, n = k + 1 := ⟨n - 1, by omega⟩
    rw [Gsea_fitsDrops_1, e6, if_pos (nI_le (by omega) (by omega))]
    rfl
  | succ d ih =>
    intro i n hi hn
    obtain ⟨n, rfl⟩ : ∃ k, n = k + 1 := ⟨n - 1, by omega⟩
    obtain ⟨t1, t2, t3⟩ := hs.dr (i := i) (by omega)
    have t1 : (a_s1_dropLayers W).getD i 0 = f (127 + i) := t1
    have t3 : (a_s1_dropFloats W).getD i 0 = f (133 + i) := t3
    have h3 := t2.2.1
    have t4 : (a_s1_densities W).getD (Nn (f (127 + i))) 0 = f (8 + Nn (f (127 + i))) := hs.dens (by omega)
    rw [Gsea_fitsDrops_1, e6, if_neg (nI_ge (by omega) (by omega)), ix_e (l := a_s1_dropLayers W) (i := nI i) i rfl (by omega) (by omega), bd_some, t1, ix_e (l := a_s1_densities W) (i := f (127 + i)) (Nn (f (127 + i))) t2.2.2 (by omega) (by omega), bd_some, t4, ix_e (l := a_s1_dropFloats W) (i := nI i) i rfl (by omega) (by omega), t3, nI_1, fB]
    simp only [bd_some]
    have go := ih (i + 1) n (by omega) (by omega)
    by_cases c1 : v * f (8 + Nn (f (127 + i))) < wt
    · rw [if_pos c1, if_pos c1]
      by_cases c2 : f (133 + i) = 1
      · rw [if_pos c2, if_pos c2]
        rfl
      · rw [if_neg c2, if_neg c2]
        exact go
    · rw [if_neg c1, if_neg c1]
      by_cases c2 : f (133 + i) = 1
      · rw [if_pos c2, if_pos c2]
        exact go
      · rw [if_neg c2, if_neg c2]
        rfl
theorem M_fits0 {m : WM} {D : Nat} (hD : D ≤ 6) (e6 : ai_ix (a_m_w m) 6 = some (nI D)) (v wt : Int32) : ∀ (d i n : Nat), i + d = D → d < n → Gm_fits_89 n 0 wt v 0 (nI i) m = some (0, m) := by
  intro d
  induction d with
  | zero =>
    intro i n hi hn
    obtain ⟨n, rfl⟩ : ∃ k, n = k + 1 := ⟨n - 1, by omega⟩
    rw [Gm_fits_89, e6, bd_some, if_pos (nI_le (by omega) (by omega)), if_pos (Or.inl rfl)]
  | succ d ih =>
    intro i n hi hn
    obtain ⟨n, rfl⟩ : ∃ k, n = k + 1 := ⟨n - 1, by omega⟩
    rw [Gm_fits_89, e6, bd_some, if_neg (nI_ge (by omega) (by omega)), if_pos rfl, nI_1]
    exact ih (i + 1) n (by omega) (by omega)
theorem M_fitsG {m : WM} (hw : (a_m_w m).length = 596) {f : Nat → Int32} (hf : sl (a_m_w m) 0 = f) (h6 : isN (f 6) 0 6) (hl : ∀ i, i < Nn (f 6) → isN (f (127 + i)) 0 3) (v wt : Int32) : ∀ (d i n : Nat), i + d = Nn (f 6) → d < n → Gm_fits_89 n 0 wt v 1 (nI i) m = some (if fB f v wt d i = true then 1 else 0, m) := by
  have h7 := h6.2.1
  have e6 : ai_ix (a_m_w m) 6 = some (nI (Nn (f 6))) := by rw [m_ix0 hw (x := 6) 6 rfl (by omega), hf, ← h6.2.2]
  intro d
  induction d with
  | zero =>
    intro i n hi hn
    obtain ⟨n, rfl⟩ : ∃ k, n = k + 1 := ⟨n - 1, by omega⟩
    rw [Gm_fits_89, e6, bd_some, if_pos (nI_le (by omega) (by omega)), if_pos (Or.inr rfl)]
    rfl
  | succ d ih =>
    intro i n hi hn
    obtain ⟨n, rfl⟩ : ∃ k, n = k + 1 := ⟨n - 1, by omega⟩
    have t2 := hl i (by omega)
    have h3 := t2.2.1
    have k1 : ai_ix (a_m_w m) (127 + nI i) = some (f (127 + i)) := by rw [m_ix0 hw (x := 127 + nI i) (127 + i) (by rw [show (127 : Int32) = nI 127 from rfl, nI_add]) (by omega), hf]
    have k2 : ai_ix (a_m_w m) (8 + f (127 + i)) = some (f (8 + Nn (f (127 + i)))) := by rw [m_ix0 hw (x := 8 + f (127 + i)) (8 + Nn (f (127 + i))) (by rw [← nI_add, ← t2.2.2]; rfl) (by omega), hf]
    have k3 : ai_ix (a_m_w m) (133 + nI i) = some (f (133 + i)) := by rw [m_ix0 hw (x := 133 + nI i) (133 + i) (by rw [show (133 : Int32) = nI 133 from rfl, nI_add]) (by omega), hf]
    rw [Gm_fits_89, e6, bd_some, if_neg (nI_ge (by omega) (by omega)), if_neg (show ¬ (1 : Int32) = 0 by decide), k1, bd_some, k2, bd_some, k3, nI_1, fB]
    simp only [bd_some]
    have go := ih (i + 1) n (by omega) (by omega)
    have no := M_fits0 h7 e6 v wt d (i + 1) n (by omega) (by omega)
    by_cases c1 : v * f (8 + Nn (f (127 + i))) < wt
    · rw [if_pos c1, if_pos c1]
      by_cases c2 : f (133 + i) = 1
      · rw [if_pos c2, if_pos c2]
        exact no
      · rw [if_neg c2, if_neg c2]
        exact go
    · rw [if_neg c1, if_neg c1]
      by_cases c2 : f (133 + i) = 1
      · rw [if_pos c2, if_pos c2]
        exact go
      · rw [if_neg c2, if_neg c2]
        exact no
/-- how many of the numbers from k on -/
def cN (P : Nat → Bool) : Nat → Nat → Nat
  | 0, _ => 0
  | d + 1, k => (if P k = true then 1 else 0) + cN P d (k + 1)
theorem cN_le (P : Nat → Bool) : ∀ (d k : Nat), cN P d k ≤ d
  | 0, _ => Nat.le_refl _
  | d + 1, k => by
    have := cN_le P d (k + 1)
    rw [cN]
    split <;> omega
theorem cN_mono {P Q : Nat → Bool} (h : ∀ k, Q k = true → P k = true) : ∀ (d k : Nat), cN Q d k ≤ cN P d k
  | 0, _ => Nat.le_refl _
  | d + 1, k => by
    have := cN_mono h d (k + 1)
    rw [cN, cN]
    by_cases c : Q k = true
    · rw [if_pos c, if_pos (h k c)]
      omega
    · rw [if_neg c]
      omega
/-- it fits, being so heavy; it fits and floats in layer l -/
def kP (f : Nat → Int32) (v : Int32) (k : Nat) : Bool := fB f v (nI k) (Nn (f 6)) 0
def kQ (f : Nat → Int32) (v : Int32) (l k : Nat) : Bool := if kP f v k = true then (if v * f (8 + l) < nI k then false else true) else false
theorem kQ_P {f : Nat → Int32} {v : Int32} {l k : Nat} (h : kQ f v l k = true) : kP f v k = true := by
  unfold kQ at h
  by_cases c : kP f v k = true
  · exact c
  · rw [if_neg c] at h
    exact absurd h (by decide)
section C48
variable {w : WX} {m : WM} {f : Nat → Int32}
theorem X_fits (hs : RS w.2.1 w.2.2.1 w.2.2.2.1 f) (v : Int32) (k : Nat) {n : Nat} (hn : 8 ≤ n) : Fsea_fitsDrops_1 n v (nI k) w = some (if kP f v k = true then 1 else 0, w) := by
  have h6 := hs.c6.2.1
  have q := X_fitsG hs v (nI k) (Nn (f 6)) 0 n (by omega) (by omega)
  rw [nI_0] at q
  exact q
theorem M_fits (hw : (a_m_w m).length = 596) (hf : sl (a_m_w m) 0 = f) (hs : RS w.2.1 w.2.2.1 w.2.2.2.1 f) (v : Int32) (k : Nat) {n : Nat} (hn : 8 ≤ n) : Fm_fits_89 n (nI k) v m = some (if kP f v k = true then 1 else 0, m) := by
  have h6 := hs.c6.2.1
  have q := M_fitsG hw hf hs.c6 (fun i hi => (hs.dr hi).2.1) v (nI k) (Nn (f 6)) 0 n (by omega) (by omega)
  rw [nI_0] at q
  exact q
theorem X_try1 (hs : RS w.2.1 w.2.2.1 w.2.2.2.1 f) (v C be bx : Int32) {l : Nat} (hl : l < 4) : ∀ (d k n a : Nat), k + d = 100 → d + 10 < n → Gf_nextToTry_0 n 1 v C be bx (nI l) (nI a) (nI k) w = Gf_nextToTry_0 (n - d) 1 v C be bx (nI l) (nI (a + cN (kQ f v l) d k)) (nI 100) w := by
  have l3 : (a_s1_densities w).length = 4 := LSe_dens hs.1
  have t4 : (a_s1_densities w).getD l 0 = f (8 + l) := hs.dens hl
  intro d
  induction d with
  | zero =>
    intro k n a hk hn
    rw [show k = 100 by omega, Nat.sub_zero]
    rfl
  | succ d ih =>
    intro k n a hk hn
    obtain ⟨n, rfl⟩ : ∃ k, n = k + 1 := ⟨n - 1, by omega⟩
    rw [Gf_nextToTry_0, if_neg (show ¬ (99 : Int32) < nI k from nI_nlt (a := 99) (by omega) (by decide)), X_fits hs v k (by omega)]
    simp only [bd_some, ifz]
    rw [ix_e (l := a_s1_densities w) (i := nI l) l rfl (by omega) (by omega)]
    simp only [bd_some]
    rw [t4, nI_1, nI_1, show n + 1 - (d + 1) = n - d by omega, cN]
    unfold kQ
    by_cases c1 : kP f v k = true
    · rw [if_pos c1]
      simp only [if_pos c1]
      by_cases c2 : v * f (8 + l) < nI k
      · simp only [if_pos c2]
        rw [if_neg (by decide), Nat.zero_add]
        exact ih (k + 1) n a (by omega) (by omega)
      · simp only [if_neg c2]
        rw [if_pos trivial, ← Nat.add_assoc]
        exact ih (k + 1) n (a + 1) (by omega) (by omega)
    · rw [if_neg c1]
      simp only [if_neg c1]
      rw [if_neg (by decide), Nat.zero_add]
      exact ih (k + 1) n a (by omega) (by omega)
theorem M_try1 (hw : (a_m_w m).length = 596) (hf : sl (a_m_w m) 0 = f) (hs : RS w.2.1 w.2.2.1 w.2.2.2.1 f) (v q C be bm : Int32) {l : Nat} (hl : l < 4) : ∀ (d k n a : Nat), k + d = 100 → d + 10 < n → Gm_known_89 n 2 v q C be bm (nI l) (nI a) (nI k) m = Gm_known_89 (n - d) 2 v q C be bm (nI l) (nI (a + cN (kQ f v l) d k)) (nI 100) m := by
  have t4 : ai_ix (a_m_w m) (8 + nI l) = some (f (8 + l)) := by rw [m_ix0 hw (x := 8 + nI l) (8 + l) (by rw [show (8 : Int32) = nI 8 from rfl, nI_add]) (by omega), hf]
  intro d
  induction d with
  | zero =>
    intro k n a hk hn
    rw [show k = 100 by omega, Nat.sub_zero]
    rfl
  | succ d ih =>
    intro k n a hk hn
    obtain ⟨n, rfl⟩ : ∃ k, n = k + 1 := ⟨n - 1, by omega⟩
    rw [Gm_known_89, if_neg (show ¬ (100 : Int32) ≤ nI k from nI_ge (b := 100) (by omega) (by decide)), M_fits hw hf hs v k (by omega)]
    simp only [bd_some, ifz, t4, Int32.add_zero]
    rw [nI_1, nI_1, show n + 1 - (d + 1) = n - d by omega, cN]
    unfold kQ
    by_cases c1 : kP f v k = true
    · rw [if_pos c1]
      simp only [if_pos c1]
      by_cases c2 : v * f (8 + l) < nI k
      · simp only [if_pos c2]
        rw [if_neg (by decide), Nat.zero_add]
        exact ih (k + 1) n a (by omega) (by omega)
      · simp only [if_neg c2]
        rw [if_pos trivial, ← Nat.add_assoc]
        exact ih (k + 1) n (a + 1) (by omega) (by omega)
    · rw [if_neg c1]
      simp only [if_neg c1]
      rw [if_neg (by decide), Nat.zero_add]
      exact ih (k + 1) n a (by omega) (by omega)
end C48
/-! what drops tell, and where to try next -/
section C49
variable {w : WX} {m : WM} {f : Nat → Int32}
theorem X_cnt (hs : RS w.2.1 w.2.2.1 w.2.2.2.1 f) (v q : Int32) : ∀ (d k n a : Nat), k + d = 100 → d + 10 < n → Gf_known_0 n 0 v q (nI a) (nI k) w = Gf_known_0 (n - d) 0 v q (nI (a + cN (kP f v) d k)) (nI 100) w := by
  intro d
  induction d with
  | zero =>
    intro k n a hk hn
    rw [show k = 100 by omega, Nat.sub_zero]
    rfl
  | succ d ih =>
    intro k n a hk hn
    obtain ⟨n, rfl⟩ : ∃ k, n = k + 1 := ⟨n - 1, by omega⟩
    rw [Gf_known_0, if_neg (show ¬ (99 : Int32) < nI k from nI_nlt (a := 99) (by omega) (by decide)), X_fits hs v k (by omega)]
    simp only [bd_some, ifz]
    rw [nI_1, nI_1, show n + 1 - (d + 1) = n - d by omega, cN]
    by_cases c1 : kP f v k = true
    · rw [if_pos c1, if_pos c1, ← Nat.add_assoc]
      exact ih (k + 1) n (a + 1) (by omega) (by omega)
    · rw [if_neg c1, if_neg c1, Nat.zero_add]
      exact ih (k + 1) n a (by omega) (by omega)
theorem M_cnt (hw : (a_m_w m).length = 596) (hf : sl (a_m_w m) 0 = f) (hs : RS w.2.1 w.2.2.1 w.2.2.2.1 f) (v q : Int32) : ∀ (d k n a : Nat), k + d = 100 → d + 10 < n → Gm_known_89 n 0 v q (nI a) (nI k) 0 0 0 0 m = Gm_known_89 (n - d) 0 v q (nI (a + cN (kP f v) d k)) (nI 100) 0 0 0 0 m := by
  intro d
  induction d with
  | zero =>
    intro k n a hk hn
    rw [show k = 100 by omega, Nat.sub_zero]
    rfl
  | succ d ih =>
    intro k n a hk hn
    obtain ⟨n, rfl⟩ : ∃ k, n = k + 1 := ⟨n - 1, by omega⟩
    rw [Gm_known_89, if_neg (show ¬ (100 : Int32) ≤ nI k from nI_ge (b := 100) (by omega) (by decide)), M_fits hw hf hs v k (by omega)]
    simp only [bd_some, ifz, Int32.add_zero]
    rw [nI_1, nI_1, show n + 1 - (d + 1) = n - d by omega, cN]
    by_cases c1 : kP f v k = true
    · rw [if_pos c1, if_pos c1, ← Nat.add_assoc]
      exact ih (k + 1) n (a + 1) (by omega) (by omega)
    · rw [if_neg c1, if_neg c1, Nat.zero_add]
      exact ih (k + 1) n a (by omega) (by omega)
theorem try_out (hw : (a_m_w m).length = 596) (hf : sl (a_m_w m) 0 = f) (hs : RS w.2.1 w.2.2.1 w.2.2.2.1 f) (v q : Int32) {c : Nat} (hc : c = cN (kP f v) 99 1) (hc1 : 1 ≤ c) : ∀ (d l n n2 : Nat) (be bx bm z z2 : Int32), l + d = 4 → 150 * d + 20 ≤ n → 150 * d + 20 ≤ n2 → ((bx = nI (c + 1) ∧ bm = 1000000) ∨ bx = bm) → ∃ r, Gf_nextToTry_0 n 0 v (nI c) be bx (nI l) z z2 w = some (r, w) ∧ Gm_known_89 n2 1 v q (nI c) be bm (nI l) 0 0 m = some (if q = 0 then nI c else r, m) := by
  have c99 : c ≤ 99 := by rw [hc]; exact cN_le _ 99 1
  intro d
  induction d with
  | zero =>
    intro l n n2 be bx bm z z2 hl hn hn2 hb
    obtain ⟨n, rfl⟩ : ∃ k, n = k + 1 := ⟨n - 1, by omega⟩
    obtain ⟨n2, rfl⟩ : ∃ k, n2 = k + 1 := ⟨n2 - 1, by omega⟩
    have : l = 4 := by omega
    subst this
    rw [Gf_nextToTry_0, Gm_known_89, if_pos (show (4 : Int32) ≤ nI 4 by decide), if_pos (show (4 : Int32) ≤ nI 4 by decide)]
    refine ⟨be, rfl, ?_⟩
    by_cases q0 : q = 0
    · rw [if_pos q0, if_pos q0]
    · rw [if_neg q0, if_neg q0]
  | succ d ih =>
    intro l n n2 be bx bm z z2 hl hn hn2 hb
    obtain ⟨n, rfl⟩ : ∃ k, n = k + 1 := ⟨n - 1, by omega⟩
    obtain ⟨n2, rfl⟩ : ∃ k, n2 = k + 1 := ⟨n2 - 1, by omega⟩
    have sc : cN (kQ f v l) 99 1 ≤ c := by rw [hc]; exact cN_mono (fun k hk => kQ_P hk) 99 1
    have hX := X_try1 hs v (nI c) be bx (l := l) (by omega) 99 1 n 0 (by omega) (by omega)
    have hM := M_try1 hw hf hs v q (nI c) be bm (l := l) (by omega) 99 1 n2 0 (by omega) (by omega)
    rw [nI_0, Nat.zero_add] at hX hM
    have hX : Gf_nextToTry_0 n 1 v (nI c) be bx (nI l) 0 1 w = _ := hX
    have hM : Gm_known_89 n2 2 v q (nI c) be bm (nI l) 0 1 m = _ := hM
    generalize cN (kQ f v l) 99 1 = s at *
    obtain ⟨n3, e3⟩ : ∃ k, n - 99 = k + 1 := ⟨n - 99 - 1, by omega⟩
    obtain ⟨n4, e4⟩ : ∃ k, n2 - 99 = k + 1 := ⟨n2 - 99 - 1, by omega⟩
    rw [Gf_nextToTry_0, Gm_known_89, if_neg (show ¬ (4 : Int32) ≤ nI l from nI_ge (b := 4) (by omega) (by decide)), if_neg (show ¬ (4 : Int32) ≤ nI l from nI_ge (b := 4) (by omega) (by decide)), if_neg (nI_nle (by omega) (by omega)), hX, hM, e3, e4, Gf_nextToTry_0, Gm_known_89, if_pos (show (99 : Int32) < nI 100 by decide), if_pos (show (100 : Int32) ≤ nI 100 by decide), pk_sub sc, nI_1]
    have key : ∀ x, x ≤ c → ((bx ≤ nI x) = (bm ≤ nI x)) := by
      intro x hx
      rcases hb with ⟨b1, b2⟩ | b1
      · have k1 : ¬ bx ≤ nI x := by rw [b1]; exact nI_ge (by omega) (by omega)
        have k2 : ¬ bm ≤ nI x := by rw [b2]; exact nI_ge (b := 1000000) (by omega) (by decide)
        exact (eq_false k1).trans (eq_false k2).symm
      · rw [b1]
    have fin : ∀ x, x ≤ c → ∃ r, (if bx ≤ nI x then Gf_nextToTry_0 n3 0 v (nI c) be bx (nI (l + 1)) 0 0 w else Gf_nextToTry_0 n3 0 v (nI c) (nI l) (nI x) (nI (l + 1)) 0 0 w) = some (r, w) ∧ (if bm ≤ nI x then Gm_known_89 n4 1 v q (nI c) be bm (nI (l + 1)) 0 0 m else Gm_known_89 n4 1 v q (nI c) (nI l) (nI x) (nI (l + 1)) 0 0 m) = some (if q = 0 then nI c else r, m) := by
      intro x hx
      by_cases z : bm ≤ nI x
      · rw [if_pos z, if_pos (by rw [key x hx]; exact z)]
        exact ih (l + 1) n3 n4 be bx bm 0 0 (by omega) (by omega) (by omega) hb
      · rw [if_neg z, if_neg (by rw [key x hx]; exact z)]
        exact ih (l + 1) n3 n4 (nI l) (nI x) (nI x) 0 0 (by omega) (by omega) (by omega) (Or.inr rfl)
    by_cases c1 : nI s ≤ nI (c - s)
    · have ew : (if nI s < nI (c - s) then nI (c - s) else nI s) = nI (c - s) := by
        by_cases z : nI s < nI (c - s)
        · rw [if_pos z]
        · rw [if_neg z]
          exact Int32.le_antisymm c1 (Int32.not_lt.mp z)
      rw [ew, if_pos c1]
      have q2 := fin (c - s) (by omega)
      by_cases z : bm ≤ nI (c - s)
      · simp only [if_pos z] at q2 ⊢
        exact q2
      · simp only [if_neg z] at q2 ⊢
        exact q2
    · have ew : (if nI s < nI (c - s) then nI (c - s) else nI s) = nI s := if_neg (fun z => c1 (Int32.le_of_lt z))
      rw [ew, if_neg c1]
      have q2 := fin s sc
      by_cases z : bm ≤ nI s
      · simp only [if_pos z] at q2 ⊢
        exact q2
      · simp only [if_neg z] at q2 ⊢
        exact q2
theorem C_known (h : R w m) (a b : Int32) : Ok (fun n => Ff_known_0 n a b w) (fun n => Fm_known_89 n a b m) := Ok.of 1500 fun n hn => by
  obtain ⟨w2, m2, e1, e2, hR⟩ := R_badAs h (-10)
  obtain ⟨f, hf⟩ : ∃ f, sl (a_m_w m) 0 = f := ⟨_, rfl⟩
  have hs := h.s
  rw [hf] at hs
  simp only [Ff_known_0, Fm_known_89, Ff_within_eq, Fm_in_eq a (lo := 1) (hi := 9) 1 9 rfl rfl, Fm_in_eq b (lo := 0) (hi := 1) 0 1 rfl rfl, bd_some, ifz, e1, e2]
  by_cases c1 : 1 ≤ a ∧ a ≤ 9
  · simp only [if_pos c1]
    by_cases c2 : 0 ≤ b ∧ b ≤ 1
    · simp only [if_pos c2]
      have hX := X_cnt hs a b 99 1 n 0 (by omega) (by omega)
      have hM := M_cnt h.w hf hs a b 99 1 n 0 (by omega) (by omega)
      rw [nI_0, Nat.zero_add] at hX hM
      have hX : Gf_known_0 n 0 a b 0 1 w = _ := hX
      have hM : Gm_known_89 n 0 a b 0 1 0 0 0 0 m = _ := hM
      obtain ⟨c, hc⟩ : ∃ c, c = cN (kP f a) 99 1 := ⟨_, rfl⟩
      rw [← hc] at hX hM
      have c99 : c ≤ 99 := by rw [hc]; exact cN_le _ 99 1
      obtain ⟨n3, e3⟩ : ∃ k, n - 99 = k + 1 := ⟨n - 99 - 1, by omega⟩
      rw [hX, hM, e3, Gf_known_0, Gm_known_89, if_pos (show (99 : Int32) < nI 100 by decide), if_pos (show (100 : Int32) ≤ nI 100 by decide)]
      by_cases z : c = 0
      · obtain ⟨n4, e4⟩ : ∃ k, n3 = k + 1 := ⟨n3 - 1, by omega⟩
        rw [z, nI_0, e4, Gm_known_89, if_neg (show ¬ (4 : Int32) ≤ 0 by decide), if_pos (show (0 : Int32) ≤ 0 by decide), if_pos (show (0 : Int32) = 0 from rfl)]
        by_cases b0 : b = 0
        · rw [if_pos b0, if_pos b0]
          exact ⟨_, _, _, rfl, rfl, h⟩
        · rw [if_neg b0, if_neg b0]
          exact ⟨_, _, _, rfl, rfl, h⟩
      · obtain ⟨r, q1, q2⟩ := try_out h.w hf hs a b hc (by omega) 4 0 n3 n3 (-1) (nI (c + 1)) 1000000 0 0 (by omega) (by omega) (by omega) (Or.inl ⟨rfl, rfl⟩)
        rw [nI_0] at q1 q2
        rw [q2]
        by_cases b0 : b = 0
        · rw [if_pos b0, if_pos b0]
          exact ⟨_, _, _, rfl, rfl, h⟩
        · rw [if_neg b0, if_neg b0, if_neg (nI_ne0 (by omega) (by omega))]
          unfold Ff_nextToTry_0
          rw [nI_1, q1]
          exact ⟨_, _, _, rfl, rfl, h⟩
    · simp only [if_neg c2]; exact ⟨_, _, _, rfl, rfl, hR⟩
  · simp only [if_neg c1]; exact ⟨_, _, _, rfl, rfl, hR⟩
end C49
/-! where a thing that sinks drifts to -/
theorem ps_dec : ∀ (q : Fin 16) (i : Fin 4), (nI q.val ||| (1 <<< (nI i.val &&& 31))) = nI (q.val ||| 2 ^ i.val) ∧ (q.val ||| 2 ^ i.val) < 16 := by decide +kernel
theorem pb_dec : ∀ (q : Fin 16) (i j : Fin 4), C_bit (nI (q.val ||| 2 ^ i.val)) (nI j.val) ↔ (C_bit (nI q.val) (nI j.val) ∨ j.val = i.val) := by decide +kernel
/-- what a fall says it passed, in two ways -/
def pInv (f : Nat → Int32) (c h : Nat) (ps : Int32) (p : List Int32) : Prop := (∃ q, q < 16 ∧ ps = nI q) ∧ p.length = 4 ∧ ∀ j, j < 4 → p.getD j 0 = if C_bit ps (nI j) then Tk f j c h else 0
theorem pInv_set {f : Nat → Int32} {c h : Nat} {ps : Int32} {p : List Int32} (H : pInv f c h ps p) {i : Nat} (hi : i < 4) : pInv f c h (ps ||| (1 <<< (nI i &&& 31))) (p.set i (Tk f i c h)) := by
  obtain ⟨⟨q, hq, e⟩, hl, hj⟩ := H
  obtain ⟨d1, d2⟩ := ps_dec ⟨q, hq⟩ ⟨i, hi⟩
  have d1 : (nI q ||| (1 <<< (nI i &&& 31))) = nI (q ||| 2 ^ i) := d1
  have d2 : (q ||| 2 ^ i) < 16 := d2
  rw [e, d1]
  refine ⟨⟨_, d2, rfl⟩, by rw [List.length_set]; exact hl, fun j hj4 => ?_⟩
  have b := pb_dec ⟨q, hq⟩ ⟨i, hi⟩ ⟨j, hj4⟩
  have b : C_bit (nI (q ||| 2 ^ i)) (nI j) ↔ (C_bit (nI q) (nI j) ∨ j = i) := b
  rw [gD_set _ _ _ _ (by omega)]
  by_cases z : j = i
  · rw [if_pos z, if_pos (b.mpr (Or.inr z)), z]
  · rw [if_neg z, hj j hj4, e]
    by_cases y : C_bit (nI q) (nI j)
    · rw [if_pos y, if_pos (b.mpr (Or.inl y))]
    · rw [if_neg y, if_neg (fun o => (b.mp o).elim y z)]
theorem fS_inv (f : Nat → Int32) (c h : Nat) (to We Rm Fc : Int32) : ∀ (k i : Nat) (la d b ps : Int32) (p : List Int32), i + k = 4 → pInv f c h ps p → pInv f c h (fS f c h to We Rm Fc k i la d b ps p).2.2.2.2.1 (fS f c h to We Rm Fc k i la d b ps p).2.2.2.2.2 := by
  intro k
  induction k with
  | zero => intro i la d b ps p hi hp; exact hp
  | succ k ih =>
    intro i la d b ps p hi hp
    have hs := pInv_set hp (i := i) (by omega)
    unfold fS
    by_cases t0 : Tk f i c h = 0
    · rw [if_pos t0]; exact ih _ _ _ _ _ _ (by omega) hp
    rw [if_neg t0]
    by_cases q : Rm * f (8 + i) < We
    · simp only [if_pos q]
      by_cases l0 : la = -1
      · rw [if_pos l0]; exact ih _ _ _ _ _ _ (by omega) hs
      rw [if_neg l0]
      by_cases cb : C_bit to (nI (i - 1))
      · rw [if_pos cb]; exact ih _ _ _ _ _ _ (by omega) hs
      rw [if_neg cb]
      by_cases cf : f (64 + (i - 1)) < Fc
      · rw [if_pos cf]; exact ih _ _ _ _ _ _ (by omega) hs
      · rw [if_neg cf]; exact hp
    · simp only [if_neg q]
      by_cases l0 : la = -1
      · rw [if_pos l0]; exact hp
      rw [if_neg l0]
      by_cases cb : C_bit to (nI (i - 1))
      · rw [if_pos cb]; exact hp
      rw [if_neg cb]
      by_cases cf : f (64 + (i - 1)) < Fc
      · rw [if_pos cf]; exact hp
      · rw [if_neg cf]; exact hp
theorem bit0_dec : ∀ j : Fin 4, ¬ C_bit 0 (nI j.val) := by decide +kernel
theorem fT_inv (f : Nat → Int32) (t c h : Nat) (b to : Int32) : pInv f c h (fT f t c h b to).2.2.2.2.1 (fT f t c h b to).2.2.2.2.2 := by
  refine fS_inv f c h to _ _ _ 4 0 (-1) 0 0 0 [0, 0, 0, 0] (by omega) ⟨⟨0, by omega, by rw [nI_0]⟩, rfl, fun j hj => ?_⟩
  rw [if_neg (bit0_dec ⟨j, hj⟩)]
  match j, hj with
  | 0, _ => rfl
  | 1, _ => rfl
  | 2, _ => rfl
  | 3, _ => rfl
theorem dr_dec : ∀ (c : Fin 7) (a : Fin 6) (u : Fin 3), a.val < c.val → (if 0 < (if (nI a.val + (nI u.val - 1)) < (nI c.val - 1) then (nI a.val + (nI u.val - 1)) else (nI c.val - 1)) then (if (nI a.val + (nI u.val - 1)) < (nI c.val - 1) then (nI a.val + (nI u.val - 1)) else (nI c.val - 1)) else 0) = (if C_cell (nI c.val) (nI a.val + (nI u.val - 1)) then nI a.val + (nI u.val - 1) else nI a.val) ∧ ∃ a2 : Fin 6, a2.val < c.val ∧ (if C_cell (nI c.val) (nI a.val + (nI u.val - 1)) then nI a.val + (nI u.val - 1) else nI a.val) = nI a2.val := by decide +kernel
theorem cur_u {x : Int32} (h : rgI x (-1) 1) : ∃ u, u < 3 ∧ x = nI u - 1 := by
  obtain ⟨h1, h2⟩ := h
  rcases (by omega : x.toInt = -1 ∨ x.toInt = 0 ∨ x.toInt = 1) with e | e | e
  · exact ⟨0, by omega, Int32.toInt_inj.mp (by rw [e]; decide)⟩
  · exact ⟨1, by omega, Int32.toInt_inj.mp (by rw [e]; decide)⟩
  · exact ⟨2, by omega, Int32.toInt_inj.mp (by rw [e]; decide)⟩
/-- so many steps by a current -/
def dN (c cur : Int32) : Nat → Int32 → Int32
  | 0, p => p
  | k + 1, p => dN c cur k (if C_cell c (p + cur) then p + cur else p)
theorem dr_one {c a : Nat} (hc : c ≤ 6) (ha : a < c) {cur : Int32} (hu : rgI cur (-1) 1) : (if 0 < (if (nI a + cur) < (nI c - 1) then (nI a + cur) else (nI c - 1)) then (if (nI a + cur) < (nI c - 1) then (nI a + cur) else (nI c - 1)) else 0) = (if C_cell (nI c) (nI a + cur) then nI a + cur else nI a) ∧ ∃ a2, a2 < c ∧ (if C_cell (nI c) (nI a + cur) then nI a + cur else nI a) = nI a2 := by
  obtain ⟨u, hu3, rfl⟩ := cur_u hu
  obtain ⟨d1, a2, d2, d3⟩ := dr_dec ⟨c, by omega⟩ ⟨a, by omega⟩ ⟨u, hu3⟩ ha
  exact ⟨d1, a2.val, d2, d3⟩
theorem dN_rng {c : Nat} (hc : c ≤ 6) {cur : Int32} (hu : rgI cur (-1) 1) : ∀ (k a : Nat), a < c → ∃ a2, a2 < c ∧ dN (nI c) cur k (nI a) = nI a2
  | 0, a, ha => ⟨a, ha, rfl⟩
  | k + 1, a, ha => by
    obtain ⟨-, a2, h2, e⟩ := dr_one hc ha hu
    rw [dN, e]
    exact dN_rng hc hu k a2 h2
section C50
variable {W : WX} {M : WM} {f : Nat → Int32}
theorem X_dr1 (hs : RS W.2.1 W.2.2.1 W.2.2.2.1 f) {p : List Int32} (hp : a_fall_passedThick W = p) (hl : p.length = 4) (x : Int32) {j z : Nat} (hj : j < 4) (hz : z ≤ 11) (ez : p.getD j 0 = nI z) : ∀ (d y n a : Nat), y + d = z → d + 1 < n → a < Nn (f 0) → Gfall_driftFrom_81_1 n 1 x (nI a) (nI j) (nI y) W = Gfall_driftFrom_81_1 (n - d - 1) 0 x (dN (f 0) (f (12 + j)) d (nI a)) (nI (j + 1)) 0 W := by
  have h7 := hs.c0.2.1
  have e0 : a_s1_cells W = f 0 := hs.k (k := 0) (by omega)
  have q0 := hs.c0.2.2
  have l1 : (a_s1_currents W).length = 4 := LSe_cur hs.1
  have t1 : (a_s1_currents W).getD j 0 = f (12 + j) := hs.cur hj
  have hu := hs.ok (k := 12 + j) (by omega)
  rw [okv_r12 _ _ (by omega) (by omega)] at hu
  obtain ⟨C, hC⟩ : ∃ C, Nn (f 0) = C := ⟨_, rfl⟩
  rw [hC] at q0 h7 ⊢
  intro d
  induction d with
  | zero =>
    intro y n a hy hn ha
    obtain ⟨n, rfl⟩ : ∃ k, n = k + 1 := ⟨n - 1, by omega⟩
    rw [Gfall_driftFrom_81_1, hp, ix_e (l := p) (i := nI j) j rfl (by omega) (by omega), bd_some, ez, if_pos (nI_le (by omega) (by omega)), nI_1]
    rfl
  | succ d ih =>
    intro y n a hy hn ha
    obtain ⟨n, rfl⟩ : ∃ k, n = k + 1 := ⟨n - 1, by omega⟩
    rw [Gfall_driftFrom_81_1, hp, ix_e (l := p) (i := nI j) j rfl (by omega) (by omega), bd_some, ez, if_neg (nI_ge (by omega) (by omega)), ix_e (l := a_s1_currents W) (i := nI j) j rfl (by omega) (by omega), bd_some, t1, e0, nI_1, q0]
    obtain ⟨d1, a2, h2, e⟩ := dr_one (c := C) (a := a) (by omega) ha hu
    rw [d1, dN, e]
    have := ih (y + 1) n a2 (by omega) (by omega) h2
    rw [q0] at this
    rw [this, show n - d - 1 = n + 1 - (d + 1) - 1 by omega]
theorem M_dr1 (hw : (a_m_w M).length = 596) (hf : sl (a_m_w M) 0 = f) (h0 : isN (f 0) 1 6) (x : Int32) {j z : Nat} (hj : j < 4) (hz : z ≤ 11) (hu : rgI (f (12 + j)) (-1) 1) : ∀ (d y n a : Nat), y + d = z → d + 1 < n → a < Nn (f 0) → Gm_driftsTo_89 n 1 x (nI a) (nI j) (nI z) (nI y) M = Gm_driftsTo_89 (n - d - 1) 0 x (dN (f 0) (f (12 + j)) d (nI a)) (nI (j + 1)) 0 0 M := by
  have h7 := h0.2.1
  have q0 := h0.2.2
  have k1 : ai_ix (a_m_w M) (12 + nI j) = some (f (12 + j)) := by rw [m_ix0 hw (x := 12 + nI j) (12 + j) (by rw [show (12 : Int32) = nI 12 from rfl, nI_add]) (by omega), hf]
  obtain ⟨C, hC⟩ : ∃ C, Nn (f 0) = C := ⟨_, rfl⟩
  rw [hC] at q0 h7 ⊢
  intro d
  induction d with
  | zero =>
    intro y n a hy hn ha
    obtain ⟨n, rfl⟩ : ∃ k, n = k + 1 := ⟨n - 1, by omega⟩
    rw [Gm_driftsTo_89, if_pos (nI_le (by omega) (by omega)), nI_1]
    rfl
  | succ d ih =>
    intro y n a hy hn ha
    obtain ⟨n, rfl⟩ : ∃ k, n = k + 1 := ⟨n - 1, by omega⟩
    rw [Gm_driftsTo_89, if_neg (nI_ge (by omega) (by omega)), k1, bd_some, M_isCell hw, hf]
    simp only [bd_some, ifz, k1]
    obtain ⟨-, a2, h2, e⟩ := dr_one (c := C) (a := a) (by omega) ha hu
    have := ih (y + 1) n a2 (by omega) (by omega) h2
    rw [← e, ← q0] at this
    rw [nI_1, show n + 1 - (d + 1) - 1 = n - d - 1 by omega, dN]
    by_cases z : C_cell (f 0) (nI a + f (12 + j))
    · rw [if_pos z, if_pos z]
      rw [if_pos z] at this
      exact this
    · rw [if_neg z, if_neg z]
      rw [if_neg z] at this
      exact this
end C50
/-! from which cells a thing comes into a cell -/
/-- the drift through the layers from j on, p being how thick what it passed is -/
def dA (f : Nat → Int32) (p : List Int32) : Nat → Nat → Int32 → Int32
  | 0, _, x => x
  | d + 1, j, x => dA f p d (j + 1) (dN (f 0) (f (12 + j)) (Nn (p.getD j 0)) x)
theorem pInv_z {s : TS} {t : TT} {l : TL} {f : Nat → Int32} (hs : RS s t l f) {c h : Nat} (hc : c < 6) {ps : Int32} {p : List Int32} (H : pInv f c h ps p) {j : Nat} (hj : j < 4) : ∃ z, z ≤ 11 ∧ p.getD j 0 = nI z := by
  rw [H.2.2 j hj]
  by_cases c1 : C_bit ps (nI j)
  · rw [if_pos c1]
    exact Tk_rng hs hj hc h
  · rw [if_neg c1]
    exact ⟨0, by omega, by rw [nI_0]⟩
section C51
variable {W : WX} {M : WM} {f : Nat → Int32}
theorem X_drG (hs : RS W.2.1 W.2.2.1 W.2.2.2.1 f) {p : List Int32} (hp : a_fall_passedThick W = p) (hl : p.length = 4) (hz : ∀ j, j < 4 → ∃ z, z ≤ 11 ∧ p.getD j 0 = nI z) (x : Int32) : ∀ (d j n a : Nat) (z0 : Int32), j + d = 4 → 20 * d < n → a < Nn (f 0) → Gfall_driftFrom_81_1 n 0 x (nI a) (nI j) z0 W = some (dA f p d j (nI a), W) := by
  have h7 := hs.c0.2.1
  have q0 := hs.c0.2.2
  intro d
  induction d with
  | zero =>
    intro j n a z0 hj hn ha
    obtain ⟨n, rfl⟩ : ∃ k, n = k + 1 := ⟨n - 1, by omega⟩
    rw [show j = 4 by omega, Gfall_driftFrom_81_1, if_pos (show (4 : Int32) ≤ nI 4 from Int32.le_refl _)]
    rfl
  | succ d ih =>
    intro j n a z0 hj hn ha
    obtain ⟨n, rfl⟩ : ∃ k, n = k + 1 := ⟨n - 1, by omega⟩
    obtain ⟨z, hz1, ez⟩ := hz j (by omega)
    have hu := hs.ok (k := 12 + j) (by omega)
    rw [okv_r12 _ _ (by omega) (by omega)] at hu
    have q := X_dr1 hs hp hl x (j := j) (z := z) (by omega) hz1 ez z 0 n a (by omega) (by omega) ha
    rw [nI_0] at q
    rw [Gfall_driftFrom_81_1, if_neg (show ¬ (4 : Int32) ≤ nI j from nI_ge (b := 4) (by omega) (by decide)), q, dA, ez, Nn_nI (by omega)]
    obtain ⟨a2, h2, e⟩ := dN_rng (c := Nn (f 0)) h7 hu z a ha
    rw [← q0] at e
    rw [e]
    exact ih (j + 1) (n - z - 1) a2 0 (by omega) (by omega) h2
theorem M_drG {s : TS} {t : TT} {l : TL} (hs : RS s t l f) (hw : (a_m_w M).length = 596) (hf : sl (a_m_w M) 0 = f) {c H : Nat} (hc : c < 6) (hH : H < 2 ^ 31) (eh : a_m_hour M = nI H) {ps : Int32} (ep : a_m_passes M = ps) {p : List Int32} (hI : pInv f c H ps p) : ∀ (d j n a : Nat), j + d = 4 → 20 * d < n → a < Nn (f 0) → Gm_driftsTo_89 n 0 (nI c) (nI a) (nI j) 0 0 M = some (dA f p d j (nI a), M) := by
  have h7 := hs.c0.2.1
  have q0 := hs.c0.2.2
  intro d
  induction d with
  | zero =>
    intro j n a hj hn ha
    obtain ⟨n, rfl⟩ : ∃ k, n = k + 1 := ⟨n - 1, by omega⟩
    rw [show j = 4 by omega, Gm_driftsTo_89, if_pos (show (4 : Int32) ≤ nI 4 from Int32.le_refl _)]
    rfl
  | succ d ih =>
    intro j n a hj hn ha
    obtain ⟨n, rfl⟩ : ∃ k, n = k + 1 := ⟨n - 1, by omega⟩
    obtain ⟨z, hz1, ez⟩ := pInv_z hs hc hI (j := j) (by omega)
    have hu := hs.ok (k := 12 + j) (by omega)
    rw [okv_r12 _ _ (by omega) (by omega)] at hu
    have q := M_dr1 hw hf hs.c0 (nI c) (j := j) (z := z) (by omega) hz1 hu z 0 n a (by omega) (by omega) ha
    rw [nI_0] at q
    have ej := hI.2.2 j (by omega)
    have tk := M_thickIn hw (l := j) (c := c) (h := H) (by omega) hc hH
    rw [hf] at tk
    have go : Gm_driftsTo_89 n 1 (nI c) (nI a) (nI j) (p.getD j 0) 0 M = some (dA f p (d + 1) j (nI a), M) := by
      rw [ez, q, dA, ez, Nn_nI (by omega)]
      obtain ⟨a2, h2, e⟩ := dN_rng (c := Nn (f 0)) h7 hu z a ha
      rw [← q0] at e
      rw [e]
      exact ih (j + 1) (n - z - 1) a2 (by omega) (by omega) h2
    rw [Gm_driftsTo_89, if_neg (show ¬ (4 : Int32) ≤ nI j from nI_ge (b := 4) (by omega) (by decide)), ep, Fm_has_eq, bd_some, ifz]
    by_cases cb : C_bit ps (nI j)
    · rw [if_pos cb] at ej ⊢
      rw [eh, tk, bd_some]
      rw [ej] at go
      exact go
    · rw [if_neg cb] at ej ⊢
      rw [ej] at go
      exact go
end C51
theorem mT_hour (m : WM) (f : Nat → Int32) (t c h : Nat) (b to : Int32) : a_m_hour (mT m f t c h b to) = nI h := by dsimp only [mT, mkF, mkK, a_m_hour]
section C51b
variable {w : WX} {m : WM}
theorem went_step (h : R w m) {f : Nat → Int32} (hf : sl (a_m_w m) 0 = f) (hs : RS w.2.1 w.2.2.1 w.2.2.2.1 f) {t H : Nat} (ht : t < Nn (f 2)) (hH : Nn (f 1) = H) (e : Int32) : ∀ (d k n : Nat) (ac : Int32) (fa : TF) (i j p l o : Int32), k + d = Nn (f 0) → d + 150 < n → fa.2.2.2.2.2.2.2.length = 4 → ∃ r w' m', Gf_wentIn_0 n 0 (nI t) e ac (nI k) (mkX w fa) = some (r, w') ∧ Gm_wentIn_89 n 0 (nI t) e ac (nI k) (mkF (mkK m (f (67 + t)) (f (73 + t)) (f (79 + t)) (f (85 + t)) (nI H) 0) i j p l o) = some (r, m') ∧ R w' m' := by
  have h7 := hs.c0.2.1
  have h8 := hs.c1.2.1
  have hsk : ∀ i, i < 3 → isN (f (64 + i)) 0 99 := by rw [← hf]; exact h.sk
  have e0 : ∀ fa, a_s1_cells (mkX w fa) = nI (Nn (f 0)) := fun fa => (hs.k (k := 0) (by omega)).trans hs.c0.2.2
  have m0 : ai_ix (a_m_w m) 0 = some (nI (Nn (f 0))) := by rw [m_ix0 h.w (x := 0) 0 rfl (by omega), hf, ← hs.c0.2.2]
  intro d
  induction d with
  | zero =>
    intro k n ac fa i j p l o hk hn hp
    obtain ⟨n, rfl⟩ : ∃ k, n = k + 1 := ⟨n - 1, by omega⟩
    rw [Gf_wentIn_0, Gm_wentIn_89, e0, mFK_w, m0, bd_some, if_pos (nI_le (by omega) (by omega)), if_pos (nI_le (by omega) (by omega))]
    exact ⟨_, _, _, rfl, rfl, R_fall h hp _ _ _ _ _ _ _ _ _ _ _⟩
  | succ d ih =>
    intro k n ac fa i j p l o hk hn hp
    obtain ⟨n, rfl⟩ : ∃ k, n = k + 1 := ⟨n - 1, by omega⟩
    have hx := X_goN hs (n := n) (t := t) (c := k) (by omega) ht (by omega) 0 hp
    rw [hH] at hx
    have hm := M_goT h.w hf (n := n) (t := t) (c := k) (h := H) (by omega) (by omega) (by omega) hsk (f (85 + t)) 0 i j p l o
    have hI := fT_inv f t k H (f (85 + t)) 0
    have dx := X_drG (W := mkX w (tT f t k H (f (85 + t)) 0)) (f := f) hs (tT_pt _ _ _ _ _ _ _) hI.2.1 (fun j hj => pInv_z hs (by omega) hI hj) (nI k) 4 0 n k 0 (by omega) (by omega) (by omega)
    have dm := M_drG (M := mT m f t k H (f (85 + t)) 0) hs (by rw [mT_w]; exact h.w) (by rw [mT_w]; exact hf) (c := k) (H := H) (by omega) (by omega) (mT_hour _ _ _ _ _ _ _) (mT_ps _ _ _ _ _ _ _) hI 4 0 n k (by omega) (by omega) (by omega)
    rw [nI_0] at dx dm
    have dx : Ffall_driftFrom_81_1 n (nI k) (mkX w (tT f t k H (f (85 + t)) 0)) = _ := dx
    have dm2 : Fm_driftsTo_89 n (nI k) (mkF (mkK m (f (67 + t)) (f (73 + t)) (f (79 + t)) (f (85 + t)) (nI H) 0) i j p l o) = some (dA f (fT f t k H (f (85 + t)) 0).2.2.2.2.2 4 0 (nI k), mT m f t k H (f (85 + t)) 0) := by
      unfold Fm_driftsTo_89
      rw [hm, bd_some, dm]
    rw [Gf_wentIn_0, Gm_wentIn_89, e0, mFK_w, m0, bd_some, if_neg (nI_ge (by omega) (by omega)), if_neg (nI_ge (by omega) (by omega)), hx, bd_some, dx, dm2, bd_some, bd_some, nI_1, or0]
    have go := fun ac => ih (k + 1) n ac (tT f t k H (f (85 + t)) 0) (fT f t k H (f (85 + t)) 0).1 (fT f t k H (f (85 + t)) 0).2.1 (fT f t k H (f (85 + t)) 0).2.2.1 (fT f t k H (f (85 + t)) 0).2.2.2.2.1 (fT f t k H (f (85 + t)) 0).2.2.2.1 (by omega) (by omega) (tT_len _ _ _ _ _ _)
    unfold mT
    by_cases c1 : dA f (fT f t k H (f (85 + t)) 0).2.2.2.2.2 4 0 (nI k) = e
    · rw [if_pos c1, if_pos c1]
      exact go _
    · rw [if_neg c1, if_neg c1]
      exact go _
theorem C_wentIn (h : R w m) (a b : Int32) : Ok (fun n => Ff_wentIn_0 n a b w) (fun n => Fm_wentIn_89 n a b m) := Ok.of 300 fun n hn => by
  obtain ⟨w2, m2, e1, e2, hR⟩ := R_bad h
  obtain ⟨f, hf⟩ : ∃ f, sl (a_m_w m) 0 = f := ⟨_, rfl⟩
  have hs := h.s
  rw [hf] at hs
  have f2 : a_s1things_count w = f 2 := hs.k (k := 2) (by omega)
  have f0 : a_s1_cells w = f 0 := hs.k (k := 0) (by omega)
  simp only [Ff_wentIn_0, Fm_wentIn_89, has_7, M_isThing h.w, hasCell_1, M_isCell h.w, bd_some, ifz, e1, e2, f2, f0, hf]
  by_cases c1 : C_th (f 2) a
  · simp only [if_pos c1]
    by_cases c2 : C_cell (f 0) b
    · simp only [if_pos c2]
      obtain ⟨t, ht, rfl⟩ := th_N hs.c2 (by decide) c1
      have h6 := hs.c2.2.1
      have h7 := hs.c0.2.1
      obtain ⟨H, hH⟩ : ∃ H, Nn (f 1) = H := ⟨_, rfl⟩
      have q1 := hs.c1.2.2
      rw [hH] at q1
      rw [M_lay h.w hf (by omega), q1, bd_some]
      have q := went_step h hf hs ht hH b (Nn (f 0)) 0 n 0 w.2.2.2.2.2.2.2.2.2.2.2.2.2.2.1 (a_m_restsIn m) (a_m_down m) (a_m_broken m) (a_m_passes m) (a_m_stops m) (by omega) (by omega) h.pt
      rw [mX_in, nI_0] at q
      exact q
    · simp only [if_neg c2]; exact ⟨_, _, _, rfl, rfl, hR⟩
  · simp only [if_neg c1]; exact ⟨_, _, _, rfl, rfl, hR⟩
end C51b
