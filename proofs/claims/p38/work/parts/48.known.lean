/-! what drops tell -/
theorem RS.dr {s : TS} {t : TT} {l : TL} {f : Nat → Int32} (h : RS s t l f) {i : Nat} (hi : i < Nn (f 6)) : (q_dropLayers s).getD i 0 = f (127 + i) ∧ isN (f (127 + i)) 0 3 ∧ (q_dropFloats s).getD i 0 = f (133 + i) := by
  have h6 := h.c6.2.1
  have lv1 : lv f (127 + i) := Or.inr (Or.inr (Or.inr (Or.inr (Or.inl ⟨by omega, by omega, by omega⟩))))
  have lv2 : lv f (133 + i) := Or.inr (Or.inr (Or.inr (Or.inr (Or.inl ⟨by omega, by omega, by omega⟩))))
  have e1 := h.2.1 (127 + i) (by omega) lv1
  have e2 := h.2.1 (133 + i) (by omega) lv2
  have o := h.2.2 (127 + i) (by omega) lv1
  rw [okv_r127 _ _ (by omega) (by omega)] at o
  rw [fl_dropLayers s t l (by omega)] at e1
  rw [fl_dropFloats s t l (by omega)] at e2
  exact ⟨e1, o, e2⟩
def fB (f : Nat → Int32) (v wt : Int32) : Nat → Nat → Bool
  | 0, _ => true
  | d + 1, i => if v * f (8 + Nn (f (127 + i))) < wt then (if f (133 + i) = 1 then false else fB f v wt d (i + 1)) else (if f (133 + i) = 1 then fB f v wt d (i + 1) else false)
theorem X_fitsG {W : WX} {f : Nat → Int32} (hs : RS W.2.1 W.2.2.1 W.2.2.2.1 f) (v wt : Int32) : ∀ (d i n : Nat), i + d = Nn (f 6) → d < n → Gsea_fitsDrops_1 n 0 v wt (nI i) W = some (if fB f v wt d i = true then 1 else 0, W) := by
  have h6 := hs.c6.2.1
  have e6 : a_s1_drops W = nI (Nn (f 6)) := (hs.k (k := 6) (by omega)).trans hs.c6.2.2
  have l1 : (a_s1_dropLayers W).length = 6 := LSe_dropLayers hs.1
  have l2 : (a_s1_dropFloats W).length = 6 := LSe_dropFloats hs.1
  have l3 : (a_s1_densities W).length = 4 := LSe_dens hs.1
  intro d
  induction d with
  | zero =>
    intro i n hi hn
    obtain ⟨n, rfl⟩ : ∃ k, n = k + 1 := ⟨n - 1, by omega⟩
    rw [Gsea_fitsDrops_1, e6, if_pos (nI_le (by omega) (by omega))]
    rfl
  | succ d ih =>
    intro i n hi hn
    obtain ⟨n, rfl⟩ : ∃ k, n = k + 1 := ⟨n - 1, by omega⟩
    obtain ⟨t1, t2, t3⟩ := hs.dr (i := i) (by omega)
    have t1 : (a_s1_dropLayers W).getD i 0 = f (127 + i) := t1
    have t3 : (a_s1_dropFloats W).getD i 0 = f (133 + i) := t3
    have h3 := t2.2.1
    have t4 : (a_s1_densities W).getD (Nn (f (127 + i))) 0 = f (8 + Nn (f (127 + i))) := hs.dens (by omega)
    rw [Gsea_fitsDrops_1, e6, if_neg (nI_ge (by omega) (by omega)), ix_e (l := a_s1_dropLayers W) (i := nI i) i rfl (by omega) (by omega), bd_some, t1, ix_e (l := a_s1_densities W) (i := f (127 + i)) (Nn (f (127 + i))) t2.2.2 (by omega) (by omega), bd_some, t4, ix_e (l := a_s1_dropFloats W) (i := nI i) i rfl (by omega) (by omega), t3, nI_1, fB]
    simp only [bd_some]
    have go := ih (i + 1) n (by omega) (by omega)
    by_cases c1 : v * f (8 + Nn (f (127 + i))) < wt
    · rw [if_pos c1, if_pos c1]
      by_cases c2 : f (133 + i) = 1
      · rw [if_pos c2, if_pos c2]
        rfl
      · rw [if_neg c2, if_neg c2]
        exact go
    · rw [if_neg c1, if_neg c1]
      by_cases c2 : f (133 + i) = 1
      · rw [if_pos c2, if_pos c2]
        exact go
      · rw [if_neg c2, if_neg c2]
        rfl
theorem M_fits0 {m : WM} {D : Nat} (hD : D ≤ 6) (e6 : ai_ix (a_m_w m) 6 = some (nI D)) (v wt : Int32) : ∀ (d i n : Nat), i + d = D → d < n → Gm_fits_89 n 0 wt v 0 (nI i) m = some (0, m) := by
  intro d
  induction d with
  | zero =>
    intro i n hi hn
    obtain ⟨n, rfl⟩ : ∃ k, n = k + 1 := ⟨n - 1, by omega⟩
    rw [Gm_fits_89, e6, bd_some, if_pos (nI_le (by omega) (by omega)), if_pos (Or.inl rfl)]
  | succ d ih =>
    intro i n hi hn
    obtain ⟨n, rfl⟩ : ∃ k, n = k + 1 := ⟨n - 1, by omega⟩
    rw [Gm_fits_89, e6, bd_some, if_neg (nI_ge (by omega) (by omega)), if_pos rfl, nI_1]
    exact ih (i + 1) n (by omega) (by omega)
theorem M_fitsG {m : WM} (hw : (a_m_w m).length = 596) {f : Nat → Int32} (hf : sl (a_m_w m) 0 = f) (h6 : isN (f 6) 0 6) (hl : ∀ i, i < Nn (f 6) → isN (f (127 + i)) 0 3) (v wt : Int32) : ∀ (d i n : Nat), i + d = Nn (f 6) → d < n → Gm_fits_89 n 0 wt v 1 (nI i) m = some (if fB f v wt d i = true then 1 else 0, m) := by
  have h7 := h6.2.1
  have e6 : ai_ix (a_m_w m) 6 = some (nI (Nn (f 6))) := by rw [m_ix0 hw (x := 6) 6 rfl (by omega), hf, ← h6.2.2]
  intro d
  induction d with
  | zero =>
    intro i n hi hn
    obtain ⟨n, rfl⟩ : ∃ k, n = k + 1 := ⟨n - 1, by omega⟩
    rw [Gm_fits_89, e6, bd_some, if_pos (nI_le (by omega) (by omega)), if_pos (Or.inr rfl)]
    rfl
  | succ d ih =>
    intro i n hi hn
    obtain ⟨n, rfl⟩ : ∃ k, n = k + 1 := ⟨n - 1, by omega⟩
    have t2 := hl i (by omega)
    have h3 := t2.2.1
    have k1 : ai_ix (a_m_w m) (127 + nI i) = some (f (127 + i)) := by rw [m_ix0 hw (x := 127 + nI i) (127 + i) (by rw [show (127 : Int32) = nI 127 from rfl, nI_add]) (by omega), hf]
    have k2 : ai_ix (a_m_w m) (8 + f (127 + i)) = some (f (8 + Nn (f (127 + i)))) := by rw [m_ix0 hw (x := 8 + f (127 + i)) (8 + Nn (f (127 + i))) (by rw [← nI_add, ← t2.2.2]; rfl) (by omega), hf]
    have k3 : ai_ix (a_m_w m) (133 + nI i) = some (f (133 + i)) := by rw [m_ix0 hw (x := 133 + nI i) (133 + i) (by rw [show (133 : Int32) = nI 133 from rfl, nI_add]) (by omega), hf]
    rw [Gm_fits_89, e6, bd_some, if_neg (nI_ge (by omega) (by omega)), if_neg (show ¬ (1 : Int32) = 0 by decide), k1, bd_some, k2, bd_some, k3, nI_1, fB]
    simp only [bd_some]
    have go := ih (i + 1) n (by omega) (by omega)
    have no := M_fits0 h7 e6 v wt d (i + 1) n (by omega) (by omega)
    by_cases c1 : v * f (8 + Nn (f (127 + i))) < wt
    · rw [if_pos c1, if_pos c1]
      by_cases c2 : f (133 + i) = 1
      · rw [if_pos c2, if_pos c2]
        exact no
      · rw [if_neg c2, if_neg c2]
        exact go
    · rw [if_neg c1, if_neg c1]
      by_cases c2 : f (133 + i) = 1
      · rw [if_pos c2, if_pos c2]
        exact go
      · rw [if_neg c2, if_neg c2]
        exact no
/-- how many of the numbers from k on -/
def cN (P : Nat → Bool) : Nat → Nat → Nat
  | 0, _ => 0
  | d + 1, k => (if P k = true then 1 else 0) + cN P d (k + 1)
theorem cN_le (P : Nat → Bool) : ∀ (d k : Nat), cN P d k ≤ d
  | 0, _ => Nat.le_refl _
  | d + 1, k => by
    have := cN_le P d (k + 1)
    rw [cN]
    split <;> omega
theorem cN_mono {P Q : Nat → Bool} (h : ∀ k, Q k = true → P k = true) : ∀ (d k : Nat), cN Q d k ≤ cN P d k
  | 0, _ => Nat.le_refl _
  | d + 1, k => by
    have := cN_mono h d (k + 1)
    rw [cN, cN]
    by_cases c : Q k = true
    · rw [if_pos c, if_pos (h k c)]
      omega
    · rw [if_neg c]
      omega
/-- it fits, being so heavy; it fits and floats in layer l -/
def kP (f : Nat → Int32) (v : Int32) (k : Nat) : Bool := fB f v (nI k) (Nn (f 6)) 0
def kQ (f : Nat → Int32) (v : Int32) (l k : Nat) : Bool := if kP f v k = true then (if v * f (8 + l) < nI k then false else true) else false
theorem kQ_P {f : Nat → Int32} {v : Int32} {l k : Nat} (h : kQ f v l k = true) : kP f v k = true := by
  unfold kQ at h
  by_cases c : kP f v k = true
  · exact c
  · rw [if_neg c] at h
    exact absurd h (by decide)
section C48
variable {w : WX} {m : WM} {f : Nat → Int32}
theorem X_fits (hs : RS w.2.1 w.2.2.1 w.2.2.2.1 f) (v : Int32) (k : Nat) {n : Nat} (hn : 8 ≤ n) : Fsea_fitsDrops_1 n v (nI k) w = some (if kP f v k = true then 1 else 0, w) := by
  have h6 := hs.c6.2.1
  have q := X_fitsG hs v (nI k) (Nn (f 6)) 0 n (by omega) (by omega)
  rw [nI_0] at q
  exact q
theorem M_fits (hw : (a_m_w m).length = 596) (hf : sl (a_m_w m) 0 = f) (hs : RS w.2.1 w.2.2.1 w.2.2.2.1 f) (v : Int32) (k : Nat) {n : Nat} (hn : 8 ≤ n) : Fm_fits_89 n (nI k) v m = some (if kP f v k = true then 1 else 0, m) := by
  have h6 := hs.c6.2.1
  have q := M_fitsG hw hf hs.c6 (fun i hi => (hs.dr hi).2.1) v (nI k) (Nn (f 6)) 0 n (by omega) (by omega)
  rw [nI_0] at q
  exact q
theorem X_try1 (hs : RS w.2.1 w.2.2.1 w.2.2.2.1 f) (v C be bx : Int32) {l : Nat} (hl : l < 4) : ∀ (d k n a : Nat), k + d = 100 → d + 10 < n → Gf_nextToTry_0 n 1 v C be bx (nI l) (nI a) (nI k) w = Gf_nextToTry_0 (n - d) 1 v C be bx (nI l) (nI (a + cN (kQ f v l) d k)) (nI 100) w := by
  have l3 : (a_s1_densities w).length = 4 := LSe_dens hs.1
  have t4 : (a_s1_densities w).getD l 0 = f (8 + l) := hs.dens hl
  intro d
  induction d with
  | zero =>
    intro k n a hk hn
    rw [show k = 100 by omega, Nat.sub_zero]
    rfl
  | succ d ih =>
    intro k n a hk hn
    obtain ⟨n, rfl⟩ : ∃ k, n = k + 1 := ⟨n - 1, by omega⟩
    rw [Gf_nextToTry_0, if_neg (show ¬ (99 : Int32) < nI k from nI_nlt (a := 99) (by omega) (by decide)), X_fits hs v k (by omega)]
    simp only [bd_some, ifz]
    rw [ix_e (l := a_s1_densities w) (i := nI l) l rfl (by omega) (by omega)]
    simp only [bd_some]
    rw [t4, nI_1, nI_1, show n + 1 - (d + 1) = n - d by omega, cN]
    unfold kQ
    by_cases c1 : kP f v k = true
    · rw [if_pos c1]
      simp only [if_pos c1]
      by_cases c2 : v * f (8 + l) < nI k
      · simp only [if_pos c2]
        rw [if_neg (by decide), Nat.zero_add]
        exact ih (k + 1) n a (by omega) (by omega)
      · simp only [if_neg c2]
        rw [if_pos trivial, ← Nat.add_assoc]
        exact ih (k + 1) n (a + 1) (by omega) (by omega)
    · rw [if_neg c1]
      simp only [if_neg c1]
      rw [if_neg (by decide), Nat.zero_add]
      exact ih (k + 1) n a (by omega) (by omega)
theorem M_try1 (hw : (a_m_w m).length = 596) (hf : sl (a_m_w m) 0 = f) (hs : RS w.2.1 w.2.2.1 w.2.2.2.1 f) (v q C be bm : Int32) {l : Nat} (hl : l < 4) : ∀ (d k n a : Nat), k + d = 100 → d + 10 < n → Gm_known_89 n 2 v q C be bm (nI l) (nI a) (nI k) m = Gm_known_89 (n - d) 2 v q C be bm (nI l) (nI (a + cN (kQ f v l) d k)) (nI 100) m := by
  have t4 : ai_ix (a_m_w m) (8 + nI l) = some (f (8 + l)) := by rw [m_ix0 hw (x := 8 + nI l) (8 + l) (by rw [show (8 : Int32) = nI 8 from rfl, nI_add]) (by omega), hf]
  intro d
  induction d with
  | zero =>
    intro k n a hk hn
    rw [show k = 100 by omega, Nat.sub_zero]
    rfl
  | succ d ih =>
    intro k n a hk hn
    obtain ⟨n, rfl⟩ : ∃ k, n = k + 1 := ⟨n - 1, by omega⟩
    rw [Gm_known_89, if_neg (show ¬ (100 : Int32) ≤ nI k from nI_ge (b := 100) (by omega) (by decide)), M_fits hw hf hs v k (by omega)]
    simp only [bd_some, ifz, t4, Int32.add_zero]
    rw [nI_1, nI_1, show n + 1 - (d + 1) = n - d by omega, cN]
    unfold kQ
    by_cases c1 : kP f v k = true
    · rw [if_pos c1]
      simp only [if_pos c1]
      by_cases c2 : v * f (8 + l) < nI k
      · simp only [if_pos c2]
        rw [if_neg (by decide), Nat.zero_add]
        exact ih (k + 1) n a (by omega) (by omega)
      · simp only [if_neg c2]
        rw [if_pos trivial, ← Nat.add_assoc]
        exact ih (k + 1) n (a + 1) (by omega) (by omega)
    · rw [if_neg c1]
      simp only [if_neg c1]
      rw [if_neg (by decide), Nat.zero_add]
      exact ih (k + 1) n a (by omega) (by omega)
end C48
