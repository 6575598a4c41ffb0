/-! shaken waters -/
/-- all layers together, from layer i on -/
def alT (f : Nat → Int32) (c h : Nat) : Nat → Nat → Int32 → Int32
  | 0, _, a => a
  | k + 1, i, a => alT f c h k (i + 1) (a + Tk f i c h)
theorem X_allThick {W : WX} {f : Nat → Int32} (hs : RS W.2.1 W.2.2.1 W.2.2.2.1 f) {c : Nat} (hc : c < 6) : ∀ (k i n : Nat) (a : Int32), i + k = 4 → k < n → Gsea_allThick_1 n 0 (nI c) a (nI i) W = some (alT f c (Nn (f 1)) k i a, W) := by
  have f1 : a_s1_hour W = f 1 := hs.k (k := 1) (by omega)
  have q1 := hs.c1.2.2
  have q2 := hs.c1.2.1
  intro k
  induction k with
  | zero =>
    intro i n a hi hn
    obtain ⟨n, rfl⟩ : ∃ k, n = k + 1 := ⟨n - 1, by omega⟩
    rw [show i = 4 by omega, Gsea_allThick_1, if_pos (show (4 : Int32) ≤ nI 4 from Int32.le_refl _)]
    rfl
  | succ k ih =>
    intro i n a hi hn
    obtain ⟨n, rfl⟩ : ∃ k, n = k + 1 := ⟨n - 1, by omega⟩
    have hx : Fsea_thickAt_1 (nI i) (nI c) (a_s1_hour W) W = some (Tk f i c (Nn (f 1)), W) := by
      rw [f1]
      have := X_thickAt hs (l := i) (c := c) (h := Nn (f 1)) (by omega) hc (by omega)
      rw [← q1] at this
      exact this
    rw [Gsea_allThick_1, if_neg (show ¬ (4 : Int32) ≤ nI i from nI_ge (b := 4) (by omega) (by decide)), hx, bd_some, nI_1, alT]
    exact ih (i + 1) n _ (by omega) (by omega)
theorem M_shaken0 {m : WM} (hw : (a_m_w m).length = 596) (h1 : isN (sl (a_m_w m) 0 1) 0 999) {c : Nat} (hc : c < 6) (mu q : Int32) : ∀ (k i n : Nat) (a : Int32), i + k = 4 → k < n → Gm_shaken_89 n 0 mu (nI c) q a (nI i) 0 0 m = Gm_shaken_89 (n - k - 1) 1 mu (nI c) q (alT (sl (a_m_w m) 0) c (Nn (sl (a_m_w m) 0 1)) k i a) 0 0 mu m := by
  have q1 := h1.2.2
  have q2 := h1.2.1
  intro k
  induction k with
  | zero =>
    intro i n a hi hn
    obtain ⟨n, rfl⟩ : ∃ k, n = k + 1 := ⟨n - 1, by omega⟩
    rw [show i = 4 by omega, Gm_shaken_89, if_pos (show (4 : Int32) ≤ nI 4 from Int32.le_refl _)]
    rfl
  | succ k ih =>
    intro i n a hi hn
    obtain ⟨n, rfl⟩ : ∃ k, n = k + 1 := ⟨n - 1, by omega⟩
    have hx : Fm_thickIn_89 (nI i) (nI c) (sl (a_m_w m) 0 1) m = some (Tk (sl (a_m_w m) 0) i c (Nn (sl (a_m_w m) 0 1)), m) := by
      have := M_thickIn hw (l := i) (c := c) (h := Nn (sl (a_m_w m) 0 1)) (by omega) hc (by omega)
      rw [← q1] at this
      exact this
    rw [Gm_shaken_89, if_neg (show ¬ (4 : Int32) ≤ nI i from nI_ge (b := 4) (by omega) (by decide)), m_ix0 hw (x := 1) 1 rfl (by omega), bd_some, hx, bd_some, nI_1, alT]
    rw [ih (i + 1) n _ (by omega) (by omega), show n - k - 1 = n + 1 - (k + 1) - 1 by omega]
/-- how many times more than a limit is left -/
def shk (lim : Int32) : Nat → Nat → Nat
  | 0, _ => 0
  | k + 1, x => if lim < nI x then 1 + shk lim k (x - (x + 3) / 4) else 0
theorem shk_low {lim : Int32} : ∀ (k x : Nat), x ≤ 99 → ¬ lim < nI x → shk lim k x = 0
  | 0, _, _, _ => rfl
  | k + 1, x, _, h => by rw [shk, if_neg h]
theorem shk_down {x : Nat} : x - (x + 3) / 4 ≤ x := Nat.sub_le _ _
theorem mix_nI {x : Nat} (hx : x ≤ 99) : nI x - ((nI x + 3) / 4) = nI (x - (x + 3) / 4) := by
  rw [show nI x + 3 = nI (x + 3) from nI_add x 3, show (nI (x + 3) / 4) = nI ((x + 3) / 4) from pk_div (d := 4) (by omega) (by decide) (by decide), pk_sub (by omega)]
theorem X_shakenG {W : WX} {mu : Nat} (hmu : mu ≤ 99) (ce q : Int32) {lim : Int32} (hlim : 0 ≤ lim) : ∀ (k x t n hr : Nat), x ≤ k → x + t ≤ mu → k + 1 < n → hr + x ≤ 200 → Gf_shaken_0 n 0 (nI mu) ce q lim (nI hr) (nI x) (nI t) W = some (nI (hr + shk lim (k + 1) x), W) := by
  intro k
  induction k with
  | zero =>
    intro x t n hr hx ht hn hh
    obtain ⟨n, rfl⟩ : ∃ k, n = k + 1 := ⟨n - 1, by omega⟩
    have x0 : x = 0 := by omega
    subst x0
    rw [Gf_shaken_0, if_neg (nI_nlt (by omega) (by omega)), if_pos (show nI 0 ≤ lim from hlim), shk_low 1 0 (by omega) (Int32.not_lt.mpr hlim)]
    rfl
  | succ k ih =>
    intro x t n hr hx ht hn hh
    obtain ⟨n, rfl⟩ : ∃ k, n = k + 1 := ⟨n - 1, by omega⟩
    rw [Gf_shaken_0, if_neg (nI_nlt (by omega) (by omega))]
    by_cases c : nI x ≤ lim
    · rw [if_pos c, shk_low _ x (by omega) (Int32.not_lt.mpr c)]
      rfl
    · rw [if_neg c, shk, if_pos (Int32.not_le.mp c), nI_1, nI_1, mix_nI (by omega)]
      have x1 : 1 ≤ x := by
        refine Nat.pos_of_ne_zero fun z => c ?_
        rw [z]
        exact hlim
      have := ih (x - (x + 3) / 4) (t + 1) n (hr + 1) (by omega) (by omega) (by omega) (by omega)
      rw [this, Nat.add_assoc]
theorem M_shakenG {m : WM} (mu ce q : Int32) {al : Int32} (hal : 0 ≤ al) : ∀ (k x n hr co : Nat), x ≤ k → x ≤ 99 → k + 1 < n → Gm_shaken_89 n 1 mu ce q al (nI hr) (nI co) (nI x) m = some (if q = 0 then nI (hr + shk 0 (k + 1) x) else nI (co + shk al (k + 1) x), m) := by
  intro k
  induction k with
  | zero =>
    intro x n hr co hx hx9 hn
    obtain ⟨n, rfl⟩ : ∃ k, n = k + 1 := ⟨n - 1, by omega⟩
    have x0 : x = 0 := by omega
    subst x0
    rw [Gm_shaken_89, if_pos (show nI 0 ≤ 0 from Int32.le_refl _), shk_low 1 0 (by omega) (show ¬ (0 : Int32) < nI 0 by decide), shk_low 1 0 (by omega) (Int32.not_lt.mpr hal)]
    by_cases c : q = 0
    · rw [if_pos c, if_pos c]; rfl
    · rw [if_neg c, if_neg c]; rfl
  | succ k ih =>
    intro x n hr co hx hx9 hn
    obtain ⟨n, rfl⟩ : ∃ k, n = k + 1 := ⟨n - 1, by omega⟩
    rw [Gm_shaken_89]
    by_cases z : x = 0
    · subst z
      rw [if_pos (show nI 0 ≤ 0 from Int32.le_refl _), shk_low _ 0 (by omega) (show ¬ (0 : Int32) < nI 0 by decide), shk_low _ 0 (by omega) (Int32.not_lt.mpr hal)]
      by_cases c : q = 0
      · rw [if_pos c, if_pos c]; rfl
      · rw [if_neg c, if_neg c]; rfl
    · rw [if_neg (nI_nle (by omega) (by omega)), mix_nI hx9, nI_1, nI_1, show nI co + 0 = nI co from Int32.add_zero _]
      have s0 : shk 0 (k + 1 + 1) x = 1 + shk 0 (k + 1) (x - (x + 3) / 4) := by rw [shk, if_pos (show (0 : Int32) < nI x from nI_lt (a := 0) (by omega) (by omega))]
      rw [s0]
      by_cases c : nI x ≤ al
      · rw [if_pos c, ih (x - (x + 3) / 4) n (hr + 1) co (by omega) (by omega) (by omega)]
        have lo : ¬ al < nI (x - (x + 3) / 4) := by
          refine Int32.not_lt.mpr (Int32.le_trans ?_ c)
          exact nI_le (Nat.sub_le _ _) (by omega)
        rw [shk_low _ _ (by omega) lo, shk_low _ x (by omega) (Int32.not_lt.mpr c), Nat.add_assoc]
      · rw [if_neg c, ih (x - (x + 3) / 4) n (hr + 1) (co + 1) (by omega) (by omega) (by omega)]
        have s1 : shk al (k + 1 + 1) x = 1 + shk al (k + 1) (x - (x + 3) / 4) := by rw [shk, if_pos (Int32.not_le.mp c)]
        rw [s1, Nat.add_assoc, Nat.add_assoc]
/-- what is thick is at least nothing, and at most eleven -/
theorem Tk_rng {s : TS} {t : TT} {l : TL} {f : Nat → Int32} (hs : RS s t l f) {i c : Nat} (hi : i < 4) (hc : c < 6) (h : Nat) : ∃ k, k ≤ 11 ∧ Tk f i c h = nI k := by
  have hm : h % 6 < 6 := Nat.mod_lt _ (by decide)
  have a1 := hs.ok (k := 40 + (6 * i + c)) (by omega)
  rw [okv_r40 _ _ (by omega) (by omega)] at a1
  have a2 := hs.ok (k := 16 + (6 * i + h % 6)) (by omega)
  rw [okv_r16 _ _ (by omega) (by omega)] at a2
  have b1 := a1.int (by decide)
  have b2 := a1.2.1
  obtain ⟨b3, b4⟩ := a2
  unfold Tk
  generalize f (40 + (6 * i + c)) = x at *
  generalize f (16 + (6 * i + h % 6)) = y at *
  have e : (x + y).toInt = x.toInt + y.toInt := by
    rw [Int32.toInt_add]
    have : -2147483648 ≤ x.toInt + y.toInt ∧ x.toInt + y.toInt < 2147483648 := by omega
    exact Int.bmod_eq_of_le (by omega) (by omega)
  by_cases q : 0 < x + y
  · rw [if_pos q]
    have q2 := Int32.lt_iff_toInt_lt.mp q
    have z0 : (0 : Int32).toInt = 0 := rfl
    refine ⟨(x + y).toInt.toNat, by omega, Int32.toInt_inj.mp ?_⟩
    rw [nI_toInt (by omega)]
    omega
  · rw [if_neg q]
    exact ⟨0, by omega, rfl⟩
theorem alT_rng {s : TS} {t : TT} {l : TL} {f : Nat → Int32} (hs : RS s t l f) {c : Nat} (hc : c < 6) (h : Nat) : ∀ (k i b : Nat), i + k ≤ 4 → b ≤ 11 * i → ∃ z, z ≤ 44 ∧ alT f c h k i (nI b) = nI z := by
  intro k
  induction k with
  | zero => intro i b hi hb; exact ⟨b, by omega, rfl⟩
  | succ k ih =>
    intro i b hi hb
    obtain ⟨y, hy, e⟩ := Tk_rng hs (i := i) (c := c) (by omega) hc h
    rw [alT, e, nI_add]
    exact ih (i + 1) (b + y) (by omega) (by omega)
section C42
variable {w : WX} {m : WM}
theorem C_shaken (h : R w m) (a b d : Int32) : Ok (fun n => Ff_shaken_0 n a b d w) (fun n => Fm_shaken_89 n a b d m) := Ok.of 300 fun n hn => by
  obtain ⟨w2, m2, e1, e2, hR⟩ := R_bad h
  have f0 : a_s1_cells w = sl (a_m_w m) 0 0 := h.s.k (k := 0) (by omega)
  simp only [Ff_shaken_0, Fm_shaken_89, Ff_within_eq, Fm_in_eq a (lo := 0) (hi := 99) 0 99 rfl rfl, hasCell_1, M_isCell h.w, Fm_in_eq d (lo := 0) (hi := 1) 0 1 rfl rfl, bd_some, ifz, e1, e2, f0]
  by_cases c1 : 0 ≤ a ∧ a ≤ 99
  · simp only [if_pos c1]
    by_cases c2 : C_cell (sl (a_m_w m) 0 0) b
    · simp only [if_pos c2]
      by_cases c3 : 0 ≤ d ∧ d ≤ 1
      · simp only [if_pos c3]
        obtain ⟨mu, hmu, rfl⟩ := in0 99 rfl c1
        obtain ⟨c, hc, rfl⟩ := cell_N h.s.c0 (by decide) c2
        have h7 := h.s.c0.2.1
        obtain ⟨z, hz, ez⟩ := alT_rng h.s (c := c) (by omega) (Nn (sl (a_m_w m) 0 1)) 4 0 0 (by omega) (by omega)
        have ez : alT (sl (a_m_w m) 0) c (Nn (sl (a_m_w m) 0 1)) 4 0 0 = nI z := ez
        have hm0 := M_shaken0 h.w h.s.c1 (c := c) (by omega) (nI mu) d 4 0 n 0 (by omega) (by omega)
        have hm0 : Gm_shaken_89 n 0 (nI mu) (nI c) d 0 0 0 0 m = Gm_shaken_89 (n - 4 - 1) 1 (nI mu) (nI c) d (alT (sl (a_m_w m) 0) c (Nn (sl (a_m_w m) 0 1)) 4 0 0) 0 0 (nI mu) m := hm0
        have hm1 := M_shakenG (m := m) (nI mu) (nI c) d (al := nI z) (nI_pos' (by omega)) 99 mu (n - 4 - 1) 0 0 hmu hmu (by omega)
        have hm1 : Gm_shaken_89 (n - 4 - 1) 1 (nI mu) (nI c) d (nI z) 0 0 (nI mu) m = some (if d = 0 then nI (0 + shk 0 (99 + 1) mu) else nI (0 + shk (nI z) (99 + 1) mu), m) := hm1
        rw [hm0, ez, hm1]
        by_cases d0 : d = 0
        · rw [if_pos d0, if_pos d0]
          have hx := X_shakenG (W := w) hmu (nI c) d (lim := 0) (Int32.le_refl _) 99 mu 0 n 0 hmu (by omega) (by omega) (by omega)
          have hx : Gf_shaken_0 n 0 (nI mu) (nI c) d 0 0 (nI mu) 0 w = some (nI (0 + shk 0 (99 + 1) mu), w) := hx
          rw [hx]
          exact ⟨_, _, _, rfl, rfl, h⟩
        · rw [if_neg d0, if_neg d0]
          have ha := X_allThick h.s (c := c) (by omega) 4 0 n 0 (by omega) (by omega)
          have ha : Fsea_allThick_1 n (nI c) w = some (alT (sl (a_m_w m) 0) c (Nn (sl (a_m_w m) 0 1)) 4 0 0, w) := ha
          rw [ha, bd_some, ez]
          have hx := X_shakenG (W := w) hmu (nI c) d (lim := nI z) (nI_pos' (by omega)) 99 mu 0 n 0 hmu (by omega) (by omega) (by omega)
          have hx : Gf_shaken_0 n 0 (nI mu) (nI c) d (nI z) 0 (nI mu) 0 w = some (nI (0 + shk (nI z) (99 + 1) mu), w) := hx
          rw [hx]
          exact ⟨_, _, _, rfl, rfl, h⟩
      · simp only [if_neg c3]; exact ⟨_, _, _, rfl, rfl, hR⟩
    · simp only [if_neg c2]; exact ⟨_, _, _, rfl, rfl, hR⟩
  · simp only [if_neg c1]; exact ⟨_, _, _, rfl, rfl, hR⟩
end C42
