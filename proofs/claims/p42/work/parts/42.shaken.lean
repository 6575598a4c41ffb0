/-! shaken waters -/
/-- all layers together, from layer i on -/
def alT (f : Nat → Int32) (c h : Nat) : Nat → Nat → Int32 → Int32
  | 0, _, a => a
  | k + 1, i, a => alT f c h k (i + 1) (a + Tk f i c h)
theorem X_allThick {W : WX} {f : Nat → Int32} (hs : RS W.2.1 W.2.2.1 W.2.2.2.1 f) {c : Nat} (hc : c < 6) : ∀ (k i n : Nat) (a : Int32), i + k = 4 → k < n → Gsea_allThick_1 n 0 (nI c) a (nI i) W = some (alT f c (Nn (f 1)) k i a, W) := by
  have f1 : a_s1_hour W = f 1 := hs.k (k := 1) (by omega)
  have q1 := hs.c1.2.2
  have q2 := hs.c1.2.1
  intro k
  induction k with
  | zero =>
    intro i n a hi hn
    obtain ⟨n, rfl⟩ : ∃ k, n = k + 1 := ⟨n - 1, by omega⟩
    rw [show i = 4 by omega, Gsea_allThick_1, if_pos (show (4 : Int32) ≤ nI 4 from Int32.le_refl _)]
    rfl
  | succ k ih =>
    intro i n a hi hn
    obtain ⟨n, rfl⟩ : ∃ k, n = k + 1 := ⟨n - 1, by omega⟩
    have hx : Fsea_thickAt_1 (nI i) (nI c) (a_s1_hour W) W = some (Tk f i c (Nn (f 1)), W) := by
      rw [f1]
      have := X_thickAt hs (l := i) (c := c) (h := Nn (f 1)) (by omega) hc (by omega)
      rw [← q1] at this
      exact this
    rw [Gsea_allThick_1, if_neg (show ¬ (4 : Int32) ≤ nI i from nI_ge (b := 4) (by omega) (by decide)), hx, bd_some, nI_1, alT]
    exact ih (i + 1) n _ (by omega) (by omega)
theorem M_shaken0 {m : WM} (hw : (a_m_w m).length = 596) (h1 : isN (sl (a_m_w m) 0 1) 0 999) {c : Nat} (hc : c < 6) (mu q : Int32) : ∀ (k i n : Nat) (a : Int32), i + k = 4 → k < n → Gm_shaken_89 n 0 mu (nI c) q a (nI i) 0 0 m = Gm_shaken_89 (n - k - 1) 1 mu (nI c) q (alT (sl (a_m_w m) 0) c (Nn (sl (a_m_w m) 0 1)) k i a) 0 0 mu m := by
  have q1 := h1.2.2
  have q2 := h1.2.1
  intro k
  induction k with
  | zero =>
    intro i n a hi hn
    obtain ⟨n, rfl⟩ : ∃ k, n = k + 1 := ⟨n - 1, by omega⟩
    rw [show i = 4 by omega, Gm_shaken_89, if_pos (show (4 : Int32) ≤ nI 4 from Int32.le_refl _)]
    rfl
  | succ k ih =>
    intro i n a hi hn
    obtain ⟨n, rfl⟩ : ∃ k, n = k + 1 := ⟨n - 1, by omega⟩
    have hx : Fm_thickIn_89 (nI i) (nI c) (sl (a_m_w m) 0 1) m = some (Tk (sl (a_m_w m) 0) i c (Nn (sl (a_m_w m) 0 1)), m) := by
      have := M_thickIn hw (l := i) (c := c) (h := Nn (sl (a_m_w m) 0 1)) (by omega) hc (by omega)
      rw [← q1] at this
      exact this
    rw [Gm_shaken_89, if_neg (show ¬ (4 : Int32) ≤ nI i from nI_ge (b := 4) (by omega) (by decide)), m_ix0 hw (x := 1) 1 rfl (by omega), bd_some, hx, bd_some, nI_1, alT]
    rw [ih (i + 1) n _ (by omega) (by omega), show n - k - 1 = n + 1 - (k + 1) - 1 by omega]
/-- how many times more than a limit is left -/
def shk (lim : Int32) : Nat → Nat → Nat
  | 0, _ => 0
  | k + 1, x => if lim < nI x then 1 + shk lim k (x - (x + 3) / 4) else 0
theorem shk_low {lim : Int32} : ∀ (k x : Nat), x ≤ 99 → ¬ lim < nI x → shk lim k x = 0
  | 0, _, _, _ => rfl
  | k + 1, x, _, h => by rw [shk, if_neg h]
theorem shk_down {x : Nat} : x - (x + 3) / 4 ≤ x := Nat.sub_le _ _
theorem mix_nI {x : Nat} (hx : x ≤ 99) : nI x - ((nI x + 3) / 4) = nI (x - (x + 3) / 4) := by
  rw [show nI x + 3 = nI (x + 3) from nI_add x 3, show (nI (x + 3) / 4) = nI ((x + 3) / 4) from pk_div (d := 4) (by omega) (by decide) (by decide), pk_sub (by omega)]
theorem X_shakenG {W : WX} {mu : Nat} (hmu : mu ≤ 99) (ce q : Int32) {lim : Int32} (hlim : 0 ≤ lim) : ∀ (k x t n hr : Nat), x ≤ k → x + t ≤ mu → k + 1 < n → hr + x ≤ 200 → Gf_shaken_0 n 0 (nI mu) ce q lim (nI hr) (nI x) (nI t) W = some (nI (hr + shk lim (k + 1) x), W) := by
  intro k
  induction k with
  | zero =>
    intro x t n hr hx ht hn hh
    obtain ⟨n, rfl⟩ : ∃ k, n = k + 1 := ⟨n - 1, by omega⟩
    have x0 : x = 0 := by omega
    subst x0
    rw [Gf_shaken_0, if_neg (nI_nlt (by omega) (by omega)), if_pos (show nI 0 ≤ lim from hlim), shk_low 1 0 (by omega) (Int32.not_lt.mpr hlim)]
    rfl
  | succ k ih =>
    intro x t n hr hx ht hn hh
    obtain ⟨n, rfl⟩ : ∃ k, n = k + 1 := ⟨n - 1, by omega⟩
    rw [Gf_shaken_0, if_neg (nI_nlt (by omega) (by omega))]
    by_cases c : nI x ≤ lim
    · rw [if_pos c, shk_low _ x (by omega) (Int32.not_lt.mpr c)]
      rfl
    · rw [if_neg c, shk, if_pos (Int32.not_le.mp c), nI_1, nI_1, mix_nI (by omega)]
      have x1 : 1 ≤ x := by
        refine Nat.pos_of_ne_zero fun z => c ?_
        rw [z]
        exact hlim
      have := ih (x - (x + 3) / 4) (t + 1) n (hr + 1) (by omega) (by omega) (by omega) (by omega)
      rw [this, Nat.add_assoc]
theorem M_shakenG {m : WM} (mu ce q : Int32) {al : Int32} (hal : 0 ≤ al) : ∀ (k x n hr co : Nat), x ≤ k → x ≤ 99 → k + 1 < n → Gm_shaken_89 n 1 mu ce q al (nI hr) (nI co) (nI x) m = some (if q = 0 then nI (hr + shk 0 (k + 1) x) else nI (co + shk al (k + 1) x), m) := by
  intro k
  induction k with
  | zero =>
    intro x n hr co hx hx9 hn
    obtain ⟨n, rfl⟩ : ∃ k, n = k + 1 := ⟨n - 1, by omega⟩
    have x0 : x = 0 := by omega
    subst x0
    rw [Gm_shaken_89, if_pos (show nI 0 ≤ 0 from Int32.le_refl _), shk_low 1 0 (by omega) (show ¬ (0 : Int32) < nI 0 by decide), shk_low 1 0 (by omega) (Int32.not_lt.mpr hal)]
    by_cases c : q = 0
    · rw [if_pos c, if_pos c]; rfl
    · rw [if_neg c, if_neg c]; rfl
  | succ k ih =>
    intro x n hr co hx hx9 hn
    obtain ⟨n, rfl⟩ : ∃ k, n = k + 1 := ⟨n - 1, by omega⟩
    rw [Gm_shaken_89]
    by_cases z : x = 0
    · subst z
      rw [if_pos (show nI 0 ≤ 0 from Int32.le_refl _), shk_low _ 0 (by omega) (show ¬ (0 : Int32) < nI 0 by decide), shk_low _ 0 (by omega) (Int32.not_lt.mpr hal)]
      by_cases c : q = 0
      · rw [if_pos c, if_pos c]; rfl
      · rw [if_neg c, if_neg c]; rfl
    · rw [if_neg (nI_nle (by omega) (by omega)), mix_nI hx9, nI_1, nI_1, show nI co + 0 = nI co from Int32.add_zero _]
      have s0 : shk 0 (k + 1 + 1) x = 1 + shk 0 (k + 1) (x - (x + 3) / 4) := by rw [shk, if_pos (show (0 : Int32) < nI x from nI_lt (a := 0) (by omega) (by omega))]
      rw [s0]
      by_cases c : nI x ≤ al
      · rw [if_pos c, ih (x - (x + 3) / 4) n (hr + 1) co (by omega) (by omega) (by omega)]
        have lo : ¬ al < nI (x - (x + 3) / 4) := by
          refine Int32.not_lt.mpr (Int32.le_trans ?_ c)
          exact nI_le (Nat.sub_le _ _) (by omega)
        rw [shk_low _ _ (by omega) lo, shk_low _ x (by omega) (Int32.not_lt.mpr c), Nat.add_assoc]
      · rw [if_neg c, ih (x - (x + 3) / 4) n (hr + 1) (co + 1) (by omega) (by omega) (by omega)]
        have s1 : shk al (k + 1 + 1) x = 1 + shk al (k + 1) (x - (x + 3) / 4) := by rw [shk, if_pos (Int32.not_le.mp c)]
        rw [s1, Nat.add_assoc, Nat.add_assoc]
/-- what is thick is at least nothing, and at most eleven -/
theorem Tk_rng {s : TS} {t : TT} {l : TL} {f : Nat → Int32} (hs : RS s t l f) {i c : Nat} (hi : i < 4) (hc : c < 6) (h : Nat) : ∃ k, k ≤ 11 ∧ Tk f i c h = nI k := by
  have hm : h % 6 < 6 := Nat.mod_lt _ (by decide)
  have a1 := hs.ok (k := 40 + (6 * i + c)) (by omega)
  rw [okv_r40 _ _ (by omega) (by omega)] at a1
  have a2 := hs.ok (k := 16 + (6 * i + h % 6)) (by omega)
  rw [okv_r16 _ _ (by omega) (by omega)] at a2
  have b1 := a1.int (by decide)
  have b2 := a1.2.1
  obtain ⟨b3, b4⟩ := a2
  unfold Tk
  generalize f (40 + (6 * i + c)) = x at *
  generalize f (16 + (6 * i + h % 6)) = y at *
  have e : (x + y).toInt = x.toInt + y.toInt := by
    rw [Int32.toInt_add]
    have : -2147483648 ≤ x.toInt + y.toInt ∧ x.toInt + y.toInt < 2147483648 := by omega
    exact Int.bmod_eq_of_le (by omega) (by omega)
  by_cases q : 0 < x + y
  · rw [if_pos q]
    have q2 := Int32.lt_iff_toInt_lt.mp q
    have z0 : (0 : Int32).toInt = 0 := rfl
    refine ⟨(x + y).toInt.toNat, by omega, Int32.toInt_inj.mp ?_⟩
    rw [nI_toInt (by omega)]
    omega
  · rw [if_neg q]
    exact ⟨0, by omega, rfl⟩
theorem alT_rng {s : TS} {t : TT} {l : TL} {f : Nat → Int32} (hs : RS s t l f) {c : Nat} (hc : c < 6) (h : Nat) : ∀ (k i b : Nat), i + k ≤ 4 → b ≤ 11 * i → ∃ z, z ≤ 44 ∧ alT f c h k i (nI b) = nI z := by
  intro k
  induction k with
  | zero => intro i b hi hb; exact ⟨b, by omega, rfl⟩
  | succ k ih =>
    intro i b hi hb
    obtain ⟨y, hy, e⟩ := Tk_rng hs (i := i) (c := c) (by omega) hc h
    rw [alT, e, nI_add]
    exact ih (i + 1) (b + y) (by omega) (by omega)
section C42
variable {w : WX} {m : WM}
theorem C_shaken (h : R w m) (a b d : Int32) : Ok (fun n => Ff_shaken_0 n a b d w) (fun n => Fm_shaken_89 n a b d m) := Ok.of 300 fun n hn => by
  obtain ⟨w2, m2, e1, e2, hR⟩ := R_bad h
  have f0 : a_s1_cells w = sl (a_m_w m) 0 0 := h.s.k (k := 0) (by omega)
  simp only [Ff_shaken_0, Fm_shaken_89, Ff_within_eq, Fm_in_eq a (lo := 0) (hi := 99) 0 99 rfl rfl, hasCell_1, M_isCell h.w, Fm_in_eq d (lo := 0) (hi := 1) 0 1 rfl rfl, bd_some, ifz, e1, e2, f0]
  by_cases c1 : 0 ≤ a ∧ a ≤ 99
  · simp only [if_pos c1]
    by_cases c2 : C_cell (sl (a_m_w m) 0 0) b
    · simp only [if_pos c2]
      by_cases c3 : 0 ≤ d ∧ d ≤ 1
      · simp only [if_pos c3]
        obtain ⟨mu, hmu, rfl⟩ := in0 99 rfl c1
        obtain ⟨c, hc, rfl⟩ := cell_N h.s.c0 (by decide) c2
        have h7 := h.s.c0.2.1
        obtain ⟨z, hz, ez⟩ := alT_rng h.s (c := c) (by omega) (Nn (sl (a_m_w m) 0 1)) 4 0 0 (by omega) (by omega)
        have ez : alT (sl (a_m_w m) 0) c (Nn (sl (a_m_w m) 0 1)) 4 0 0 = nI z := ez
        have hm0 := M_shaken0 h.w h.s.c1 (c := c) (by omega) (nI mu) d 4 0 n 0 (by omega) (by omega)
        have hm0 : Gm_shaken_89 n 0 (nI mu) (nI c) d 0 0 0 0 m = Gm_shaken_89 (n - 4 - 1) 1 (nI mu) (nI c) d (alT (sl (a_m_w m) 0) c (Nn (sl (a_m_w m) 0 1)) 4 0 0) 0 0 (nI mu) m := hm0
        have hm1 := M_shakenG (m := m) (nI mu) (nI c) d (al := nI z) (nI_pos' (by omega)) 99 mu (n - 4 - 1) 0 0 hmu hmu (by omega)
        have hm1 : Gm_shaken_89 (n - 4 - 1) 1 (nI mu) (nI c) d (nI z) 0 0 (nI mu) m = some (if d = 0 then nI (0 + shk 0 (99 + 1) mu) else nI (0 + shk (nI z) (99 + 1) mu), m) := hm1
        rw [hm0, ez, hm1]
        by_cases d0 : d = 0
        · rw [if_pos d0, if_pos d0]
          have hx := X_shakenG (W := w) hmu (nI c) d (lim := 0) (Int32.le_refl _) 99 mu 0 n 0 hmu (by omega) (by omega) (by omega)
          have hx : Gf_shaken_0 n 0 (nI mu) (nI c) d 0 0 (nI mu) 0 w = some (nI (0 + shk 0 (99 + 1) mu), w) := hx
          rw [hx]
          exact ⟨_, _, _, rfl, rfl, h⟩
        · rw [if_neg d0, if_neg d0]
          have ha := X_allThick h.s (c := c) (by omega) 4 0 n 0 (by omega) (by omega)
          have ha : Fsea_allThick_1 n (nI c) w = some (alT (sl (a_m_w m) 0) c (Nn (sl (a_m_w m) 0 1)) 4 0 0, w) := ha
          rw [ha, bd_some, ez]
          have hx := X_shakenG (W := w) hmu (nI c) d (lim := nI z) (nI_pos' (by omega)) 99 mu 0 n 0 hmu (by omega) (by omega) (by omega)
          have hx : Gf_shaken_0 n 0 (nI mu) (nI c) d (nI z) 0 (nI mu) 0 w = some (nI (0 + shk (nI z) (99 + 1) mu), w) := hx
          rw [hx]
          exact ⟨_, _, _, rfl, rfl, h⟩
      · simp only [if_neg c3]; exact ⟨_, _, _, rfl, rfl, hR⟩
    · simp only [if_neg c2]; exact ⟨_, _, _, rfl, rfl, hR⟩
  · simp only [if_neg c1]; exact ⟨_, _, _, rfl, rfl, hR⟩
end C42
/-! spills -/
abbrev lg (l : List Int32) (k : Nat) : Int32 := l.getD k 0
/-- one hour of a spill over the borders from k on, g being what each cell gives -/
def st2 (dams : Int32) (g : Nat → Int32) : Nat → Nat → List Int32 → List Int32
  | 0, _, l => l
  | d + 1, k, l => st2 dams g d (k + 1) (if C_bit dams (nI k) then l else (l.set k (lg l k + (g (k + 1) - g k))).set (k + 1) (lg (l.set k (lg l k + (g (k + 1) - g k))) (k + 1) + (g k - g (k + 1))))
theorem st2_len (dams : Int32) (g : Nat → Int32) : ∀ (d k : Nat) (l : List Int32), (st2 dams g d k l).length = l.length
  | 0, _, _ => rfl
  | d + 1, k, l => by
    rw [st2, st2_len dams g d]
    by_cases c : C_bit dams (nI k)
    · rw [if_pos c]
    · rw [if_neg c, List.length_set, List.length_set]
def sp1 (c : Nat) (dams : Int32) (l : List Int32) : List Int32 := st2 dams (fun k => lg l k / 4) (c - 1) 0 l
theorem sp1_len (c : Nat) (dams : Int32) (l : List Int32) : (sp1 c dams l).length = l.length := st2_len _ _ _ _ _
/-- so many hours -/
def spN (c : Nat) (dams : Int32) : Nat → List Int32 → List Int32
  | 0, l => l
  | k + 1, l => spN c dams k (sp1 c dams l)
theorem bit_and (x k : Int32) : (((x >>> (k &&& 31)) &&& 1) = 0) = ¬ C_bit x k := by
  rcases and1 (x >>> (k &&& 31)) with q | q
  · have : ¬ C_bit x k := fun e => by rw [C_bit, q] at e; exact absurd e (by decide)
    rw [q]
    exact (eq_true rfl).trans (eq_true this).symm
  · have : C_bit x k := q
    rw [q]
    exact (eq_false (by decide)).trans (eq_false (fun e => e this)).symm
/-- the class's world with another spread -/
def mkS (w : WX) (a g : List Int32) : WX := (w.1, w.2.1, w.2.2.1, w.2.2.2.1, w.2.2.2.2.1, w.2.2.2.2.2.1, w.2.2.2.2.2.2.1, w.2.2.2.2.2.2.2.1, w.2.2.2.2.2.2.2.2.1, w.2.2.2.2.2.2.2.2.2.1, w.2.2.2.2.2.2.2.2.2.2.1, w.2.2.2.2.2.2.2.2.2.2.2.1, w.2.2.2.2.2.2.2.2.2.2.2.2.1, w.2.2.2.2.2.2.2.2.2.2.2.2.2.1, w.2.2.2.2.2.2.2.2.2.2.2.2.2.2.1, (a, g), w.2.2.2.2.2.2.2.2.2.2.2.2.2.2.2.2)
def mkY (m : WM) (a g : List Int32) : WM := (m.1, m.2.1, m.2.2.1, m.2.2.2.1, m.2.2.2.2.1, m.2.2.2.2.2.1, m.2.2.2.2.2.2.1, m.2.2.2.2.2.2.2.1, m.2.2.2.2.2.2.2.2.1, m.2.2.2.2.2.2.2.2.2.1, m.2.2.2.2.2.2.2.2.2.2.1, m.2.2.2.2.2.2.2.2.2.2.2.1, m.2.2.2.2.2.2.2.2.2.2.2.2.1, m.2.2.2.2.2.2.2.2.2.2.2.2.2.1, m.2.2.2.2.2.2.2.2.2.2.2.2.2.2.1, m.2.2.2.2.2.2.2.2.2.2.2.2.2.2.2.1, m.2.2.2.2.2.2.2.2.2.2.2.2.2.2.2.2.1, m.2.2.2.2.2.2.2.2.2.2.2.2.2.2.2.2.2.1, m.2.2.2.2.2.2.2.2.2.2.2.2.2.2.2.2.2.2.1, m.2.2.2.2.2.2.2.2.2.2.2.2.2.2.2.2.2.2.2.1, m.2.2.2.2.2.2.2.2.2.2.2.2.2.2.2.2.2.2.2.2.1, m.2.2.2.2.2.2.2.2.2.2.2.2.2.2.2.2.2.2.2.2.2.1, m.2.2.2.2.2.2.2.2.2.2.2.2.2.2.2.2.2.2.2.2.2.2.1, m.2.2.2.2.2.2.2.2.2.2.2.2.2.2.2.2.2.2.2.2.2.2.2.1, m.2.2.2.2.2.2.2.2.2.2.2.2.2.2.2.2.2.2.2.2.2.2.2.2.1, a, g, m.2.2.2.2.2.2.2.2.2.2.2.2.2.2.2.2.2.2.2.2.2.2.2.2.2.2.2)
section MKS
variable (w : WX) (m : WM) (a g x : List Int32)
theorem mS_in : mkS w (a_spread_amounts w) (a_spread_gifts w) = w := rfl
theorem mS_a : a_spread_amounts (mkS w a g) = a := rfl
theorem mS_g : a_spread_gifts (mkS w a g) = g := rfl
theorem mSu_a : u_spread_amounts (mkS w a g) x = mkS w x g := rfl
theorem mSu_g : u_spread_gifts (mkS w a g) x = mkS w a x := rfl
theorem mS_cells : a_s1_cells (mkS w a g) = a_s1_cells w := rfl
theorem mS_dams : a_s1_dams (mkS w a g) = a_s1_dams w := rfl
theorem mY_in : mkY m (a_m_there m) (a_m_gives m) = m := rfl
theorem mY_a : a_m_there (mkY m a g) = a := rfl
theorem mY_g : a_m_gives (mkY m a g) = g := rfl
theorem mYu_a : u_m_there (mkY m a g) x = mkY m x g := rfl
theorem mYu_g : u_m_gives (mkY m a g) x = mkY m a x := rfl
theorem mY_w : a_m_w (mkY m a g) = a_m_w m := rfl
theorem mSu_aa (y : List Int32) : u_spread_amounts (u_spread_amounts (mkS w a g) x) y = mkS w y g := by dsimp only [u_spread_amounts, mkS]
theorem mYu_aa (y : List Int32) : u_m_there (u_m_there (mkY m a g) x) y = mkY m y g := by dsimp only [u_m_there, mkY]
end MKS
theorem R_spill {w : WX} {m : WM} (h : R w m) {a g a2 g2 : List Int32} (h1 : a.length = 6) (h2 : g.length = 6) (h3 : a2.length = 6) (h4 : g2.length = 6) : R (mkS w a g) (mkY m a2 g2) := by
  obtain ⟨k1, k2, k3, k4, k5, k6, k7, ⟨c1, c2, c3, c4, c5, c6⟩, ⟨d1, d2, d3, d4⟩⟩ := h
  exact ⟨k1, k2, k3, k4, k5, k6, k7, ⟨c1, c2, c3, h1, h2, c6⟩, ⟨d1, d2, h3, h4⟩⟩
theorem X_go1 {w : WX} {c : Nat} (hc : c ≤ 6) (hc1 : 1 ≤ c) (dams : Int32) : ∀ (d k n : Nat) (a g : List Int32) (G : Nat → Int32), k + d = c - 1 → d < n → a.length = 6 → g.length = 6 → (∀ j, j < c → lg g j = G j) → Gspr_goOn_83 n 1 (nI c) dams (nI k) (mkS w a g) = some (mkS w (st2 dams G d k a) g) := by
  intro d
  induction d with
  | zero =>
    intro k n a g G hk hn ha hg hG
    obtain ⟨n, rfl⟩ : ∃ k, n = k + 1 := ⟨n - 1, by omega⟩
    rw [Gspr_goOn_83, if_pos (show nI c - 1 ≤ nI k by rw [show (1 : Int32) = nI 1 from rfl, pk_sub hc1]; exact nI_le (by omega) (by omega))]
    rfl
  | succ d ih =>
    intro k n a g G hk hn ha hg hG
    obtain ⟨n, rfl⟩ : ∃ k, n = k + 1 := ⟨n - 1, by omega⟩
    rw [Gspr_goOn_83, if_neg (show ¬ nI c - 1 ≤ nI k by rw [show (1 : Int32) = nI 1 from rfl, pk_sub hc1]; exact nI_ge (by omega) (by omega)), mS_a, mS_g, st2]
    simp only [bit_and]
    by_cases cb : C_bit dams (nI k)
    · rw [if_neg (fun q => q cb), if_pos cb, nI_1]
      exact ih (k + 1) n a g G (by omega) (by omega) ha hg hG
    · rw [if_pos cb, if_neg cb, nI_1, ix_e (l := a) k rfl (by omega) (by omega), bd_some, ix_e (l := g) (k + 1) rfl (by omega) (by omega), bd_some, ix_e (l := g) k rfl (by omega) (by omega), bd_some]
      have g0 : g.getD k 0 = G k := hG k (by omega)
      have g1 : g.getD (k + 1) 0 = G (k + 1) := hG (k + 1) (by omega)
      rw [g0, g1, up_e (l := a) _ k rfl (by omega) (by omega), bd_some, ix_e (l := a.set k (a.getD k 0 + (G (k + 1) - G k))) (k + 1) rfl (by rw [List.length_set]; omega) (by omega), bd_some]
      simp only [bd_some]
      rw [up_e (l := a.set k (a.getD k 0 + (G (k + 1) - G k))) _ (k + 1) rfl (by rw [List.length_set]; omega) (by omega), bd_some, mSu_aa]
      exact ih (k + 1) n _ g G (by omega) (by omega) (by rw [List.length_set, List.length_set]; exact ha) hg hG
theorem X_go0 {w : WX} {c : Nat} (hc : c ≤ 6) (hc1 : 1 ≤ c) (dams : Int32) : ∀ (d k n : Nat) (a g : List Int32), k + d = c → d + 8 < n → a.length = 6 → g.length = 6 → (∀ j, j < k → lg g j = lg a j / 4) → ∃ g', g'.length = 6 ∧ Gspr_goOn_83 n 0 (nI c) dams (nI k) (mkS w a g) = some (mkS w (sp1 c dams a) g') := by
  intro d
  induction d with
  | zero =>
    intro k n a g hk hn ha hg hG
    obtain ⟨n, rfl⟩ : ∃ k, n = k + 1 := ⟨n - 1, by omega⟩
    have : k = c := by omega
    subst this
    rw [Gspr_goOn_83, if_pos (Int32.le_refl _)]
    exact ⟨g, hg, X_go1 hc hc1 dams (k - 1) 0 n a g (fun j => lg a j / 4) (by omega) (by omega) ha hg hG⟩
  | succ d ih =>
    intro k n a g hk hn ha hg hG
    obtain ⟨n, rfl⟩ : ∃ k, n = k + 1 := ⟨n - 1, by omega⟩
    rw [Gspr_goOn_83, if_neg (nI_ge (by omega) (by omega)), mS_a, mS_g, ix_e (l := a) k rfl (by omega) (by omega), bd_some, up_e (l := g) _ k rfl (by omega) (by omega), bd_some, nI_1, mSu_g]
    exact ih (k + 1) n a _ (by omega) (by omega) ha (by rw [List.length_set]; exact hg) (fun j hj => by
      show (g.set k (a.getD k 0 / 4)).getD j 0 = _
      rw [gD_set _ _ _ _ (by omega)]
      by_cases e : j = k
      · rw [if_pos e, e]
      · rw [if_neg e]; exact hG j (by omega))
theorem X_goOn1 {w : WX} {c n : Nat} (hn : 20 ≤ n) (hc : c ≤ 6) (hc1 : 1 ≤ c) (dams : Int32) {a g : List Int32} (ha : a.length = 6) (hg : g.length = 6) : ∃ g', g'.length = 6 ∧ Fspr_goOn_83 n (nI c) dams (mkS w a g) = some (mkS w (sp1 c dams a) g') := X_go0 hc hc1 dams c 0 n a g (by omega) (by omega) ha hg (fun j hj => absurd hj (by omega))
theorem M_go1 {m : WM} (hw : (a_m_w m).length = 596) {c : Nat} (hc : c ≤ 6) (hc1 : 1 ≤ c) (e0 : sl (a_m_w m) 0 0 = nI c) (dams : Int32) : ∀ (d k n : Nat) (a g : List Int32) (G : Nat → Int32), k + d = c - 1 → d < n → a.length = 6 → g.length = 6 → (∀ j, j < c → lg g j = G j) → Gm_spills_89 n 1 dams (nI k) (mkY m a g) = some (mkY m (st2 dams G d k a) g) := by
  intro d
  induction d with
  | zero =>
    intro k n a g G hk hn ha hg hG
    obtain ⟨n, rfl⟩ : ∃ k, n = k + 1 := ⟨n - 1, by omega⟩
    rw [Gm_spills_89, mY_w, m_ix0 hw (x := 0) 0 rfl (by omega), bd_some, e0, nI_1, if_pos (nI_le (by omega) (by omega))]
    rfl
  | succ d ih =>
    intro k n a g G hk hn ha hg hG
    obtain ⟨n, rfl⟩ : ∃ k, n = k + 1 := ⟨n - 1, by omega⟩
    rw [Gm_spills_89, mY_w, m_ix0 hw (x := 0) 0 rfl (by omega), bd_some, e0, nI_1, if_neg (nI_ge (by omega) (by omega)), mY_a, mY_g, st2, Fm_has_eq, bd_some, ifz]
    by_cases cb : C_bit dams (nI k)
    · rw [if_pos cb, if_pos cb]
      exact ih (k + 1) n a g G (by omega) (by omega) ha hg hG
    · rw [if_neg cb, if_neg cb, ix_e (l := a) k rfl (by omega) (by omega), bd_some, ix_e (l := g) (k + 1) rfl (by omega) (by omega), bd_some, ix_e (l := g) k rfl (by omega) (by omega), bd_some]
      have g0 : g.getD k 0 = G k := hG k (by omega)
      have g1 : g.getD (k + 1) 0 = G (k + 1) := hG (k + 1) (by omega)
      rw [g0, g1, up_e (l := a) _ k rfl (by omega) (by omega), bd_some, ix_e (l := a.set k (a.getD k 0 + (G (k + 1) - G k))) (k + 1) rfl (by rw [List.length_set]; omega) (by omega), bd_some]
      simp only [bd_some]
      rw [up_e (l := a.set k (a.getD k 0 + (G (k + 1) - G k))) _ (k + 1) rfl (by rw [List.length_set]; omega) (by omega), bd_some, mYu_aa]
      exact ih (k + 1) n _ g G (by omega) (by omega) (by rw [List.length_set, List.length_set]; exact ha) hg hG
theorem M_go0 {m : WM} (hw : (a_m_w m).length = 596) {c : Nat} (hc : c ≤ 6) (hc1 : 1 ≤ c) (e0 : sl (a_m_w m) 0 0 = nI c) (dams : Int32) : ∀ (d k n : Nat) (a g : List Int32), k + d = c → d + 8 < n → a.length = 6 → g.length = 6 → (∀ j, j < k → lg g j = lg a j / 4) → ∃ g', g'.length = 6 ∧ Gm_spills_89 n 0 dams (nI k) (mkY m a g) = some (mkY m (sp1 c dams a) g') := by
  intro d
  induction d with
  | zero =>
    intro k n a g hk hn ha hg hG
    obtain ⟨n, rfl⟩ : ∃ k, n = k + 1 := ⟨n - 1, by omega⟩
    have : k = c := by omega
    subst this
    rw [Gm_spills_89, mY_w, m_ix0 hw (x := 0) 0 rfl (by omega), bd_some, e0, if_pos (Int32.le_refl _)]
    exact ⟨g, hg, M_go1 hw hc hc1 e0 dams (k - 1) 0 n a g (fun j => lg a j / 4) (by omega) (by omega) ha hg hG⟩
  | succ d ih =>
    intro k n a g hk hn ha hg hG
    obtain ⟨n, rfl⟩ : ∃ k, n = k + 1 := ⟨n - 1, by omega⟩
    rw [Gm_spills_89, mY_w, m_ix0 hw (x := 0) 0 rfl (by omega), bd_some, e0, if_neg (nI_ge (by omega) (by omega)), mY_a, mY_g, ix_e (l := a) k rfl (by omega) (by omega), bd_some, up_e (l := g) _ k rfl (by omega) (by omega), bd_some, nI_1, mYu_g]
    exact ih (k + 1) n a _ (by omega) (by omega) ha (by rw [List.length_set]; exact hg) (fun j hj => by
      show (g.set k (a.getD k 0 / 4)).getD j 0 = _
      rw [gD_set _ _ _ _ (by omega)]
      by_cases e : j = k
      · rw [if_pos e, e]
      · rw [if_neg e]; exact hG j (by omega))
theorem M_spills {m : WM} (hw : (a_m_w m).length = 596) {c n : Nat} (hn : 20 ≤ n) (hc : c ≤ 6) (hc1 : 1 ≤ c) (e0 : sl (a_m_w m) 0 0 = nI c) (dams : Int32) {a g : List Int32} (ha : a.length = 6) (hg : g.length = 6) : ∃ g', g'.length = 6 ∧ Fm_spills_89 n dams (mkY m a g) = some (mkY m (sp1 c dams a) g') := M_go0 hw hc hc1 e0 dams c 0 n a g (by omega) (by omega) ha hg (fun j hj => absurd hj (by omega))
/-- where a spill begins -/
def sp0 (k : Nat) (x : Int32) : List Int32 := (List.replicate 6 0).set k x
theorem sp0_len (k : Nat) (x : Int32) : (sp0 k x).length = 6 := by unfold sp0; rw [List.length_set]; rfl
theorem X_start {w : WX} {k n : Nat} (hn : 10 ≤ n) (hk : k < 6) (x : Int32) {a g : List Int32} (ha : a.length = 6) : Fspr_start_83 n (nI k) x (mkS w a g) = some (mkS w (sp0 k x) g) := by
  unfold Fspr_start_83
  rw [fill_84 0 (N := 6) (n := n) (by decide) (by omega) (w := mkS w a g) ha, bd_some, mSu_a, mS_a, up_e (l := List.replicate 6 0) x k rfl (by show k < (List.replicate 6 0).length; rw [List.length_replicate]; exact hk) (by omega), bd_some, mSu_a]
  rfl
theorem lsG {m : WM} {k : Nat} (hk : k < 6) (x : Int32) : ∀ (d i n : Nat) (a g : List Int32), i + d = 6 → d < n → a.length = 6 → ∃ a', a'.length = 6 ∧ (∀ j, j < 6 → lg a' j = if i ≤ j then (if j = k then x else 0) else lg a j) ∧ Gm_laySpill_89 n 0 (nI k) x (nI i) (mkY m a g) = some (mkY m a' g) := by
  intro d
  induction d with
  | zero =>
    intro i n a g hi hn ha
    obtain ⟨n, rfl⟩ : ∃ k, n = k + 1 := ⟨n - 1, by omega⟩
    rw [show i = 6 by omega, Gm_laySpill_89, if_pos (show (6 : Int32) ≤ nI 6 from Int32.le_refl _)]
    exact ⟨a, ha, fun j hj => by rw [if_neg (by omega)], rfl⟩
  | succ d ih =>
    intro i n a g hi hn ha
    obtain ⟨n, rfl⟩ : ∃ k, n = k + 1 := ⟨n - 1, by omega⟩
    have key : ∀ y : Int32, (y = if i = k then x else 0) → ∃ a', a'.length = 6 ∧ (∀ j, j < 6 → lg a' j = if i ≤ j then (if j = k then x else 0) else lg a j) ∧ Gm_laySpill_89 n 0 (nI k) x (nI (i + 1)) (mkY m (a.set i y) g) = some (mkY m a' g) := by
      intro y hy
      obtain ⟨a', h1, h2, h3⟩ := ih (i + 1) n (a.set i y) g (by omega) (by omega) (by rw [List.length_set]; exact ha)
      refine ⟨a', h1, fun j hj => ?_, h3⟩
      rw [h2 j hj]
      by_cases c : i + 1 ≤ j
      · rw [if_pos c, if_pos (show i ≤ j by omega)]
      · rw [if_neg c]
        show (a.set i y).getD j 0 = _
        rw [gD_set _ _ _ _ (by omega)]
        by_cases e : j = i
        · rw [if_pos e, if_pos (show i ≤ j by omega), hy, e]
        · rw [if_neg e, if_neg (show ¬ i ≤ j by omega)]
    rw [Gm_laySpill_89, if_neg (show ¬ (6 : Int32) ≤ nI i from nI_ge (b := 6) (by omega) (by decide)), mY_a, nI_1]
    by_cases e : i = k
    · rw [if_pos (by rw [e]), up_e (l := a) x i rfl (by omega) (by omega), bd_some, mYu_a]
      exact key x (by rw [if_pos e])
    · rw [if_neg (fun q => e ((nI_eq (by omega) (by omega)).mp q)), up_e (l := a) 0 i rfl (by omega) (by omega), bd_some, mYu_a]
      exact key 0 (by rw [if_neg e])
theorem l6_ext {a b : List Int32} (ha : a.length = 6) (hb : b.length = 6) (h : ∀ j, j < 6 → lg a j = lg b j) : a = b := by
  refine List.ext_getElem (by omega) (fun i h1 h2 => ?_)
  have := h i (by omega)
  rw [lg, lg, List.getD_eq_getElem?_getD, List.getD_eq_getElem?_getD, List.getElem?_eq_getElem h1, List.getElem?_eq_getElem h2] at this
  exact this
theorem M_laySpill {m : WM} {k n : Nat} (hn : 10 ≤ n) (hk : k < 6) (x : Int32) {a g : List Int32} (ha : a.length = 6) : Fm_laySpill_89 n (nI k) x (mkY m a g) = some (mkY m (sp0 k x) g) := by
  obtain ⟨a', h1, h2, h3⟩ := lsG (m := m) hk x 6 0 n a g (by omega) (by omega) ha
  have e : a' = sp0 k x := l6_ext h1 (sp0_len k x) (fun j hj => by
    rw [h2 j hj, if_pos (Nat.zero_le _)]
    unfold sp0 lg
    rw [gD_set _ _ _ _ (by rw [List.length_replicate]; exact hk)]
    by_cases q : j = k
    · rw [if_pos q, if_pos q]
    · rw [if_neg q, if_neg q, List.getD_eq_getElem?_getD, List.getElem?_replicate]
      split <;> rfl)
  rw [← e]
  exact h3
section C43
variable {w : WX} {m : WM}
theorem spill_step (h : R w m) {c ce : Nat} (hc : c ≤ 6) (hc1 : 1 ≤ c) (e0 : sl (a_m_w m) 0 0 = nI c) (hce : ce < 6) (x y : Int32) {hh : Nat} (hhh : hh ≤ 40) : ∀ (d k n : Nat) (a g g2 : List Int32), k + d = hh → d + 30 < n → a.length = 6 → g.length = 6 → g2.length = 6 → ∃ r w' m', Gf_spill_0 n 0 x y (nI hh) (nI ce) (nI k) (mkS w a g) = some (r, w') ∧ Gm_spill_89 n 0 x y (nI hh) (nI ce) (nI k) (mkY m a g2) = some (r, m') ∧ R w' m' := by
  have f0 : ∀ a g, a_s1_cells (mkS w a g) = nI c := fun a g => (h.s.k (k := 0) (by omega)).trans e0
  have f5 : ∀ a g, a_s1_dams (mkS w a g) = sl (a_m_w m) 0 5 := fun a g => h.s.k (k := 5) (by omega)
  intro d
  induction d with
  | zero =>
    intro k n a g g2 hk hn ha hg hg2
    obtain ⟨n, rfl⟩ : ∃ k, n = k + 1 := ⟨n - 1, by omega⟩
    have : k = hh := by omega
    subst this
    rw [Gf_spill_0, Gm_spill_89, if_pos (Int32.le_refl _), if_pos (Int32.le_refl _), mS_a, mY_a, ix_e (l := a) ce rfl (by omega) (by omega)]
    exact ⟨_, _, _, rfl, rfl, R_spill h ha hg ha hg2⟩
  | succ d ih =>
    intro k n a g g2 hk hn ha hg hg2
    obtain ⟨n, rfl⟩ : ∃ k, n = k + 1 := ⟨n - 1, by omega⟩
    obtain ⟨g', q1, q2⟩ := X_goOn1 (w := w) (n := n) (by omega) hc hc1 (sl (a_m_w m) 0 5) ha hg
    obtain ⟨g3, p1, p2⟩ := M_spills h.w (n := n) (by omega) hc hc1 e0 (sl (a_m_w m) 0 5) ha hg2
    have hw5 : ai_ix (a_m_w m) 5 = some (sl (a_m_w m) 0 5) := m_ix0 h.w (x := 5) 5 rfl (by omega)
    rw [Gf_spill_0, Gm_spill_89, if_neg (nI_ge (by omega) (by omega)), if_neg (nI_ge (by omega) (by omega)), f0, f5, q2, bd_some, mY_w, hw5, bd_some, p2, bd_some, nI_1]
    exact ih (k + 1) n _ g' g3 (by omega) (by omega) (by rw [sp1_len]; exact ha) q1 p1
theorem C_spill (h : R w m) (a b d e : Int32) : Ok (fun n => Ff_spill_0 n a b d e w) (fun n => Fm_spill_89 n a b d e m) := Ok.of 100 fun n hn => by
  obtain ⟨w2, m2, e1, e2, hR⟩ := R_bad h
  have f0 : a_s1_cells w = sl (a_m_w m) 0 0 := h.s.k (k := 0) (by omega)
  simp only [Ff_spill_0, Ff_isSpill_0, Fm_spill_89, hasCell_1, M_isCell h.w, Ff_within_eq, Fm_in_eq b (lo := 0) (hi := 999) 0 999 rfl rfl, Fm_in_eq d (lo := 0) (hi := 40) 0 40 rfl rfl, bd_some, ifz, e2, f0]
  by_cases c1 : C_cell (sl (a_m_w m) 0 0) a
  · simp only [if_pos c1]
    by_cases c2 : 0 ≤ b ∧ b ≤ 999
    · simp only [if_pos c2]
      by_cases c3 : 0 ≤ d ∧ d ≤ 40
      · simp only [if_pos c3, bd_some]
        rw [if_neg (show ¬ (1 : Int32) = 0 by decide), f0]
        by_cases c4 : C_cell (sl (a_m_w m) 0 0) e
        · simp only [if_pos c4]
          obtain ⟨i, hi, rfl⟩ := cell_N h.s.c0 (by decide) c1
          obtain ⟨j, hj, rfl⟩ := cell_N h.s.c0 (by decide) c4
          obtain ⟨hh, hhh, rfl⟩ := in0 40 rfl c3
          have h6 := h.s.c0
          have l1 : (a_spread_amounts w).length = 6 := h.2.2.2.2.2.2.2.1.2.2.2.1
          have l2 : (a_spread_gifts w).length = 6 := h.2.2.2.2.2.2.2.1.2.2.2.2.1
          have l3 : (a_m_there m).length = 6 := h.2.2.2.2.2.2.2.2.2.2.1
          have l4 : (a_m_gives m).length = 6 := h.2.2.2.2.2.2.2.2.2.2.2
          have hx := X_start (w := w) (n := n) (k := i) (by omega) (by have := h6.2.1; omega) b (a := a_spread_amounts w) (g := a_spread_gifts w) l1
          rw [mS_in] at hx
          have hm := M_laySpill (m := m) (n := n) (k := i) (by omega) (by have := h6.2.1; omega) b (a := a_m_there m) (g := a_m_gives m) l3
          rw [mY_in] at hm
          rw [hx, hm, bd_some, bd_some]
          exact spill_step h h6.2.1 h6.1 h6.2.2 (by have := h6.2.1; omega) (nI i) b hhh hh 0 n (sp0 i b) _ _ (by omega) (by omega) (sp0_len i b) l2 l4
        · simp only [if_neg c4]; rw [e1]; exact ⟨_, _, _, rfl, rfl, hR⟩
      · simp only [if_neg c3, bd_some]; rw [if_pos trivial, e1]; exact ⟨_, _, _, rfl, rfl, hR⟩
    · simp only [if_neg c2, bd_some]; rw [if_pos trivial, e1]; exact ⟨_, _, _, rfl, rfl, hR⟩
  · simp only [if_neg c1, bd_some]; rw [if_pos trivial, e1]; exact ⟨_, _, _, rfl, rfl, hR⟩
end C43
/-! keeping a spill out -/
def inB (mk : Int32) (a : List Int32) : Nat → Nat → Bool
  | 0, _ => false
  | d + 1, i => if C_bit mk (nI i) then (if lg a i ≤ 0 then inB mk a d (i + 1) else true) else inB mk a d (i + 1)
theorem inB_none {mk : Int32} (a : List Int32) : ∀ (d i : Nat), (∀ k, i ≤ k → k < i + d → ¬ C_bit mk (nI k)) → inB mk a d i = false
  | 0, _, _ => rfl
  | d + 1, i, h => by
    rw [inB, if_neg (h i (by omega) (by omega))]
    exact inB_none a d (i + 1) (fun k h1 h2 => h k (by omega) (by omega))
theorem inB_cut {mk : Int32} (a : List Int32) (e : Nat) : ∀ (d i : Nat), (∀ k, i + d ≤ k → k < i + d + e → ¬ C_bit mk (nI k)) → inB mk a (d + e) i = inB mk a d i
  | 0, i, h => by
    rw [Nat.zero_add]
    exact inB_none a e i (fun k h1 h2 => h k (by omega) (by omega))
  | d + 1, i, h => by
    rw [show d + 1 + e = (d + e) + 1 by omega, inB, inB, inB_cut a e d (i + 1) (fun k h1 h2 => h k (by omega) (by omega))]
theorem X_isIn {w : WX} (mk : Int32) : ∀ (d i n : Nat) (a g : List Int32), i + d = 6 → d < n → a.length = 6 → Gspr_isIn_83 n 0 mk (nI i) (mkS w a g) = some (if inB mk a d i = true then 1 else 0, mkS w a g) := by
  intro d
  induction d with
  | zero =>
    intro i n a g hi hn ha
    obtain ⟨n, rfl⟩ : ∃ k, n = k + 1 := ⟨n - 1, by omega⟩
    rw [show i = 6 by omega, Gspr_isIn_83, if_pos (show (6 : Int32) ≤ nI 6 from Int32.le_refl _)]
    rfl
  | succ d ih =>
    intro i n a g hi hn ha
    obtain ⟨n, rfl⟩ : ∃ k, n = k + 1 := ⟨n - 1, by omega⟩
    rw [Gspr_isIn_83, if_neg (show ¬ (6 : Int32) ≤ nI i from nI_ge (b := 6) (by omega) (by decide)), mS_a, ix_e (l := a) (i := nI i) i rfl (by omega) (by omega), nI_1, inB]
    simp only [bd_some]
    by_cases cb : C_bit mk (nI i)
    · rw [if_pos cb, if_pos cb]
      by_cases z : a.getD i 0 ≤ 0
      · rw [if_pos z, if_pos z]
        exact ih (i + 1) n a g (by omega) (by omega) ha
      · rw [if_neg z, if_neg z]
        rfl
    · rw [if_neg cb, if_neg cb]
      exact ih (i + 1) n a g (by omega) (by omega) ha
theorem M_in {m : WM} (hw : (a_m_w m).length = 596) {c : Nat} (hc : c ≤ 6) (e0 : sl (a_m_w m) 0 0 = nI c) (x y hh mk ds t : Int32) : ∀ (d i n : Nat) (a g : List Int32), i + d = c → d < n → a.length = 6 → Gm_keepsOut_89 n 1 x y hh mk ds t (nI i) (mkY m a g) = if inB mk a d i = true then some (0, mkY m a g) else ai_bd (Fm_spills_89 (n - d - 1) ds (mkY m a g)) fun c658 => Gm_keepsOut_89 (n - d - 1) 0 x y hh mk ds (t + 1) 0 c658 := by
  intro d
  induction d with
  | zero =>
    intro i n a g hi hn ha
    obtain ⟨n, rfl⟩ : ∃ k, n = k + 1 := ⟨n - 1, by omega⟩
    have : i = c := by omega
    subst this
    rw [Gm_keepsOut_89, mY_w, m_ix0 hw (x := 0) 0 rfl (by omega), bd_some, e0, if_pos (Int32.le_refl _), if_neg (show ¬ inB mk a 0 i = true from Bool.false_ne_true)]
    rfl
  | succ d ih =>
    intro i n a g hi hn ha
    obtain ⟨n, rfl⟩ : ∃ k, n = k + 1 := ⟨n - 1, by omega⟩
    rw [Gm_keepsOut_89, mY_w, m_ix0 hw (x := 0) 0 rfl (by omega), bd_some, e0, if_neg (nI_ge (by omega) (by omega)), Fm_has_eq, mY_a, ix_e (l := a) (i := nI i) i rfl (by omega) (by omega), nI_1, inB, show n + 1 - (d + 1) - 1 = n - d - 1 by omega]
    simp only [bd_some, ifz]
    by_cases cb : C_bit mk (nI i)
    · rw [if_pos cb, if_pos cb]
      by_cases z : a.getD i 0 ≤ 0
      · rw [if_pos z, if_pos z]
        exact ih (i + 1) n a g (by omega) (by omega) ha
      · rw [if_neg z, if_neg z, if_pos rfl]
    · rw [if_neg cb, if_neg cb]
      exact ih (i + 1) n a g (by omega) (by omega) ha
/-- is it kept out, so many hours being left -/
def kO (c : Nat) (ds mk : Int32) : Nat → List Int32 → Bool
  | 0, a => if inB mk a c 0 = true then false else true
  | d + 1, a => if inB mk a c 0 = true then false else kO c ds mk d (sp1 c ds a)
theorem M_keepG {m : WM} (hw : (a_m_w m).length = 596) {c : Nat} (hc : c ≤ 6) (hc1 : 1 ≤ c) (e0 : sl (a_m_w m) 0 0 = nI c) (x y mk ds : Int32) {hh : Nat} (hhh : hh ≤ 40) : ∀ (d k n : Nat) (z : Int32) (a g : List Int32), k + d = hh → d * 8 + 40 < n → a.length = 6 → g.length = 6 → ∃ a' g', a'.length = 6 ∧ g'.length = 6 ∧ Gm_keepsOut_89 n 0 x y (nI hh) mk ds (nI k) z (mkY m a g) = some (if kO c ds mk d a = true then 1 else 0, mkY m a' g') := by
  intro d
  induction d with
  | zero =>
    intro k n z a g hk hn ha hg
    obtain ⟨n, rfl⟩ : ∃ k, n = k + 1 := ⟨n - 1, by omega⟩
    have hM := M_in hw hc e0 x y (nI hh) mk ds (nI k) c 0 n a g (by omega) (by omega) ha
    rw [nI_0] at hM
    rw [Gm_keepsOut_89, if_neg (nI_nlt (by omega) (by omega)), hM]
    by_cases b : inB mk a c 0 = true
    · rw [if_pos b]
      exact ⟨a, g, ha, hg, by rw [kO, if_pos b]; rfl⟩
    · rw [if_neg b]
      obtain ⟨g', q1, q2⟩ := M_spills hw (n := n - c - 1) (by omega) hc hc1 e0 ds ha hg
      obtain ⟨n', e⟩ : ∃ n', n - c - 1 = n' + 1 := ⟨n - c - 1 - 1, by omega⟩
      rw [q2, bd_some, e, Gm_keepsOut_89, nI_1, if_pos (nI_lt (by omega) (by omega))]
      exact ⟨sp1 c ds a, g', by rw [sp1_len]; exact ha, q1, by rw [kO, if_neg b]; rfl⟩
  | succ d ih =>
    intro k n z a g hk hn ha hg
    obtain ⟨n, rfl⟩ : ∃ k, n = k + 1 := ⟨n - 1, by omega⟩
    have hM := M_in hw hc e0 x y (nI hh) mk ds (nI k) c 0 n a g (by omega) (by omega) ha
    rw [nI_0] at hM
    rw [Gm_keepsOut_89, if_neg (nI_nlt (by omega) (by omega)), hM, kO]
    by_cases b : inB mk a c 0 = true
    · rw [if_pos b, if_pos b]
      exact ⟨a, g, ha, hg, rfl⟩
    · rw [if_neg b, if_neg b]
      obtain ⟨g', q1, q2⟩ := M_spills hw (n := n - c - 1) (by omega) hc hc1 e0 ds ha hg
      rw [q2, bd_some, nI_1]
      exact ih (k + 1) (n - c - 1) 0 _ g' (by omega) (by omega) (by rw [sp1_len]; exact ha) q1
theorem X_keepG {w : WX} {c : Nat} (hc : c ≤ 6) (hc1 : 1 ≤ c) (e0 : a_s1_cells w = nI c) (x y mk ds : Int32) (hb : ∀ k, c ≤ k → k < 6 → ¬ C_bit mk (nI k)) {hh : Nat} (hhh : hh ≤ 40) : ∀ (d k n : Nat) (a g : List Int32), k + d = hh → d + 40 < n → a.length = 6 → g.length = 6 → ∃ a' g', a'.length = 6 ∧ g'.length = 6 ∧ Gf_keepsOut_0 n 0 x y (nI hh) mk ds (nI k) (mkS w a g) = some (if kO c ds mk d a = true then 1 else 0, mkS w a' g') := by
  have hI : ∀ (n : Nat) (a g : List Int32), 7 ≤ n → a.length = 6 → Fspr_isIn_83 n mk (mkS w a g) = some (if inB mk a c 0 = true then 1 else 0, mkS w a g) := by
    intro n a g hn ha
    have cut := inB_cut (mk := mk) a (6 - c) c 0 (fun k h1 h2 => hb k (by omega) (by omega))
    rw [show c + (6 - c) = 6 by omega] at cut
    have := X_isIn (w := w) mk 6 0 n a g (by omega) (by omega) ha
    rw [cut, nI_0] at this
    exact this
  intro d
  induction d with
  | zero =>
    intro k n a g hk hn ha hg
    obtain ⟨n, rfl⟩ : ∃ k, n = k + 1 := ⟨n - 1, by omega⟩
    rw [Gf_keepsOut_0, if_pos (nI_le (by omega) (by omega)), hI n a g (by omega) ha, kO]
    simp only [bd_some, ifz]
    by_cases b : inB mk a c 0 = true
    · rw [if_pos b, if_pos b]
      exact ⟨a, g, ha, hg, rfl⟩
    · rw [if_neg b, if_neg b]
      exact ⟨a, g, ha, hg, rfl⟩
  | succ d ih =>
    intro k n a g hk hn ha hg
    obtain ⟨n, rfl⟩ : ∃ k, n = k + 1 := ⟨n - 1, by omega⟩
    rw [Gf_keepsOut_0, if_neg (nI_ge (by omega) (by omega)), hI n a g (by omega) ha, kO]
    simp only [bd_some, ifz]
    by_cases b : inB mk a c 0 = true
    · rw [if_pos b, if_pos b]
      exact ⟨a, g, ha, hg, rfl⟩
    · rw [if_neg b, if_neg b]
      obtain ⟨g', q1, q2⟩ := X_goOn1 (w := w) (n := n) (by omega) hc hc1 ds ha hg
      rw [mS_cells, e0, q2, bd_some, nI_1]
      exact ih (k + 1) n _ g' (by omega) (by omega) (by rw [sp1_len]; exact ha) q1
/-- the two ways of counting ones -/
theorem bc_dec : ∀ q : Fin 64, Fint_bitCount (nI q.val) = some ((((((0 + ((nI q.val >>> ((0 : Int32) &&& 31)) &&& 1)) + ((nI q.val >>> (((0 : Int32) + 1) &&& 31)) &&& 1)) + ((nI q.val >>> (((0 : Int32) + 1 + 1) &&& 31)) &&& 1)) + ((nI q.val >>> (((0 : Int32) + 1 + 1 + 1) &&& 31)) &&& 1)) + ((nI q.val >>> (((0 : Int32) + 1 + 1 + 1 + 1) &&& 31)) &&& 1)) + ((nI q.val >>> (((0 : Int32) + 1 + 1 + 1 + 1 + 1) &&& 31)) &&& 1)) := by decide +kernel
theorem ones_bc {q n : Nat} (hq : q < 64) (hn : 7 ≤ n) : Fm_ones n (nI q) = Fint_bitCount (nI q) := by
  obtain ⟨n, rfl⟩ : ∃ k, n = k + 1 + 1 + 1 + 1 + 1 + 1 + 1 := ⟨n - 7, by omega⟩
  have h := bc_dec ⟨q, hq⟩
  have h : Fint_bitCount (nI q) = _ := h
  rw [h]
  unfold Fm_ones
  rw [Gm_ones, if_neg (show ¬ (6 : Int32) ≤ 0 by decide), Gm_ones, if_neg (show ¬ (6 : Int32) ≤ 0 + 1 by decide), Gm_ones, if_neg (show ¬ (6 : Int32) ≤ 0 + 1 + 1 by decide), Gm_ones, if_neg (show ¬ (6 : Int32) ≤ 0 + 1 + 1 + 1 by decide), Gm_ones, if_neg (show ¬ (6 : Int32) ≤ 0 + 1 + 1 + 1 + 1 by decide), Gm_ones, if_neg (show ¬ (6 : Int32) ≤ 0 + 1 + 1 + 1 + 1 + 1 by decide), Gm_ones, if_pos (show (6 : Int32) ≤ 0 + 1 + 1 + 1 + 1 + 1 + 1 by decide)]
theorem bits_dec : ∀ (q : Fin 64) (k : Fin 6), q.val < 2 ^ k.val → ¬ C_bit (nI q.val) (nI k.val) := by decide +kernel
theorem pw_dec : ∀ c : Fin 7, 1 ≤ c.val → (1 : Int32) <<< ((nI c.val - 1) &&& 31) = nI (2 ^ (c.val - 1)) ∧ (1 : Int32) <<< (nI c.val &&& 31) - 1 = nI (2 ^ c.val - 1) ∧ 2 ^ c.val ≤ 64 ∧ 2 ^ (c.val - 1) ≤ 32 ∧ 1 ≤ 2 ^ c.val := by decide +kernel
section C44
variable {w : WX} {m : WM}
theorem keepOut_step (h : R w m) {c ce q hh p : Nat} (hc : c ≤ 6) (hc1 : 1 ≤ c) (e0 : sl (a_m_w m) 0 0 = nI c) (hce : ce < 6) (x : Int32) (hq : q < 64) (hb : ∀ k, c ≤ k → k < 6 → ¬ C_bit (nI q) (nI k)) (hhh : hh ≤ 40) (hp : (1 : Int32) <<< ((nI c - 1) &&& 31) = nI p) (hp2 : p ≤ 32) : ∀ (d k n : Nat) (be : Int32) (a g a2 g2 : List Int32), k + d = p → d + 500 < n → a.length = 6 → g.length = 6 → a2.length = 6 → g2.length = 6 → (be = -1 ∨ ∃ j, j < 64 ∧ be = nI j) → ∃ r w' m', Gf_keepOut_0 n 0 (nI ce) x (nI hh) (nI q) be (nI p) (nI k) (mkS w a g) = some (r, w') ∧ Gm_keepOut_89 n 0 (nI ce) x (nI hh) (nI q) be (nI k) (mkY m a2 g2) = some (r, m') ∧ R w' m' := by
  have f0 : a_s1_cells w = nI c := (h.s.k (k := 0) (by omega)).trans e0
  have f5 : ∀ a g, a_s1_dams (mkS w a g) = sl (a_m_w m) 0 5 := fun a g => h.s.k (k := 5) (by omega)
  have hw0 : ai_ix (a_m_w m) 0 = some (nI c) := by rw [m_ix0 h.w (x := 0) 0 rfl (by omega), e0]
  have hw5 : ai_ix (a_m_w m) 5 = some (sl (a_m_w m) 0 5) := m_ix0 h.w (x := 5) 5 rfl (by omega)
  have kx : ∀ (n : Nat) (ds : Int32) (a g : List Int32), 400 < n → a.length = 6 → g.length = 6 → ∃ a' g', a'.length = 6 ∧ g'.length = 6 ∧ Ff_keepsOut_0 n (nI ce) x (nI hh) (nI q) ds (mkS w a g) = some (if kO c ds (nI q) hh (sp0 ce x) = true then 1 else 0, mkS w a' g') := by
    intro n ds a g hn ha hg
    unfold Ff_keepsOut_0
    rw [X_start (by omega) hce x ha, bd_some]
    have := X_keepG (w := w) hc hc1 f0 (nI ce) x (nI q) ds hb hhh hh 0 n (sp0 ce x) g (by omega) (by omega) (sp0_len ce x) hg
    rw [nI_0] at this
    exact this
  have km : ∀ (n : Nat) (ds : Int32) (a g : List Int32), 400 < n → a.length = 6 → g.length = 6 → ∃ a' g', a'.length = 6 ∧ g'.length = 6 ∧ Fm_keepsOut_89 n (nI ce) x (nI hh) (nI q) ds (mkY m a g) = some (if kO c ds (nI q) hh (sp0 ce x) = true then 1 else 0, mkY m a' g') := by
    intro n ds a g hn ha hg
    unfold Fm_keepsOut_89
    rw [M_laySpill (by omega) hce x ha, bd_some]
    have := M_keepG h.w hc hc1 e0 (nI ce) x (nI q) ds hhh hh 0 n 0 (sp0 ce x) g (by omega) (by omega) (sp0_len ce x) hg
    rw [nI_0] at this
    exact this
  intro d
  induction d with
  | zero =>
    intro k n be a g a2 g2 hk hn ha hg ha2 hg2 hbe
    obtain ⟨n, rfl⟩ : ∃ k, n = k + 1 := ⟨n - 1, by omega⟩
    rw [Gf_keepOut_0, Gm_keepOut_89, if_pos (nI_le (by omega) (by omega)), mY_w, hw0, bd_some, hp, if_pos (nI_le (by omega) (by omega))]
    exact ⟨_, _, _, rfl, rfl, R_spill h ha hg ha2 hg2⟩
  | succ d ih =>
    intro k n be a g a2 g2 hk hn ha hg ha2 hg2 hbe
    obtain ⟨n, rfl⟩ : ∃ k, n = k + 1 := ⟨n - 1, by omega⟩
    rw [Gf_keepOut_0, Gm_keepOut_89, if_neg (nI_ge (by omega) (by omega)), mY_w, hw0, bd_some, hp, if_neg (nI_ge (by omega) (by omega)), hw5, bd_some, f5]
    have go : ∃ r w' m', (ai_bd (Ff_keepsOut_0 n (nI ce) x (nI hh) (nI q) (sl (a_m_w m) 0 5 ||| nI k) (mkS w a g)) fun c1667 => if c1667.1 = 0 then Gf_keepOut_0 n 0 (nI ce) x (nI hh) (nI q) be (nI p) (nI k + 1) c1667.2 else Gf_keepOut_0 n 0 (nI ce) x (nI hh) (nI q) (nI k) (nI p) (nI k + 1) c1667.2) = some (r, w') ∧ (ai_bd (Fm_keepsOut_89 n (nI ce) x (nI hh) (nI q) (sl (a_m_w m) 0 5 ||| nI k) (mkY m a2 g2)) fun c661 => if c661.1 = 0 then Gm_keepOut_89 n 0 (nI ce) x (nI hh) (nI q) be (nI k + 1) c661.2 else Gm_keepOut_89 n 0 (nI ce) x (nI hh) (nI q) (nI k) (nI k + 1) c661.2) = some (r, m') ∧ R w' m' := by
      obtain ⟨a', g', p1, p2, p3⟩ := kx n (sl (a_m_w m) 0 5 ||| nI k) a g (by omega) ha hg
      obtain ⟨a3, g3, q1, q2, q3⟩ := km n (sl (a_m_w m) 0 5 ||| nI k) a2 g2 (by omega) ha2 hg2
      rw [p3, q3]
      simp only [bd_some, ifz, nI_1]
      by_cases z : kO c (sl (a_m_w m) 0 5 ||| nI k) (nI q) hh (sp0 ce x) = true
      · rw [if_pos z, if_pos z]
        exact ih (k + 1) n (nI k) a' g' a3 g3 (by omega) (by omega) p1 p2 q1 q2 (Or.inr ⟨k, by omega, rfl⟩)
      · rw [if_neg z, if_neg z]
        exact ih (k + 1) n be a' g' a3 g3 (by omega) (by omega) p1 p2 q1 q2 hbe
    have go0 := ih (k + 1) n be a g a2 g2 (by omega) (by omega) ha hg ha2 hg2 hbe
    rw [← nI_1] at go0
    by_cases c1 : (nI k &&& sl (a_m_w m) 0 5) = 0
    · rw [if_pos c1, if_pos c1]
      by_cases b1 : be = -1
      · rw [if_pos b1, if_pos b1]
        exact go
      · rw [if_neg b1, if_neg b1]
        rcases hbe with b2 | ⟨j, hj, rfl⟩
        · exact absurd b2 b1
        rw [ones_bc (q := k) (n := n) (by omega) (by omega), ones_bc (q := j) (n := n) hj (by omega)]
        obtain ⟨u, eu⟩ : ∃ u, Fint_bitCount (nI k) = some u := ⟨_, rfl⟩
        obtain ⟨v, ev⟩ : ∃ v, Fint_bitCount (nI j) = some v := ⟨_, rfl⟩
        rw [eu, ev]
        simp only [bd_some]
        by_cases z : v ≤ u
        · rw [if_pos z, if_pos z]
          exact go0
        · rw [if_neg z, if_neg z]
          exact go
    · rw [if_neg c1, if_neg c1]
      by_cases b1 : be = -1
      · rw [if_pos b1]
        exact go0
      · rw [if_neg b1]
        obtain ⟨u, eu⟩ : ∃ u, Fint_bitCount (nI k) = some u := ⟨_, rfl⟩
        obtain ⟨v, ev⟩ : ∃ v, Fint_bitCount be = some v := ⟨_, rfl⟩
        rw [eu, ev]
        simp only [bd_some, ite_self]
        exact go0
theorem C_keepOut (h : R w m) (a b d e : Int32) : Ok (fun n => Ff_keepOut_0 n a b d e w) (fun n => Fm_keepOut_89 n a b d e m) := Ok.of 600 fun n hn => by
  obtain ⟨w2, m2, e1, e2, hR⟩ := R_bad h
  have f0 : a_s1_cells w = sl (a_m_w m) 0 0 := h.s.k (k := 0) (by omega)
  have hw0 : ai_ix (a_m_w m) 0 = some (sl (a_m_w m) 0 0) := m_ix0 h.w (x := 0) 0 rfl (by omega)
  have h6 := h.s.c0
  obtain ⟨g1, g2, g3, g4, g5⟩ := pw_dec ⟨Nn (sl (a_m_w m) 0 0), by have := h6.2.1; omega⟩ h6.1
  have q0 := h6.2.2
  simp only [← q0] at g1 g2
  have g1 : (1 : Int32) <<< ((sl (a_m_w m) 0 0 - 1) &&& 31) = nI (2 ^ (Nn (sl (a_m_w m) 0 0) - 1)) := g1
  have g2 : (1 : Int32) <<< (sl (a_m_w m) 0 0 &&& 31) - 1 = nI (2 ^ Nn (sl (a_m_w m) 0 0) - 1) := g2
  have g3 : 2 ^ Nn (sl (a_m_w m) 0 0) ≤ 64 := g3
  have g4 : 2 ^ (Nn (sl (a_m_w m) 0 0) - 1) ≤ 32 := g4
  have g5 : 1 ≤ 2 ^ Nn (sl (a_m_w m) 0 0) := g5
  simp only [Ff_keepOut_0, Ff_isSpill_0, Fm_keepOut_89, hasCell_1, M_isCell h.w, Ff_within_eq, Fm_in_eq b (lo := 0) (hi := 999) 0 999 rfl rfl, Fm_in_eq d (lo := 0) (hi := 40) 0 40 rfl rfl, bd_some, ifz, e2, f0, hw0, Fm_in_eq e (lo := 0) 0 (1 <<< (sl (a_m_w m) 0 0 &&& 31) - 1) rfl rfl]
  by_cases c1 : C_cell (sl (a_m_w m) 0 0) a
  · simp only [if_pos c1]
    by_cases c2 : 0 ≤ b ∧ b ≤ 999
    · simp only [if_pos c2]
      by_cases c3 : 0 ≤ d ∧ d ≤ 40
      · simp only [if_pos c3, bd_some]
        rw [if_neg (show ¬ (1 : Int32) = 0 by decide)]
        simp only [f0]
        by_cases c4 : 0 ≤ e ∧ e ≤ 1 <<< (sl (a_m_w m) 0 0 &&& 31) - 1
        · simp only [if_pos c4]
          obtain ⟨i, hi, rfl⟩ := cell_N h.s.c0 (by decide) c1
          obtain ⟨hh, hhh, rfl⟩ := in0 40 rfl c3
          obtain ⟨q, hq, rfl⟩ := in0 (2 ^ Nn (sl (a_m_w m) 0 0) - 1) (by rw [g2, nI_toInt (by omega)]) c4
          have l1 : (a_spread_amounts w).length = 6 := h.2.2.2.2.2.2.2.1.2.2.2.1
          have l2 : (a_spread_gifts w).length = 6 := h.2.2.2.2.2.2.2.1.2.2.2.2.1
          have l3 : (a_m_there m).length = 6 := h.2.2.2.2.2.2.2.2.2.2.1
          have l4 : (a_m_gives m).length = 6 := h.2.2.2.2.2.2.2.2.2.2.2
          have hb : ∀ k, Nn (sl (a_m_w m) 0 0) ≤ k → k < 6 → ¬ C_bit (nI q) (nI k) := fun k h1 h2 => bits_dec ⟨q, by omega⟩ ⟨k, h2⟩ (by
            have := Nat.pow_le_pow_right (n := 2) (by decide) h1
            show q < 2 ^ k
            omega)
          have := keepOut_step h h6.2.1 h6.1 h6.2.2 (ce := i) (by have := h6.2.1; omega) b (q := q) (by omega) hb hhh (p := 2 ^ (Nn (sl (a_m_w m) 0 0) - 1)) (by rw [← q0]; exact g1) g4 (2 ^ (Nn (sl (a_m_w m) 0 0) - 1)) 0 n (-1) (a_spread_amounts w) (a_spread_gifts w) (a_m_there m) (a_m_gives m) (by omega) (by omega) l1 l2 l3 l4 (Or.inl rfl)
          rw [mS_in, mY_in, nI_0] at this
          rw [g1]
          exact this
        · simp only [if_neg c4]; rw [e1]; exact ⟨_, _, _, rfl, rfl, hR⟩
      · simp only [if_neg c3, bd_some]; rw [if_pos trivial, e1]; exact ⟨_, _, _, rfl, rfl, hR⟩
    · simp only [if_neg c2, bd_some]; rw [if_pos trivial, e1]; exact ⟨_, _, _, rfl, rfl, hR⟩
  · simp only [if_neg c1, bd_some]; rw [if_pos trivial, e1]; exact ⟨_, _, _, rfl, rfl, hR⟩
end C44
/-! what a town pays -/
theorem RS.tw {s : TS} {t : TT} {l : TL} {f : Nat → Int32} (h : RS s t l f) {i : Nat} (hi : i < Nn (f 4)) : (q_townPlaces s).getD i 0 = f (121 + i) ∧ plc (Nn (f 0)) (f (121 + i)) := by
  have h6 := h.c4.2.1
  have lvk : lv f (121 + i) := Or.inr (Or.inr (Or.inr (Or.inl ⟨by omega, by omega, by omega⟩)))
  have e := h.2.1 (121 + i) (by omega) lvk
  have o := h.2.2 (121 + i) (by omega) lvk
  rw [okv_r121 _ _ (by omega) (by omega)] at o
  rw [fl_townPlaces s t l (by omega)] at e
  exact ⟨e, o⟩
/-- the town that is the ceiling of place p -/
def clS (f : Nat → Int32) (p : Int32) : Nat → Nat → Int32 → Int32
  | 0, _, be => be
  | d + 1, i, be => if f (121 + i) / 10 = p / 10 then (if p ≤ f (121 + i) then clS f p d (i + 1) be else if be = -1 then clS f p d (i + 1) (nI i) else if f (121 + i) ≤ f (121 + Nn be) then clS f p d (i + 1) be else clS f p d (i + 1) (nI i)) else clS f p d (i + 1) be
theorem X_clG {W : WX} {f : Nat → Int32} (hs : RS W.2.1 W.2.2.1 W.2.2.2.1 f) (x p : Int32) : ∀ (d i n : Nat) (be bp : Int32), i + d = Nn (f 4) → d < n → ((be = -1 ∧ bp = -1) ∨ ∃ j, j < Nn (f 4) ∧ be = nI j ∧ bp = f (121 + j)) → Gsea_ceilingOf_1 n 0 x p be bp (nI i) W = some (clS f p d i be, W) := by
  have h6 := hs.c4.2.1
  have e4 : a_s1_towns W = nI (Nn (f 4)) := (hs.k (k := 4) (by omega)).trans hs.c4.2.2
  have l1 : (a_s1_townPlaces W).length = 6 := LSe_townPlaces hs.1
  intro d
  induction d with
  | zero =>
    intro i n be bp hi hn hb
    obtain ⟨n, rfl⟩ : ∃ k, n = k + 1 := ⟨n - 1, by omega⟩
    rw [Gsea_ceilingOf_1, e4, if_pos (nI_le (by omega) (by omega))]
    rfl
  | succ d ih =>
    intro i n be bp hi hn hb
    obtain ⟨n, rfl⟩ : ∃ k, n = k + 1 := ⟨n - 1, by omega⟩
    obtain ⟨t1, t2⟩ := hs.tw (i := i) (by omega)
    have t1 : (a_s1_townPlaces W).getD i 0 = f (121 + i) := t1
    rw [Gsea_ceilingOf_1, e4, if_neg (nI_ge (by omega) (by omega)), ix_e (l := a_s1_townPlaces W) (i := nI i) i rfl (by omega) (by omega), bd_some, t1, nI_1, clS]
    have go := ih (i + 1) n be bp (by omega) (by omega) hb
    have go2 := ih (i + 1) n (nI i) (f (121 + i)) (by omega) (by omega) (Or.inr ⟨i, by omega, rfl, rfl⟩)
    by_cases c1 : f (121 + i) / 10 = p / 10
    · rw [if_pos c1, if_pos c1]
      by_cases c2 : p ≤ f (121 + i)
      · rw [if_pos c2, if_pos c2]
        exact go
      · rw [if_neg c2, if_neg c2]
        rcases hb with ⟨b1, b2⟩ | ⟨j, hj, b1, b2⟩
        · obtain ⟨a, b, e, ha, hb⟩ := t2
          have h7 := hs.c0.2.1
          have c3 : ¬ f (121 + i) ≤ bp := by
            rw [b2, e]
            exact fun q => nI_pos (n := 10 * a + b) (by omega) (Int32.lt_of_le_of_lt q (by decide))
          rw [if_neg c3, if_pos b1]
          exact go2
        · have b3 : ¬ be = -1 := by
            rw [b1]
            exact fun q => nI_pos (n := j) (by omega) (by rw [q]; decide)
          rw [if_neg b3, b1, Nn_nI (by omega), ← b2]
          rw [b1] at go
          by_cases c3 : f (121 + i) ≤ bp
          · rw [if_pos c3, if_pos c3]
            exact go
          · rw [if_neg c3, if_neg c3]
            exact go2
    · rw [if_neg c1, if_neg c1]
      exact go
theorem M_clG {m : WM} (hw : (a_m_w m).length = 596) {f : Nat → Int32} (hf : sl (a_m_w m) 0 = f) (h4 : isN (f 4) 0 6) (x p : Int32) : ∀ (d i n : Nat) (be : Int32), i + d = Nn (f 4) → d < n → (be = -1 ∨ ∃ j, j < Nn (f 4) ∧ be = nI j) → Gm_ceilingOf_89 n 0 x be p (nI i) m = some (clS f p d i be, m) := by
  have h6 := h4.2.1
  have e4 : ai_ix (a_m_w m) 4 = some (nI (Nn (f 4))) := by rw [m_ix0 hw (x := 4) 4 rfl (by omega), hf, ← h4.2.2]
  have ea : ∀ j : Nat, j < 6 → ai_ix (a_m_w m) (121 + nI j) = some (f (121 + j)) := fun j hj => by rw [m_ix0 hw (x := 121 + nI j) (121 + j) (by rw [show (121 : Int32) = nI 121 from rfl, nI_add]) (by omega), hf]
  intro d
  induction d with
  | zero =>
    intro i n be hi hn hb
    obtain ⟨n, rfl⟩ : ∃ k, n = k + 1 := ⟨n - 1, by omega⟩
    rw [Gm_ceilingOf_89, e4, bd_some, if_pos (nI_le (by omega) (by omega))]
    rfl
  | succ d ih =>
    intro i n be hi hn hb
    obtain ⟨n, rfl⟩ : ∃ k, n = k + 1 := ⟨n - 1, by omega⟩
    rw [Gm_ceilingOf_89, e4, bd_some, if_neg (nI_ge (by omega) (by omega)), ea i (by omega), bd_some, nI_1, clS]
    have go := ih (i + 1) n be (by omega) (by omega) hb
    have go2 := ih (i + 1) n (nI i) (by omega) (by omega) (Or.inr ⟨i, by omega, rfl⟩)
    by_cases c1 : f (121 + i) / 10 = p / 10
    · rw [if_pos c1, if_pos c1]
      by_cases c2 : p ≤ f (121 + i)
      · rw [if_pos c2, if_pos c2]
        exact go
      · rw [if_neg c2, if_neg c2]
        by_cases b0 : be = -1
        · rw [if_pos b0, if_pos b0]
          exact go2
        · rw [if_neg b0, if_neg b0]
          rcases hb with b1 | ⟨j, hj, b1⟩
          · exact absurd b1 b0
          rw [b1] at go ⊢
          rw [ea j (by omega), bd_some, Nn_nI (by omega)]
          by_cases c3 : f (121 + i) ≤ f (121 + j)
          · rw [if_pos c3, if_pos c3]
            exact go
          · rw [if_neg c3, if_neg c3]
            exact go2
    · rw [if_neg c1, if_neg c1]
      exact go
/-- the ceiling of town i, and its dues -/
def clT (f : Nat → Int32) (i : Nat) : Int32 := clS f (f (121 + i)) (Nn (f 4)) 0 (-1)
def duS (f : Nat → Int32) (i : Nat) : Int32 := Tk f (Nn (f (121 + i)) % 10) (Nn (f (121 + i)) / 10) (Nn (f 1))
theorem X_ceil {W : WX} {f : Nat → Int32} (hs : RS W.2.1 W.2.2.1 W.2.2.2.1 f) {i n : Nat} (hi : i < Nn (f 4)) (hn : 8 ≤ n) : Fsea_ceilingOf_1 n (nI i) W = some (clT f i, W) := by
  have h6 := hs.c4.2.1
  have l1 : (a_s1_townPlaces W).length = 6 := LSe_townPlaces hs.1
  have t1 : (a_s1_townPlaces W).getD i 0 = f (121 + i) := (hs.tw hi).1
  unfold Fsea_ceilingOf_1 clT
  rw [ix_e (l := a_s1_townPlaces W) (i := nI i) i rfl (by omega) (by omega), bd_some, t1]
  have q := X_clG hs (nI i) (f (121 + i)) (Nn (f 4)) 0 n (-1) (-1) (by omega) (by omega) (Or.inl ⟨rfl, rfl⟩)
  rw [nI_0] at q
  exact q
theorem M_ceil {m : WM} (hw : (a_m_w m).length = 596) {f : Nat → Int32} (hf : sl (a_m_w m) 0 = f) (h4 : isN (f 4) 0 6) {i n : Nat} (hi : i < Nn (f 4)) (hn : 8 ≤ n) : Fm_ceilingOf_89 n (nI i) m = some (clT f i, m) := by
  have h6 := h4.2.1
  unfold Fm_ceilingOf_89 clT
  rw [m_ix0 hw (x := 121 + nI i) (121 + i) (by rw [show (121 : Int32) = nI 121 from rfl, nI_add]) (by omega), bd_some, hf]
  have q := M_clG hw hf h4 (nI i) (f (121 + i)) (Nn (f 4)) 0 n (-1) (by omega) (by omega) (Or.inl rfl)
  rw [nI_0] at q
  exact q
theorem plc_div {c : Nat} {x : Int32} (h : plc c x) (hc : c ≤ 6) : x / 10 = nI (Nn x / 10) ∧ x - x / 10 * 10 = nI (Nn x % 10) ∧ Nn x / 10 < c ∧ Nn x % 10 < 4 := by
  obtain ⟨a, b, e, ha, hb⟩ := h
  have en : Nn x = 10 * a + b := by rw [e]; exact Nn_nI (by omega)
  obtain ⟨d1, d2⟩ := div10 (k := 10 * a + b) (by omega) e
  rw [en]
  exact ⟨d1, d2, by omega, by omega⟩
theorem X_dues {W : WX} {f : Nat → Int32} (hs : RS W.2.1 W.2.2.1 W.2.2.2.1 f) {i : Nat} (hi : i < Nn (f 4)) : Fsea_duesOf_1 (nI i) W = some (duS f i, W) := by
  have h6 := hs.c4.2.1
  have l1 : (a_s1_townPlaces W).length = 6 := LSe_townPlaces hs.1
  have t1 : (a_s1_townPlaces W).getD i 0 = f (121 + i) := (hs.tw hi).1
  obtain ⟨d1, d2, d3, d4⟩ := plc_div (hs.tw hi).2 hs.c0.2.1
  have h7 := hs.c0.2.1
  have h8 := hs.c1.2.1
  have e1 : a_s1_hour W = nI (Nn (f 1)) := (hs.k (k := 1) (by omega)).trans hs.c1.2.2
  unfold Fsea_duesOf_1 duS
  rw [ix_e (l := a_s1_townPlaces W) (i := nI i) i rfl (by omega) (by omega), bd_some, t1, d2, d1, e1, X_thickAt hs (by omega) (by omega) (by omega), bd_some]
theorem M_dues {m : WM} (hw : (a_m_w m).length = 596) {f : Nat → Int32} (hf : sl (a_m_w m) 0 = f) (h1 : isN (f 1) 0 999) (h4 : isN (f 4) 0 6) (h0 : isN (f 0) 1 6) {i : Nat} (hi : i < Nn (f 4)) (hp : plc (Nn (f 0)) (f (121 + i))) : Fm_duesOf_89 (nI i) m = some (duS f i, m) := by
  have h6 := h4.2.1
  have h7 := h0.2.1
  have h8 := h1.2.1
  obtain ⟨d1, d2, d3, d4⟩ := plc_div hp h7
  unfold Fm_duesOf_89 duS
  rw [m_ix0 hw (x := 121 + nI i) (121 + i) (by rw [show (121 : Int32) = nI 121 from rfl, nI_add]) (by omega), bd_some, m_ix0 hw (x := 1) 1 rfl (by omega), bd_some, hf, d2, d1]
  have q := M_thickIn hw (l := Nn (f (121 + i)) % 10) (c := Nn (f (121 + i)) / 10) (h := Nn (f 1)) (by omega) (by omega) (by omega)
  rw [← h1.2.2, hf] at q
  rw [q, bd_some]
section C45
variable {w : WX} {m : WM}
theorem net_step (h : R w m) {f : Nat → Int32} (hf : sl (a_m_w m) 0 = f) (hs : RS w.2.1 w.2.2.1 w.2.2.2.1 f) {x : Nat} (hx : x < Nn (f 4)) : ∀ (d i n : Nat) (xa ma : Int32), i + d = Nn (f 4) → d + 10 < n → (xa = if i ≤ x ∧ ¬ clT f x = -1 then ma + duS f x else ma) → ∃ r, Gf_net_0 n 0 (nI x) xa (nI i) w = some (r, w) ∧ Gm_net_89 n 0 (nI x) ma (nI i) m = some (r, m) := by
  have h6 := hs.c4.2.1
  have e4 : a_s1_towns w = nI (Nn (f 4)) := (hs.k (k := 4) (by omega)).trans hs.c4.2.2
  have m4 : ai_ix (a_m_w m) 4 = some (nI (Nn (f 4))) := by rw [m_ix0 h.w (x := 4) 4 rfl (by omega), hf, ← hs.c4.2.2]
  intro d
  induction d with
  | zero =>
    intro i n xa ma hi hn ha
    obtain ⟨n, rfl⟩ : ∃ k, n = k + 1 := ⟨n - 1, by omega⟩
    rw [if_neg (show ¬ (i ≤ x ∧ ¬ clT f x = -1) from fun q => by have := q.1; omega)] at ha
    rw [Gf_net_0, Gm_net_89, e4, m4, bd_some, if_pos (nI_le (by omega) (by omega)), if_pos (nI_le (by omega) (by omega)), ha]
    exact ⟨_, rfl, rfl⟩
  | succ d ih =>
    intro i n xa ma hi hn ha
    obtain ⟨n, rfl⟩ : ∃ k, n = k + 1 := ⟨n - 1, by omega⟩
    have hxn : ¬ (-1 : Int32) = nI x := fun q => nI_pos (n := x) (by omega) (by rw [← q]; decide)
    have hix : (nI i = nI x) = (i = x) := propext (nI_eq (by omega) (by omega))
    rw [Gf_net_0, Gm_net_89, e4, m4, bd_some, if_neg (nI_ge (by omega) (by omega)), if_neg (nI_ge (by omega) (by omega)), X_ceil hs (by omega) (by omega), M_ceil h.w hf hs.c4 (by omega) (by omega)]
    simp only [bd_some, X_dues hs (show i < Nn (f 4) by omega), M_dues h.w hf hs.c1 hs.c4 hs.c0 (show i < Nn (f 4) by omega) (hs.tw (by omega)).2, nI_1, hix, Int32.add_zero]
    by_cases c0 : clT f i = -1
    · rw [if_pos c0, if_neg (show ¬ clT f i = nI x by rw [c0]; exact hxn)]
      refine ih (i + 1) n xa ma (by omega) (by omega) ?_
      rw [ha]
      by_cases e : i = x
      · subst e
        rw [if_neg (fun q => q.2 c0), if_neg (fun q => q.2 c0)]
      · by_cases z : i ≤ x ∧ ¬ clT f x = -1
        · rw [if_pos z, if_pos ⟨by omega, z.2⟩]
        · rw [if_neg z, if_neg (fun q => z ⟨by omega, q.2⟩)]
    · rw [if_neg c0]
      by_cases c2 : clT f i = nI x
      · rw [if_pos c2, if_pos c2]
        by_cases e : i = x
        · rw [if_pos e]
          refine ih (i + 1) n _ _ (by omega) (by omega) ?_
          rw [if_neg (fun q => by have := q.1; omega), ha]
          subst e
          rw [if_pos ⟨Nat.le_refl _, c0⟩, Int32.add_sub_cancel]
        · rw [if_neg e]
          refine ih (i + 1) n _ _ (by omega) (by omega) ?_
          rw [ha]
          by_cases z : i ≤ x ∧ ¬ clT f x = -1
          · rw [if_pos z, if_pos ⟨by omega, z.2⟩, Int32.add_assoc, Int32.add_assoc, Int32.add_comm (duS f x)]
          · rw [if_neg z, if_neg (fun q => z ⟨by omega, q.2⟩)]
      · rw [if_neg c2, if_neg c2]
        by_cases e : i = x
        · rw [if_pos e]
          refine ih (i + 1) n _ _ (by omega) (by omega) ?_
          rw [if_neg (fun q => by have := q.1; omega), ha]
          subst e
          rw [if_pos ⟨Nat.le_refl _, c0⟩, Int32.add_sub_cancel]
        · rw [if_neg e]
          refine ih (i + 1) n _ _ (by omega) (by omega) ?_
          rw [ha]
          by_cases z : i ≤ x ∧ ¬ clT f x = -1
          · rw [if_pos z, if_pos ⟨by omega, z.2⟩]
          · rw [if_neg z, if_neg (fun q => z ⟨by omega, q.2⟩)]
theorem C_net (h : R w m) (a : Int32) : Ok (fun n => Ff_net_0 n a w) (fun n => Fm_net_89 n a m) := Ok.of 50 fun n hn => by
  obtain ⟨w2, m2, e1, e2, hR⟩ := R_badAs h (-1000)
  obtain ⟨f, hf⟩ : ∃ f, sl (a_m_w m) 0 = f := ⟨_, rfl⟩
  have hs := h.s
  rw [hf] at hs
  have f4 : a_s1_towns w = f 4 := hs.k (k := 4) (by omega)
  have m4 : ai_ix (a_m_w m) 4 = some (f 4) := by rw [m_ix0 h.w (x := 4) 4 rfl (by omega), hf]
  simp only [Ff_net_0, Fm_net_89, Ff_within_eq, m4, bd_some, Fm_in_eq a (lo := 0) 0 (f 4 - 1) rfl rfl, ifz, e1, e2, f4]
  by_cases c1 : 0 ≤ a ∧ a ≤ f 4 - 1
  · simp only [if_pos c1]
    obtain ⟨x, hx, rfl⟩ := th_N hs.c4 (by decide) c1
    have h6 := hs.c4.2.1
    rw [M_ceil h.w hf hs.c4 hx (by omega)]
    simp only [bd_some, M_dues h.w hf hs.c1 hs.c4 hs.c0 hx (hs.tw hx).2]
    by_cases c0 : clT f x = -1
    · rw [if_pos c0]
      obtain ⟨r, q1, q2⟩ := net_step h hf hs hx (Nn (f 4)) 0 n 0 0 (by omega) (by omega) (by rw [if_neg (fun q => q.2 c0)])
      rw [nI_0] at q1 q2
      exact ⟨r, w, m, q1, q2, h⟩
    · rw [if_neg c0]
      obtain ⟨r, q1, q2⟩ := net_step h hf hs hx (Nn (f 4)) 0 n 0 (-duS f x) (by omega) (by omega) (by rw [if_pos ⟨Nat.zero_le _, c0⟩, Int32.add_left_neg])
      rw [nI_0] at q1 q2
      exact ⟨r, w, m, q1, q2, h⟩
  · simp only [if_neg c1]; exact ⟨_, _, _, rfl, rfl, hR⟩
end C45
/-! taps -/
def swS (f : Nat → Int32) : Nat → Nat → Int32 → Int32
  | 0, _, a => a
  | d + 1, i, a => swS f d (i + 1) (a + Tk f 0 i (Nn (f 1)))
theorem swS_rng {s : TS} {t : TT} {l : TL} {f : Nat → Int32} (hs : RS s t l f) : ∀ (k i b : Nat), i + k ≤ 6 → b ≤ 11 * i → ∃ z, z ≤ 66 ∧ swS f k i (nI b) = nI z := by
  intro k
  induction k with
  | zero => intro i b hi hb; exact ⟨b, by omega, rfl⟩
  | succ k ih =>
    intro i b hi hb
    obtain ⟨y, hy, e⟩ := Tk_rng hs (i := 0) (c := i) (by omega) (by omega) (Nn (f 1))
    rw [swS, e, nI_add]
    exact ih (i + 1) (b + y) (by omega) (by omega)
theorem X_sweet {W : WX} {f : Nat → Int32} (hs : RS W.2.1 W.2.2.1 W.2.2.2.1 f) : ∀ (d i n : Nat) (a : Int32), i + d = Nn (f 0) → d < n → Gsea_sweetInAll_1 n 0 a (nI i) W = some (swS f d i a, W) := by
  have h7 := hs.c0.2.1
  have h8 := hs.c1.2.1
  have e0 : a_s1_cells W = nI (Nn (f 0)) := (hs.k (k := 0) (by omega)).trans hs.c0.2.2
  have e1 : a_s1_hour W = nI (Nn (f 1)) := (hs.k (k := 1) (by omega)).trans hs.c1.2.2
  intro d
  induction d with
  | zero =>
    intro i n a hi hn
    obtain ⟨n, rfl⟩ : ∃ k, n = k + 1 := ⟨n - 1, by omega⟩
    rw [Gsea_sweetInAll_1, e0, if_pos (nI_le (by omega) (by omega))]
    rfl
  | succ d ih =>
    intro i n a hi hn
    obtain ⟨n, rfl⟩ : ∃ k, n = k + 1 := ⟨n - 1, by omega⟩
    have hx := X_thickAt hs (l := 0) (c := i) (h := Nn (f 1)) (by omega) (by omega) (by omega)
    rw [nI_0] at hx
    rw [Gsea_sweetInAll_1, e0, if_neg (nI_ge (by omega) (by omega)), e1, hx, bd_some, nI_1, swS]
    exact ih (i + 1) n _ (by omega) (by omega)
theorem M_sweet {m : WM} (hw : (a_m_w m).length = 596) {f : Nat → Int32} (hf : sl (a_m_w m) 0 = f) (h0 : isN (f 0) 1 6) (h1 : isN (f 1) 0 999) (md : Int32) : ∀ (d i n : Nat) (a : Int32), i + d = Nn (f 0) → d < n → Gm_tap_89 n 0 md a (nI i) 0 0 0 0 0 m = Gm_tap_89 (n - d - 1) 1 md (swS f d i a) 0 (-1) 0 0 0 0 m := by
  have h7 := h0.2.1
  have h8 := h1.2.1
  have e0 : ai_ix (a_m_w m) 0 = some (nI (Nn (f 0))) := by rw [m_ix0 hw (x := 0) 0 rfl (by omega), hf, ← h0.2.2]
  have e1 : ai_ix (a_m_w m) 1 = some (nI (Nn (f 1))) := by rw [m_ix0 hw (x := 1) 1 rfl (by omega), hf, ← h1.2.2]
  intro d
  induction d with
  | zero =>
    intro i n a hi hn
    obtain ⟨n, rfl⟩ : ∃ k, n = k + 1 := ⟨n - 1, by omega⟩
    rw [Gm_tap_89, e0, bd_some, if_pos (nI_le (by omega) (by omega))]
    rfl
  | succ d ih =>
    intro i n a hi hn
    obtain ⟨n, rfl⟩ : ∃ k, n = k + 1 := ⟨n - 1, by omega⟩
    have hx := M_thickIn hw (l := 0) (c := i) (h := Nn (f 1)) (by omega) (by omega) (by omega)
    rw [nI_0, hf] at hx
    rw [Gm_tap_89, e0, bd_some, if_neg (nI_ge (by omega) (by omega)), e1, bd_some, hx, bd_some, nI_1, swS, ih (i + 1) n _ (by omega) (by omega), show n - d - 1 = n + 1 - (d + 1) - 1 by omega]
/-- what one draws who sets his tap at i, the other's being at j -/
def tpd (s i j : Nat) : Int32 := if nI i + nI j ≤ nI s then nI i else nI i - (2 * ((nI i + nI j) - nI s))
theorem tap_dec : ∀ (u : Fin 19) (s : Fin 67), (0 < nI u.val - nI s.val) = ¬ nI u.val ≤ nI s.val := by
  have : ∀ (u : Fin 19) (s : Fin 67), (0 < nI u.val - nI s.val) ↔ ¬ nI u.val ≤ nI s.val := by decide +kernel
  exact fun u s => propext (this u s)
theorem X_tapped {s i j : Nat} (hs : s ≤ 66) (hi : i ≤ 9) (hj : j ≤ 9) : Ff_tapped (nI i) (nI j) (nI s) = some (tpd s i j) := by
  unfold Ff_tapped tpd
  have e := tap_dec ⟨i + j, by omega⟩ ⟨s, by omega⟩
  have e : (0 < nI (i + j) - nI s) = ¬ nI (i + j) ≤ nI s := e
  rw [nI_add]
  by_cases c : nI (i + j) ≤ nI s
  · rw [if_pos c, if_neg (show ¬ 0 < nI (i + j) - nI s by rw [e]; exact fun q => q c)]
    rw [show (2 : Int32) * 0 = 0 by decide, Int32.sub_zero]
  · rw [if_neg c, if_pos (show 0 < nI (i + j) - nI s by rw [e]; exact c)]
theorem M_tapped (s i j : Nat) : Fm_tapped_89 (nI i) (nI j) (nI s) = some (tpd s i j) := by
  unfold Fm_tapped_89 tpd
  by_cases c : nI i + nI j ≤ nI s
  · rw [if_pos c, if_pos c, Int32.sub_zero]
  · rw [if_neg c, if_neg c]
/-- no other setting gives more -/
def bT (s y x : Nat) : Nat → Nat → Bool
  | 0, _ => true
  | d + 1, k => if tpd s k y ≤ tpd s x y then bT s y x d (k + 1) else false
theorem X_best {s y x : Nat} (hs : s ≤ 66) (hy : y ≤ 9) : ∀ (d k n : Nat) (z : Int32), k + d = 10 → d < n → Gf_isBestTap n 0 z (nI y) (nI s) (tpd s x y) (nI k) = some (if bT s y x d k = true then 1 else 0) := by
  intro d
  induction d with
  | zero =>
    intro k n z hk hn
    obtain ⟨n, rfl⟩ : ∃ k, n = k + 1 := ⟨n - 1, by omega⟩
    rw [show k = 10 by omega, Gf_isBestTap, if_pos (show (9 : Int32) < nI 10 by decide)]
    rfl
  | succ d ih =>
    intro k n z hk hn
    obtain ⟨n, rfl⟩ : ∃ k, n = k + 1 := ⟨n - 1, by omega⟩
    rw [Gf_isBestTap, if_neg (show ¬ (9 : Int32) < nI k from nI_nlt (a := 9) (by omega) (by decide)), X_tapped hs (by omega) hy, bd_some, nI_1, bT]
    by_cases c : tpd s k y ≤ tpd s x y
    · rw [if_pos c, if_pos c]
      exact ih (k + 1) n z (by omega) (by omega)
    · rw [if_neg c, if_neg c]
      rfl
theorem X_isBest {s y x n : Nat} (hs : s ≤ 66) (hy : y ≤ 9) (hx : x ≤ 9) (hn : 11 ≤ n) : Ff_isBestTap n (nI x) (nI y) (nI s) = some (if bT s y x 10 0 = true then 1 else 0) := by
  unfold Ff_isBestTap
  rw [X_tapped hs hx hy, bd_some]
  have q := X_best (x := x) hs hy 10 0 n (nI x) (by omega) (by omega)
  rw [nI_0] at q
  exact q
theorem M_t30 {m : WM} (md S cnt fi x y : Int32) : ∀ (d k n : Nat), k + d = 10 → d < n → Gm_tap_89 n 3 md S cnt fi x y 0 (nI k) m = Gm_tap_89 (n - d) 3 md S cnt fi x y 0 (nI 10) m := by
  intro d
  induction d with
  | zero =>
    intro k n hk hn
    rw [show k = 10 by omega, Nat.sub_zero]
  | succ d ih =>
    intro k n hk hn
    obtain ⟨n, rfl⟩ : ∃ k, n = k + 1 := ⟨n - 1, by omega⟩
    rw [Gm_tap_89, if_neg (show ¬ (10 : Int32) ≤ nI k from nI_ge (b := 10) (by omega) (by decide)), if_pos rfl, nI_1, ih (k + 1) n (by omega) (by omega), show n - d = n + 1 - (d + 1) by omega]
def bb (s x y : Nat) : Nat → Nat → Bool
  | 0, _ => true
  | d + 1, k => if tpd s k y ≤ tpd s x y then (if tpd s k x ≤ tpd s y x then bb s x y d (k + 1) else false) else false
theorem bb_iff (s x y : Nat) : ∀ (d k : Nat), bb s x y d k = true ↔ bT s y x d k = true ∧ bT s x y d k = true
  | 0, _ => ⟨fun _ => ⟨rfl, rfl⟩, fun _ => rfl⟩
  | d + 1, k => by
    rw [bb, bT, bT]
    by_cases c1 : tpd s k y ≤ tpd s x y
    · rw [if_pos c1, if_pos c1]
      by_cases c2 : tpd s k x ≤ tpd s y x
      · rw [if_pos c2, if_pos c2]
        exact bb_iff s x y d (k + 1)
      · rw [if_neg c2, if_neg c2]
        exact ⟨fun q => absurd q (by decide), fun q => absurd q.2 (by decide)⟩
    · rw [if_neg c1, if_neg c1]
      exact ⟨fun q => absurd q (by decide), fun q => absurd q.1 (by decide)⟩
theorem M_t31 {m : WM} (md cnt fi : Int32) (s x y : Nat) : ∀ (d k n : Nat), k + d = 10 → d < n → Gm_tap_89 n 3 md (nI s) cnt fi (nI x) (nI y) 1 (nI k) m = Gm_tap_89 (n - d) 3 md (nI s) cnt fi (nI x) (nI y) (if bb s x y d k = true then 1 else 0) (nI 10) m := by
  intro d
  induction d with
  | zero =>
    intro k n hk hn
    rw [show k = 10 by omega, Nat.sub_zero]
    rfl
  | succ d ih =>
    intro k n hk hn
    obtain ⟨n, rfl⟩ : ∃ k, n = k + 1 := ⟨n - 1, by omega⟩
    rw [Gm_tap_89, if_neg (show ¬ (10 : Int32) ≤ nI k from nI_ge (b := 10) (by omega) (by decide)), if_neg (show ¬ (1 : Int32) = 0 by decide), nI_1]
    simp only [M_tapped, bd_some]
    rw [show n + 1 - (d + 1) = n - d by omega, bb]
    by_cases c1 : tpd s k y ≤ tpd s x y
    · rw [if_pos c1, if_neg (Int32.not_lt.mpr c1)]
      by_cases c2 : tpd s k x ≤ tpd s y x
      · rw [if_pos c2, if_neg (Int32.not_lt.mpr c2)]
        exact ih (k + 1) n (by omega) (by omega)
      · rw [if_neg c2, if_pos (Int32.not_le.mp c2)]
        exact M_t30 md (nI s) cnt fi (nI x) (nI y) d (k + 1) n (by omega) (by omega)
    · rw [if_neg c1, if_pos (Int32.not_le.mp c1)]
      exact M_t30 md (nI s) cnt fi (nI x) (nI y) d (k + 1) n (by omega) (by omega)
/-- the count and the first one found -/
def tIn (b : Nat) (cnt fi : Int32) : Prop := ∃ q, q ≤ b ∧ cnt = nI q ∧ (q = 0 ↔ fi = -1)
theorem tIn_up {b c : Nat} {cnt fi : Int32} (h : tIn b cnt fi) (hb : b ≤ c) : tIn c cnt fi := by
  obtain ⟨q, h1, h2⟩ := h
  exact ⟨q, by omega, h2⟩
section C46
variable {w : WX} {m : WM}
theorem tap_in (md : Int32) {s x K : Nat} (hs : s ≤ 66) (hx : x < 10) (cont : ∀ (n n2 : Nat) (z cnt fi : Int32), K ≤ n → K ≤ n2 → tIn (10 * (x + 1)) cnt fi → ∃ r, Gf_tap_0 n 0 md (nI s) cnt fi (nI (x + 1)) z w = some (r, w) ∧ Gm_tap_89 n2 1 md (nI s) cnt fi (nI (x + 1)) 0 0 0 m = some (r, m)) : ∀ (d y n n2 : Nat) (cnt fi : Int32), y + d = 10 → K + 20 * d + 20 ≤ n → K + 20 * d + 20 ≤ n2 → tIn (10 * x + y) cnt fi → ∃ r, Gf_tap_0 n 1 md (nI s) cnt fi (nI x) (nI y) w = some (r, w) ∧ Gm_tap_89 n2 2 md (nI s) cnt fi (nI x) (nI y) 0 0 m = some (r, m) := by
  intro d
  induction d with
  | zero =>
    intro y n n2 cnt fi hy hn hn2 ht
    obtain ⟨n, rfl⟩ : ∃ k, n = k + 1 := ⟨n - 1, by omega⟩
    obtain ⟨n2, rfl⟩ : ∃ k, n2 = k + 1 := ⟨n2 - 1, by omega⟩
    have : y = 10 := by omega
    subst this
    rw [Gf_tap_0, Gm_tap_89, if_pos (show (9 : Int32) < nI 10 by decide), if_pos (show (10 : Int32) ≤ nI 10 by decide), nI_1]
    exact cont n n2 0 cnt fi (by omega) (by omega) (tIn_up ht (by omega))
  | succ d ih =>
    intro y n n2 cnt fi hy hn hn2 ht
    obtain ⟨n, rfl⟩ : ∃ k, n = k + 1 := ⟨n - 1, by omega⟩
    obtain ⟨n2, rfl⟩ : ∃ k, n2 = k + 1 := ⟨n2 - 1, by omega⟩
    have hM := M_t31 (m := m) md cnt fi s x y 10 0 n2 (by omega) (by omega)
    rw [nI_0] at hM
    obtain ⟨n3, e3⟩ : ∃ k, n2 - 10 = k + 1 := ⟨n2 - 10 - 1, by omega⟩
    rw [Gf_tap_0, Gm_tap_89, if_neg (show ¬ (9 : Int32) < nI y from nI_nlt (a := 9) (by omega) (by decide)), if_neg (show ¬ (10 : Int32) ≤ nI y from nI_ge (b := 10) (by omega) (by decide)), hM, e3, X_isBest hs (by omega) (by omega) (by omega), X_isBest hs (by omega) (by omega) (by omega)]
    simp only [bd_some, ifz]
    rw [Gm_tap_89, if_pos (show (10 : Int32) ≤ nI 10 by decide)]
    simp only [ifz, nI_1, Int32.add_zero]
    have no := ih (y + 1) n n3 cnt fi (by omega) (by omega) (by omega) (tIn_up ht (by omega))
    by_cases b1 : bT s y x 10 0 = true
    · rw [if_pos b1]
      by_cases b2 : bT s x y 10 0 = true
      · rw [if_pos b2]
        simp only [if_pos ((bb_iff s x y 10 0).mpr ⟨b1, b2⟩)]
        obtain ⟨q, q1, q2, q3⟩ := ht
        have hc : cnt + 1 = nI (q + 1) := by rw [q2, nI_1]
        by_cases z : fi = -1
        · have q0 : q = 0 := q3.mpr z
          have c0 : cnt = 0 := by rw [q2, q0, nI_0]
          rw [if_pos z, if_pos c0]
          have ev : 10 * nI x + nI y = nI (10 * x + y) := by rw [show (10 : Int32) = nI 10 from rfl, pk_mul, nI_add]
          refine ih (y + 1) n n3 _ _ (by omega) (by omega) (by omega) ⟨q + 1, by omega, hc, ⟨fun e => absurd e (by omega), fun e => ?_⟩⟩
          exfalso
          rw [ev] at e
          exact nI_pos (n := 10 * x + y) (by omega) (by rw [e]; decide)
        · have q0 : ¬ q = 0 := fun e => z (q3.mp e)
          have c0 : ¬ cnt = 0 := by rw [q2]; exact nI_ne0 (by omega) (by omega)
          rw [if_neg z, if_neg c0]
          exact ih (y + 1) n n3 _ _ (by omega) (by omega) (by omega) ⟨q + 1, by omega, hc, ⟨fun e => absurd e (by omega), fun e => absurd e z⟩⟩
      · rw [if_neg b2]
        simp only [if_neg (show ¬ bb s x y 10 0 = true from fun q => b2 ((bb_iff s x y 10 0).mp q).2)]
        exact no
    · rw [if_neg b1]
      simp only [if_neg (show ¬ bb s x y 10 0 = true from fun q => b1 ((bb_iff s x y 10 0).mp q).1)]
      exact no
theorem tap_out (md : Int32) {s : Nat} (hs : s ≤ 66) : ∀ (d x n n2 : Nat) (z cnt fi : Int32), x + d = 10 → 300 * d + 10 ≤ n → 300 * d + 10 ≤ n2 → tIn (10 * x) cnt fi → ∃ r, Gf_tap_0 n 0 md (nI s) cnt fi (nI x) z w = some (r, w) ∧ Gm_tap_89 n2 1 md (nI s) cnt fi (nI x) 0 0 0 m = some (r, m) := by
  intro d
  induction d with
  | zero =>
    intro x n n2 z cnt fi hx hn hn2 ht
    obtain ⟨n, rfl⟩ : ∃ k, n = k + 1 := ⟨n - 1, by omega⟩
    obtain ⟨n2, rfl⟩ : ∃ k, n2 = k + 1 := ⟨n2 - 1, by omega⟩
    have : x = 10 := by omega
    subst this
    rw [Gf_tap_0, Gm_tap_89, if_pos (show (9 : Int32) < nI 10 by decide), if_pos (show (10 : Int32) ≤ nI 10 by decide)]
    by_cases c : md = 0
    · rw [if_pos c, if_pos c]
      exact ⟨_, rfl, rfl⟩
    · rw [if_neg c, if_neg c]
      exact ⟨_, rfl, rfl⟩
  | succ d ih =>
    intro x n n2 z cnt fi hx hn hn2 ht
    obtain ⟨n, rfl⟩ : ∃ k, n = k + 1 := ⟨n - 1, by omega⟩
    obtain ⟨n2, rfl⟩ : ∃ k, n2 = k + 1 := ⟨n2 - 1, by omega⟩
    rw [Gf_tap_0, Gm_tap_89, if_neg (show ¬ (9 : Int32) < nI x from nI_nlt (a := 9) (by omega) (by decide)), if_neg (show ¬ (10 : Int32) ≤ nI x from nI_ge (b := 10) (by omega) (by decide))]
    have q := tap_in (w := w) (m := m) md (x := x) (K := 300 * d + 10) hs (by omega) (fun n n2 z cnt fi h1 h2 h3 => ih (x + 1) n n2 z cnt fi (by omega) h1 h2 h3) 10 0 n n2 cnt fi (by omega) (by omega) (by omega) ht
    rw [nI_0] at q
    exact q
theorem C_tap (h : R w m) (a : Int32) : Ok (fun n => Ff_tap_0 n a w) (fun n => Fm_tap_89 n a m) := Ok.of 4000 fun n hn => by
  obtain ⟨w2, m2, e1, e2, hR⟩ := R_badAs h (-10)
  obtain ⟨f, hf⟩ : ∃ f, sl (a_m_w m) 0 = f := ⟨_, rfl⟩
  have hs := h.s
  rw [hf] at hs
  simp only [Ff_tap_0, Fm_tap_89, Ff_within_eq, Fm_in_eq a (lo := 0) (hi := 1) 0 1 rfl rfl, bd_some, ifz, e1, e2]
  by_cases c1 : 0 ≤ a ∧ a ≤ 1
  · simp only [if_pos c1]
    have h7 := hs.c0.2.1
    obtain ⟨z, hz, ez⟩ := swS_rng hs (Nn (f 0)) 0 0 (by omega) (by omega)
    have hx := X_sweet hs (Nn (f 0)) 0 n 0 (by omega) (by omega)
    have hm := M_sweet h.w hf hs.c0 hs.c1 a (Nn (f 0)) 0 n 0 (by omega) (by omega)
    rw [nI_0] at hx hm ez
    have hx : Fsea_sweetInAll_1 n w = some (swS f (Nn (f 0)) 0 0, w) := hx
    rw [hx, hm, bd_some, ez]
    obtain ⟨r, q1, q2⟩ := tap_out (w := w) (m := m) a hz 10 0 n (n - Nn (f 0) - 1) 0 0 (-1) (by omega) (by omega) (by omega) ⟨0, by omega, by rw [nI_0], ⟨fun _ => rfl, fun _ => rfl⟩⟩
    rw [nI_0] at q1 q2
    exact ⟨r, w, m, q1, q2, h⟩
  · simp only [if_neg c1]; exact ⟨_, _, _, rfl, rfl, hR⟩
end C46
