/-! spills -/
abbrev lg (l : List Int32) (k : Nat) : Int32 := l.getD k 0
/-- one hour of a spill over the borders from k on, g being what each cell gives -/
def st2 (dams : Int32) (g : Nat → Int32) : Nat → Nat → List Int32 → List Int32
  | 0, _, l => l
  | d + 1, k, l => st2 dams g d (k + 1) (if C_bit dams (nI k) then l else (l.set k (lg l k + (g (k + 1) - g k))).set (k + 1) (lg (l.set k (lg l k + (g (k + 1) - g k))) (k + 1) + (g k - g (k + 1))))
theorem st2_len (dams : Int32) (g : Nat → Int32) : ∀ (d k : Nat) (l : List Int32), (st2 dams g d k l).length = l.length
  | 0, _, _ => rfl
  | d + 1, k, l => by
    rw [st2, st2_len dams g d]
    by_cases c : C_bit dams (nI k)
    · rw [if_pos c]
    · rw [if_neg c, List.length_set, List.length_set]
def sp1 (c : Nat) (dams : Int32) (l : List Int32) : List Int32 := st2 dams (fun k => lg l k / 4) (c - 1) 0 l
theorem sp1_len (c : Nat) (dams : Int32) (l : List Int32) : (sp1 c dams l).length = l.length := st2_len _ _ _ _ _
/-- so many hours -/
def spN (c : Nat) (dams : Int32) : Nat → List Int32 → List Int32
  | 0, l => l
  | k + 1, l => spN c dams k (sp1 c dams l)
theorem bit_and (x k : Int32) : (((x >>> (k &&& 31)) &&& 1) = 0) = ¬ C_bit x k := by
  rcases and1 (x >>> (k &&& 31)) with q | q
  · have : ¬ C_bit x k := fun e => by rw [C_bit, q] at e; exact absurd e (by decide)
    rw [q]
    exact (eq_true rfl).trans (eq_true this).symm
  · have : C_bit x k := q
    rw [q]
    exact (eq_false (by decide)).trans (eq_false (fun e => e this)).symm
/-- the class's world with another spread -/
def mkS (w : WX) (a g : List Int32) : WX := (w.1, w.2.1, w.2.2.1, w.2.2.2.1, w.2.2.2.2.1, w.2.2.2.2.2.1, w.2.2.2.2.2.2.1, w.2.2.2.2.2.2.2.1, w.2.2.2.2.2.2.2.2.1, w.2.2.2.2.2.2.2.2.2.1, w.2.2.2.2.2.2.2.2.2.2.1, w.2.2.2.2.2.2.2.2.2.2.2.1, w.2.2.2.2.2.2.2.2.2.2.2.2.1, w.2.2.2.2.2.2.2.2.2.2.2.2.2.1, w.2.2.2.2.2.2.2.2.2.2.2.2.2.2.1, (a, g), w.2.2.2.2.2.2.2.2.2.2.2.2.2.2.2.2)
def mkY (m : WM) (a g : List Int32) : WM := (m.1, m.2.1, m.2.2.1, m.2.2.2.1, m.2.2.2.2.1, m.2.2.2.2.2.1, m.2.2.2.2.2.2.1, m.2.2.2.2.2.2.2.1, m.2.2.2.2.2.2.2.2.1, m.2.2.2.2.2.2.2.2.2.1, m.2.2.2.2.2.2.2.2.2.2.1, m.2.2.2.2.2.2.2.2.2.2.2.1, m.2.2.2.2.2.2.2.2.2.2.2.2.1, m.2.2.2.2.2.2.2.2.2.2.2.2.2.1, m.2.2.2.2.2.2.2.2.2.2.2.2.2.2.1, m.2.2.2.2.2.2.2.2.2.2.2.2.2.2.2.1, m.2.2.2.2.2.2.2.2.2.2.2.2.2.2.2.2.1, m.2.2.2.2.2.2.2.2.2.2.2.2.2.2.2.2.2.1, m.2.2.2.2.2.2.2.2.2.2.2.2.2.2.2.2.2.2.1, m.2.2.2.2.2.2.2.2.2.2.2.2.2.2.2.2.2.2.2.1, m.2.2.2.2.2.2.2.2.2.2.2.2.2.2.2.2.2.2.2.2.1, m.2.2.2.2.2.2.2.2.2.2.2.2.2.2.2.2.2.2.2.2.2.1, m.2.2.2.2.2.2.2.2.2.2.2.2.2.2.2.2.2.2.2.2.2.2.1, m.2.2.2.2.2.2.2.2.2.2.2.2.2.2.2.2.2.2.2.2.2.2.2.1, m.2.2.2.2.2.2.2.2.2.2.2.2.2.2.2.2.2.2.2.2.2.2.2.2.1, a, g, m.2.2.2.2.2.2.2.2.2.2.2.2.2.2.2.2.2.2.2.2.2.2.2.2.2.2.2)
section MKS
variable (w : WX) (m : WM) (a g x : List Int32)
theorem mS_in : mkS w (a_spread_amounts w) (a_spread_gifts w) = w := rfl
theorem mS_a : a_spread_amounts (mkS w a g) = a := rfl
theorem mS_g : a_spread_gifts (mkS w a g) = g := rfl
theorem mSu_a : u_spread_amounts (mkS w a g) x = mkS w x g := rfl
theorem mSu_g : u_spread_gifts (mkS w a g) x = mkS w a x := rfl
theorem mS_cells : a_s1_cells (mkS w a g) = a_s1_cells w := rfl
theorem mS_dams : a_s1_dams (mkS w a g) = a_s1_dams w := rfl
theorem mY_in : mkY m (a_m_there m) (a_m_gives m) = m := rfl
theorem mY_a : a_m_there (mkY m a g) = a := rfl
theorem mY_g : a_m_gives (mkY m a g) = g := rfl
theorem mYu_a : u_m_there (mkY m a g) x = mkY m x g := rfl
theorem mYu_g : u_m_gives (mkY m a g) x = mkY m a x := rfl
theorem mY_w : a_m_w (mkY m a g) = a_m_w m := rfl
theorem mSu_aa (y : List Int32) : u_spread_amounts (u_spread_amounts (mkS w a g) x) y = mkS w y g := by dsimp only [u_spread_amounts, mkS]
theorem mYu_aa (y : List Int32) : u_m_there (u_m_there (mkY m a g) x) y = mkY m y g := by dsimp only [u_m_there, mkY]
end MKS
theorem R_spill {w : WX} {m : WM} (h : R w m) {a g a2 g2 : List Int32} (h1 : a.length = 6) (h2 : g.length = 6) (h3 : a2.length = 6) (h4 : g2.length = 6) : R (mkS w a g) (mkY m a2 g2) := by
  obtain ⟨k1, k2, k3, k4, k5, k6, k7, ⟨c1, c2, c3, c4, c5, c6⟩, ⟨d1, d2, d3, d4⟩⟩ := h
  exact ⟨k1, k2, k3, k4, k5, k6, k7, ⟨c1, c2, c3, h1, h2, c6⟩, ⟨d1, d2, h3, h4⟩⟩
theorem X_go1 {w : WX} {c : Nat} (hc : c ≤ 6) (hc1 : 1 ≤ c) (dams : Int32) : ∀ (d k n : Nat) (a g : List Int32) (G : Nat → Int32), k + d = c - 1 → d < n → a.length = 6 → g.length = 6 → (∀ j, j < c → lg g j = G j) → Gspr_goOn_83 n 1 (nI c) dams (nI k) (mkS w a g) = some (mkS w (st2 dams G d k a) g) := by
  intro d
  induction d with
  | zero =>
    intro k n a g G hk hn ha hg hG
    obtain ⟨n, rfl⟩ : ∃ k, n = k + 1 := ⟨n - 1, by omega⟩
    rw [Gspr_goOn_83, if_pos (show nI c - 1 ≤ nI k by rw [show (1 : Int32) = nI 1 from rfl, pk_sub hc1]; exact nI_le (by omega) (by omega))]
    rfl
  | succ d ih =>
    intro k n a g G hk hn ha hg hG
    obtain ⟨n, rfl⟩ : ∃ k, n = k + 1 := ⟨n - 1, by omega⟩
    rw [Gspr_goOn_83, if_neg (show ¬ nI c - 1 ≤ nI k by rw [show (1 : Int32) = nI 1 from rfl, pk_sub hc1]; exact nI_ge (by omega) (by omega)), mS_a, mS_g, st2]
    simp only [bit_and]
    by_cases cb : C_bit dams (nI k)
    · rw [if_neg (fun q => q cb), if_pos cb, nI_1]
      exact ih (k + 1) n a g G (by omega) (by omega) ha hg hG
    · rw [if_pos cb, if_neg cb, nI_1, ix_e (l := a) k rfl (by omega) (by omega), bd_some, ix_e (l := g) (k + 1) rfl (by omega) (by omega), bd_some, ix_e (l := g) k rfl (by omega) (by omega), bd_some]
      have g0 : g.getD k 0 = G k := hG k (by omega)
      have g1 : g.getD (k + 1) 0 = G (k + 1) := hG (k + 1) (by omega)
      rw [g0, g1, up_e (l := a) _ k rfl (by omega) (by omega), bd_some, ix_e (l := a.set k (a.getD k 0 + (G (k + 1) - G k))) (k + 1) rfl (by rw [List.length_set]; omega) (by omega), bd_some]
      simp only [bd_some]
      rw [up_e (l := a.set k (a.getD k 0 + (G (k + 1) - G k))) _ (k + 1) rfl (by rw [List.length_set]; omega) (by omega), bd_some, mSu_aa]
      exact ih (k + 1) n _ g G (by omega) (by omega) (by rw [List.length_set, List.length_set]; exact ha) hg hG
theorem X_go0 {w : WX} {c : Nat} (hc : c ≤ 6) (hc1 : 1 ≤ c) (dams : Int32) : ∀ (d k n : Nat) (a g : List Int32), k + d = c → d + 8 < n → a.length = 6 → g.length = 6 → (∀ j, j < k → lg g j = lg a j / 4) → ∃ g', g'.length = 6 ∧ Gspr_goOn_83 n 0 (nI c) dams (nI k) (mkS w a g) = some (mkS w (sp1 c dams a) g') := by
  intro d
  induction d with
  | zero =>
    intro k n a g hk hn ha hg hG
    obtain ⟨n, rfl⟩ : ∃ k, n = k + 1 := ⟨n - 1, by omega⟩
    have : k = c := by omega
    subst this
    rw [Gspr_goOn_83, if_pos (Int32.le_refl _)]
    exact ⟨g, hg, X_go1 hc hc1 dams (k - 1) 0 n a g (fun j => lg a j / 4) (by omega) (by omega) ha hg hG⟩
  | succ d ih =>
    intro k n a g hk hn ha hg hG
    obtain ⟨n, rfl⟩ : ∃ k, n = k + 1 := ⟨n - 1, by omega⟩
    rw [Gspr_goOn_83, if_neg (nI_ge (by omega) (by omega)), mS_a, mS_g, ix_e (l := a) k rfl (by omega) (by omega), bd_some, up_e (l := g) _ k rfl (by omega) (by omega), bd_some, nI_1, mSu_g]
    exact ih (k + 1) n a _ (by omega) (by omega) ha (by rw [List.length_set]; exact hg) (fun j hj => by
      show (g.set k (a.getD k 0 / 4)).getD j 0 = _
      rw [gD_set _ _ _ _ (by omega)]
      by_cases e : j = k
      · rw [if_pos e, e]
      · rw [if_neg e]; exact hG j (by omega))
theorem X_goOn1 {w : WX} {c n : Nat} (hn : 20 ≤ n) (hc : c ≤ 6) (hc1 : 1 ≤ c) (dams : Int32) {a g : List Int32} (ha : a.length = 6) (hg : g.length = 6) : ∃ g', g'.length = 6 ∧ Fspr_goOn_83 n (nI c) dams (mkS w a g) = some (mkS w (sp1 c dams a) g') := X_go0 hc hc1 dams c 0 n a g (by omega) (by omega) ha hg (fun j hj => absurd hj (by omega))
theorem M_go1 {m : WM} (hw : (a_m_w m).length = 596) {c : Nat} (hc : c ≤ 6) (hc1 : 1 ≤ c) (e0 : sl (a_m_w m) 0 0 = nI c) (dams : Int32) : ∀ (d k n : Nat) (a g : List Int32) (G : Nat → Int32), k + d = c - 1 → d < n → a.length = 6 → g.length = 6 → (∀ j, j < c → lg g j = G j) → Gm_spills_89 n 1 dams (nI k) (mkY m a g) = some (mkY m (st2 dams G d k a) g) := by
  intro d
  induction d with
  | zero =>
    intro k n a g G hk hn ha hg hG
    obtain ⟨n, rfl⟩ : ∃ k, n = k + 1 := ⟨n - 1, by omega⟩
    rw [Gm_spills_89, mY_w, m_ix0 hw (x := 0) 0 rfl (by omega), bd_some, e0, nI_1, if_pos (nI_le (by omega) (by omega))]
    rfl
  | succ d ih =>
    intro k n a g G hk hn ha hg hG
    obtain ⟨n, rfl⟩ : ∃ k, n = k + 1 := ⟨n - 1, by omega⟩
    rw [Gm_spills_89, mY_w, m_ix0 hw (x := 0) 0 rfl (by omega), bd_some, e0, nI_1, if_neg (nI_ge (by omega) (by omega)), mY_a, mY_g, st2, Fm_has_eq, bd_some, ifz]
    by_cases cb : C_bit dams (nI k)
    · rw [if_pos cb, if_pos cb]
      exact ih (k + 1) n a g G (by omega) (by omega) ha hg hG
    · rw [if_neg cb, if_neg cb, ix_e (l := a) k rfl (by omega) (by omega), bd_some, ix_e (l := g) (k + 1) rfl (by omega) (by omega), bd_some, ix_e (l := g) k rfl (by omega) (by omega), bd_some]
      have g0 : g.getD k 0 = G k := hG k (by omega)
      have g1 : g.getD (k + 1) 0 = G (k + 1) := hG (k + 1) (by omega)
      rw [g0, g1, up_e (l := a) _ k rfl (by omega) (by omega), bd_some, ix_e (l := a.set k (a.getD k 0 + (G (k + 1) - G k))) (k + 1) rfl (by rw [List.length_set]; omega) (by omega), bd_some]
      simp only [bd_some]
      rw [up_e (l := a.set k (a.getD k 0 + (G (k + 1) - G k))) _ (k + 1) rfl (by rw [List.length_set]; omega) (by omega), bd_some, mYu_aa]
      exact ih (k + 1) n _ g G (by omega) (by omega) (by rw [List.length_set, List.length_set]; exact ha) hg hG
theorem M_go0 {m : WM} (hw : (a_m_w m).length = 596) {c : Nat} (hc : c ≤ 6) (hc1 : 1 ≤ c) (e0 : sl (a_m_w m) 0 0 = nI c) (dams : Int32) : ∀ (d k n : Nat) (a g : List Int32), k + d = c → d + 8 < n → a.length = 6 → g.length = 6 → (∀ j, j < k → lg g j = lg a j / 4) → ∃ g', g'.length = 6 ∧ Gm_spills_89 n 0 dams (nI k) (mkY m a g) = some (mkY m (sp1 c dams a) g') := by
  intro d
  induction d with
  | zero =>
    intro k n a g hk hn ha hg hG
    obtain ⟨n, rfl⟩ : ∃ k, n = k + 1 := ⟨n - 1, by omega⟩
    have : k = c := by omega
    subst this
    rw [Gm_spills_89, mY_w, m_ix0 hw (x := 0) 0 rfl (by omega), bd_some, e0, if_pos (Int32.le_refl _)]
    exact ⟨g, hg, M_go1 hw hc hc1 e0 dams (k - 1) 0 n a g (fun j => lg a j / 4) (by omega) (by omega) ha hg hG⟩
  | succ d ih =>
    intro k n a g hk hn ha hg hG
    obtain ⟨n, rfl⟩ : ∃ k, n = k + 1 := ⟨n - 1, by omega⟩
    rw [Gm_spills_89, mY_w, m_ix0 hw (x := 0) 0 rfl (by omega), bd_some, e0, if_neg (nI_ge (by omega) (by omega)), mY_a, mY_g, ix_e (l := a) k rfl (by omega) (by omega), bd_some, up_e (l := g) _ k rfl (by omega) (by omega), bd_some, nI_1, mYu_g]
    exact ih (k + 1) n a _ (by omega) (by omega) ha (by rw [List.length_set]; exact hg) (fun j hj => by
      show (g.set k (a.getD k 0 / 4)).getD j 0 = _
      rw [gD_set _ _ _ _ (by omega)]
      by_cases e : j = k
      · rw [if_pos e, e]
      · rw [if_neg e]; exact hG j (by omega))
theorem M_spills {m : WM} (hw : (a_m_w m).length = 596) {c n : Nat} (hn : 20 ≤ n) (hc : c ≤ 6) (hc1 : 1 ≤ c) (e0 : sl (a_m_w m) 0 0 = nI c) (dams : Int32) {a g : List Int32} (ha : a.length = 6) (hg : g.length = 6) : ∃ g', g'.length = 6 ∧ Fm_spills_89 n dams (mkY m a g) = some (mkY m (sp1 c dams a) g') := M_go0 hw hc hc1 e0 dams c 0 n a g (by omega) (by omega) ha hg (fun j hj => absurd hj (by omega))
/-- where a spill begins -/
def sp0 (k : Nat) (x : Int32) : List Int32 := (List.replicate 6 0).set k x
theorem sp0_len (k : Nat) (x : Int32) : (sp0 k x).length = 6 := by unfold sp0; rw [List.length_set]; rfl
theorem X_start {w : WX} {k n : Nat} (hn : 10 ≤ n) (hk : k < 6) (x : Int32) {a g : List Int32} (ha : a.length = 6) : Fspr_start_83 n (nI k) x (mkS w a g) = some (mkS w (sp0 k x) g) := by
  unfold Fspr_start_83
  rw [fill_84 0 (N := 6) (n := n) (by decide) (by omega) (w := mkS w a g) ha, bd_some, mSu_a, mS_a, up_e (l := List.replicate 6 0) x k rfl (by show k < (List.replicate 6 0).length; rw [List.length_replicate]; exact hk) (by omega), bd_some, mSu_a]
  rfl
theorem lsG {m : WM} {k : Nat} (hk : k < 6) (x : Int32) : ∀ (d i n : Nat) (a g : List Int32), i + d = 6 → d < n → a.length = 6 → ∃ a', a'.length = 6 ∧ (∀ j, j < 6 → lg a' j = if i ≤ j then (if j = k then x else 0) else lg a j) ∧ Gm_laySpill_89 n 0 (nI k) x (nI i) (mkY m a g) = some (mkY m a' g) := by
  intro d
  induction d with
  | zero =>
    intro i n a g hi hn ha
    obtain ⟨n, rfl⟩ : ∃ k, n = k + 1 := ⟨n - 1, by omega⟩
    rw [show i = 6 by omega, Gm_laySpill_89, if_pos (show (6 : Int32) ≤ nI 6 from Int32.le_refl _)]
    exact ⟨a, ha, fun j hj => by rw [if_neg (by omega)], rfl⟩
  | succ d ih =>
    intro i n a g hi hn ha
    obtain ⟨n, rfl⟩ : ∃ k, n = k + 1 := ⟨n - 1, by omega⟩
    have key : ∀ y : Int32, (y = if i = k then x else 0) → ∃ a', a'.length = 6 ∧ (∀ j, j < 6 → lg a' j = if i ≤ j then (if j = k then x else 0) else lg a j) ∧ Gm_laySpill_89 n 0 (nI k) x (nI (i + 1)) (mkY m (a.set i y) g) = some (mkY m a' g) := by
      intro y hy
      obtain ⟨a', h1, h2, h3⟩ := ih (i + 1) n (a.set i y) g (by omega) (by omega) (by rw [List.length_set]; exact ha)
      refine ⟨a', h1, fun j hj => ?_, h3⟩
      rw [h2 j hj]
      by_cases c : i + 1 ≤ j
      · rw [if_pos c, if_pos (show i ≤ j by omega)]
      · rw [if_neg c]
        show (a.set i y).getD j 0 = _
        rw [gD_set _ _ _ _ (by omega)]
        by_cases e : j = i
        · rw [if_pos e, if_pos (show i ≤ j by omega), hy, e]
        · rw [if_neg e, if_neg (show ¬ i ≤ j by omega)]
    rw [Gm_laySpill_89, if_neg (show ¬ (6 : Int32) ≤ nI i from nI_ge (b := 6) (by omega) (by decide)), mY_a, nI_1]
    by_cases e : i = k
    · rw [if_pos (by rw [e]), up_e (l := a) x i rfl (by omega) (by omega), bd_some, mYu_a]
      exact key x (by rw [if_pos e])
    · rw [if_neg (fun q => e ((nI_eq (by omega) (by omega)).mp q)), up_e (l := a) 0 i rfl (by omega) (by omega), bd_some, mYu_a]
      exact key 0 (by rw [if_neg e])
theorem l6_ext {a b : List Int32} (ha : a.length = 6) (hb : b.length = 6) (h : ∀ j, j < 6 → lg a j = lg b j) : a = b := by
  refine List.ext_getElem (by omega) (fun i h1 h2 => ?_)
  have := h i (by omega)
  rw [lg, lg, List.getD_eq_getElem?_getD, List.getD_eq_getElem?_getD, List.getElem?_eq_getElem h1, List.getElem?_eq_getElem h2] at this
  exact this
theorem M_laySpill {m : WM} {k n : Nat} (hn : 10 ≤ n) (hk : k < 6) (x : Int32) {a g : List Int32} (ha : a.length = 6) : Fm_laySpill_89 n (nI k) x (mkY m a g) = some (mkY m (sp0 k x) g) := by
  obtain ⟨a', h1, h2, h3⟩ := lsG (m := m) hk x 6 0 n a g (by omega) (by omega) ha
  have e : a' = sp0 k x := l6_ext h1 (sp0_len k x) (fun j hj => by
    rw [h2 j hj, if_pos (Nat.zero_le _)]
    unfold sp0 lg
    rw [gD_set _ _ _ _ (by rw [List.length_replicate]; exact hk)]
    by_cases q : j = k
    · rw [if_pos q, if_pos q]
    · rw [if_neg q, if_neg q, List.getD_eq_getElem?_getD, List.getElem?_replicate]
      split <;> rfl)
  rw [← e]
  exact h3
section C43
variable {w : WX} {m : WM}
theorem spill_step (h : R w m) {c ce : Nat} (hc : c ≤ 6) (hc1 : 1 ≤ c) (e0 : sl (a_m_w m) 0 0 = nI c) (hce : ce < 6) (x y : Int32) {hh : Nat} (hhh : hh ≤ 40) : ∀ (d k n : Nat) (a g g2 : List Int32), k + d = hh → d + 30 < n → a.length = 6 → g.length = 6 → g2.length = 6 → ∃ r w' m', Gf_spill_0 n 0 x y (nI hh) (nI ce) (nI k) (mkS w a g) = some (r, w') ∧ Gm_spill_89 n 0 x y (nI hh) (nI ce) (nI k) (mkY m a g2) = some (r, m') ∧ R w' m' := by
  have f0 : ∀ a g, a_s1_cells (mkS w a g) = nI c := fun a g => (h.s.k (k := 0) (by omega)).trans e0
  have f5 : ∀ a g, a_s1_dams (mkS w a g) = sl (a_m_w m) 0 5 := fun a g => h.s.k (k := 5) (by omega)
  intro d
  induction d with
  | zero =>
    intro k n a g g2 hk hn ha hg hg2
    obtain ⟨n, rfl⟩ : ∃ k, n = k + 1 := ⟨n - 1, by omega⟩
    have : k = hh := by omega
    subst this
    rw [Gf_spill_0, Gm_spill_89, if_pos (Int32.le_refl _), if_pos (Int32.le_refl _), mS_a, mY_a, ix_e (l := a) ce rfl (by omega) (by omega)]
    exact ⟨_, _, _, rfl, rfl, R_spill h ha hg ha hg2⟩
  | succ d ih =>
    intro k n a g g2 hk hn ha hg hg2
    obtain ⟨n, rfl⟩ : ∃ k, n = k + 1 := ⟨n - 1, by omega⟩
    obtain ⟨g', q1, q2⟩ := X_goOn1 (w := w) (n := n) (by omega) hc hc1 (sl (a_m_w m) 0 5) ha hg
    obtain ⟨g3, p1, p2⟩ := M_spills h.w (n := n) (by omega) hc hc1 e0 (sl (a_m_w m) 0 5) ha hg2
    have hw5 : ai_ix (a_m_w m) 5 = some (sl (a_m_w m) 0 5) := m_ix0 h.w (x := 5) 5 rfl (by omega)
    rw [Gf_spill_0, Gm_spill_89, if_neg (nI_ge (by omega) (by omega)), if_neg (nI_ge (by omega) (by omega)), f0, f5, q2, bd_some, mY_w, hw5, bd_some, p2, bd_some, nI_1]
    exact ih (k + 1) n _ g' g3 (by omega) (by omega) (by rw [sp1_len]; exact ha) q1 p1
theorem C_spill (h : R w m) (a b d e : Int32) : Ok (fun n => Ff_spill_0 n a b d e w) (fun n => Fm_spill_89 n a b d e m) := Ok.of 100 fun n hn => by
  obtain ⟨w2, m2, e1, e2, hR⟩ := R_bad h
  have f0 : a_s1_cells w = sl (a_m_w m) 0 0 := h.s.k (k := 0) (by omega)
  simp only [Ff_spill_0, Ff_isSpill_0, Fm_spill_89, hasCell_1, M_isCell h.w, Ff_within_eq, Fm_in_eq b (lo := 0) (hi := 999) 0 999 rfl rfl, Fm_in_eq d (lo := 0) (hi := 40) 0 40 rfl rfl, bd_some, ifz, e2, f0]
  by_cases c1 : C_cell (sl (a_m_w m) 0 0) a
  · simp only [if_pos c1]
    by_cases c2 : 0 ≤ b ∧ b ≤ 999
    · simp only [if_pos c2]
      by_cases c3 : 0 ≤ d ∧ d ≤ 40
      · simp only [if_pos c3, bd_some]
        rw [if_neg (show ¬ (1 : Int32) = 0 by decide), f0]
        by_cases c4 : C_cell (sl (a_m_w m) 0 0) e
        · simp only [if_pos c4]
          obtain ⟨i, hi, rfl⟩ := cell_N h.s.c0 (by decide) c1
          obtain ⟨j, hj, rfl⟩ := cell_N h.s.c0 (by decide) c4
          obtain ⟨hh, hhh, rfl⟩ := in0 40 rfl c3
          have h6 := h.s.c0
          have l1 : (a_spread_amounts w).length = 6 := h.2.2.2.2.2.2.2.1.2.2.2.1
          have l2 : (a_spread_gifts w).length = 6 := h.2.2.2.2.2.2.2.1.2.2.2.2.1
          have l3 : (a_m_there m).length = 6 := h.2.2.2.2.2.2.2.2.2.2.1
          have l4 : (a_m_gives m).length = 6 := h.2.2.2.2.2.2.2.2.2.2.2
          have hx := X_start (w := w) (n := n) (k := i) (by omega) (by have := h6.2.1; omega) b (a := a_spread_amounts w) (g := a_spread_gifts w) l1
          rw [mS_in] at hx
          have hm := M_laySpill (m := m) (n := n) (k := i) (by omega) (by have := h6.2.1; omega) b (a := a_m_there m) (g := a_m_gives m) l3
          rw [mY_in] at hm
          rw [hx, hm, bd_some, bd_some]
          exact spill_step h h6.2.1 h6.1 h6.2.2 (by have := h6.2.1; omega) (nI i) b hhh hh 0 n (sp0 i b) _ _ (by omega) (by omega) (sp0_len i b) l2 l4
        · simp only [if_neg c4]; rw [e1]; exact ⟨_, _, _, rfl, rfl, hR⟩
      · simp only [if_neg c3, bd_some]; rw [if_pos trivial, e1]; exact ⟨_, _, _, rfl, rfl, hR⟩
    · simp only [if_neg c2, bd_some]; rw [if_pos trivial, e1]; exact ⟨_, _, _, rfl, rfl, hR⟩
  · simp only [if_neg c1, bd_some]; rw [if_pos trivial, e1]; exact ⟨_, _, _, rfl, rfl, hR⟩
end C43
