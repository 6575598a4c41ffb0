/-! keeping a spill out -/
def inB (mk : Int32) (a : List Int32) : Nat → Nat → Bool
  | 0, _ => false
  | d + 1, i => if C_bit mk (nI i) then (if lg a i ≤ 0 then inB mk a d (i + 1) else true) else inB mk a d (i + 1)
theorem inB_none {mk : Int32} (a : List Int32) : ∀ (d i : Nat), (∀ k, i ≤ k → k < i + d → ¬ C_bit mk (nI k)) → inB mk a d i = false
  | 0, _, _ => rfl
  | d + 1, i, h => by
    rw [inB, if_neg (h i (by omega) (by omega))]
    exact inB_none a d (i + 1) (fun k h1 h2 => h k (by omega) (by omega))
theorem inB_cut {mk : Int32} (a : List Int32) (e : Nat) : ∀ (d i : Nat), (∀ k, i + d ≤ k → k < i + d + e → ¬ C_bit mk (nI k)) → inB mk a (d + e) i = inB mk a d i
  | 0, i, h => by
    rw [Nat.zero_add]
    exact inB_none a e i (fun k h1 h2 => h k (by omega) (by omega))
  | d + 1, i, h => by
    rw [show d + 1 + e = (d + e) + 1 by omega, inB, inB, inB_cut a e d (i + 1) (fun k h1 h2 => h k (by omega) (by omega))]
theorem X_isIn {w : WX} (mk : Int32) : ∀ (d i n : Nat) (a g : List Int32), i + d = 6 → d < n → a.length = 6 → Gspr_isIn_83 n 0 mk (nI i) (mkS w a g) = some (if inB mk a d i = true then 1 else 0, mkS w a g) := by
  intro d
  induction d with
  | zero =>
    intro i n a g hi hn ha
    obtain ⟨n, rfl⟩ : ∃ k, n = k + 1 := ⟨n - 1, by omega⟩
    rw [show i = 6 by omega, Gspr_isIn_83, if_pos (show (6 : Int32) ≤ nI 6 from Int32.le_refl _)]
    rfl
  | succ d ih =>
    intro i n a g hi hn ha
    obtain ⟨n, rfl⟩ : ∃ k, n = k + 1 := ⟨n - 1, by omega⟩
    rw [Gspr_isIn_83, if_neg (show ¬ (6 : Int32) ≤ nI i from nI_ge (b := 6) (by omega) (by decide)), mS_a, ix_e (l := a) (i := nI i) i rfl (by omega) (by omega), nI_1, inB]
    simp only [bd_some]
    by_cases cb : C_bit mk (nI i)
    · rw [if_pos cb, if_pos cb]
      by_cases z : a.getD i 0 ≤ 0
      · rw [if_pos z, if_pos z]
        exact ih (i + 1) n a g (by omega) (by omega) ha
      · rw [if_neg z, if_neg z]
        rfl
    · rw [if_neg cb, if_neg cb]
      exact ih (i + 1) n a g (by omega) (by omega) ha
theorem M_in {m : WM} (hw : (a_m_w m).length = 596) {c : Nat} (hc : c ≤ 6) (e0 : sl (a_m_w m) 0 0 = nI c) (x y hh mk ds t : Int32) : ∀ (d i n : Nat) (a g : List Int32), i + d = c → d < n → a.length = 6 → Gm_keepsOut_89 n 1 x y hh mk ds t (nI i) (mkY m a g) = if inB mk a d i = true then some (0, mkY m a g) else ai_bd (Fm_spills_89 (n - d - 1) ds (mkY m a g)) fun c658 => Gm_keepsOut_89 (n - d - 1) 0 x y hh mk ds (t + 1) 0 c658 := by
  intro d
  induction d with
  | zero =>
    intro i n a g hi hn ha
    obtain ⟨n, rfl⟩ : ∃ k, n = k + 1 := ⟨n - 1, by omega⟩
    have : i = c := by omega
    subst this
    rw [Gm_keepsOut_89, mY_w, m_ix0 hw (x := 0) 0 rfl (by omega), bd_some, e0, if_pos (Int32.le_refl _), if_neg (show ¬ inB mk a 0 i = true from Bool.false_ne_true)]
    rfl
  | succ d ih =>
    intro i n a g hi hn ha
    obtain ⟨n, rfl⟩ : ∃ k, n = k + 1 := ⟨n - 1, by omega⟩
    rw [Gm_keepsOut_89, mY_w, m_ix0 hw (x := 0) 0 rfl (by omega), bd_some, e0, if_neg (nI_ge (by omega) (by omega)), Fm_has_eq, mY_a, ix_e (l := a) (i := nI i) i rfl (by omega) (by omega), nI_1, inB, show n + 1 - (d + 1) - 1 = n - d - 1 by omega]
    simp only [bd_some, ifz]
    by_cases cb : C_bit mk (nI i)
    · rw [if_pos cb, if_pos cb]
      by_cases z : a.getD i 0 ≤ 0
      · rw [if_pos z, if_pos z]
        exact ih (i + 1) n a g (by omega) (by omega) ha
      · rw [if_neg z, if_neg z, if_pos rfl]
    · rw [if_neg cb, if_neg cb]
      exact ih (i + 1) n a g (by omega) (by omega) ha
/-- is it kept out, so many hours being left -/
def kO (c : Nat) (ds mk : Int32) : Nat → List Int32 → Bool
  | 0, a => if inB mk a c 0 = true then false else true
  | d + 1, a => if inB mk a c 0 = true then false else kO c ds mk d (sp1 c ds a)
theorem M_keepG {m : WM} (hw : (a_m_w m).length = 596) {c : Nat} (hc : c ≤ 6) (hc1 : 1 ≤ c) (e0 : sl (a_m_w m) 0 0 = nI c) (x y mk ds : Int32) {hh : Nat} (hhh : hh ≤ 40) : ∀ (d k n : Nat) (z : Int32) (a g : List Int32), k + d = hh → d * 8 + 40 < n → a.length = 6 → g.length = 6 → ∃ a' g', a'.length = 6 ∧ g'.length = 6 ∧ Gm_keepsOut_89 n 0 x y (nI hh) mk ds (nI k) z (mkY m a g) = some (if kO c ds mk d a = true then 1 else 0, mkY m a' g') := by
  intro d
  induction d with
  | zero =>
    intro k n z a g hk hn ha hg
    obtain ⟨n, rfl⟩ : ∃ k, n = k + 1 := ⟨n - 1, by omega⟩
    have hM := M_in hw hc e0 x y (nI hh) mk ds (nI k) c 0 n a g (by omega) (by omega) ha
    rw [nI_0] at hM
    rw [Gm_keepsOut_89, if_neg (nI_nlt (by omega) (by omega)), hM]
    by_cases b : inB mk a c 0 = true
    · rw [if_pos b]
      exact ⟨a, g, ha, hg, by rw [kO, if_pos b]; rfl⟩
    · rw [if_neg b]
      obtain ⟨g', q1, q2⟩ := M_spills hw (n := n - c - 1) (by omega) hc hc1 e0 ds ha hg
      obtain ⟨n', e⟩ : ∃ n', n - c - 1 = n' + 1 := ⟨n - c - 1 - 1, by omega⟩
      rw [q2, bd_some, e, Gm_keepsOut_89, nI_1, if_pos (nI_lt (by omega) (by omega))]
      exact ⟨sp1 c ds a, g', by rw [sp1_len]; exact ha, q1, by rw [kO, if_neg b]; rfl⟩
  | succ d ih =>
    intro k n z a g hk hn ha hg
    obtain ⟨n, rfl⟩ : ∃ k, n = k + 1 := ⟨n - 1, by omega⟩
    have hM := M_in hw hc e0 x y (nI hh) mk ds (nI k) c 0 n a g (by omega) (by omega) ha
    rw [nI_0] at hM
    rw [Gm_keepsOut_89, if_neg (nI_nlt (by omega) (by omega)), hM, kO]
    by_cases b : inB mk a c 0 = true
    · rw [if_pos b, if_pos b]
      exact ⟨a, g, ha, hg, rfl⟩
    · rw [if_neg b, if_neg b]
      obtain ⟨g', q1, q2⟩ := M_spills hw (n := n - c - 1) (by omega) hc hc1 e0 ds ha hg
      rw [q2, bd_some, nI_1]
      exact ih (k + 1) (n - c - 1) 0 _ g' (by omega) (by omega) (by rw [sp1_len]; exact ha) q1
theorem X_keepG {w : WX} {c : Nat} (hc : c ≤ 6) (hc1 : 1 ≤ c) (e0 : a_s1_cells w = nI c) (x y mk ds : Int32) (hb : ∀ k, c ≤ k → k < 6 → ¬ C_bit mk (nI k)) {hh : Nat} (hhh : hh ≤ 40) : ∀ (d k n : Nat) (a g : List Int32), k + d = hh → d + 40 < n → a.length = 6 → g.length = 6 → ∃ a' g', a'.length = 6 ∧ g'.length = 6 ∧ Gf_keepsOut_0 n 0 x y (nI hh) mk ds (nI k) (mkS w a g) = some (if kO c ds mk d a = true then 1 else 0, mkS w a' g') := by
  have hI : ∀ (n : Nat) (a g : List Int32), 7 ≤ n → a.length = 6 → Fspr_isIn_83 n mk (mkS w a g) = some (if inB mk a c 0 = true then 1 else 0, mkS w a g) := by
    intro n a g hn ha
    have cut := inB_cut (mk := mk) a (6 - c) c 0 (fun k h1 h2 => hb k (by omega) (by omega))
    rw [show c + (6 - c) = 6 by omega] at cut
    have := X_isIn (w := w) mk 6 0 n a g (by omega) (by omega) ha
    rw [cut, nI_0] at this
    exact this
  intro d
  induction d with
  | zero =>
    intro k n a g hk hn ha hg
    obtain ⟨n, rfl⟩ : ∃ k, n = k + 1 := ⟨n - 1, by omega⟩
    rw [Gf_keepsOut_0, if_pos (nI_le (by omega) (by omega)), hI n a g (by omega) ha, kO]
    simp only [bd_some, ifz]
    by_cases b : inB mk a c 0 = true
    · rw [if_pos b, if_pos b]
      exact ⟨a, g, ha, hg, rfl⟩
    · rw [if_neg b, if_neg b]
      exact ⟨a, g, ha, hg, rfl⟩
  | succ d ih =>
    intro k n a g hk hn ha hg
    obtain ⟨n, rfl⟩ : ∃ k, n = k + 1 := ⟨n - 1, by omega⟩
    rw [Gf_keepsOut_0, if_neg (nI_ge (by omega) (by omega)), hI n a g (by omega) ha, kO]
    simp only [bd_some, ifz]
    by_cases b : inB mk a c 0 = true
    · rw [if_pos b, if_pos b]
      exact ⟨a, g, ha, hg, rfl⟩
    · rw [if_neg b, if_neg b]
      obtain ⟨g', q1, q2⟩ := X_goOn1 (w := w) (n := n) (by omega) hc hc1 ds ha hg
      rw [mS_cells, e0, q2, bd_some, nI_1]
      exact ih (k + 1) n _ g' (by omega) (by omega) (by rw [sp1_len]; exact ha) q1
/-- the two ways of counting ones -/
theorem bc_dec : ∀ q : Fin 64, Fint_bitCount (nI q.val) = some ((((((0 + ((nI q.val >>> ((0 : Int32) &&& 31)) &&& 1)) + ((nI q.val >>> (((0 : Int32) + 1) &&& 31)) &&& 1)) + ((nI q.val >>> (((0 : Int32) + 1 + 1) &&& 31)) &&& 1)) + ((nI q.val >>> (((0 : Int32) + 1 + 1 + 1) &&& 31)) &&& 1)) + ((nI q.val >>> (((0 : Int32) + 1 + 1 + 1 + 1) &&& 31)) &&& 1)) + ((nI q.val >>> (((0 : Int32) + 1 + 1 + 1 + 1 + 1) &&& 31)) &&& 1)) := by decide +kernel
theorem ones_bc {q n : Nat} (hq : q < 64) (hn : 7 ≤ n) : Fm_ones n (nI q) = Fint_bitCount (nI q) := by
  obtain ⟨n, rfl⟩ : ∃ k, n = k + 1 + 1 + 1 + 1 + 1 + 1 + 1 := ⟨n - 7, by omega⟩
  have h := bc_dec ⟨q, hq⟩
  have h : Fint_bitCount (nI q) = _ := h
  rw [h]
  unfold Fm_ones
  rw [Gm_ones, if_neg (show ¬ (6 : Int32) ≤ 0 by decide), Gm_ones, if_neg (show ¬ (6 : Int32) ≤ 0 + 1 by decide), Gm_ones, if_neg (show ¬ (6 : Int32) ≤ 0 + 1 + 1 by decide), Gm_ones, if_neg (show ¬ (6 : Int32) ≤ 0 + 1 + 1 + 1 by decide), Gm_ones, if_neg (show ¬ (6 : Int32) ≤ 0 + 1 + 1 + 1 + 1 by decide), Gm_ones, if_neg (show ¬ (6 : Int32) ≤ 0 + 1 + 1 + 1 + 1 + 1 by decide), Gm_ones, if_pos (show (6 : Int32) ≤ 0 + 1 + 1 + 1 + 1 + 1 + 1 by decide)]
theorem bits_dec : ∀ (q : Fin 64) (k : Fin 6), q.val < 2 ^ k.val → ¬ C_bit (nI q.val) (nI k.val) := by decide +kernel
theorem pw_dec : ∀ c : Fin 7, 1 ≤ c.val → (1 : Int32) <<< ((nI c.val - 1) &&& 31) = nI (2 ^ (c.val - 1)) ∧ (1 : Int32) <<< (nI c.val &&& 31) - 1 = nI (2 ^ c.val - 1) ∧ 2 ^ c.val ≤ 64 ∧ 2 ^ (c.val - 1) ≤ 32 ∧ 1 ≤ 2 ^ c.val := by decide +kernel
section C44
variable {w : WX} {m : WM}
theorem keepOut_step (h : R w m) {c ce q hh p : Nat} (hc : c ≤ 6) (hc1 : 1 ≤ c) (e0 : sl (a_m_w m) 0 0 = nI c) (hce : ce < 6) (x : Int32) (hq : q < 64) (hb : ∀ k, c ≤ k → k < 6 → ¬ C_bit (nI q) (nI k)) (hhh : hh ≤ 40) (hp : (1 : Int32) <<< ((nI c - 1) &&& 31) = nI p) (hp2 : p ≤ 32) : ∀ (d k n : Nat) (be : Int32) (a g a2 g2 : List Int32), k + d = p → d + 500 < n → a.length = 6 → g.length = 6 → a2.length = 6 → g2.length = 6 → (be = -1 ∨ ∃ j, j < 64 ∧ be = nI j) → ∃ r w' m', Gf_keepOut_0 n 0 (nI ce) x (nI hh) (nI q) be (nI p) (nI k) (mkS w a g) = some (r, w') ∧ Gm_keepOut_89 n 0 (nI ce) x (nI hh) (nI q) be (nI k) (mkY m a2 g2) = some (r, m') ∧ R w' m' := by
  have f0 : a_s1_cells w = nI c := (h.s.k (k := 0) (by omega)).trans e0
  have f5 : ∀ a g, a_s1_dams (mkS w a g) = sl (a_m_w m) 0 5 := fun a g => h.s.k (k := 5) (by omega)
  have hw0 : ai_ix (a_m_w m) 0 = some (nI c) := by rw [m_ix0 h.w (x := 0) 0 rfl (by omega), e0]
  have hw5 : ai_ix (a_m_w m) 5 = some (sl (a_m_w m) 0 5) := m_ix0 h.w (x := 5) 5 rfl (by omega)
  have kx : ∀ (n : Nat) (ds : Int32) (a g : List Int32), 400 < n → a.length = 6 → g.length = 6 → ∃ a' g', a'.length = 6 ∧ g'.length = 6 ∧ Ff_keepsOut_0 n (nI ce) x (nI hh) (nI q) ds (mkS w a g) = some (if kO c ds (nI q) hh (sp0 ce x) = true then 1 else 0, mkS w a' g') := by
    intro n ds a g hn ha hg
    unfold Ff_keepsOut_0
    rw [X_start (by omega) hce x ha, bd_some]
    have := X_keepG (w := w) hc hc1 f0 (nI ce) x (nI q) ds hb hhh hh 0 n (sp0 ce x) g (by omega) (by omega) (sp0_len ce x) hg
    rw [nI_0] at this
    exact this
  have km : ∀ (n : Nat) (ds : Int32) (a g : List Int32), 400 < n → a.length = 6 → g.length = 6 → ∃ a' g', a'.length = 6 ∧ g'.length = 6 ∧ Fm_keepsOut_89 n (nI ce) x (nI hh) (nI q) ds (mkY m a g) = some (if kO c ds (nI q) hh (sp0 ce x) = true then 1 else 0, mkY m a' g') := by
    intro n ds a g hn ha hg
    unfold Fm_keepsOut_89
    rw [M_laySpill (by omega) hce x ha, bd_some]
    have := M_keepG h.w hc hc1 e0 (nI ce) x (nI q) ds hhh hh 0 n 0 (sp0 ce x) g (by omega) (by omega) (sp0_len ce x) hg
    rw [nI_0] at this
    exact this
  intro d
  induction d with
  | zero =>
    intro k n be a g a2 g2 hk hn ha hg ha2 hg2 hbe
    obtain ⟨n, rfl⟩ : ∃ k, n = k + 1 := ⟨n - 1, by omega⟩
    rw [Gf_keepOut_0, Gm_keepOut_89, if_pos (nI_le (by omega) (by omega)), mY_w, hw0, bd_some, hp, if_pos (nI_le (by omega) (by omega))]
    exact ⟨_, _, _, rfl, rfl, R_spill h ha hg ha2 hg2⟩
  | succ d ih =>
    intro k n be a g a2 g2 hk hn ha hg ha2 hg2 hbe
    obtain ⟨n, rfl⟩ : ∃ k, n = k + 1 := ⟨n - 1, by omega⟩
    rw [Gf_keepOut_0, Gm_keepOut_89, if_neg (nI_ge (by omega) (by omega)), mY_w, hw0, bd_some, hp, if_neg (nI_ge (by omega) (by omega)), hw5, bd_some, f5]
    have go : ∃ r w' m', (ai_bd (Ff_keepsOut_0 n (nI ce) x (nI hh) (nI q) (sl (a_m_w m) 0 5 ||| nI k) (mkS w a g)) fun c1667 => if c1667.1 = 0 then Gf_keepOut_0 n 0 (nI ce) x (nI hh) (nI q) be (nI p) (nI k + 1) c1667.2 else Gf_keepOut_0 n 0 (nI ce) x (nI hh) (nI q) (nI k) (nI p) (nI k + 1) c1667.2) = some (r, w') ∧ (ai_bd (Fm_keepsOut_89 n (nI ce) x (nI hh) (nI q) (sl (a_m_w m) 0 5 ||| nI k) (mkY m a2 g2)) fun c661 => if c661.1 = 0 then Gm_keepOut_89 n 0 (nI ce) x (nI hh) (nI q) be (nI k + 1) c661.2 else Gm_keepOut_89 n 0 (nI ce) x (nI hh) (nI q) (nI k) (nI k + 1) c661.2) = some (r, m') ∧ R w' m' := by
      obtain ⟨a', g', p1, p2, p3⟩ := kx n (sl (a_m_w m) 0 5 ||| nI k) a g (by omega) ha hg
      obtain ⟨a3, g3, q1, q2, q3⟩ := km n (sl (a_m_w m) 0 5 ||| nI k) a2 g2 (by omega) ha2 hg2
      rw [p3, q3]
      simp only [bd_some, ifz, nI_1]
      by_cases z : kO c (sl (a_m_w m) 0 5 ||| nI k) (nI q) hh (sp0 ce x) = true
      · rw [if_pos z, if_pos z]
        exact ih (k + 1) n (nI k) a' g' a3 g3 (by omega) (by omega) p1 p2 q1 q2 (Or.inr ⟨k, by omega, rfl⟩)
      · rw [if_neg z, if_neg z]
        exact ih (k + 1) n be a' g' a3 g3 (by omega) (by omega) p1 p2 q1 q2 hbe
    have go0 := ih (k + 1) n be a g a2 g2 (by omega) (by omega) ha hg ha2 hg2 hbe
    rw [← nI_1] at go0
    by_cases c1 : (nI k &&& sl (a_m_w m) 0 5) = 0
    · rw [if_pos c1, if_pos c1]
      by_cases b1 : be = -1
      · rw [if_pos b1, if_pos b1]
        exact go
      · rw [if_neg b1, if_neg b1]
        rcases hbe with b2 | ⟨j, hj, rfl⟩
        · exact absurd b2 b1
        rw [ones_bc (q := k) (n := n) (by omega) (by omega), ones_bc (q := j) (n := n) hj (by omega)]
        obtain ⟨u, eu⟩ : ∃ u, Fint_bitCount (nI k) = some u := ⟨_, rfl⟩
        obtain ⟨v, ev⟩ : ∃ v, Fint_bitCount (nI j) = some v := ⟨_, rfl⟩
        rw [eu, ev]
        simp only [bd_some]
        by_cases z : v ≤ u
        · rw [if_pos z, if_pos z]
          exact go0
        · rw [if_neg z, if_neg z]
          exact go
    · rw [if_neg c1, if_neg c1]
      by_cases b1 : be = -1
      · rw [if_pos b1]
        exact go0
      · rw [if_neg b1]
        obtain ⟨u, eu⟩ : ∃ u, Fint_bitCount (nI k) = some u := ⟨_, rfl⟩
        obtain ⟨v, ev⟩ : ∃ v, Fint_bitCount be = some v := ⟨_, rfl⟩
        rw [eu, ev]
        simp only [bd_some, ite_self]
        exact go0
theorem C_keepOut (h : R w m) (a b d e : Int32) : Ok (fun n => Ff_keepOut_0 n a b d e w) (fun n => Fm_keepOut_89 n a b d e m) := Ok.of 600 fun n hn => by
  obtain ⟨w2, m2, e1, e2, hR⟩ := R_bad h
  have f0 : a_s1_cells w = sl (a_m_w m) 0 0 := h.s.k (k := 0) (by omega)
  have hw0 : ai_ix (a_m_w m) 0 = some (sl (a_m_w m) 0 0) := m_ix0 h.w (x := 0) 0 rfl (by omega)
  have h6 := h.s.c0
  obtain ⟨g1, g2, g3, g4, g5⟩ := pw_dec ⟨Nn (sl (a_m_w m) 0 0), by have := h6.2.1; omega⟩ h6.1
  have q0 := h6.2.2
  simp only [← q0] at g1 g2
  have g1 : (1 : Int32) <<< ((sl (a_m_w m) 0 0 - 1) &&& 31) = nI (2 ^ (Nn (sl (a_m_w m) 0 0) - 1)) := g1
  have g2 : (1 : Int32) <<< (sl (a_m_w m) 0 0 &&& 31) - 1 = nI (2 ^ Nn (sl (a_m_w m) 0 0) - 1) := g2
  have g3 : 2 ^ Nn (sl (a_m_w m) 0 0) ≤ 64 := g3
  have g4 : 2 ^ (Nn (sl (a_m_w m) 0 0) - 1) ≤ 32 := g4
  have g5 : 1 ≤ 2 ^ Nn (sl (a_m_w m) 0 0) := g5
  simp only [Ff_keepOut_0, Ff_isSpill_0, Fm_keepOut_89, hasCell_1, M_isCell h.w, Ff_within_eq, Fm_in_eq b (lo := 0) (hi := 999) 0 999 rfl rfl, Fm_in_eq d (lo := 0) (hi := 40) 0 40 rfl rfl, bd_some, ifz, e2, f0, hw0, Fm_in_eq e (lo := 0) 0 (1 <<< (sl (a_m_w m) 0 0 &&& 31) - 1) rfl rfl]
  by_cases c1 : C_cell (sl (a_m_w m) 0 0) a
  · simp only [if_pos c1]
    by_cases c2 : 0 ≤ b ∧ b ≤ 999
    · simp only [if_pos c2]
      by_cases c3 : 0 ≤ d ∧ d ≤ 40
      · simp only [if_pos c3, bd_some]
        rw [if_neg (show ¬ (1 : Int32) = 0 by decide)]
        simp only [f0]
        by_cases c4 : 0 ≤ e ∧ e ≤ 1 <<< (sl (a_m_w m) 0 0 &&& 31) - 1
        · simp only [if_pos c4]
          obtain ⟨i, hi, rfl⟩ := cell_N h.s.c0 (by decide) c1
          obtain ⟨hh, hhh, rfl⟩ := in0 40 rfl c3
          obtain ⟨q, hq, rfl⟩ := in0 (2 ^ Nn (sl (a_m_w m) 0 0) - 1) (by rw [g2, nI_toInt (by omega)]) c4
          have l1 : (a_spread_amounts w).length = 6 := h.2.2.2.2.2.2.2.1.2.2.2.1
          have l2 : (a_spread_gifts w).length = 6 := h.2.2.2.2.2.2.2.1.2.2.2.2.1
          have l3 : (a_m_there m).length = 6 := h.2.2.2.2.2.2.2.2.2.2.1
          have l4 : (a_m_gives m).length = 6 := h.2.2.2.2.2.2.2.2.2.2.2
          have hb : ∀ k, Nn (sl (a_m_w m) 0 0) ≤ k → k < 6 → ¬ C_bit (nI q) (nI k) := fun k h1 h2 => bits_dec ⟨q, by omega⟩ ⟨k, h2⟩ (by
            have := Nat.pow_le_pow_right (n := 2) (by decide) h1
            show q < 2 ^ k
            omega)
          have := keepOut_step h h6.2.1 h6.1 h6.2.2 (ce := i) (by have := h6.2.1; omega) b (q := q) (by omega) hb hhh (p := 2 ^ (Nn (sl (a_m_w m) 0 0) - 1)) (by rw [← q0]; exact g1) g4 (2 ^ (Nn (sl (a_m_w m) 0 0) - 1)) 0 n (-1) (a_spread_amounts w) (a_spread_gifts w) (a_m_there m) (a_m_gives m) (by omega) (by omega) l1 l2 l3 l4 (Or.inl rfl)
          rw [mS_in, mY_in, nI_0] at this
          rw [g1]
          exact this
        · simp only [if_neg c4]; rw [e1]; exact ⟨_, _, _, rfl, rfl, hR⟩
      · simp only [if_neg c3, bd_some]; rw [if_pos trivial, e1]; exact ⟨_, _, _, rfl, rfl, hR⟩
    · simp only [if_neg c2, bd_some]; rw [if_pos trivial, e1]; exact ⟨_, _, _, rfl, rfl, hR⟩
  · simp only [if_neg c1, bd_some]; rw [if_pos trivial, e1]; exact ⟨_, _, _, rfl, rfl, hR⟩
end C44
