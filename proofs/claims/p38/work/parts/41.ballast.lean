/-! ballast for a layer, what holds, the best hour -/
def mB (P : Nat → Prop) [DecidablePred P] : Nat → Int32 → Int32
  | 0, a => a
  | k + 1, a => mB P k (if P k then nI k else a)
theorem mB_none {P : Nat → Prop} [DecidablePred P] : ∀ (k : Nat) (a : Int32), (∀ j, j < k → ¬ P j) → mB P k a = a
  | 0, _, _ => rfl
  | k + 1, a, h => by
    rw [mB, if_neg (h k (by omega))]
    exact mB_none k a (fun j hj => h j (by omega))
theorem mB_first {P : Nat → Prop} [DecidablePred P] {b : Nat} (hb : P b) (hl : ∀ j, j < b → ¬ P j) : ∀ (k : Nat) (a : Int32), b < k → mB P k a = nI b
  | 0, _, h => absurd h (by omega)
  | k + 1, a, h => by
    rw [mB]
    by_cases e : b = k
    · subst e
      rw [if_pos hb]
      exact mB_none b _ hl
    · exact mB_first hb hl k _ (by omega)
theorem mB_rng {P : Nat → Prop} [DecidablePred P] : ∀ (k : Nat) (a : Int32), mB P k a = a ∨ ∃ j, j < k ∧ mB P k a = nI j
  | 0, _ => Or.inl rfl
  | k + 1, a => by
    rw [mB]
    rcases mB_rng (P := P) k (if P k then nI k else a) with q | ⟨j, hj, q⟩
    · by_cases c : P k
      · rw [if_pos c] at q ⊢
        exact Or.inr ⟨k, by omega, q⟩
      · rw [if_neg c] at q ⊢
        exact Or.inl q
    · exact Or.inr ⟨j, by omega, q⟩
/-- the least ballast by which thing t rests in a layer -/
abbrev lB (f : Nat → Int32) (t c h : Nat) (L : Int32) : Int32 := mB (fun b => (fT f t c h (nI b) 0).1 = L) 100 (-1)
theorem X_least {W : WX} {f : Nat → Int32} (hs : RS W.2.1 W.2.2.1 W.2.2.2.1 f) {t c h : Nat} (ht : t < Nn (f 2)) (hc : c < 6) (hh : h < 2 ^ 31) (L : Int32) : ∀ (d b n : Nat) (fa : TF), b + d = 100 → d + 7 < n → (∀ j, j < b → ¬ (fT f t c h (nI j) 0).1 = L) → fa.2.2.2.2.2.2.2.length = 4 → ∃ fb : TF, fb.2.2.2.2.2.2.2.length = 4 ∧ Gf_leastBallast_0 n 0 (nI t) (nI c) L (nI h) (nI b) (mkX W fa) = some (lB f t c h L, mkX W fb) := by
  intro d
  induction d with
  | zero =>
    intro b n fa hb hn hl hp
    obtain ⟨n, rfl⟩ : ∃ k, n = k + 1 := ⟨n - 1, by omega⟩
    have : b = 100 := by omega
    subst this
    rw [Gf_leastBallast_0, if_pos (show (99 : Int32) < nI 100 by decide)]
    exact ⟨fa, hp, by unfold lB; rw [mB_none 100 _ hl]⟩
  | succ d ih =>
    intro b n fa hb hn hl hp
    obtain ⟨n, rfl⟩ : ∃ k, n = k + 1 := ⟨n - 1, by omega⟩
    rw [Gf_leastBallast_0, if_neg (show ¬ (99 : Int32) < nI b from nI_nlt (a := 99) (by omega) (by decide)), X_goB hs (n := n) (by omega) ht hc hh (nI b) hp, bd_some]
    rw [tT_la]
    by_cases q : (fT f t c h (nI b) 0).1 = L
    · unfold lB
      rw [if_pos q, mB_first (P := fun b => (fT f t c h (nI b) 0).1 = L) q hl 100 (-1) (by omega)]
      exact ⟨_, tT_len _ _ _ _ _ _, rfl⟩
    · rw [if_neg q, nI_1]
      exact ih (b + 1) n _ (by omega) (by omega) (fun j hj => by
        by_cases z : j = b
        · rw [z]; exact q
        · exact hl j (by omega)) (tT_len _ _ _ _ _ _)
theorem M_least {m : WM} (hw : (a_m_w m).length = 596) {f : Nat → Int32} (hf : sl (a_m_w m) 0 = f) {t c h : Nat} (hc : c < 6) (hh : h < 2 ^ 31) (hsk : ∀ i, i < 3 → isN (f (64 + i)) 0 99) (L : Int32) : ∀ (k n : Nat) (a lo i j p l o : Int32), k ≤ 100 → k + 7 < n → ∃ lo' i' j' p' l' o', Gm_leastFor_89 n 0 (nI c) L a (nI k - 1) (mkF (mkK m (f (67 + t)) (f (73 + t)) (f (79 + t)) lo (nI h) 0) i j p l o) = some (mB (fun b => (fT f t c h (nI b) 0).1 = L) k a, mkF (mkK m (f (67 + t)) (f (73 + t)) (f (79 + t)) lo' (nI h) 0) i' j' p' l' o') := by
  intro k
  induction k with
  | zero =>
    intro n a lo i j p l o hk hn
    obtain ⟨n, rfl⟩ : ∃ k, n = k + 1 := ⟨n - 1, by omega⟩
    rw [Gm_leastFor_89, if_pos (show nI 0 - 1 < 0 by decide)]
    exact ⟨_, _, _, _, _, _, rfl⟩
  | succ k ih =>
    intro n a lo i j p l o hk hn
    obtain ⟨n, rfl⟩ : ∃ k, n = k + 1 := ⟨n - 1, by omega⟩
    rw [nI_pred, Gm_leastFor_89, if_neg (nI_pos (by omega)), mKu_load, M_goT hw hf (n := n) (by omega) hc hh hsk, bd_some]
    have e : a_m_restsIn (mT m f t c h (nI k) 0) = (fT f t c h (nI k) 0).1 := mT_la _ _ _ _ _ _ _
    have e2 : nI k + (-1) = nI k - 1 := (Int32.sub_eq_add_neg (nI k) 1).symm
    rw [e, e2, mB]
    unfold mT
    by_cases q : (fT f t c h (nI k) 0).1 = L
    · rw [if_pos q, if_pos q]
      exact ih n (nI k) _ _ _ _ _ _ (by omega) (by omega)
    · rw [if_neg q, if_neg q]
      exact ih n a _ _ _ _ _ _ (by omega) (by omega)
abbrev C_ld (f : Nat → Int32) (a : Int32) : Prop := C_th (f 2) a ∧ (1 ≤ f (67 + Nn a) ∧ f (67 + Nn a) ≤ 3)
section C41
variable {w : WX} {m : WM}
theorem X_takes {f : Nat → Int32} (hs : RS w.2.1 w.2.2.1 w.2.2.2.1 f) (a : Int32) : Ff_takesBallast_0 a w = some (if C_ld f a then 1 else 0, w) := by
  have f2 : a_s1things_count w = f 2 := hs.k (k := 2) (by omega)
  unfold Ff_takesBallast_0
  rw [has_7, bd_some, f2]
  simp only [ifz]
  by_cases c1 : C_th (f 2) a
  · rw [if_pos c1]
    obtain ⟨t, ht, rfl⟩ := th_N hs.c2 (by decide) c1
    have h6 := hs.c2.2.1
    obtain ⟨k1, -⟩ := hs.th ht
    have l1 : (a_s1things_kinds w).length = 6 := LSe_kinds hs.1
    have hK : ai_ix (a_s1things_kinds w) (nI t) = some (f (67 + t)) := by rw [← k1]; exact ix_e (l := a_s1things_kinds w) t rfl (by omega) (by omega)
    have nt : Nn (nI t) = t := Nn_nI (by omega)
    rw [hK, bd_some, Ff_within_eq, bd_some, ifz]
    by_cases c2 : 1 ≤ f (67 + t) ∧ f (67 + t) ≤ 3
    · rw [if_pos c2, if_pos ⟨c1, by rw [nt]; exact c2⟩]
    · rw [if_neg c2, if_neg (fun q => c2 (by have := q.2; rw [nt] at this; exact this))]
  · rw [if_neg c1, if_neg (fun q => c1 q.1)]
theorem M_isLoaded {f : Nat → Int32} (hw : (a_m_w m).length = 596) (hf : sl (a_m_w m) 0 = f) (h2 : isN (f 2) 0 6) (a : Int32) : Fm_isLoaded_89 a m = some (if C_ld f a then 1 else 0, m) := by
  unfold Fm_isLoaded_89
  rw [M_isThing hw, bd_some, hf]
  simp only [ifz]
  by_cases c1 : C_th (f 2) a
  · rw [if_pos c1]
    obtain ⟨t, ht, rfl⟩ := th_N h2 (by decide) c1
    have h6 := h2.2.1
    have nt : Nn (nI t) = t := Nn_nI (by omega)
    rw [m_ix0 hw (x := 67 + nI t) (67 + t) (by rw [show (67 : Int32) = nI 67 from rfl, nI_add]) (by omega), bd_some, hf, Fm_in_eq (f (67 + t)) (lo := 1) (hi := 3) 1 3 rfl rfl, bd_some, ifz]
    by_cases c2 : 1 ≤ f (67 + t) ∧ f (67 + t) ≤ 3
    · rw [if_pos c2, if_pos ⟨c1, by rw [nt]; exact c2⟩]
    · rw [if_neg c2, if_neg (fun q => c2 (by have := q.2; rw [nt] at this; exact this))]
  · rw [if_neg c1, if_neg (fun q => c1 q.1)]
theorem C_sink (h : R w m) (a b d : Int32) : Ok (fun n => Ff_sink_0 n a b d w) (fun n => Fm_sink_89 n a b d m) := Ok.of 200 fun n hn => by
  obtain ⟨w2, m2, e1, e2, hR⟩ := R_badAs h (-10)
  have f0 : a_s1_cells w = sl (a_m_w m) 0 0 := h.s.k (k := 0) (by omega)
  have f1 : a_s1_hour w = sl (a_m_w m) 0 1 := h.s.k (k := 1) (by omega)
  simp only [Ff_sink_0, Fm_sink_89, X_takes h.s, M_isLoaded h.w rfl h.s.c2, hasCell_1, M_isCell h.w, Ff_within_eq, Fm_in_eq d (lo := 0) (hi := 4) 0 4 rfl rfl, bd_some, ifz, e1, e2, f0, f1]
  by_cases c1 : C_ld (sl (a_m_w m) 0) a
  · simp only [if_pos c1]
    by_cases c2 : C_cell (sl (a_m_w m) 0 0) b
    · simp only [if_pos c2]
      by_cases c3 : 0 ≤ d ∧ d ≤ 4
      · simp only [if_pos c3]
        obtain ⟨t, ht, rfl⟩ := th_N h.s.c2 (by decide) c1.1
        obtain ⟨c, hc, rfl⟩ := cell_N h.s.c0 (by decide) c2
        have h6 := h.s.c2.2.1
        have h7 := h.s.c0.2.1
        have q1 := h.s.c1.2.2
        have q2 := h.s.c1.2.1
        obtain ⟨fb, hb, hx⟩ := X_least h.s (t := t) (c := c) (h := Nn (sl (a_m_w m) 0 1)) ht (by omega) (by omega) d 100 0 n w.2.2.2.2.2.2.2.2.2.2.2.2.2.2.1 (by omega) (by omega) (fun j hj => absurd hj (by omega)) h.pt
        rw [mX_in, ← q1] at hx
        have hx : Ff_leastBallast_0 n (nI t) (nI c) d (sl (a_m_w m) 0 1) w = some (lB (sl (a_m_w m) 0) t c (Nn (sl (a_m_w m) 0 1)) d, mkX w fb) := hx
        obtain ⟨lo', i', j', p', l', o', hm⟩ := M_least h.w rfl (t := t) (c := c) (h := Nn (sl (a_m_w m) 0 1)) (by omega) (by omega) h.sk d 100 n (-1) (sl (a_m_w m) 0 (85 + t)) (a_m_restsIn m) (a_m_down m) (a_m_broken m) (a_m_passes m) (a_m_stops m) (by omega) (by omega)
        rw [← q1] at hm
        have hm : Fm_leastFor_89 n (nI c) d (mkF (mkK m (sl (a_m_w m) 0 (67 + t)) (sl (a_m_w m) 0 (73 + t)) (sl (a_m_w m) 0 (79 + t)) (sl (a_m_w m) 0 (85 + t)) (sl (a_m_w m) 0 1) 0) (a_m_restsIn m) (a_m_down m) (a_m_broken m) (a_m_passes m) (a_m_stops m)) = some (lB (sl (a_m_w m) 0) t c (Nn (sl (a_m_w m) 0 1)) d, mkF (mkK m (sl (a_m_w m) 0 (67 + t)) (sl (a_m_w m) 0 (73 + t)) (sl (a_m_w m) 0 (79 + t)) lo' (sl (a_m_w m) 0 1) 0) i' j' p' l' o') := hm
        rw [hx, M_lay h.w rfl (by omega)]
        simp only [bd_some]
        rw [hm]
        simp only [bd_some]
        exact ⟨_, _, _, rfl, rfl, R_fall h hb _ _ _ _ _ _ _ _ _ _ _⟩
      · simp only [if_neg c3]; exact ⟨_, _, _, rfl, rfl, hR⟩
    · simp only [if_neg c2]; exact ⟨_, _, _, rfl, rfl, hR⟩
  · simp only [if_neg c1]; exact ⟨_, _, _, rfl, rfl, hR⟩
theorem C_holds (h : R w m) (a b : Int32) : Ok (fun n => Ff_holds_0 n a b w) (fun n => Fm_holds_89 n a b m) := Ok.of 20 fun n hn => by
  obtain ⟨w2, m2, e1, e2, hR⟩ := R_badAs h (-10)
  have f0 : a_s1_cells w = sl (a_m_w m) 0 0 := h.s.k (k := 0) (by omega)
  have f1 : a_s1_hour w = sl (a_m_w m) 0 1 := h.s.k (k := 1) (by omega)
  simp only [Ff_holds_0, Fm_holds_89, X_takes h.s, M_isLoaded h.w rfl h.s.c2, hasCell_1, M_isCell h.w, bd_some, ifz, e1, e2, f0, f1]
  by_cases c1 : C_ld (sl (a_m_w m) 0) a
  · simp only [if_pos c1]
    by_cases c2 : C_cell (sl (a_m_w m) 0 0) b
    · simp only [if_pos c2]
      obtain ⟨t, ht, rfl⟩ := th_N h.s.c2 (by decide) c1.1
      obtain ⟨c, hc, rfl⟩ := cell_N h.s.c0 (by decide) c2
      have h6 := h.s.c2.2.1
      have h7 := h.s.c0.2.1
      have q1 := h.s.c1.2.2
      have q2 := h.s.c1.2.1
      have hx := X_goB h.s (n := n) (t := t) (c := c) (h := Nn (sl (a_m_w m) 0 1)) (by omega) ht (by omega) (by omega) 99 (fa := w.2.2.2.2.2.2.2.2.2.2.2.2.2.2.1) h.pt
      rw [mX_in, ← q1] at hx
      rw [hx, M_lay h.w rfl (by omega)]
      simp only [bd_some]
      rw [mKu_load]
      have hm := M_goT h.w rfl (n := n) (t := t) (c := c) (h := Nn (sl (a_m_w m) 0 1)) (by omega) (by omega) (by omega) h.sk 99 0 (a_m_restsIn m) (a_m_down m) (a_m_broken m) (a_m_passes m) (a_m_stops m)
      rw [← q1] at hm
      rw [hm]
      simp only [bd_some, tT_st, mT_st]
      exact ⟨_, _, _, rfl, rfl, R_falT h (tT_len _ _ _ _ _ _) _ _ _ _ _ _⟩
    · simp only [if_neg c2]; exact ⟨_, _, _, rfl, rfl, hR⟩
  · simp only [if_neg c1]; exact ⟨_, _, _, rfl, rfl, hR⟩
/-- the best hour, both loops in step -/
theorem best_step (h : R w m) {t c : Nat} (ht : t < Nn (sl (a_m_w m) 0 2)) (hc : c < 6) (a b L : Int32) : ∀ (d k n : Nat) (be xl ml : Int32) (fa : TF) (lo ho i j p l o : Int32), k + d = 6 → d + 150 < n → fa.2.2.2.2.2.2.2.length = 4 → ((xl = 100 ∧ ml = 1000000) ∨ (xl = ml ∧ ∃ z, z < 100 ∧ xl = nI z)) → ∃ r w' m', Gf_bestHour_0 n 0 (nI t) (nI c) L be xl (nI k) (mkX w fa) = some (r, w') ∧ Gm_bestHour_89 n 0 (nI t) (nI c) L be ml (nI k) (mkF (mkK m (sl (a_m_w m) 0 (67 + t)) (sl (a_m_w m) 0 (73 + t)) (sl (a_m_w m) 0 (79 + t)) lo ho 0) i j p l o) = some (r, m') ∧ R w' m' := by
  have h6 := h.s.c2.2.1
  have q1 := h.s.c1.2.2
  have q2 := h.s.c1.2.1
  have f1 : ∀ fa, a_s1_hour (mkX w fa) = sl (a_m_w m) 0 1 := fun fa => h.s.k (k := 1) (by omega)
  intro d
  induction d with
  | zero =>
    intro k n be xl ml fa lo ho i j p l o hk hn hp hq
    obtain ⟨n, rfl⟩ : ∃ k, n = k + 1 := ⟨n - 1, by omega⟩
    have : k = 6 := by omega
    subst this
    rw [Gf_bestHour_0, Gm_bestHour_89, if_pos (show (6 : Int32) ≤ nI 6 from Int32.le_refl _), if_pos (show (6 : Int32) ≤ nI 6 from Int32.le_refl _)]
    exact ⟨_, _, _, rfl, rfl, R_fall h hp _ _ _ _ _ _ _ _ _ _ _⟩
  | succ d ih =>
    intro k n be xl ml fa lo ho i j p l o hk hn hp hq
    obtain ⟨n, rfl⟩ : ∃ k, n = k + 1 := ⟨n - 1, by omega⟩
    have hk6 : ¬ (6 : Int32) ≤ nI k := nI_ge (b := 6) (by omega) (by decide)
    have s1 : sl (a_m_w m) 0 1 + nI k = nI (Nn (sl (a_m_w m) 0 1) + k) := by
      have : sl (a_m_w m) 0 1 + nI k = nI (Nn (sl (a_m_w m) 0 1)) + nI k := by rw [← q1]
      rw [this, nI_add]
    obtain ⟨fb, hb, hx⟩ := X_least h.s (t := t) (c := c) (h := Nn (sl (a_m_w m) 0 1) + k) ht hc (by omega) L 100 0 n fa (by omega) (by omega) (fun j hj => absurd hj (by omega)) hp
    have hx : Ff_leastBallast_0 n (nI t) (nI c) L (nI (Nn (sl (a_m_w m) 0 1) + k)) (mkX w fa) = some (lB (sl (a_m_w m) 0) t c (Nn (sl (a_m_w m) 0 1) + k) L, mkX w fb) := hx
    obtain ⟨lo', i', j', p', l', o', hm⟩ := M_least h.w rfl (t := t) (c := c) (h := Nn (sl (a_m_w m) 0 1) + k) hc (by omega) h.sk L 100 n (-1) lo i j p l o (by omega) (by omega)
    have hm : Fm_leastFor_89 n (nI c) L (mkF (mkK m (sl (a_m_w m) 0 (67 + t)) (sl (a_m_w m) 0 (73 + t)) (sl (a_m_w m) 0 (79 + t)) lo (nI (Nn (sl (a_m_w m) 0 1) + k)) 0) i j p l o) = some (lB (sl (a_m_w m) 0) t c (Nn (sl (a_m_w m) 0 1) + k) L, mkF (mkK m (sl (a_m_w m) 0 (67 + t)) (sl (a_m_w m) 0 (73 + t)) (sl (a_m_w m) 0 (79 + t)) lo' (nI (Nn (sl (a_m_w m) 0 1) + k)) 0) i' j' p' l' o') := hm
    have hw1 : ai_ix (a_m_w m) 1 = some (sl (a_m_w m) 0 1) := m_ix0 h.w (x := 1) 1 rfl (by omega)
    rw [Gf_bestHour_0, Gm_bestHour_89, if_neg hk6, if_neg hk6, f1, s1, hx, mFK_w, hw1]
    simp only [bd_some]
    rw [s1, mKu_hour, hm]
    simp only [bd_some, nI_1]
    have rng : lB (sl (a_m_w m) 0) t c (Nn (sl (a_m_w m) 0 1) + k) L = -1 ∨ ∃ j, j < 100 ∧ lB (sl (a_m_w m) 0) t c (Nn (sl (a_m_w m) 0 1) + k) L = nI j := mB_rng (P := fun b => (fT (sl (a_m_w m) 0) t c (Nn (sl (a_m_w m) 0 1) + k) (nI b) 0).1 = L) 100 (-1)
    generalize hz : lB (sl (a_m_w m) 0) t c (Nn (sl (a_m_w m) 0 1) + k) L = z at *
    rcases rng with rng | ⟨y, hy, rng⟩
    · have z1 : z = -1 := rng
      rw [if_pos z1, if_pos (show z < 0 by rw [z1]; decide), if_pos (show z < 0 by rw [z1]; decide)]
      exact ih (k + 1) n be xl ml fb _ _ _ _ _ _ _ (by omega) (by omega) hb hq
    · have z1 : z = nI y := rng
      have zn : ¬ z < 0 := by rw [z1]; exact nI_pos (by omega)
      have zm : ¬ z = -1 := fun e => zn (by rw [e]; decide)
      rw [if_neg zm, if_neg zn, if_neg zn, if_neg zn]
      rcases hq with ⟨x1, x2⟩ | ⟨x1, u, hu, x2⟩
      · have a1 : ¬ xl ≤ z := by rw [x1, z1]; exact nI_ge (b := 100) (by omega) (by decide)
        have a2 : ¬ ml ≤ z := by rw [x2, z1]; exact nI_ge (b := 1000000) (by omega) (by decide)
        simp only [if_neg a1, if_neg a2]
        exact ih (k + 1) n (nI k) z z fb _ _ _ _ _ _ _ (by omega) (by omega) hb (Or.inr ⟨rfl, y, by omega, z1⟩)
      · subst x1
        by_cases a1 : xl ≤ z
        · simp only [if_pos a1]
          exact ih (k + 1) n be xl xl fb _ _ _ _ _ _ _ (by omega) (by omega) hb (Or.inr ⟨rfl, u, hu, x2⟩)
        · simp only [if_neg a1]
          exact ih (k + 1) n (nI k) z z fb _ _ _ _ _ _ _ (by omega) (by omega) hb (Or.inr ⟨rfl, y, by omega, z1⟩)
theorem C_bestHour (h : R w m) (a b d : Int32) : Ok (fun n => Ff_bestHour_0 n a b d w) (fun n => Fm_bestHour_89 n a b d m) := Ok.of 300 fun n hn => by
  obtain ⟨w2, m2, e1, e2, hR⟩ := R_badAs h (-10)
  have f0 : a_s1_cells w = sl (a_m_w m) 0 0 := h.s.k (k := 0) (by omega)
  simp only [Ff_bestHour_0, Fm_bestHour_89, X_takes h.s, M_isLoaded h.w rfl h.s.c2, hasCell_1, M_isCell h.w, Ff_within_eq, Fm_in_eq d (lo := 0) (hi := 4) 0 4 rfl rfl, bd_some, ifz, e1, e2, f0]
  by_cases c1 : C_ld (sl (a_m_w m) 0) a
  · simp only [if_pos c1]
    by_cases c2 : C_cell (sl (a_m_w m) 0 0) b
    · simp only [if_pos c2]
      by_cases c3 : 0 ≤ d ∧ d ≤ 4
      · simp only [if_pos c3]
        obtain ⟨t, ht, rfl⟩ := th_N h.s.c2 (by decide) c1.1
        obtain ⟨c, hc, rfl⟩ := cell_N h.s.c0 (by decide) c2
        have h6 := h.s.c2.2.1
        have h7 := h.s.c0.2.1
        rw [M_lay h.w rfl (by omega)]
        simp only [bd_some]
        have := best_step h ht (c := c) (by omega) (nI t) (nI c) d 6 0 n (-1) 100 1000000 w.2.2.2.2.2.2.2.2.2.2.2.2.2.2.1 (sl (a_m_w m) 0 (85 + t)) (sl (a_m_w m) 0 1) (a_m_restsIn m) (a_m_down m) (a_m_broken m) (a_m_passes m) (a_m_stops m) (by omega) (by omega) h.pt (Or.inl ⟨rfl, rfl⟩)
        rw [mX_in] at this
        exact this
      · simp only [if_neg c3]; exact ⟨_, _, _, rfl, rfl, hR⟩
    · simp only [if_neg c2]; exact ⟨_, _, _, rfl, rfl, hR⟩
  · simp only [if_neg c1]; exact ⟨_, _, _, rfl, rfl, hR⟩
end C41
