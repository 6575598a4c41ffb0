/-! the soonest way: both come to an end -/
theorem RS.li2 {s : TS} {t : TT} {l : TL} {f : Nat → Int32} (h : RS s t l f) {i : Nat} (hi : i < Nn (f 3)) : plc (Nn (f 0)) (f (91 + i)) ∧ plc (Nn (f 0)) (f (101 + i)) ∧ isN (f (111 + i)) 1 9 := by
  have h3 := h.c3.2.1
  have g : ∀ k, 91 ≤ k → k < 121 → (k - 91) % 10 = i → okv (Nn (f 0)) k (f k) := fun k h1 h2 e => h.2.2 k (by omega) (Or.inr (Or.inr (Or.inl ⟨h1, h2, by omega⟩)))
  refine ⟨?_, ?_, ?_⟩
  · have := g (91 + i) (by omega) (by omega) (by omega)
    rw [okv_r91 _ _ (by omega) (by omega)] at this
    exact this
  · have := g (101 + i) (by omega) (by omega) (by omega)
    rw [okv_r91 _ _ (by omega) (by omega)] at this
    exact this
  · have := g (111 + i) (by omega) (by omega) (by omega)
    rw [okv_r111 _ _ (by omega) (by omega)] at this
    exact this
section C58
variable {w : WX} {m : WM} {f : Nat → Int32}
theorem uW_W (w : WX) (l k : List Int32) : u_ways_reached (u_ways_reached w l) k = u_ways_reached w k := by dsimp only [u_ways_reached]
theorem aW_W (w : WX) (l : List Int32) : a_ways_reached (u_ways_reached w l) = l := by dsimp only [a_ways_reached, u_ways_reached]
theorem uW_in (w : WX) : u_ways_reached w (a_ways_reached w) = w := by dsimp only [a_ways_reached, u_ways_reached]
theorem X_fillW (w : WX) (x : Int32) : ∀ (d i n : Nat) (l : List Int32), i + d = 24 → d < n → l.length = 24 → ∃ l', l'.length = 24 ∧ Garr_fill_87 n 0 x (nI i) (nI 24) (u_ways_reached w l) = some (u_ways_reached w l') := by
  intro d
  induction d with
  | zero =>
    intro i n l hi hn hl
    obtain ⟨n, rfl⟩ : ∃ k, n = k + 1 := ⟨n - 1, by omega⟩
    rw [Garr_fill_87, if_pos (nI_le (by omega) (by omega))]
    exact ⟨l, hl, rfl⟩
  | succ d ih =>
    intro i n l hi hn hl
    obtain ⟨n, rfl⟩ : ∃ k, n = k + 1 := ⟨n - 1, by omega⟩
    rw [Garr_fill_87, if_neg (nI_ge (by omega) (by omega)), aW_W, up_e (l := l) (i := nI i) x i rfl (by omega) (by omega), bd_some, uW_W, nI_1]
    exact ih (i + 1) n _ (by omega) (by omega) (by rw [List.length_set]; exact hl)
theorem X_join (w : WX) {i j : Nat} (hi : i < 24) (hj : j < 24) (t : Int32) {l : List Int32} (hl : l.length = 24) : ∃ l', l'.length = 24 ∧ Fway_join_86 (nI i) (nI j) t (u_ways_reached w l) = some (u_ways_reached w l') := by
  unfold Fway_join_86
  rw [aW_W, ix_e (l := l) (i := nI i) i rfl (by omega) (by omega), bd_some, ix_e (l := l) (i := nI j) j rfl (by omega) (by omega), bd_some]
  generalize (if l.getD j 0 + t < l.getD i 0 then l.getD j 0 + t else l.getD i 0) = y
  have l2 : (l.set i y).length = 24 := by rw [List.length_set]; exact hl
  rw [up_e (l := l) (i := nI i) y i rfl (by omega) (by omega), bd_some, ix_e (l := l.set i y) (i := nI j) j rfl (by omega) (by omega), bd_some, ix_e (l := l.set i y) (i := nI i) i rfl (by omega) (by omega), bd_some]
  rw [up_e (l := l.set i y) (i := nI j) _ j rfl (by omega) (by omega), bd_some, uW_W, uW_W]
  exact ⟨_, by rw [List.length_set]; exact l2, rfl⟩
theorem X_num {c : Nat} {x : Int32} (h : plc c x) (hc : c ≤ 6) : ∃ i, i < 24 ∧ Fway_numberOf x = some (nI i) := by
  obtain ⟨d1, d2, d3, d4⟩ := plc_div h hc
  unfold Fway_numberOf
  rw [d2, d1, show (4 : Int32) = nI 4 from rfl, pk_mul, nI_add]
  exact ⟨_, by omega, rfl⟩
theorem X_lifts (hs : RS w.2.1 w.2.2.1 w.2.2.2.1 f) : ∀ (d i n : Nat) (l : List Int32), i + d = Nn (f 3) → d < n → l.length = 24 → ∃ l', l'.length = 24 ∧ Gway_goByLifts_86_1 n 0 (nI i) (u_ways_reached w l) = some (u_ways_reached w l') := by
  have h6 := hs.c3.2.1
  have h7 := hs.c0.2.1
  have e3 : ∀ l, a_s1lifts_count (u_ways_reached w l) = nI (Nn (f 3)) := fun l => (hs.k (k := 3) (by omega)).trans hs.c3.2.2
  have l1 : (a_s1lifts_froms w).length = 10 := LSe_froms hs.1
  have l2 : (a_s1lifts_tos w).length = 10 := LSe_tos hs.1
  have l3 : (a_s1lifts_times w).length = 10 := LSe_times hs.1
  intro d
  induction d with
  | zero =>
    intro i n l hi hn hl
    obtain ⟨n, rfl⟩ : ∃ k, n = k + 1 := ⟨n - 1, by omega⟩
    rw [Gway_goByLifts_86_1, e3, if_pos (nI_le (by omega) (by omega))]
    exact ⟨l, hl, rfl⟩
  | succ d ih =>
    intro i n l hi hn hl
    obtain ⟨n, rfl⟩ : ∃ k, n = k + 1 := ⟨n - 1, by omega⟩
    obtain ⟨t1, t2, t3⟩ := hs.li (i := i) (by omega)
    obtain ⟨p1, p2, p3⟩ := hs.li2 (i := i) (by omega)
    have g1 : ∀ l, ai_ix (a_s1lifts_froms (u_ways_reached w l)) (nI i) = some (f (91 + i)) := fun l => by rw [← t1]; exact ix_e (l := a_s1lifts_froms w) i rfl (by omega) (by omega)
    have g2 : ∀ l, ai_ix (a_s1lifts_tos (u_ways_reached w l)) (nI i) = some (f (101 + i)) := fun l => by rw [← t2]; exact ix_e (l := a_s1lifts_tos w) i rfl (by omega) (by omega)
    have g3 : ∀ l, ai_ix (a_s1lifts_times (u_ways_reached w l)) (nI i) = some (f (111 + i)) := fun l => by rw [← t3]; exact ix_e (l := a_s1lifts_times w) i rfl (by omega) (by omega)
    obtain ⟨a, ha, ea⟩ := X_num p1 h7
    obtain ⟨b, hb, eb⟩ := X_num p2 h7
    obtain ⟨l', hl', ej⟩ := X_join w ha hb (f (111 + i)) hl
    rw [Gway_goByLifts_86_1, e3, if_neg (nI_ge (by omega) (by omega)), g1, bd_some, ea, bd_some, g2, bd_some, eb, bd_some, g3, bd_some, ej, bd_some, nI_1]
    exact ih (i + 1) n l' (by omega) (by omega) hl'
theorem X_bes1 (hs : RS w.2.1 w.2.2.1 w.2.2.2.1 f) {c : Nat} (hc : c + 1 < Nn (f 0)) : ∀ (d y n : Nat) (l : List Int32), y + d = 4 → d < n → l.length = 24 → ∃ n' l', n - d - 1 ≤ n' ∧ l'.length = 24 ∧ Gway_goBeside_86_1 n 1 (nI c) (nI y) (u_ways_reached w l) = Gway_goBeside_86_1 n' 0 (nI (c + 1)) 0 (u_ways_reached w l') := by
  have h7 := hs.c0.2.1
  have h8 := hs.c1.2.1
  have e1 : ∀ l, a_s1_hour (u_ways_reached w l) = nI (Nn (f 1)) := fun l => (hs.k (k := 1) (by omega)).trans hs.c1.2.2
  intro d
  induction d with
  | zero =>
    intro y n l hy hn hl
    obtain ⟨n, rfl⟩ : ∃ k, n = k + 1 := ⟨n - 1, by omega⟩
    rw [show y = 4 by omega, Gway_goBeside_86_1, if_pos (show (4 : Int32) ≤ nI 4 by decide), nI_1]
    exact ⟨n, l, by omega, hl, rfl⟩
  | succ d ih =>
    intro y n l hy hn hl
    obtain ⟨n, rfl⟩ : ∃ k, n = k + 1 := ⟨n - 1, by omega⟩
    have hx : ∀ l c, c < 6 → Fsea_thickAt_1 (nI y) (nI c) (nI (Nn (f 1))) (u_ways_reached w l) = some (Tk f y c (Nn (f 1)), u_ways_reached w l) := fun l c hc => X_thickAt (W := u_ways_reached w l) (f := f) hs (by omega) hc (by omega)
    have ei : nI c * 4 + nI y = nI (c * 4 + y) := by rw [show (4 : Int32) = nI 4 from rfl, pk_mul, nI_add]
    have ej : nI (c + 1) * 4 + nI y = nI ((c + 1) * 4 + y) := by rw [show (4 : Int32) = nI 4 from rfl, pk_mul, nI_add]
    obtain ⟨l', hl', ejn⟩ := X_join w (i := c * 4 + y) (j := (c + 1) * 4 + y) (by omega) (by omega) 3 hl
    rw [Gway_goBeside_86_1, if_neg (show ¬ (4 : Int32) ≤ nI y from nI_ge (b := 4) (by omega) (by decide)), e1, hx l c (by omega)]
    simp only [bd_some]
    rw [nI_1, nI_1, e1, hx l (c + 1) (by omega)]
    simp only [bd_some]
    rw [ei, ej, ejn, bd_some]
    by_cases k1 : Tk f y c (Nn (f 1)) ≤ 0
    · rw [if_pos k1]
      obtain ⟨n', l2, a1, a2, a3⟩ := ih (y + 1) n l (by omega) (by omega) hl
      exact ⟨n', l2, by omega, a2, a3⟩
    · rw [if_neg k1]
      by_cases k2 : Tk f y (c + 1) (Nn (f 1)) ≤ 0
      · rw [if_pos k2]
        obtain ⟨n', l2, a1, a2, a3⟩ := ih (y + 1) n l (by omega) (by omega) hl
        exact ⟨n', l2, by omega, a2, a3⟩
      · rw [if_neg k2]
        obtain ⟨n', l2, a1, a2, a3⟩ := ih (y + 1) n l' (by omega) (by omega) hl'
        exact ⟨n', l2, by omega, a2, a3⟩
theorem X_bes0 (hs : RS w.2.1 w.2.2.1 w.2.2.2.1 f) : ∀ (d c n : Nat) (l : List Int32), c + d + 1 = Nn (f 0) → 8 * d + 1 ≤ n → l.length = 24 → ∃ l', l'.length = 24 ∧ Gway_goBeside_86_1 n 0 (nI c) 0 (u_ways_reached w l) = some (u_ways_reached w l') := by
  have h7 := hs.c0.2.1
  have e0 : ∀ l, a_s1_cells (u_ways_reached w l) = nI (Nn (f 0)) := fun l => (hs.k (k := 0) (by omega)).trans hs.c0.2.2
  intro d
  induction d with
  | zero =>
    intro c n l hc hn hl
    obtain ⟨n, rfl⟩ : ∃ k, n = k + 1 := ⟨n - 1, by omega⟩
    rw [Gway_goBeside_86_1, e0, show nI (Nn (f 0)) - 1 = nI (Nn (f 0) - 1) from pk_sub (b := 1) (by omega), if_pos (nI_le (by omega) (by omega))]
    exact ⟨l, hl, rfl⟩
  | succ d ih =>
    intro c n l hc hn hl
    obtain ⟨n, rfl⟩ : ∃ k, n = k + 1 := ⟨n - 1, by omega⟩
    obtain ⟨n', l', a1, a2, a3⟩ := X_bes1 hs (c := c) (by omega) 4 0 n l (by omega) (by omega) hl
    rw [nI_0] at a3
    rw [Gway_goBeside_86_1, e0, show nI (Nn (f 0)) - 1 = nI (Nn (f 0) - 1) from pk_sub (b := 1) (by omega), if_neg (nI_ge (by omega) (by omega)), a3]
    exact ih (c + 1) n' l' (by omega) (by omega) a2
theorem X_rounds (hs : RS w.2.1 w.2.2.1 w.2.2.2.1 f) {b : Int32} (hb : plc (Nn (f 0)) b) (a : Int32) : ∀ (d i n : Nat) (l : List Int32), i + d = 24 → d + 80 ≤ n → l.length = 24 → ∃ r l', l'.length = 24 ∧ Gway_soonestWay_86_1 n 0 a b (nI i) (u_ways_reached w l) = some (r, u_ways_reached w l') := by
  have h7 := hs.c0.2.1
  have h70 := hs.c0.1
  have h6 := hs.c3.2.1
  intro d
  induction d with
  | zero =>
    intro i n l hi hn hl
    obtain ⟨n, rfl⟩ : ∃ k, n = k + 1 := ⟨n - 1, by omega⟩
    obtain ⟨q, hq, eq⟩ := X_num hb h7
    rw [show i = 24 by omega, Gway_soonestWay_86_1, if_pos (show (24 : Int32) ≤ nI 24 by decide), eq, bd_some, aW_W, ix_e (l := l) (i := nI q) q rfl (by omega) (by omega), bd_some]
    by_cases k : l.getD q 0 < 1000000
    · rw [if_pos k]; exact ⟨_, l, hl, rfl⟩
    · rw [if_neg k]; exact ⟨_, l, hl, rfl⟩
  | succ d ih =>
    intro i n l hi hn hl
    obtain ⟨n, rfl⟩ : ∃ k, n = k + 1 := ⟨n - 1, by omega⟩
    obtain ⟨l1, hl1, e1⟩ := X_lifts hs (Nn (f 3)) 0 n l (by omega) (by omega) hl
    obtain ⟨l2, hl2, e2⟩ := X_bes0 hs (Nn (f 0) - 1) 0 n l1 (by omega) (by omega) hl1
    rw [nI_0] at e1 e2
    have e1 : Fway_goByLifts_86_1 n (u_ways_reached w l) = some (u_ways_reached w l1) := e1
    have e2 : Fway_goBeside_86_1 n (u_ways_reached w l1) = some (u_ways_reached w l2) := e2
    rw [Gway_soonestWay_86_1, if_neg (show ¬ (24 : Int32) ≤ nI i from nI_ge (b := 24) (by omega) (by decide)), e1, bd_some, e2, bd_some, nI_1]
    exact ih (i + 1) n l2 (by omega) (by omega) hl2
theorem X_soon (hs : RS w.2.1 w.2.2.1 w.2.2.2.1 f) {a b : Int32} (ha : plc (Nn (f 0)) a) (hb : plc (Nn (f 0)) b) (hl : (a_ways_reached w).length = 24) {n : Nat} (hn : 200 ≤ n) : ∃ r l', l'.length = 24 ∧ Fway_soonestWay_86_1 n a b w = some (r, u_ways_reached w l') := by
  obtain ⟨l1, h1, e1⟩ := X_fillW w 1000000 24 0 n (a_ways_reached w) (by omega) (by omega) hl
  rw [nI_0, uW_in] at e1
  obtain ⟨q, hq, eq⟩ := X_num ha hs.c0.2.1
  unfold Fway_soonestWay_86_1 Farr_fill_87
  rw [hl]
  have e1 : Garr_fill_87 n 0 1000000 0 (Int32.ofNat 24) w = some (u_ways_reached w l1) := e1
  rw [e1, bd_some, eq, bd_some, aW_W, up_e (l := l1) (i := nI q) 0 q rfl (by omega) (by omega), bd_some, uW_W]
  exact X_rounds hs hb a 23 1 n _ (by omega) (by omega) (by rw [List.length_set]; exact h1)
/-- all that is told of ways is a number up to a million -/
def FB (l : List Int32) : Prop := l.length = 60 ∧ ∀ k, k < 60 → ∃ a, a ≤ 1000000 ∧ l.getD k 0 = nI a
def fs (l : List Int32) : Nat → Nat
  | 0 => 0
  | k + 1 => fs l k + Nn (l.getD k 0)
theorem fs_set {l : List Int32} (hl : l.length = 60) {j : Nat} (hj : j < 60) (x : Int32) : ∀ k, k ≤ 60 → (k ≤ j → fs (l.set j x) k = fs l k) ∧ (j < k → fs (l.set j x) k + Nn (l.getD j 0) = fs l k + Nn x) := by
  intro k
  induction k with
  | zero => intro _; exact ⟨fun _ => rfl, fun h => absurd h (by omega)⟩
  | succ k ih =>
    intro hk
    obtain ⟨i1, i2⟩ := ih (by omega)
    rw [fs, fs, gD_set _ _ _ _ (by omega)]
    constructor
    · intro h
      rw [if_neg (by omega), i1 (by omega)]
    · intro h
      by_cases e : k = j
      · rw [if_pos e, i1 (by omega), e]; omega
      · rw [if_neg e]
        have := i2 (by omega)
        omega
theorem FB_set {l : List Int32} (h : FB l) {j a : Nat} (hj : j < 60) (ha : a ≤ 1000000) : FB (l.set j (nI a)) := by
  refine ⟨by rw [List.length_set]; exact h.1, fun k hk => ?_⟩
  rw [gD_set _ _ _ _ (by rw [h.1]; exact hj)]
  by_cases e : k = j
  · rw [if_pos e]; exact ⟨a, ha, rfl⟩
  · rw [if_neg e]; exact h.2 k hk
theorem fs_le {l : List Int32} (h : FB l) : ∀ k, k ≤ 60 → fs l k ≤ k * 1000000 := by
  intro k
  induction k with
  | zero => intro _; exact Nat.le_refl _
  | succ k ih =>
    intro hk
    obtain ⟨a, ha, e⟩ := h.2 k (by omega)
    rw [fs, e, Nn_nI (by omega)]
    have := ih (by omega)
    omega
theorem uR_R (m : WM) (l k : List Int32) : u_m_far (u_m_far m l) k = u_m_far m k := by dsimp only [u_m_far]
theorem aR_R (m : WM) (l : List Int32) : a_m_far (u_m_far m l) = l := by dsimp only [a_m_far, u_m_far]
theorem uR_in (m : WM) : u_m_far m (a_m_far m) = m := by dsimp only [a_m_far, u_m_far]
theorem M_to (m : WM) {l : List Int32} (hB : FB l) {i j t : Nat} (hi : i < 60) (hj : j < 60) (ht : t ≤ 9) : ∃ e l', FB l' ∧ (e = 0 ∧ fs l' 60 ≤ fs l 60 ∨ e = 1 ∧ fs l' 60 < fs l 60) ∧ Fm_comesTo_89 (nI i) (nI j) (nI t) (u_m_far m l) = some (e, u_m_far m l') := by
  have hl := hB.1
  obtain ⟨a, ha, ea⟩ := hB.2 i hi
  obtain ⟨b, hb, eb⟩ := hB.2 j hj
  unfold Fm_comesTo_89
  rw [aR_R, ix_e (l := l) (i := nI i) i rfl (by omega) (by omega), ix_e (l := l) (i := nI j) j rfl (by omega) (by omega), ea, eb]
  simp only [bd_some, uR_R]
  have same := (fs_set hl hj (nI b) 60 (by omega)).2 hj
  rw [eb] at same
  rw [up_e (l := l) (i := nI j) (nI b) j rfl (by omega) (by omega), nI_add, up_e (l := l) (i := nI j) (nI (a + t)) j rfl (by omega) (by omega)]
  simp only [bd_some]
  by_cases c1 : (1000000 : Int32) ≤ nI a
  · rw [if_pos c1]
    exact ⟨0, _, FB_set hB hj hb, Or.inl ⟨rfl, by omega⟩, rfl⟩
  · rw [if_neg c1]
    have a1 : a < 1000000 := Nat.lt_of_not_le fun q => c1 (nI_le (a := 1000000) q (by omega))
    by_cases c2 : nI b ≤ nI (a + t)
    · rw [if_pos c2]
      exact ⟨0, _, FB_set hB hj hb, Or.inl ⟨rfl, by omega⟩, rfl⟩
    · rw [if_neg c2]
      have a2 : a + t < b := Nat.lt_of_not_le fun q => c2 (nI_le q (by omega))
      have less := (fs_set hl hj (nI (a + t)) 60 (by omega)).2 hj
      rw [eb, Nn_nI (by omega), Nn_nI (by omega)] at less
      exact ⟨1, _, FB_set hB hj (by omega), Or.inr ⟨rfl, by omega⟩, rfl⟩
/-- the flag, and the sum against what it was -/
def flg (S : Nat) (e : Int32) (l : List Int32) : Prop := e = 0 ∧ fs l 60 ≤ S ∨ e = 1 ∧ fs l 60 < S
theorem flg_or {S : Nat} {e e2 : Int32} {l l2 : List Int32} (h : flg S e l) (h2 : e2 = 0 ∧ fs l2 60 ≤ fs l 60 ∨ e2 = 1 ∧ fs l2 60 < fs l 60) : flg S (e ||| e2) l2 := by
  rcases h with ⟨rfl, h⟩ | ⟨rfl, h⟩
  · rcases h2 with ⟨rfl, k⟩ | ⟨rfl, k⟩
    · exact Or.inl ⟨rfl, by omega⟩
    · exact Or.inr ⟨rfl, by omega⟩
  · rcases h2 with ⟨rfl, k⟩ | ⟨rfl, k⟩
    · exact Or.inr ⟨rfl, by omega⟩
    · exact Or.inr ⟨rfl, by omega⟩
theorem plc60 {c : Nat} {x : Int32} (h : plc c x) (hc : c ≤ 6) : ∃ i, i < 60 ∧ x = nI i := by
  obtain ⟨a, b, e, h1, h2⟩ := h
  exact ⟨10 * a + b, by omega, e⟩
theorem M_lifts (hw : (a_m_w m).length = 596) (hf : sl (a_m_w m) 0 = f) (hs : RS w.2.1 w.2.2.1 w.2.2.2.1 f) (a b : Int32) (S : Nat) : ∀ (d i n : Nat) (l : List Int32) (e : Int32), i + d = Nn (f 3) → d < n → FB l → flg S e l → ∃ l' e', FB l' ∧ flg S e' l' ∧ Gm_soonest_89 n 2 a b e (nI i) (u_m_far m l) = Gm_soonest_89 (n - d - 1) 3 a b e' 0 (u_m_far m l') := by
  have h6 := hs.c3.2.1
  have h7 := hs.c0.2.1
  have w_l : ∀ l, a_m_w (u_m_far m l) = a_m_w m := fun l => by dsimp only [a_m_w, u_m_far]
  have e3 : ai_ix (a_m_w m) 3 = some (nI (Nn (f 3))) := by rw [m_ix0 hw (x := 3) 3 rfl (by omega), hf, ← hs.c3.2.2]
  intro d
  induction d with
  | zero =>
    intro i n l e hi hn hB hg
    obtain ⟨n, rfl⟩ : ∃ k, n = k + 1 := ⟨n - 1, by omega⟩
    rw [Gm_soonest_89, w_l, e3, bd_some, if_pos (nI_le (by omega) (by omega))]
    exact ⟨l, e, hB, hg, rfl⟩
  | succ d ih =>
    intro i n l e hi hn hB hg
    obtain ⟨n, rfl⟩ : ∃ k, n = k + 1 := ⟨n - 1, by omega⟩
    obtain ⟨p1, p2, p3⟩ := hs.li2 (i := i) (by omega)
    obtain ⟨x, hx, ex⟩ := plc60 p1 h7
    obtain ⟨y, hy, ey⟩ := plc60 p2 h7
    have et := p3.2.2
    have ht := p3.2.1
    generalize Nn (f (111 + i)) = t at et ht
    have g1 : ai_ix (a_m_w m) (91 + nI i) = some (nI x) := by rw [m_ix0 hw (x := 91 + nI i) (91 + i) (by rw [show (91 : Int32) = nI 91 from rfl, nI_add]) (by omega), hf, ex]
    have g2 : ai_ix (a_m_w m) (101 + nI i) = some (nI y) := by rw [m_ix0 hw (x := 101 + nI i) (101 + i) (by rw [show (101 : Int32) = nI 101 from rfl, nI_add]) (by omega), hf, ey]
    have g3 : ai_ix (a_m_w m) (111 + nI i) = some (nI t) := by rw [m_ix0 hw (x := 111 + nI i) (111 + i) (by rw [show (111 : Int32) = nI 111 from rfl, nI_add]) (by omega), hf, et]
    obtain ⟨e1, l1, hB1, c1, q1⟩ := M_to m hB hx hy ht
    obtain ⟨e2, l2, hB2, c2, q2⟩ := M_to m hB1 hy hx ht
    rw [Gm_soonest_89, w_l, e3, bd_some, if_neg (nI_ge (by omega) (by omega)), g1, g2, g3]
    simp only [bd_some]
    rw [q1]
    simp only [bd_some]
    rw [w_l, g1, g2, g3]
    simp only [bd_some]
    rw [q2]
    simp only [bd_some]
    rw [nI_1]
    obtain ⟨l', e', a1, a2, a3⟩ := ih (i + 1) n l2 _ (by omega) (by omega) hB2 (flg_or (flg_or hg c1) c2)
    rw [a3, show n + 1 - (d + 1) - 1 = n - d - 1 by omega]
    exact ⟨l', e', a1, a2, rfl⟩
theorem M_isThick (hw : (a_m_w m).length = 596) (hf : sl (a_m_w m) 0 = f) (h1 : isN (f 1) 0 999) {x : Nat} (hx : x % 10 < 4) (hc : x / 10 < 6) : Fm_isThick_89 (nI x) m = some (if Tk f (x % 10) (x / 10) (Nn (f 1)) ≤ 0 then 0 else 1, m) := by
  have h8 := h1.2.1
  have e1 : ai_ix (a_m_w m) 1 = some (nI (Nn (f 1))) := by rw [m_ix0 hw (x := 1) 1 rfl (by omega), hf, ← h1.2.2]
  obtain ⟨d1, d2⟩ := div10 (k := x) (by omega) rfl
  unfold Fm_isThick_89
  rw [e1, bd_some, d2, d1, M_thickIn hw hx hc (by omega), hf]
  simp only [bd_some]
  by_cases k : Tk f (x % 10) (x / 10) (Nn (f 1)) ≤ 0
  · rw [if_pos k, if_pos k]
  · rw [if_neg k, if_neg k]
theorem M_beside (hw : (a_m_w m).length = 596) (hf : sl (a_m_w m) 0 = f) (hs : RS w.2.1 w.2.2.1 w.2.2.2.1 f) (a b : Int32) (S : Nat) : ∀ (d i n : Nat) (l : List Int32) (e : Int32), i + d + 10 = 10 * Nn (f 0) → d < n → FB l → flg S e l → ∃ l' e', FB l' ∧ flg S e' l' ∧ Gm_soonest_89 n 3 a b e (nI i) (u_m_far m l) = Gm_soonest_89 (n - d - 1) 1 a b e' 0 (u_m_far m l') := by
  have h7 := hs.c0.2.1
  have w_l : ∀ l, a_m_w (u_m_far m l) = a_m_w m := fun l => by dsimp only [a_m_w, u_m_far]
  have e0 : ai_ix (a_m_w m) 0 = some (nI (Nn (f 0))) := by rw [m_ix0 hw (x := 0) 0 rfl (by omega), hf, ← hs.c0.2.2]
  have e10 : 10 * nI (Nn (f 0)) = nI (10 * Nn (f 0)) := by rw [show (10 : Int32) = nI 10 from rfl, pk_mul]
  have st : ∀ i, nI i + 10 = nI (i + 10) := fun i => by rw [show (10 : Int32) = nI 10 from rfl, nI_add]
  intro d
  induction d with
  | zero =>
    intro i n l e hi hn hB hg
    obtain ⟨n, rfl⟩ : ∃ k, n = k + 1 := ⟨n - 1, by omega⟩
    rw [Gm_soonest_89, w_l, e0, bd_some, e10, st, if_pos (nI_le (by omega) (by omega))]
    exact ⟨l, e, hB, hg, rfl⟩
  | succ d ih =>
    intro i n l e hi hn hB hg
    obtain ⟨n, rfl⟩ : ∃ k, n = k + 1 := ⟨n - 1, by omega⟩
    obtain ⟨d1, d2⟩ := div10 (k := i) (by omega) rfl
    have no : ∃ l' e', FB l' ∧ flg S e' l' ∧ Gm_soonest_89 n 3 a b e (nI (i + 1)) (u_m_far m l) = Gm_soonest_89 (n + 1 - (d + 1) - 1) 1 a b e' 0 (u_m_far m l') := by
      obtain ⟨l', e', a1, a2, a3⟩ := ih (i + 1) n l e (by omega) (by omega) hB hg
      rw [a3, show n + 1 - (d + 1) - 1 = n - d - 1 by omega]
      exact ⟨l', e', a1, a2, rfl⟩
    rw [Gm_soonest_89, w_l, e0, bd_some, e10, st, if_neg (nI_ge (by omega) (by omega)), d2, Fm_isLayer_eq, bd_some, nI_1]
    simp only [ifz]
    by_cases c1 : 0 ≤ nI (i % 10) ∧ nI (i % 10) ≤ 3
    · simp only [if_pos c1]
      have m4 : i % 10 < 4 := by
        have := Int32.le_iff_toInt_le.mp c1.2
        rw [nI_toInt (by omega)] at this
        have z : (3 : Int32).toInt = 3 := rfl
        omega
      have tk : ∀ l x, x % 10 < 4 → x / 10 < 6 → Fm_isThick_89 (nI x) (u_m_far m l) = some (if Tk f (x % 10) (x / 10) (Nn (f 1)) ≤ 0 then 0 else 1, u_m_far m l) := fun l x h1 h2 => M_isThick (m := u_m_far m l) hw hf hs.c1 h1 h2
      rw [tk l i m4 (by omega)]
      simp only [bd_some]
      rw [tk l (i + 10) (by omega) (by omega)]
      simp only [bd_some]
      by_cases k1 : Tk f (i % 10) (i / 10) (Nn (f 1)) ≤ 0
      · simp only [if_pos k1]; exact no
      · simp only [if_neg k1]
        rw [if_neg (show ¬ (1 : Int32) = 0 by decide)]
        by_cases k2 : Tk f ((i + 10) % 10) ((i + 10) / 10) (Nn (f 1)) ≤ 0
        · simp only [if_pos k2]; exact no
        · simp only [if_neg k2]
          rw [if_neg (show ¬ (1 : Int32) = 0 by decide)]
          obtain ⟨e1, l1, hB1, c1, q1⟩ := M_to m hB (i := i) (j := i + 10) (t := 3) (by omega) (by omega) (by omega)
          obtain ⟨e2, l2, hB2, c2, q2⟩ := M_to m hB1 (i := i + 10) (j := i) (t := 3) (by omega) (by omega) (by omega)
          have q1 : Fm_comesTo_89 (nI i) (nI (i + 10)) 3 (u_m_far m l) = some (e1, u_m_far m l1) := q1
          have q2 : Fm_comesTo_89 (nI (i + 10)) (nI i) 3 (u_m_far m l1) = some (e2, u_m_far m l2) := q2
          rw [q1]
          simp only [bd_some]
          rw [q2]
          simp only [bd_some]
          obtain ⟨l', e', a1, a2, a3⟩ := ih (i + 1) n l2 _ (by omega) (by omega) hB2 (flg_or (flg_or hg c1) c2)
          rw [a3, show n + 1 - (d + 1) - 1 = n - d - 1 by omega]
          exact ⟨l', e', a1, a2, rfl⟩
    · simp only [if_neg c1]; exact no
theorem M_more (hw : (a_m_w m).length = 596) (hf : sl (a_m_w m) 0 = f) (hs : RS w.2.1 w.2.2.1 w.2.2.2.1 f) (a : Int32) {b : Nat} (hb : b < 60) : ∀ (S n : Nat) (l : List Int32) (e : Int32), 100 * S + 100 ≤ n → FB l → (e = 0 ∨ e = 1 ∧ fs l 60 ≤ S) → ∃ r l', l'.length = 60 ∧ Gm_soonest_89 n 1 a (nI b) e 0 (u_m_far m l) = some (r, u_m_far m l') := by
  have h6 := hs.c3.2.1
  have h7 := hs.c0.2.1
  have h70 := hs.c0.1
  have fin : ∀ (n : Nat) (l : List Int32), FB l → ∃ r l', l'.length = 60 ∧ Gm_soonest_89 (n + 1) 1 a (nI b) 0 0 (u_m_far m l) = some (r, u_m_far m l') := by
    intro n l hB
    have hl := hB.1
    rw [Gm_soonest_89, if_pos rfl, aR_R, ix_e (l := l) (i := nI b) b rfl (by omega) (by omega)]
    simp only [bd_some]
    by_cases k : l.getD b 0 = 1000000
    · rw [if_pos k]; exact ⟨_, l, hl, rfl⟩
    · rw [if_neg k]; exact ⟨_, l, hl, rfl⟩
  intro S
  induction S with
  | zero =>
    intro n l e hn hB he
    obtain ⟨n, rfl⟩ : ∃ k, n = k + 1 := ⟨n - 1, by omega⟩
    rcases he with rfl | ⟨rfl, he⟩
    · exact fin n l hB
    · rw [Gm_soonest_89, if_neg (show ¬ (1 : Int32) = 0 by decide)]
      obtain ⟨l1, e1, a1, a2, a3⟩ := M_lifts hw hf hs a (nI b) (fs l 60) (Nn (f 3)) 0 n l 0 (by omega) (by omega) hB (Or.inl ⟨rfl, Nat.le_refl _⟩)
      obtain ⟨l2, e2, b1, b2, b3⟩ := M_beside hw hf hs a (nI b) (fs l 60) (10 * Nn (f 0) - 10) 0 (n - Nn (f 3) - 1) l1 e1 (by omega) (by omega) a1 a2
      rw [nI_0] at a3 b3
      rw [a3, b3]
      rcases b2 with ⟨rfl, _⟩ | ⟨rfl, z⟩
      · obtain ⟨k, ek⟩ : ∃ k, n - Nn (f 3) - 1 - (10 * Nn (f 0) - 10) - 1 = k + 1 := ⟨n - Nn (f 3) - 1 - (10 * Nn (f 0) - 10) - 1 - 1, by omega⟩
        rw [ek]
        exact fin k l2 b1
      · exfalso; omega
  | succ S ih =>
    intro n l e hn hB he
    obtain ⟨n, rfl⟩ : ∃ k, n = k + 1 := ⟨n - 1, by omega⟩
    rcases he with rfl | ⟨rfl, he⟩
    · exact fin n l hB
    · rw [Gm_soonest_89, if_neg (show ¬ (1 : Int32) = 0 by decide)]
      obtain ⟨l1, e1, a1, a2, a3⟩ := M_lifts hw hf hs a (nI b) (fs l 60) (Nn (f 3)) 0 n l 0 (by omega) (by omega) hB (Or.inl ⟨rfl, Nat.le_refl _⟩)
      obtain ⟨l2, e2, b1, b2, b3⟩ := M_beside hw hf hs a (nI b) (fs l 60) (10 * Nn (f 0) - 10) 0 (n - Nn (f 3) - 1) l1 e1 (by omega) (by omega) a1 a2
      rw [nI_0] at a3 b3
      rw [a3, b3]
      refine ih _ l2 e2 (by omega) b1 ?_
      rcases b2 with ⟨rfl, _⟩ | ⟨rfl, z⟩
      · exact Or.inl rfl
      · exact Or.inr ⟨rfl, by omega⟩
theorem M_init (m : WM) {a : Nat} (b : Int32) : ∀ (d i n : Nat) (l : List Int32), i + d = 60 → d < n → l.length = 60 → (∀ k, k < i → ∃ x, x ≤ 1000000 ∧ l.getD k 0 = nI x) → ∃ l', FB l' ∧ Gm_soonest_89 n 0 (nI a) b (nI i) 0 (u_m_far m l) = Gm_soonest_89 (n - d - 1) 1 (nI a) b 1 0 (u_m_far m l') := by
  intro d
  induction d with
  | zero =>
    intro i n l hi hn hl hk
    obtain ⟨n, rfl⟩ : ∃ k, n = k + 1 := ⟨n - 1, by omega⟩
    rw [show i = 60 by omega, Gm_soonest_89, if_pos (show (60 : Int32) ≤ nI 60 by decide)]
    exact ⟨l, ⟨hl, fun k h => hk k (by omega)⟩, rfl⟩
  | succ d ih =>
    intro i n l hi hn hl hk
    obtain ⟨n, rfl⟩ : ∃ k, n = k + 1 := ⟨n - 1, by omega⟩
    have go : ∀ x : Nat, x ≤ 1000000 → ∃ l', FB l' ∧ Gm_soonest_89 n 0 (nI a) b (nI (i + 1)) 0 (u_m_far m (l.set i (nI x))) = Gm_soonest_89 (n + 1 - (d + 1) - 1) 1 (nI a) b 1 0 (u_m_far m l') := by
      intro x hx
      obtain ⟨l', a1, a2⟩ := ih (i + 1) n (l.set i (nI x)) (by omega) (by omega) (by rw [List.length_set]; exact hl) (fun k h => by
        rw [gD_set _ _ _ _ (by omega)]
        by_cases e : k = i
        · rw [if_pos e]; exact ⟨x, hx, rfl⟩
        · rw [if_neg e]; exact hk k (by omega))
      rw [a2, show n + 1 - (d + 1) - 1 = n - d - 1 by omega]
      exact ⟨l', a1, rfl⟩
    rw [Gm_soonest_89, if_neg (show ¬ (60 : Int32) ≤ nI i from nI_ge (b := 60) (by omega) (by decide)), aR_R, up_e (l := l) (i := nI i) 0 i rfl (by omega) (by omega), up_e (l := l) (i := nI i) 1000000 i rfl (by omega) (by omega)]
    simp only [bd_some, uR_R, nI_1]
    by_cases k : nI i = nI a
    · rw [if_pos k]; exact go 0 (by omega)
    · rw [if_neg k]; exact go 1000000 (by omega)
theorem Cg_soonest (h : R w m) (a b : Int32) : Og (fun n => Ff_soonest_0 n a b w) (fun n => Fm_soonest_89 n a b m) := ⟨7000000000, fun n hn => by
  obtain ⟨w2, m2, e1, e2, hR⟩ := R_bad h
  obtain ⟨f, hf⟩ : ∃ f, sl (a_m_w m) 0 = f := ⟨_, rfl⟩
  have hs := h.s
  rw [hf] at hs
  have h7 := hs.c0.2.1
  have f0 : a_s1_cells w = f 0 := hs.k (k := 0) (by omega)
  have mp : ∀ x, Fm_isPlaceOf_89 0 x m = some (if C_pl (f 0) x then 1 else 0, m) := fun x => by rw [M_isPlaceOf (x := 0) (r := 0) rfl h.w (by omega), hf]
  simp only [Ff_soonest_0, Fm_soonest_89, hasPlace_1, mp, f0, bd_some, ifz, e1, e2]
  by_cases c1 : C_pl (f 0) a
  · simp only [if_pos c1]
    by_cases c2 : C_pl (f 0) b
    · simp only [if_pos c2]
      have pa := pl_N hs.c0 (by decide) c1
      have pb := pl_N hs.c0 (by decide) c2
      obtain ⟨r, l', hl', ex⟩ := X_soon hs pa pb h.2.2.2.2.2.2.2.1.2.2.2.2.2 (n := n) (by omega)
      rw [ex]
      simp only [bd_some]
      obtain ⟨x, hx, rfl⟩ := plc60 pa h7
      obtain ⟨y, hy, rfl⟩ := plc60 pb h7
      obtain ⟨l1, b1, b2⟩ := M_init m (a := x) (nI y) 60 0 n (a_m_far m) (by omega) (by omega) h.2.2.2.2.2.2.2.2.2.1 (fun k hk => absurd hk (by omega))
      rw [nI_0, uR_in] at b2
      have bd := fs_le b1 60 (by omega)
      obtain ⟨s, l2, d1, d2⟩ := M_more h.w hf hs (nI x) hy 60000000 (n - 60 - 1) l1 1 (by omega) b1 (Or.inr ⟨rfl, by omega⟩)
      rw [b2, d2]
      refine ⟨r, s, _, _, rfl, rfl, ?_⟩
      obtain ⟨h1, h2, h3, h4, h5, h6, h7, ⟨c1, c2, c3, c4, c5, c6⟩, ⟨g1, g2, g3⟩⟩ := h
      exact ⟨h1, h2, h3, h4, h5, h6, h7, ⟨c1, c2, c3, c4, c5, hl'⟩, ⟨g1, d1, g3⟩⟩
    · simp only [if_neg c2]; exact ⟨_, _, _, _, rfl, rfl, hR⟩
  · simp only [if_neg c1]; exact ⟨_, _, _, _, rfl, rfl, hR⟩⟩
end C58
