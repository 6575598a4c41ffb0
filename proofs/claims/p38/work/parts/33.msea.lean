/-! the reference's sea told anew, and its copies -/
def beg (n : Int32) (k : Nat) : Int32 := if k = 0 then n else if k = 8 then 10 else if k = 9 then 13 else if k = 10 then 16 else if k = 11 then 20 else if 40 ≤ k ∧ k < 64 then 3 else 0
theorem M_beg1 {x y : Int32} {r : Nat} (hx : x = nI r) (hr : r + 149 ≤ 596) : ∀ (d i n : Nat) (m : WM), i + d = 24 → d < n → (a_m_w m).length = 596 → ∃ v, Gm_begins_89 n 1 x y (nI i) m = some (u_m_w m v) ∧ v.length = 596 ∧ (∀ k, k < 149 → sl v r k = if 40 + i ≤ k ∧ k < 64 then 3 else sl (a_m_w m) r k) ∧ ∀ j, (j < r ∨ r + 149 ≤ j) → v.getD j 0 = (a_m_w m).getD j 0 := by
  intro d
  induction d with
  | zero =>
    intro i n m hi hn hw
    obtain ⟨n, rfl⟩ : ∃ k, n = k + 1 := ⟨n - 1, by omega⟩
    rw [show i = 24 by omega, Gm_begins_89, if_pos (show (24 : Int32) ≤ nI 24 from Int32.le_refl _)]
    exact ⟨a_m_w m, rfl, hw, fun k _ => by rw [if_neg (by omega)], fun _ _ => rfl⟩
  | succ d ih =>
    intro i n m hi hn hw
    obtain ⟨n, rfl⟩ : ∃ k, n = k + 1 := ⟨n - 1, by omega⟩
    rw [Gm_begins_89, if_neg (show ¬ (24 : Int32) ≤ nI i from nI_ge (b := 24) (by omega) (by decide)), up_e (l := a_m_w m) (i := (x + 40) + nI i) 3 (r + (40 + i)) (by rw [hx, nIadd r 40 40 rfl, nI_add]; congr 1; omega) (by omega) (by omega), bd_some, nI_1]
    obtain ⟨v, h1, h2, h3, h4⟩ := ih (i + 1) n (u_m_w m ((a_m_w m).set (r + (40 + i)) 3)) (by omega) (by omega) (by rw [List.length_set]; exact hw)
    refine ⟨v, h1, h2, fun k hk => ?_, fun j hj => ?_⟩
    · rw [h3 k hk]
      by_cases c : 40 + (i + 1) ≤ k ∧ k < 64
      · rw [if_pos c, if_pos (by omega)]
      · rw [if_neg c, sl_set _ (by omega)]
        unfold upd
        by_cases e : k = 40 + i
        · rw [if_pos e, if_pos (by omega)]
        · rw [if_neg e, if_neg (by omega)]
    · rw [h4 j hj, gD_set _ _ _ _ (by omega), if_neg (by omega)]
theorem M_beg0 {x y : Int32} {r : Nat} (hx : x = nI r) (hr : r + 149 ≤ 596) : ∀ (d i n : Nat) (m : WM), i + d = 149 → d + 26 < n → (a_m_w m).length = 596 → ∃ v, Gm_begins_89 n 0 x y (nI i) m = some (u_m_w m v) ∧ v.length = 596 ∧ (∀ k, k < 149 → sl v r k = if i ≤ k then beg y k else if k = 0 then y else if k = 8 then 10 else if k = 9 then 13 else if k = 10 then 16 else if k = 11 then 20 else if 40 ≤ k ∧ k < 64 then 3 else sl (a_m_w m) r k) ∧ ∀ j, (j < r ∨ r + 149 ≤ j) → v.getD j 0 = (a_m_w m).getD j 0 := by
  intro d
  induction d with
  | zero =>
    intro i n m hi hn hw
    obtain ⟨n, rfl⟩ : ∃ k, n = k + 1 := ⟨n - 1, by omega⟩
    rw [show i = 149 by omega, Gm_begins_89, if_pos (show (149 : Int32) ≤ nI 149 from Int32.le_refl _)]
    have g : ∀ (l : List Int32) (z : Int32) (a b : Nat), l.length = 596 → x + nI a = nI (r + a) := fun _ _ _ _ _ => by rw [hx, nI_add]
    have h8 : (x + 8) + 1 = nI (r + 9) ∧ (x + 8) + 2 = nI (r + 10) ∧ (x + 8) + 3 = nI (r + 11) := by
      refine ⟨?_, ?_, ?_⟩
      · rw [hx, nIadd r 8 8 rfl, nIadd (r + 8) 1 1 rfl]
      · rw [hx, nIadd r 8 8 rfl, nIadd (r + 8) 2 2 rfl]
      · rw [hx, nIadd r 8 8 rfl, nIadd (r + 8) 3 3 rfl]
    rw [up_e (l := a_m_w m) (i := x + 0) y (r + 0) (by rw [hx]; exact nIadd r 0 0 rfl) (by omega) (by omega), bd_some]
    rw [up_e (l := (a_m_w m).set (r + 0) y) (i := x + 8) 10 (r + 8) (by rw [hx]; exact nIadd r 8 8 rfl) (by rw [List.length_set]; omega) (by omega), bd_some]
    rw [up_e (l := ((a_m_w m).set (r + 0) y).set (r + 8) 10) (i := (x + 8) + 1) 13 (r + 9) h8.1 (by rw [List.length_set, List.length_set]; omega) (by omega), bd_some]
    rw [up_e (l := (((a_m_w m).set (r + 0) y).set (r + 8) 10).set (r + 9) 13) (i := (x + 8) + 2) 16 (r + 10) h8.2.1 (by rw [List.length_set, List.length_set, List.length_set]; omega) (by omega), bd_some]
    rw [up_e (l := ((((a_m_w m).set (r + 0) y).set (r + 8) 10).set (r + 9) 13).set (r + 10) 16) (i := (x + 8) + 3) 20 (r + 11) h8.2.2 (by rw [List.length_set, List.length_set, List.length_set, List.length_set]; omega) (by omega), bd_some]
    have hl5 : (((((a_m_w m).set (r + 0) y).set (r + 8) 10).set (r + 9) 13).set (r + 10) 16).length = 596 := by rw [List.length_set, List.length_set, List.length_set, List.length_set]; exact hw
    obtain ⟨v, h1, h2, h3, h4⟩ := M_beg1 (y := y) hx hr 24 0 n (u_m_w m ((((((a_m_w m).set (r + 0) y).set (r + 8) 10).set (r + 9) 13).set (r + 10) 16).set (r + 11) 20)) (by omega) (by omega) (by rw [List.length_set]; exact hl5)
    refine ⟨v, h1, h2, fun k hk => ?_, fun j hj => ?_⟩
    · rw [h3 k hk, if_neg (show ¬ 149 ≤ k by omega)]
      have e : sl (a_m_w (u_m_w m ((((((a_m_w m).set (r + 0) y).set (r + 8) 10).set (r + 9) 13).set (r + 10) 16).set (r + 11) 20))) r = upd (upd (upd (upd (upd (sl (a_m_w m) r) 0 y) 8 10) 9 13) 10 16) 11 20 := by
        show sl ((((((a_m_w m).set (r + 0) y).set (r + 8) 10).set (r + 9) 13).set (r + 10) 16).set (r + 11) 20) r = _
        rw [sl_set _ (by omega), sl_set _ (by rw [List.length_set, List.length_set, List.length_set]; omega), sl_set _ (by rw [List.length_set, List.length_set]; omega), sl_set _ (by rw [List.length_set]; omega), sl_set _ (by omega)]
      rw [e]
      unfold upd
      by_cases k0 : k = 0
      · subst k0; rfl
      by_cases k8 : k = 8
      · subst k8; rfl
      by_cases k9 : k = 9
      · subst k9; rfl
      by_cases ka : k = 10
      · subst ka; rfl
      by_cases kb : k = 11
      · subst kb; rfl
      rw [if_neg k0, if_neg k8, if_neg k9, if_neg ka, if_neg kb, if_neg kb, if_neg ka, if_neg k9, if_neg k8, if_neg k0]
    · rw [h4 j hj]
      show ((((((a_m_w m).set (r + 0) y).set (r + 8) 10).set (r + 9) 13).set (r + 10) 16).set (r + 11) 20).getD j 0 = _
      rw [gD_set _ _ _ _ (by omega), if_neg (by omega), gD_set _ _ _ _ (by rw [List.length_set, List.length_set, List.length_set]; omega), if_neg (by omega), gD_set _ _ _ _ (by rw [List.length_set, List.length_set]; omega), if_neg (by omega), gD_set _ _ _ _ (by rw [List.length_set]; omega), if_neg (by omega), gD_set _ _ _ _ (by omega), if_neg (by omega)]
  | succ d ih =>
    intro i n m hi hn hw
    obtain ⟨n, rfl⟩ : ∃ k, n = k + 1 := ⟨n - 1, by omega⟩
    rw [Gm_begins_89, if_neg (show ¬ (149 : Int32) ≤ nI i from nI_ge (b := 149) (by omega) (by decide)), up_e (l := a_m_w m) (i := x + nI i) 0 (r + i) (by rw [hx, nI_add]) (by omega) (by omega), bd_some, nI_1]
    obtain ⟨v, h1, h2, h3, h4⟩ := ih (i + 1) n (u_m_w m ((a_m_w m).set (r + i) 0)) (by omega) (by omega) (by rw [List.length_set]; exact hw)
    refine ⟨v, h1, h2, fun k hk => ?_, fun j hj => ?_⟩
    · rw [h3 k hk]
      by_cases c : i + 1 ≤ k
      · rw [if_pos c, if_pos (by omega)]
      · rw [if_neg c]
        have e : sl (a_m_w (u_m_w m ((a_m_w m).set (r + i) 0))) r k = if k = i then 0 else sl (a_m_w m) r k := by
          show sl ((a_m_w m).set (r + i) 0) r k = _
          rw [sl_set _ (by omega)]; rfl
        rw [e]
        by_cases q : k = i
        · rw [if_pos q, if_pos (show i ≤ k by omega)]
          rfl
        · rw [if_neg q, if_neg (show ¬ i ≤ k by omega)]
    · rw [h4 j hj]
      show ((a_m_w m).set (r + i) 0).getD j 0 = _
      rw [gD_set _ _ _ _ (by omega), if_neg (by omega)]
def A_sea (n : Int32) (f : Nat → Int32) : Int32 × (Nat → Int32) := if 1 ≤ n ∧ n ≤ 6 then (f 0, beg n) else (-2, f)
theorem M_sea {m : WM} {x y : Int32} {r n : Nat} (hn : 176 ≤ n) (hx : x = nI r) (hw : (a_m_w m).length = 596) (hr : r + 149 ≤ 596) : ∃ m', Fm_seaTo_89 n x y m = some ((A_sea y (sl (a_m_w m) r)).1, m') ∧ MW m m' r (A_sea y (sl (a_m_w m) r)).2 := by
  unfold A_sea
  simp only [Fm_seaTo_89, Fm_in_eq y (lo := 1) (hi := 6) 1 6 rfl rfl, M_ix (m := m) (r := r) (x := x + 0) 0 (by rw [hx]; exact nIadd r 0 0 rfl) hw hr (by omega), bd_some, ifz]
  by_cases c : 1 ≤ y ∧ y ≤ 6
  · simp only [if_pos c, Fm_begins_89]
    obtain ⟨v, h1, h2, h3, h4⟩ := M_beg0 (y := y) hx hr 149 0 n m (by omega) (by omega) hw
    have h1 : Gm_begins_89 n 0 x y 0 m = some (u_m_w m v) := h1
    rw [h1]
    exact ⟨_, rfl, v, rfl, by rw [h2, hw], fun k hk => by rw [h3 k hk, if_pos (Nat.zero_le _)], h4⟩
  · simp only [if_neg c]; exact ⟨_, rfl, MW_rf m r⟩
theorem M_copyG {x y : Int32} {p q : Nat} (hx : x = nI p) (hy : y = nI q) (hp : p + 149 ≤ 596) (hq : q + 149 ≤ 596) (hd : p + 149 ≤ q ∨ q + 149 ≤ p) : ∀ (d i n : Nat) (m : WM), i + d = 149 → d < n → (a_m_w m).length = 596 → ∃ v, Gm_copy_89 n 0 x y (nI i) m = some (u_m_w m v) ∧ v.length = 596 ∧ (∀ k, k < 149 → sl v q k = if i ≤ k then sl (a_m_w m) p k else sl (a_m_w m) q k) ∧ ∀ j, (j < q ∨ q + 149 ≤ j) → v.getD j 0 = (a_m_w m).getD j 0 := by
  intro d
  induction d with
  | zero =>
    intro i n m hi hn hw
    obtain ⟨n, rfl⟩ : ∃ k, n = k + 1 := ⟨n - 1, by omega⟩
    rw [show i = 149 by omega, Gm_copy_89, if_pos (show (149 : Int32) ≤ nI 149 from Int32.le_refl _)]
    exact ⟨a_m_w m, rfl, hw, fun k _ => by rw [if_neg (by omega)], fun _ _ => rfl⟩
  | succ d ih =>
    intro i n m hi hn hw
    obtain ⟨n, rfl⟩ : ∃ k, n = k + 1 := ⟨n - 1, by omega⟩
    rw [Gm_copy_89, if_neg (show ¬ (149 : Int32) ≤ nI i from nI_ge (b := 149) (by omega) (by decide)), ix_e (l := a_m_w m) (i := x + nI i) (p + i) (by rw [hx, nI_add]) (by omega) (by omega), bd_some, up_e (l := a_m_w m) (i := y + nI i) _ (q + i) (by rw [hy, nI_add]) (by omega) (by omega), bd_some, nI_1]
    obtain ⟨v, h1, h2, h3, h4⟩ := ih (i + 1) n (u_m_w m ((a_m_w m).set (q + i) ((a_m_w m).getD (p + i) 0))) (by omega) (by omega) (by rw [List.length_set]; exact hw)
    refine ⟨v, h1, h2, fun k hk => ?_, fun j hj => ?_⟩
    · rw [h3 k hk]
      by_cases c : i + 1 ≤ k
      · rw [if_pos c, if_pos (by omega)]
        show ((a_m_w m).set (q + i) ((a_m_w m).getD (p + i) 0)).getD (p + k) 0 = _
        rw [gD_set _ _ _ _ (by omega), if_neg (by omega)]
        rfl
      · rw [if_neg c]
        show ((a_m_w m).set (q + i) ((a_m_w m).getD (p + i) 0)).getD (q + k) 0 = _
        rw [gD_set _ _ _ _ (by omega)]
        by_cases e : k = i
        · rw [if_pos (by omega), if_pos (by omega), e]
          rfl
        · rw [if_neg (by omega), if_neg (by omega)]
          rfl
    · rw [h4 j hj]
      show ((a_m_w m).set (q + i) ((a_m_w m).getD (p + i) 0)).getD j 0 = _
      rw [gD_set _ _ _ _ (by omega), if_neg (by omega)]
theorem M_copy {m : WM} {x y : Int32} {p q n : Nat} (hn : 150 ≤ n) (hx : x = nI p) (hy : y = nI q) (hp : p + 149 ≤ 596) (hq : q + 149 ≤ 596) (hd : p + 149 ≤ q ∨ q + 149 ≤ p) (hw : (a_m_w m).length = 596) : ∃ m', Fm_copy_89 n x y m = some m' ∧ MW m m' q (sl (a_m_w m) p) := by
  obtain ⟨v, h1, h2, h3, h4⟩ := M_copyG hx hy hp hq hd 149 0 n m (by omega) (by omega) hw
  have h1 : Gm_copy_89 n 0 x y 0 m = some (u_m_w m v) := h1
  exact ⟨_, h1, v, rfl, by rw [h2, hw], fun k hk => by rw [h3 k hk, if_pos (Nat.zero_le _)], h4⟩
