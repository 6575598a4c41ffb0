/-! what drops tell, and where to try next -/
section C49
variable {w : WX} {m : WM} {f : Nat → Int32}
theorem X_cnt (hs : RS w.2.1 w.2.2.1 w.2.2.2.1 f) (v q : Int32) : ∀ (d k n a : Nat), k + d = 100 → d + 10 < n → Gf_known_0 n 0 v q (nI a) (nI k) w = Gf_known_0 (n - d) 0 v q (nI (a + cN (kP f v) d k)) (nI 100) w := by
  intro d
  induction d with
  | zero =>
    intro k n a hk hn
    rw [show k = 100 by omega, Nat.sub_zero]
    rfl
  | succ d ih =>
    intro k n a hk hn
    obtain ⟨n, rfl⟩ : ∃ k, n = k + 1 := ⟨n - 1, by omega⟩
    rw [Gf_known_0, if_neg (show ¬ (99 : Int32) < nI k from nI_nlt (a := 99) (by omega) (by decide)), X_fits hs v k (by omega)]
    simp only [bd_some, ifz]
    rw [nI_1, nI_1, show n + 1 - (d + 1) = n - d by omega, cN]
    by_cases c1 : kP f v k = true
    · rw [if_pos c1, if_pos c1, ← Nat.add_assoc]
      exact ih (k + 1) n (a + 1) (by omega) (by omega)
    · rw [if_neg c1, if_neg c1, Nat.zero_add]
      exact ih (k + 1) n a (by omega) (by omega)
theorem M_cnt (hw : (a_m_w m).length = 596) (hf : sl (a_m_w m) 0 = f) (hs : RS w.2.1 w.2.2.1 w.2.2.2.1 f) (v q : Int32) : ∀ (d k n a : Nat), k + d = 100 → d + 10 < n → Gm_known_89 n 0 v q (nI a) (nI k) 0 0 0 0 m = Gm_known_89 (n - d) 0 v q (nI (a + cN (kP f v) d k)) (nI 100) 0 0 0 0 m := by
  intro d
  induction d with
  | zero =>
    intro k n a hk hn
    rw [show k = 100 by omega, Nat.sub_zero]
    rfl
  | succ d ih =>
    intro k n a hk hn
    obtain ⟨n, rfl⟩ : ∃ k, n = k + 1 := ⟨n - 1, by omega⟩
    rw [Gm_known_89, if_neg (show ¬ (100 : Int32) ≤ nI k from nI_ge (b := 100) (by omega) (by decide)), M_fits hw hf hs v k (by omega)]
    simp only [bd_some, ifz, Int32.add_zero]
    rw [nI_1, nI_1, show n + 1 - (d + 1) = n - d by omega, cN]
    by_cases c1 : kP f v k = true
    · rw [if_pos c1, if_pos c1, ← Nat.add_assoc]
      exact ih (k + 1) n (a + 1) (by omega) (by omega)
    · rw [if_neg c1, if_neg c1, Nat.zero_add]
      exact ih (k + 1) n a (by omega) (by omega)
theorem try_out (hw : (a_m_w m).length = 596) (hf : sl (a_m_w m) 0 = f) (hs : RS w.2.1 w.2.2.1 w.2.2.2.1 f) (v q : Int32) {c : Nat} (hc : c = cN (kP f v) 99 1) (hc1 : 1 ≤ c) : ∀ (d l n n2 : Nat) (be bx bm z z2 : Int32), l + d = 4 → 150 * d + 20 ≤ n → 150 * d + 20 ≤ n2 → ((bx = nI (c + 1) ∧ bm = 1000000) ∨ bx = bm) → ∃ r, Gf_nextToTry_0 n 0 v (nI c) be bx (nI l) z z2 w = some (r, w) ∧ Gm_known_89 n2 1 v q (nI c) be bm (nI l) 0 0 m = some (if q = 0 then nI c else r, m) := by
  have c99 : c ≤ 99 := by rw [hc]; exact cN_le _ 99 1
  intro d
  induction d with
  | zero =>
    intro l n n2 be bx bm z z2 hl hn hn2 hb
    obtain ⟨n, rfl⟩ : ∃ k, n = k + 1 := ⟨n - 1, by omega⟩
    obtain ⟨n2, rfl⟩ : ∃ k, n2 = k + 1 := ⟨n2 - 1, by omega⟩
    have : l = 4 := by omega
    subst this
    rw [Gf_nextToTry_0, Gm_known_89, if_pos (show (4 : Int32) ≤ nI 4 by decide), if_pos (show (4 : Int32) ≤ nI 4 by decide)]
    refine ⟨be, rfl, ?_⟩
    by_cases q0 : q = 0
    · rw [if_pos q0, if_pos q0]
    · rw [if_neg q0, if_neg q0]
  | succ d ih =>
    intro l n n2 be bx bm z z2 hl hn hn2 hb
    obtain ⟨n, rfl⟩ : ∃ k, n = k + 1 := ⟨n - 1, by omega⟩
    obtain ⟨n2, rfl⟩ : ∃ k, n2 = k + 1 := ⟨n2 - 1, by omega⟩
    have sc : cN (kQ f v l) 99 1 ≤ c := by rw [hc]; exact cN_mono (fun k hk => kQ_P hk) 99 1
    have hX := X_try1 hs v (nI c) be bx (l := l) (by omega) 99 1 n 0 (by omega) (by omega)
    have hM := M_try1 hw hf hs v q (nI c) be bm (l := l) (by omega) 99 1 n2 0 (by omega) (by omega)
    rw [nI_0, Nat.zero_add] at hX hM
    have hX : Gf_nextToTry_0 n 1 v (nI c) be bx (nI l) 0 1 w = _ := hX
    have hM : Gm_known_89 n2 2 v q (nI c) be bm (nI l) 0 1 m = _ := hM
    generalize cN (kQ f v l) 99 1 = s at *
    obtain ⟨n3, e3⟩ : ∃ k, n - 99 = k + 1 := ⟨n - 99 - 1, by omega⟩
    obtain ⟨n4, e4⟩ : ∃ k, n2 - 99 = k + 1 := ⟨n2 - 99 - 1, by omega⟩
    rw [Gf_nextToTry_0, Gm_known_89, if_neg (show ¬ (4 : Int32) ≤ nI l from nI_ge (b := 4) (by omega) (by decide)), if_neg (show ¬ (4 : Int32) ≤ nI l from nI_ge (b := 4) (by omega) (by decide)), if_neg (nI_nle (by omega) (by omega)), hX, hM, e3, e4, Gf_nextToTry_0, Gm_known_89, if_pos (show (99 : Int32) < nI 100 by decide), if_pos (show (100 : Int32) ≤ nI 100 by decide), pk_sub sc, nI_1]
    have key : ∀ x, x ≤ c → ((bx ≤ nI x) = (bm ≤ nI x)) := by
      intro x hx
      rcases hb with ⟨b1, b2⟩ | b1
      · have k1 : ¬ bx ≤ nI x := by rw [b1]; exact nI_ge (by omega) (by omega)
        have k2 : ¬ bm ≤ nI x := by rw [b2]; exact nI_ge (b := 1000000) (by omega) (by decide)
        exact (eq_false k1).trans (eq_false k2).symm
      · rw [b1]
    have fin : ∀ x, x ≤ c → ∃ r, (if bx ≤ nI x then Gf_nextToTry_0 n3 0 v (nI c) be bx (nI (l + 1)) 0 0 w else Gf_nextToTry_0 n3 0 v (nI c) (nI l) (nI x) (nI (l + 1)) 0 0 w) = some (r, w) ∧ (if bm ≤ nI x then Gm_known_89 n4 1 v q (nI c) be bm (nI (l + 1)) 0 0 m else Gm_known_89 n4 1 v q (nI c) (nI l) (nI x) (nI (l + 1)) 0 0 m) = some (if q = 0 then nI c else r, m) := by
      intro x hx
      by_cases z : bm ≤ nI x
      · rw [if_pos z, if_pos (by rw [key x hx]; exact z)]
        exact ih (l + 1) n3 n4 be bx bm 0 0 (by omega) (by omega) (by omega) hb
      · rw [if_neg z, if_neg (by rw [key x hx]; exact z)]
        exact ih (l + 1) n3 n4 (nI l) (nI x) (nI x) 0 0 (by omega) (by omega) (by omega) (Or.inr rfl)
    by_cases c1 : nI s ≤ nI (c - s)
    · have ew : (if nI s < nI (c - s) then nI (c - s) else nI s) = nI (c - s) := by
        by_cases z : nI s < nI (c - s)
        · rw [if_pos z]
        · rw [if_neg z]
          exact Int32.le_antisymm c1 (Int32.not_lt.mp z)
      rw [ew, if_pos c1]
      have q2 := fin (c - s) (by omega)
      by_cases z : bm ≤ nI (c - s)
      · simp only [if_pos z] at q2 ⊢
        exact q2
      · simp only [if_neg z] at q2 ⊢
        exact q2
    · have ew : (if nI s < nI (c - s) then nI (c - s) else nI s) = nI s := if_neg (fun z => c1 (Int32.le_of_lt z))
      rw [ew, if_neg c1]
      have q2 := fin s sc
      by_cases z : bm ≤ nI s
      · simp only [if_pos z] at q2 ⊢
        exact q2
      · simp only [if_neg z] at q2 ⊢
        exact q2
theorem C_known (h : R w m) (a b : Int32) : Ok (fun n => Ff_known_0 n a b w) (fun n => Fm_known_89 n a b m) := Ok.of 1500 fun n hn => by
  obtain ⟨w2, m2, e1, e2, hR⟩ := R_badAs h (-10)
  obtain ⟨f, hf⟩ : ∃ f, sl (a_m_w m) 0 = f := ⟨_, rfl⟩
  have hs := h.s
  rw [hf] at hs
  simp only [Ff_known_0, Fm_known_89, Ff_within_eq, Fm_in_eq a (lo := 1) (hi := 9) 1 9 rfl rfl, Fm_in_eq b (lo := 0) (hi := 1) 0 1 rfl rfl, bd_some, ifz, e1, e2]
  by_cases c1 : 1 ≤ a ∧ a ≤ 9
  · simp only [if_pos c1]
    by_cases c2 : 0 ≤ b ∧ b ≤ 1
    · simp only [if_pos c2]
      have hX := X_cnt hs a b 99 1 n 0 (by omega) (by omega)
      have hM := M_cnt h.w hf hs a b 99 1 n 0 (by omega) (by omega)
      rw [nI_0, Nat.zero_add] at hX hM
      have hX : Gf_known_0 n 0 a b 0 1 w = _ := hX
      have hM : Gm_known_89 n 0 a b 0 1 0 0 0 0 m = _ := hM
      obtain ⟨c, hc⟩ : ∃ c, c = cN (kP f a) 99 1 := ⟨_, rfl⟩
      rw [← hc] at hX hM
      have c99 : c ≤ 99 := by rw [hc]; exact cN_le _ 99 1
      obtain ⟨n3, e3⟩ : ∃ k, n - 99 = k + 1 := ⟨n - 99 - 1, by omega⟩
      rw [hX, hM, e3, Gf_known_0, Gm_known_89, if_pos (show (99 : Int32) < nI 100 by decide), if_pos (show (100 : Int32) ≤ nI 100 by decide)]
      by_cases z : c = 0
      · obtain ⟨n4, e4⟩ : ∃ k, n3 = k + 1 := ⟨n3 - 1, by omega⟩
        rw [z, nI_0, e4, Gm_known_89, if_neg (show ¬ (4 : Int32) ≤ 0 by decide), if_pos (show (0 : Int32) ≤ 0 by decide), if_pos (show (0 : Int32) = 0 from rfl)]
        by_cases b0 : b = 0
        · rw [if_pos b0, if_pos b0]
          exact ⟨_, _, _, rfl, rfl, h⟩
        · rw [if_neg b0, if_neg b0]
          exact ⟨_, _, _, rfl, rfl, h⟩
      · obtain ⟨r, q1, q2⟩ := try_out h.w hf hs a b hc (by omega) 4 0 n3 n3 (-1) (nI (c + 1)) 1000000 0 0 (by omega) (by omega) (by omega) (Or.inl ⟨rfl, rfl⟩)
        rw [nI_0] at q1 q2
        rw [q2]
        by_cases b0 : b = 0
        · rw [if_pos b0, if_pos b0]
          exact ⟨_, _, _, rfl, rfl, h⟩
        · rw [if_neg b0, if_neg b0, if_neg (nI_ne0 (by omega) (by omega))]
          unfold Ff_nextToTry_0
          rw [nI_1, q1]
          exact ⟨_, _, _, rfl, rfl, h⟩
    · simp only [if_neg c2]; exact ⟨_, _, _, rfl, rfl, hR⟩
  · simp only [if_neg c1]; exact ⟨_, _, _, rfl, rfl, hR⟩
end C49
