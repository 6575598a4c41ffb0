/-! storms by odds -/
theorem cmp0 (x y : Int64) : lg_cmp x y = 0 ↔ x = y := by
  constructor
  · intro h
    have a : ¬ x < y := fun z => by have t := (lg_cmp_lt x y).mpr z; rw [h] at t; exact absurd t (by decide)
    have b : ¬ y < x := fun z => by have t := (lg_cmp_gt x y).mpr z; rw [h] at t; exact absurd t (by decide)
    exact Int64.le_antisymm (Int64.not_lt.mp b) (Int64.not_lt.mp a)
  · intro h
    subst h
    have a : ¬ lg_cmp x x < 0 := fun z => absurd ((lg_cmp_lt x x).mp z) Int64.lt_irrefl
    have b : ¬ 0 < lg_cmp x x := fun z => absurd ((lg_cmp_gt x x).mp z) Int64.lt_irrefl
    exact Int32.le_antisymm (Int32.not_lt.mp b) (Int32.not_lt.mp a)
theorem lN_z {a : Nat} (h : a < 2 ^ 63) : lN a = 0 ↔ a = 0 := pk_lEQ (a := a) (b := 0) h (by decide)
theorem cmpN {a : Nat} (h : a < 2 ^ 63) : lg_cmp (lN a) 0 = 0 ↔ a = 0 := by
  rw [cmp0]
  exact lN_z h
theorem gcd_st (x y : Nat) : Nat.gcd x y = Nat.gcd y (x % y) := by rw [Nat.gcd_comm x y, Nat.gcd_rec y x, Nat.gcd_comm]
section C57
variable {w : WX} {m : WM} {f : Nat → Int32}
theorem X_gEnd (S D : Int64) {x i n : Nat} (hx : x < 2 ^ 63) (h0 : 0 < x) (w : WX) : Gf_putFraction_0 (n + 1) 0 (nI i) S D (lN x) (lN 0) w = some (u_f_below (u_f_above w (S / lN x)) (D / lN x)) := by
  have c1 : ¬ lg_cmp (lN x) 0 = 0 := fun z => by have := (cmpN hx).mp z; omega
  have c2 : ¬ lN x = 0 := fun z => by have := (lN_z hx).mp z; omega
  have c3 : lg_cmp (lN 0) 0 = 0 := (cmpN (by decide)).mpr rfl
  rw [Gf_putFraction_0]
  simp only [if_neg c1, if_neg c2, if_pos c3]
  by_cases k : (1000 : Int32) ≤ nI i
  · rw [if_pos k]
  · rw [if_neg k]
theorem X_gStep (S D : Int64) {x y i n : Nat} (hx : x < 2 ^ 63) (hy : y < 2 ^ 63) (h0 : 0 < y) (hi : i < 1000) (w : WX) : Gf_putFraction_0 (n + 1) 0 (nI i) S D (lN x) (lN y) w = Gf_putFraction_0 n 0 (nI (i + 1)) S D (lN y) (lN (x % y)) w := by
  have c1 : ¬ lg_cmp (lN y) 0 = 0 := fun z => by have := (cmpN hy).mp z; omega
  have c2 : ¬ lN y = 0 := fun z => by have := (lN_z hy).mp z; omega
  rw [Gf_putFraction_0, if_neg (show ¬ (1000 : Int32) ≤ nI i from nI_ge (b := 1000) hi (by decide)), if_neg c1, if_neg c2, pk_lRem hx h0 hy, nI_1]
theorem X_gcd (S D : Int64) (w : WX) : ∀ (k x y i n : Nat), x < 2 ^ 63 → y < 2 ^ 63 → y < 2 ^ k → 0 < x ∨ 0 < y → i + 2 * k ≤ 1000 → 2 * k + 2 ≤ n → Gf_putFraction_0 n 0 (nI i) S D (lN x) (lN y) w = some (u_f_below (u_f_above w (S / lN (Nat.gcd x y))) (D / lN (Nat.gcd x y))) := by
  intro k
  induction k with
  | zero =>
    intro x y i n hx hy hk h0 hi hn
    have : y = 0 := by omega
    subst this
    obtain ⟨n, rfl⟩ : ∃ k, n = k + 1 := ⟨n - 1, by omega⟩
    rw [X_gEnd S D hx (by omega), Nat.gcd_zero_right]
  | succ k ih =>
    intro x y i n hx hy hk h0 hi hn
    obtain ⟨n, rfl⟩ : ∃ k, n = k + 1 := ⟨n - 1, by omega⟩
    by_cases y0 : y = 0
    · subst y0
      rw [X_gEnd S D hx (by omega), Nat.gcd_zero_right]
    obtain ⟨n, rfl⟩ : ∃ k, n = k + 1 := ⟨n - 1, by omega⟩
    have r1 : x % y < y := Nat.mod_lt _ (by omega)
    rw [X_gStep S D hx hy (by omega) (by omega), gcd_st x y]
    by_cases r0 : x % y = 0
    · rw [r0, X_gEnd S D hy (by omega), Nat.gcd_zero_right]
    have r2 : y % (x % y) < x % y := Nat.mod_lt _ (by omega)
    have r3 : y % (x % y) ≤ y - x % y := by
      have := Nat.mod_add_div y (x % y)
      have q1 : 1 ≤ y / (x % y) := (Nat.le_div_iff_mul_le (by omega)).mpr (by omega)
      have q2 : x % y * 1 ≤ x % y * (y / (x % y)) := Nat.mul_le_mul_left _ q1
      omega
    have p2 : 2 ^ (k + 1) = 2 * 2 ^ k := by rw [Nat.pow_succ, Nat.mul_comm]
    rw [X_gStep S D hy (by omega) (by omega) (by omega), gcd_st y (x % y)]
    exact ih (x % y) (y % (x % y)) (i + 1 + 1) n (by omega) (by omega) (by omega) (by omega) (by omega) (by omega)
theorem M_gEnd (S D : Int64) {x n : Nat} (hx : x < 2 ^ 63) (h0 : 0 < x) (m : WM) : Gm_tells_89 (n + 1) 0 S D (lN x) (lN 0) m = some (u_m_below (u_m_above m (S / lN x)) (D / lN x)) := by
  have c2 : ¬ lN x = 0 := fun z => by have := (lN_z hx).mp z; omega
  have c3 : lg_cmp (lN 0) 0 = 0 := (cmpN (by decide)).mpr rfl
  rw [Gm_tells_89, if_pos c3, if_neg c2, if_neg c2]
theorem M_gStep (S D : Int64) {x y n : Nat} (hx : x < 2 ^ 63) (hy : y < 2 ^ 63) (h0 : 0 < y) (m : WM) : Gm_tells_89 (n + 1) 0 S D (lN x) (lN y) m = Gm_tells_89 n 0 S D (lN y) (lN (x % y)) m := by
  have c1 : ¬ lg_cmp (lN y) 0 = 0 := fun z => by have := (cmpN hy).mp z; omega
  have c2 : ¬ lN y = 0 := fun z => by have := (lN_z hy).mp z; omega
  rw [Gm_tells_89, if_neg c1, if_neg c2, pk_lRem hx h0 hy]
theorem M_gcd (S D : Int64) (m : WM) : ∀ (k x y n : Nat), x < 2 ^ 63 → y < 2 ^ 63 → y < 2 ^ k → 0 < x ∨ 0 < y → 2 * k + 2 ≤ n → Gm_tells_89 n 0 S D (lN x) (lN y) m = some (u_m_below (u_m_above m (S / lN (Nat.gcd x y))) (D / lN (Nat.gcd x y))) := by
  intro k
  induction k with
  | zero =>
    intro x y n hx hy hk h0 hn
    have : y = 0 := by omega
    subst this
    obtain ⟨n, rfl⟩ : ∃ k, n = k + 1 := ⟨n - 1, by omega⟩
    rw [M_gEnd S D hx (by omega), Nat.gcd_zero_right]
  | succ k ih =>
    intro x y n hx hy hk h0 hn
    obtain ⟨n, rfl⟩ : ∃ k, n = k + 1 := ⟨n - 1, by omega⟩
    by_cases y0 : y = 0
    · subst y0
      rw [M_gEnd S D hx (by omega), Nat.gcd_zero_right]
    obtain ⟨n, rfl⟩ : ∃ k, n = k + 1 := ⟨n - 1, by omega⟩
    have r1 : x % y < y := Nat.mod_lt _ (by omega)
    rw [M_gStep S D hx hy (by omega), gcd_st x y]
    by_cases r0 : x % y = 0
    · rw [r0, M_gEnd S D hy (by omega), Nat.gcd_zero_right]
    have r2 : y % (x % y) < x % y := Nat.mod_lt _ (by omega)
    have r3 : y % (x % y) ≤ y - x % y := by
      have := Nat.mod_add_div y (x % y)
      have q1 : 1 ≤ y / (x % y) := (Nat.le_div_iff_mul_le (by omega)).mpr (by omega)
      have q2 : x % y * 1 ≤ x % y * (y / (x % y)) := Nat.mul_le_mul_left _ q1
      omega
    have p2 : 2 ^ (k + 1) = 2 * 2 ^ k := by rw [Nat.pow_succ, Nat.mul_comm]
    rw [M_gStep S D hy (by omega) (by omega), gcd_st y (x % y)]
    exact ih (x % y) (y % (x % y)) n (by omega) (by omega) (by omega) (by omega) (by omega)
/-- the chance that just these skins are torn -/
def chN (A B : Nat) (k : Int32) : Nat → Nat → Nat → Nat
  | 0, _, a => a
  | d + 1, i, a => if C_bit k (nI i) then chN A B k d (i + 1) (a * (A - B)) else chN A B k d (i + 1) (a * B)
theorem chN_le {A B : Nat} (hB : B ≤ A) (k : Int32) : ∀ d i a, chN A B k d i a ≤ a * A ^ d := by
  intro d
  induction d with
  | zero => intro i a; rw [chN, Nat.pow_zero, Nat.mul_one]; exact Nat.le_refl _
  | succ d ih =>
    intro i a
    rw [chN]
    by_cases c : C_bit k (nI i)
    · rw [if_pos c]
      refine Nat.le_trans (ih (i + 1) _) ?_
      rw [Nat.pow_succ, Nat.mul_comm (A ^ d) A, ← Nat.mul_assoc]
      exact Nat.mul_le_mul_right _ (Nat.mul_le_mul_left _ (Nat.sub_le _ _))
    · rw [if_neg c]
      refine Nat.le_trans (ih (i + 1) _) ?_
      rw [Nat.pow_succ, Nat.mul_comm (A ^ d) A, ← Nat.mul_assoc]
      exact Nat.mul_le_mul_right _ (Nat.mul_le_mul_left _ hB)
theorem X_chance {A B : Nat} (hB : B ≤ A) (k : Int32) : ∀ (d i n a : Nat), i + d = 3 → d < n → Gf_chanceOf n 0 k (nI i) (lN A) (lN B) (lN a) = some (lN (chN A B k d i a)) := by
  intro d
  induction d with
  | zero =>
    intro i n a hi hn
    obtain ⟨n, rfl⟩ : ∃ k, n = k + 1 := ⟨n - 1, by omega⟩
    rw [show i = 3 by omega, Gf_chanceOf, if_pos (show (3 : Int32) ≤ nI 3 by decide)]
    rfl
  | succ d ih =>
    intro i n a hi hn
    obtain ⟨n, rfl⟩ : ∃ k, n = k + 1 := ⟨n - 1, by omega⟩
    rw [Gf_chanceOf, if_neg (show ¬ (3 : Int32) ≤ nI i from nI_ge (b := 3) (by omega) (by decide)), nI_1, lN_sub hB, lN_mul, lN_mul, chN]
    by_cases c : C_bit k (nI i)
    · rw [if_pos c, if_pos c]
      exact ih (i + 1) n _ (by omega) (by omega)
    · rw [if_neg c, if_neg c]
      exact ih (i + 1) n _ (by omega) (by omega)
theorem M_chance {A B : Nat} (hB : B ≤ A) (a1 a2 a3 a4 a5 k : Int32) (S : Int64) (m : WM) : ∀ (d i n a : Nat), i + d = 3 → d < n → Gm_storm_89 n 2 a1 a2 a3 a4 a5 k (nI i) (lN A) (lN B) S (lN a) m = Gm_storm_89 (n - d) 2 a1 a2 a3 a4 a5 k (nI 3) (lN A) (lN B) S (lN (chN A B k d i a)) m := by
  intro d
  induction d with
  | zero =>
    intro i n a hi hn
    rw [show i = 3 by omega, Nat.sub_zero]
    rfl
  | succ d ih =>
    intro i n a hi hn
    obtain ⟨n, rfl⟩ : ∃ k, n = k + 1 := ⟨n - 1, by omega⟩
    rw [Gm_storm_89, if_neg (show ¬ (3 : Int32) ≤ nI i from nI_ge (b := 3) (by omega) (by decide)), Fm_has_eq, bd_some, nI_1, lN_sub hB, lN_mul, lN_mul, chN, show n + 1 - (d + 1) = n - d by omega]
    simp only [ifz]
    by_cases c : C_bit k (nI i)
    · rw [if_pos c, if_pos c]
      exact ih (i + 1) n _ (by omega) (by omega)
    · rw [if_neg c, if_neg c]
      exact ih (i + 1) n _ (by omega) (by omega)
theorem X_odds {o K : Nat} (ho : o ≤ 10) (hK : K ≤ 5) (a1 a2 : Int32) (w : WX) : ∀ (d j n A B : Nat), j + d = K → d < n → Gf_storm_0 n 0 a1 a2 (nI K) (nI o) (nI j) 0 (lN A) (lN B) 0 w = Gf_storm_0 (n - d) 0 a1 a2 (nI K) (nI o) (nI K) 0 (lN (A * 10 ^ d)) (lN (B * (10 - o) ^ d)) 0 w := by
  intro d
  induction d with
  | zero => intro j n A B hj hn; rw [show j = K by omega, Nat.pow_zero, Nat.pow_zero, Nat.mul_one, Nat.mul_one, Nat.sub_zero]
  | succ d ih =>
    intro j n A B hj hn
    obtain ⟨n, rfl⟩ : ∃ k, n = k + 1 := ⟨n - 1, by omega⟩
    rw [Gf_storm_0, if_neg (nI_ge (by omega) (by omega)), nI_1, show (10 : Int32) - nI o = nI (10 - o) from pk_sub (a := 10) (b := o) ho, nI_l (by omega), show (10 : Int64) = lN 10 from rfl, lN_mul, lN_mul, ih (j + 1) n _ _ (by omega) (by omega), show n + 1 - (d + 1) = n - d by omega, Nat.pow_succ, Nat.pow_succ, Nat.mul_assoc, Nat.mul_assoc, Nat.mul_comm 10, Nat.mul_comm (10 - o) ((10 - o) ^ d)]
theorem M_odds {o K : Nat} (ho : o ≤ 10) (hK : K ≤ 5) (a1 a2 : Int32) (m : WM) : ∀ (d j n A B : Nat), j + d = K → d < n → Gm_storm_89 n 0 a1 a2 (nI K) (nI o) (nI j) 0 0 (lN A) (lN B) 0 0 m = Gm_storm_89 (n - d) 0 a1 a2 (nI K) (nI o) (nI K) 0 0 (lN (A * 10 ^ d)) (lN (B * (10 - o) ^ d)) 0 0 m := by
  intro d
  induction d with
  | zero => intro j n A B hj hn; rw [show j = K by omega, Nat.pow_zero, Nat.pow_zero, Nat.mul_one, Nat.mul_one, Nat.sub_zero]
  | succ d ih =>
    intro j n A B hj hn
    obtain ⟨n, rfl⟩ : ∃ k, n = k + 1 := ⟨n - 1, by omega⟩
    rw [Gm_storm_89, if_neg (nI_ge (by omega) (by omega)), nI_1, show (10 : Int32) - nI o = nI (10 - o) from pk_sub (a := 10) (b := o) ho, nI_l (by omega), show (10 : Int64) = lN 10 from rfl, lN_mul, lN_mul, ih (j + 1) n _ _ (by omega) (by omega), show n + 1 - (d + 1) = n - d by omega, Nat.pow_succ, Nat.pow_succ, Nat.mul_assoc, Nat.mul_assoc, Nat.mul_comm 10, Nat.mul_comm (10 - o) ((10 - o) ^ d)]
theorem mT_torn (m : WM) (f : Nat → Int32) (t c h : Nat) (b to x : Int32) : u_m_torn (mT m f t c h b to) x = mkF (mkK m (f (67 + t)) (f (73 + t)) (f (79 + t)) b (nI h) x) (fT f t c h b to).1 (fT f t c h b to).2.1 (fT f t c h b to).2.2.1 (fT f t c h b to).2.2.2.2.1 (fT f t c h b to).2.2.2.1 := by
  unfold mT
  rw [mKu_torn]
theorem R_odds (h : R w m) (a b : Int64) : R (u_f_below (u_f_above w a) b) (u_m_below (u_m_above m a) b) := by
  obtain ⟨h1, h2, h3, h4, h5, h6, h7, h8, h9⟩ := h
  exact ⟨h1, h2, h3, h4, h5, h6, ⟨rfl, rfl⟩, h8, h9⟩
theorem st_loop (h : R w m) (hf : sl (a_m_w m) 0 = f) (hs : RS w.2.1 w.2.2.1 w.2.2.2.1 f) {t c A B : Nat} (ht : t < Nn (f 2)) (hc : c < 6) (hB : B ≤ A) (hA0 : 0 < A) (hA : A ≤ 100000) (a3 a4 L : Int32) (Q : Nat) (hQ : Q = 1000000000000000) : ∀ (d j n n2 s : Nat) (to : Int32), j + d = 8 → s ≤ j * Q → 400 + 20 * d ≤ n → 400 + 20 * d ≤ n2 → ∃ w' m', Gf_storm_0 n 1 (nI t) (nI c) a3 a4 L (nI j) (lN A) (lN B) (lN s) (mkX w (tT f t c (Nn (f 1)) (f (85 + t)) to)) = some (1, w') ∧ Gm_storm_89 n2 1 (nI t) (nI c) a3 a4 L (nI j) 0 (lN A) (lN B) (lN s) 0 (mT m f t c (Nn (f 1)) (f (85 + t)) to) = some (1, m') ∧ R w' m' := by
  have h6 := hs.c2.2.1
  have q2 := hs.c1.2.1
  have hsk := h.sk
  rw [hf] at hsk
  have e3 : A ^ 3 = A * A * A := by rw [Nat.pow_succ, Nat.pow_succ, Nat.pow_one]
  have c3 : A * A * A ≤ 100000 * 100000 * 100000 := Nat.mul_le_mul (Nat.mul_le_mul hA hA) hA
  have c0 : 0 < A * A * A := Nat.mul_pos (Nat.mul_pos hA0 hA0) hA0
  intro d
  induction d with
  | zero =>
    intro j n n2 s to hj hss hn hn2
    obtain ⟨n, rfl⟩ : ∃ k, n = k + 1 := ⟨n - 1, by omega⟩
    obtain ⟨n2, rfl⟩ : ∃ k, n2 = k + 1 := ⟨n2 - 1, by omega⟩
    have : j = 8 := by omega
    subst this
    rw [Gf_storm_0, Gm_storm_89, if_pos (show (8 : Int32) ≤ nI 8 by decide), if_pos (show (8 : Int32) ≤ nI 8 by decide), lN_mul, lN_mul]
    unfold Ff_putFraction_0 Fm_tells_89
    have gx := X_gcd (lN s) (lN (A * A * A)) (mkX w (tT f t c (Nn (f 1)) (f (85 + t)) to)) 53 (A * A * A) s 0 n (by omega) (by omega) (by omega) (by omega) (by omega) (by omega)
    rw [nI_0] at gx
    rw [gx, M_gcd (lN s) (lN (A * A * A)) _ 53 s (A * A * A) n2 (by omega) (by omega) (by omega) (by omega) (by omega), bd_some, bd_some, Nat.gcd_comm]
    refine ⟨_, _, rfl, rfl, R_odds ?_ _ _⟩
    rw [mT_torn]
    exact R_fall h (tT_len _ _ _ _ _ _) _ _ _ _ _ _ _ _ _ _ _
  | succ d ih =>
    intro j n n2 s to hj hss hn hn2
    obtain ⟨n, rfl⟩ : ∃ k, n = k + 1 := ⟨n - 1, by omega⟩
    obtain ⟨n2, rfl⟩ : ∃ k, n2 = k + 1 := ⟨n2 - 1, by omega⟩
    have mc := M_chance hB (nI t) (nI c) a3 a4 L (nI j) (lN s) (mT m f t c (Nn (f 1)) (f (85 + t)) to) 3 0 n2 1 (by omega) (by omega)
    rw [nI_0] at mc
    have mc : Gm_storm_89 n2 2 (nI t) (nI c) a3 a4 L (nI j) 0 (lN A) (lN B) (lN s) 1 (mT m f t c (Nn (f 1)) (f (85 + t)) to) = _ := mc
    have xc := X_chance hB (nI j) 3 0 n 1 (by omega) (by omega)
    rw [nI_0] at xc
    have xc : Ff_chanceOf n (nI j) (lN A) (lN B) = some (lN (chN A B (nI j) 3 0 1)) := xc
    have cl := chN_le hB (nI j) 3 0 1
    rw [e3, Nat.one_mul] at cl
    obtain ⟨n3, e4⟩ : ∃ k, n2 - 3 = k + 1 := ⟨n2 - 3 - 1, by omega⟩
    rw [Gf_storm_0, Gm_storm_89, if_neg (show ¬ (8 : Int32) ≤ nI j from nI_ge (b := 8) (by omega) (by decide)), if_neg (show ¬ (8 : Int32) ≤ nI j from nI_ge (b := 8) (by omega) (by decide)), mc, e4, Gm_storm_89, if_pos (show (3 : Int32) ≤ nI 3 by decide), mT_torn, M_goT h.w hf (by omega) hc (by omega) hsk, X_goN hs (by omega) ht hc (nI j) (tT_len _ _ _ _ _ _)]
    simp only [bd_some]
    rw [mT_la, tT_la, nI_1, xc, bd_some, Int64.add_zero, lN_add]
    by_cases k : (fT f t c (Nn (f 1)) (f (85 + t)) (nI j)).1 ≤ L
    · rw [if_pos k, if_pos k]
      exact ih (j + 1) n n3 s (nI j) (by omega) (by rw [Nat.succ_mul]; omega) (by omega) (by omega)
    · rw [if_neg k, if_neg k]
      exact ih (j + 1) n n3 _ (nI j) (by omega) (by rw [Nat.succ_mul]; omega) (by omega) (by omega)
theorem pw10 {K o : Nat} (hK : K ≤ 5) : (10 - o) ^ K ≤ 10 ^ K ∧ 0 < 10 ^ K ∧ 10 ^ K ≤ 100000 := ⟨Nat.pow_le_pow_left (Nat.sub_le _ _) K, Nat.pow_pos (by decide), Nat.pow_le_pow_right (n := 10) (by decide) hK⟩
theorem C_storm (h : R w m) (a b k o : Int32) : Ok (fun n => Ff_storm_0 n a b k o w) (fun n => Fm_storm_89 n a b k o m) := Ok.of 1000 fun n hn => by
  obtain ⟨w2, m2, e1, e2, hR⟩ := R_bad h
  obtain ⟨f, hf⟩ : ∃ f, sl (a_m_w m) 0 = f := ⟨_, rfl⟩
  have hs := h.s
  rw [hf] at hs
  have h6 := hs.c2.2.1
  have h7 := hs.c0.2.1
  have f0 : a_s1_cells w = f 0 := hs.k (k := 0) (by omega)
  have f2 : a_s1things_count w = f 2 := hs.k (k := 2) (by omega)
  simp only [Ff_storm_0, Fm_storm_89, has_7, M_isThing h.w, hasCell_1, M_isCell h.w, hf, Ff_within_eq, Fm_in_eq k (lo := 0) (hi := 5) 0 5 rfl rfl, Fm_in_eq o (lo := 0) (hi := 10) 0 10 rfl rfl, bd_some, ifz, e1, e2, f0, f2]
  by_cases c1 : C_th (f 2) a
  · simp only [if_pos c1]
    by_cases c2 : C_cell (f 0) b
    · simp only [if_pos c2]
      by_cases c3 : 0 ≤ k ∧ k ≤ 5
      · simp only [if_pos c3]
        by_cases c4 : 0 ≤ o ∧ o ≤ 10
        · simp only [if_pos c4]
          obtain ⟨t, ht, rfl⟩ := th_N hs.c2 (by decide) c1
          obtain ⟨c, hc, rfl⟩ := cell_N hs.c0 (by decide) c2
          obtain ⟨K, hK, rfl⟩ := in0 5 rfl c3
          obtain ⟨O, hO, rfl⟩ := in0 10 rfl c4
          have hx := X_odds hO hK (nI t) (nI c) w K 0 n 1 1 (by omega) (by omega)
          have hm := M_odds hO hK (nI t) (nI c) m K 0 n 1 1 (by omega) (by omega)
          rw [nI_0, Nat.one_mul, Nat.one_mul] at hx hm
          have hx : Gf_storm_0 n 0 (nI t) (nI c) (nI K) (nI O) 0 0 1 1 0 w = _ := hx
          have hm : Gm_storm_89 n 0 (nI t) (nI c) (nI K) (nI O) 0 0 0 1 1 0 0 m = _ := hm
          obtain ⟨n3, e4⟩ : ∃ k, n - K = k + 1 := ⟨n - K - 1, by omega⟩
          have hg := X_goN hs (n := n3) (t := t) (c := c) (by omega) ht (by omega) 0 (fa := w.2.2.2.2.2.2.2.2.2.2.2.2.2.2.1) h.pt
          rw [mX_in] at hg
          have hsk := h.sk
          rw [hf] at hsk
          have q1 := hs.c1.2.2
          have q2 := hs.c1.2.1
          obtain ⟨p1, p2, p3⟩ := pw10 (K := K) (o := O) hK
          have fin := st_loop h hf hs ht (c := c) (by omega) p1 p2 p3 (nI K) (nI O) (fT f t c (Nn (f 1)) (f (85 + t)) 0).1 1000000000000000 rfl 8 0 n3 n3 0 0 (by omega) (by omega) (by omega) (by omega)
          rw [nI_0] at fin
          obtain ⟨w', m', g1, g2, g3⟩ := fin
          obtain ⟨H, hH⟩ : ∃ H, Nn (f 1) = H := ⟨_, rfl⟩
          rw [hH] at q1 q2 hg g1 g2
          rw [hx, hm, e4, Gf_storm_0, Gm_storm_89, if_pos (Int32.le_refl _), if_pos (Int32.le_refl _), hg, M_lay h.w hf (by omega), bd_some, bd_some, q1, M_goT h.w hf (by omega) (by omega) (by omega) hsk, bd_some, mT_la, tT_la]
          exact ⟨1, w', m', g1, g2, g3⟩
        · simp only [if_neg c4]; exact ⟨_, _, _, rfl, rfl, hR⟩
      · simp only [if_neg c3]; exact ⟨_, _, _, rfl, rfl, hR⟩
    · simp only [if_neg c2]; exact ⟨_, _, _, rfl, rfl, hR⟩
  · simp only [if_neg c1]; exact ⟨_, _, _, rfl, rfl, hR⟩
end C57
