/-! taps -/
def swS (f : Nat → Int32) : Nat → Nat → Int32 → Int32
  | 0, _, a => a
  | d + 1, i, a => swS f d (i + 1) (a + Tk f 0 i (Nn (f 1)))
theorem swS_rng {s : TS} {t : TT} {l : TL} {f : Nat → Int32} (hs : RS s t l f) : ∀ (k i b : Nat), i + k ≤ 6 → b ≤ 11 * i → ∃ z, z ≤ 66 ∧ swS f k i (nI b) = nI z := by
  intro k
  induction k with
  | zero => intro i b hi hb; exact ⟨b, by omega, rfl⟩
  | succ k ih =>
    intro i b hi hb
    obtain ⟨y, hy, e⟩ := Tk_rng hs (i := 0) (c := i) (by omega) (by omega) (Nn (f 1))
    rw [swS, e, nI_add]
    exact ih (i + 1) (b + y) (by omega) (by omega)
theorem X_sweet {W : WX} {f : Nat → Int32} (hs : RS W.2.1 W.2.2.1 W.2.2.2.1 f) : ∀ (d i n : Nat) (a : Int32), i + d = Nn (f 0) → d < n → Gsea_sweetInAll_1 n 0 a (nI i) W = some (swS f d i a, W) := by
  have h7 := hs.c0.2.1
  have h8 := hs.c1.2.1
  have e0 : a_s1_cells W = nI (Nn (f 0)) := (hs.k (k := 0) (by omega)).trans hs.c0.2.2
  have e1 : a_s1_hour W = nI (Nn (f 1)) := (hs.k (k := 1) (by omega)).trans hs.c1.2.2
  intro d
  induction d with
  | zero =>
    intro i n a hi hn
    obtain ⟨n, rfl⟩ : ∃ k, n = k + 1 := ⟨n - 1, by omega⟩
    rw [Gsea_sweetInAll_1, e0, if_pos (nI_le (by omega) (by omega))]
    rfl
  | succ d ih =>
    intro i n a hi hn
    obtain ⟨n, rfl⟩ : ∃ k, n = k + 1 := ⟨n - 1, by omega⟩
    have hx := X_thickAt hs (l := 0) (c := i) (h := Nn (f 1)) (by omega) (by omega) (by omega)
    rw [nI_0] at hx
    rw [Gsea_sweetInAll_1, e0, if_neg (nI_ge (by omega) (by omega)), e1, hx, bd_some, nI_1, swS]
    exact ih (i + 1) n _ (by omega) (by omega)
theorem M_sweet {m : WM} (hw : (a_m_w m).length = 596) {f : Nat → Int32} (hf : sl (a_m_w m) 0 = f) (h0 : isN (f 0) 1 6) (h1 : isN (f 1) 0 999) (md : Int32) : ∀ (d i n : Nat) (a : Int32), i + d = Nn (f 0) → d < n → Gm_tap_89 n 0 md a (nI i) 0 0 0 0 0 m = Gm_tap_89 (n - d - 1) 1 md (swS f d i a) 0 (-1) 0 0 0 0 m := by
  have h7 := h0.2.1
  have h8 := h1.2.1
  have e0 : ai_ix (a_m_w m) 0 = some (nI (Nn (f 0))) := by rw [m_ix0 hw (x := 0) 0 rfl (by omega), hf, ← h0.2.2]
  have e1 : ai_ix (a_m_w m) 1 = some (nI (Nn (f 1))) := by rw [m_ix0 hw (x := 1) 1 rfl (by omega), hf, ← h1.2.2]
  intro d
  induction d with
  | zero =>
    intro i n a hi hn
    obtain ⟨n, rfl⟩ : ∃ k, n = k + 1 := ⟨n - 1, by omega⟩
    rw [Gm_tap_89, e0, bd_some, if_pos (nI_le (by omega) (by omega))]
    rfl
  | succ d ih =>
    intro i n a hi hn
    obtain ⟨n, rfl⟩ : ∃ k, n = k + 1 := ⟨n - 1, by omega⟩
    have hx := M_thickIn hw (l := 0) (c := i) (h := Nn (f 1)) (by omega) (by omega) (by omega)
    rw [nI_0, hf] at hx
    rw [Gm_tap_89, e0, bd_some, if_neg (nI_ge (by omega) (by omega)), e1, bd_some, hx, bd_some, nI_1, swS, ih (i + 1) n _ (by omega) (by omega), show n - d - 1 = n + 1 - (d + 1) - 1 by omega]
/-- what one draws who sets his tap at i, the other's being at j -/
def tpd (s i j : Nat) : Int32 := if nI i + nI j ≤ nI s then nI i else nI i - (2 * ((nI i + nI j) - nI s))
theorem tap_dec : ∀ (u : Fin 19) (s : Fin 67), (0 < nI u.val - nI s.val) = ¬ nI u.val ≤ nI s.val := by
  have : ∀ (u : Fin 19) (s : Fin 67), (0 < nI u.val - nI s.val) ↔ ¬ nI u.val ≤ nI s.val := by decide +kernel
  exact fun u s => propext (this u s)
theorem X_tapped {s i j : Nat} (hs : s ≤ 66) (hi : i ≤ 9) (hj : j ≤ 9) : Ff_tapped (nI i) (nI j) (nI s) = some (tpd s i j) := by
  unfold Ff_tapped tpd
  have e := tap_dec ⟨i + j, by omega⟩ ⟨s, by omega⟩
  have e : (0 < nI (i + j) - nI s) = ¬ nI (i + j) ≤ nI s := e
  rw [nI_add]
  by_cases c : nI (i + j) ≤ nI s
  · rw [if_pos c, if_neg (show ¬ 0 < nI (i + j) - nI s by rw [e]; exact fun q => q c)]
    rw [show (2 : Int32) * 0 = 0 by decide, Int32.sub_zero]
  · rw [if_neg c, if_pos (show 0 < nI (i + j) - nI s by rw [e]; exact c)]
theorem M_tapped (s i j : Nat) : Fm_tapped_89 (nI i) (nI j) (nI s) = some (tpd s i j) := by
  unfold Fm_tapped_89 tpd
  by_cases c : nI i + nI j ≤ nI s
  · rw [if_pos c, if_pos c, Int32.sub_zero]
  · rw [if_neg c, if_neg c]
/-- no other setting gives more -/
def bT (s y x : Nat) : Nat → Nat → Bool
  | 0, _ => true
  | d + 1, k => if tpd s k y ≤ tpd s x y then bT s y x d (k + 1) else false
theorem X_best {s y x : Nat} (hs : s ≤ 66) (hy : y ≤ 9) : ∀ (d k n : Nat) (z : Int32), k + d = 10 → d < n → Gf_isBestTap n 0 z (nI y) (nI s) (tpd s x y) (nI k) = some (if bT s y x d k = true then 1 else 0) := by
  intro d
  induction d with
  | zero =>
    intro k n z hk hn
    obtain ⟨n, rfl⟩ : ∃ k, n = k + 1 := ⟨n - 1, by omega⟩
    rw [show k = 10 by omega, Gf_isBestTap, if_pos (show (9 : Int32) < nI 10 by decide)]
    rfl
  | succ d ih =>
    intro k n z hk hn
    obtain ⟨n, rfl⟩ : ∃ k, n = k + 1 := ⟨n - 1, by omega⟩
    rw [Gf_isBestTap, if_neg (show ¬ (9 : Int32) < nI k from nI_nlt (a := 9) (by omega) (by decide)), X_tapped hs (by omega) hy, bd_some, nI_1, bT]
    by_cases c : tpd s k y ≤ tpd s x y
    · rw [if_pos c, if_pos c]
      exact ih (k + 1) n z (by omega) (by omega)
    · rw [if_neg c, if_neg c]
      rfl
theorem X_isBest {s y x n : Nat} (hs : s ≤ 66) (hy : y ≤ 9) (hx : x ≤ 9) (hn : 11 ≤ n) : Ff_isBestTap n (nI x) (nI y) (nI s) = some (if bT s y x 10 0 = true then 1 else 0) := by
  unfold Ff_isBestTap
  rw [X_tapped hs hx hy, bd_some]
  have q := X_best (x := x) hs hy 10 0 n (nI x) (by omega) (by omega)
  rw [nI_0] at q
  exact q
theorem M_t30 {m : WM} (md S cnt fi x y : Int32) : ∀ (d k n : Nat), k + d = 10 → d < n → Gm_tap_89 n 3 md S cnt fi x y 0 (nI k) m = Gm_tap_89 (n - d) 3 md S cnt fi x y 0 (nI 10) m := by
  intro d
  induction d with
  | zero =>
    intro k n hk hn
    rw [show k = 10 by omega, Nat.sub_zero]
  | succ d ih =>
    intro k n hk hn
    obtain ⟨n, rfl⟩ : ∃ k, n = k + 1 := ⟨n - 1, by omega⟩
    rw [Gm_tap_89, if_neg (show ¬ (10 : Int32) ≤ nI k from nI_ge (b := 10) (by omega) (by decide)), if_pos rfl, nI_1, ih (k + 1) n (by omega) (by omega), show n - d = n + 1 - (d + 1) by omega]
def bb (s x y : Nat) : Nat → Nat → Bool
  | 0, _ => true
  | d + 1, k => if tpd s k y ≤ tpd s x y then (if tpd s k x ≤ tpd s y x then bb s x y d (k + 1) else false) else false
theorem bb_iff (s x y : Nat) : ∀ (d k : Nat), bb s x y d k = true ↔ bT s y x d k = true ∧ bT s x y d k = true
  | 0, _ => ⟨fun _ => ⟨rfl, rfl⟩, fun _ => rfl⟩
  | d + 1, k => by
    rw [bb, bT, bT]
    by_cases c1 : tpd s k y ≤ tpd s x y
    · rw [if_pos c1, if_pos c1]
      by_cases c2 : tpd s k x ≤ tpd s y x
      · rw [if_pos c2, if_pos c2]
        exact bb_iff s x y d (k + 1)
      · rw [if_neg c2, if_neg c2]
        exact ⟨fun q => absurd q (by decide), fun q => absurd q.2 (by decide)⟩
    · rw [if_neg c1, if_neg c1]
      exact ⟨fun q => absurd q (by decide), fun q => absurd q.1 (by decide)⟩
theorem M_t31 {m : WM} (md cnt fi : Int32) (s x y : Nat) : ∀ (d k n : Nat), k + d = 10 → d < n → Gm_tap_89 n 3 md (nI s) cnt fi (nI x) (nI y) 1 (nI k) m = Gm_tap_89 (n - d) 3 md (nI s) cnt fi (nI x) (nI y) (if bb s x y d k = true then 1 else 0) (nI 10) m := by
  intro d
  induction d with
  | zero =>
    intro k n hk hn
    rw [show k = 10 by omega, Nat.sub_zero]
    rfl
  | succ d ih =>
    intro k n hk hn
    obtain ⟨n, rfl⟩ : ∃ k, n = k + 1 := ⟨n - 1, by omega⟩
    rw [Gm_tap_89, if_neg (show ¬ (10 : Int32) ≤ nI k from nI_ge (b := 10) (by omega) (by decide)), if_neg (show ¬ (1 : Int32) = 0 by decide), nI_1]
    simp only [M_tapped, bd_some]
    rw [show n + 1 - (d + 1) = n - d by omega, bb]
    by_cases c1 : tpd s k y ≤ tpd s x y
    · rw [if_pos c1, if_neg (Int32.not_lt.mpr c1)]
      by_cases c2 : tpd s k x ≤ tpd s y x
      · rw [if_pos c2, if_neg (Int32.not_lt.mpr c2)]
        exact ih (k + 1) n (by omega) (by omega)
      · rw [if_neg c2, if_pos (Int32.not_le.mp c2)]
        exact M_t30 md (nI s) cnt fi (nI x) (nI y) d (k + 1) n (by omega) (by omega)
    · rw [if_neg c1, if_pos (Int32.not_le.mp c1)]
      exact M_t30 md (nI s) cnt fi (nI x) (nI y) d (k + 1) n (by omega) (by omega)
/-- the count and the first one found -/
def tIn (b : Nat) (cnt fi : Int32) : Prop := ∃ q, q ≤ b ∧ cnt = nI q ∧ (q = 0 ↔ fi = -1)
theorem tIn_up {b c : Nat} {cnt fi : Int32} (h : tIn b cnt fi) (hb : b ≤ c) : tIn c cnt fi := by
  obtain ⟨q, h1, h2⟩ := h
  exact ⟨q, by omega, h2⟩
section C46
variable {w : WX} {m : WM}
theorem tap_in (md : Int32) {s x K : Nat} (hs : s ≤ 66) (hx : x < 10) (cont : ∀ (n n2 : Nat) (z cnt fi : Int32), K ≤ n → K ≤ n2 → tIn (10 * (x + 1)) cnt fi → ∃ r, Gf_tap_0 n 0 md (nI s) cnt fi (nI (x + 1)) z w = some (r, w) ∧ Gm_tap_89 n2 1 md (nI s) cnt fi (nI (x + 1)) 0 0 0 m = some (r, m)) : ∀ (d y n n2 : Nat) (cnt fi : Int32), y + d = 10 → K + 20 * d + 20 ≤ n → K + 20 * d + 20 ≤ n2 → tIn (10 * x + y) cnt fi → ∃ r, Gf_tap_0 n 1 md (nI s) cnt fi (nI x) (nI y) w = some (r, w) ∧ Gm_tap_89 n2 2 md (nI s) cnt fi (nI x) (nI y) 0 0 m = some (r, m) := by
  intro d
  induction d with
  | zero =>
    intro y n n2 cnt fi hy hn hn2 ht
    obtain ⟨n, rfl⟩ : ∃ k, n = k + 1 := ⟨n - 1, by omega⟩
    obtain ⟨n2, rfl⟩ : ∃ k, n2 = k + 1 := ⟨n2 - 1, by omega⟩
    have : y = 10 := by omega
    subst this
    rw [Gf_tap_0, Gm_tap_89, if_pos (show (9 : Int32) < nI 10 by decide), if_pos (show (10 : Int32) ≤ nI 10 by decide), nI_1]
    exact cont n n2 0 cnt fi (by omega) (by omega) (tIn_up ht (by omega))
  | succ d ih =>
    intro y n n2 cnt fi hy hn hn2 ht
    obtain ⟨n, rfl⟩ : ∃ k, n = k + 1 := ⟨n - 1, by omega⟩
    obtain ⟨n2, rfl⟩ : ∃ k, n2 = k + 1 := ⟨n2 - 1, by omega⟩
    have hM := M_t31 (m := m) md cnt fi s x y 10 0 n2 (by omega) (by omega)
    rw [nI_0] at hM
    obtain ⟨n3, e3⟩ : ∃ k, n2 - 10 = k + 1 := ⟨n2 - 10 - 1, by omega⟩
    rw [Gf_tap_0, Gm_tap_89, if_neg (show ¬ (9 : Int32) < nI y from nI_nlt (a := 9) (by omega) (by decide)), if_neg (show ¬ (10 : Int32) ≤ nI y from nI_ge (b := 10) (by omega) (by decide)), hM, e3, X_isBest hs (by omega) (by omega) (by omega), X_isBest hs (by omega) (by omega) (by omega)]
    simp only [bd_some, ifz]
    rw [Gm_tap_89, if_pos (show (10 : Int32) ≤ nI 10 by decide)]
    simp only [ifz, nI_1, Int32.add_zero]
    have no := ih (y + 1) n n3 cnt fi (by omega) (by omega) (by omega) (tIn_up ht (by omega))
    by_cases b1 : bT s y x 10 0 = true
    · rw [if_pos b1]
      by_cases b2 : bT s x y 10 0 = true
      · rw [if_pos b2]
        simp only [if_pos ((bb_iff s x y 10 0).mpr ⟨b1, b2⟩)]
        obtain ⟨q, q1, q2, q3⟩ := ht
        have hc : cnt + 1 = nI (q + 1) := by rw [q2, nI_1]
        by_cases z : fi = -1
        · have q0 : q = 0 := q3.mpr z
          have c0 : cnt = 0 := by rw [q2, q0, nI_0]
          rw [if_pos z, if_pos c0]
          have ev : 10 * nI x + nI y = nI (10 * x + y) := by rw [show (10 : Int32) = nI 10 from rfl, pk_mul, nI_add]
          refine ih (y + 1) n n3 _ _ (by omega) (by omega) (by omega) ⟨q + 1, by omega, hc, ⟨fun e => absurd e (by omega), fun e => ?_⟩⟩
          exfalso
          rw [ev] at e
          exact nI_pos (n := 10 * x + y) (by omega) (by rw [e]; decide)
        · have q0 : ¬ q = 0 := fun e => z (q3.mp e)
          have c0 : ¬ cnt = 0 := by rw [q2]; exact nI_ne0 (by omega) (by omega)
          rw [if_neg z, if_neg c0]
          exact ih (y + 1) n n3 _ _ (by omega) (by omega) (by omega) ⟨q + 1, by omega, hc, ⟨fun e => absurd e (by omega), fun e => absurd e z⟩⟩
      · rw [if_neg b2]
        simp only [if_neg (show ¬ bb s x y 10 0 = true from fun q => b2 ((bb_iff s x y 10 0).mp q).2)]
        exact no
    · rw [if_neg b1]
      simp only [if_neg (show ¬ bb s x y 10 0 = true from fun q => b1 ((bb_iff s x y 10 0).mp q).1)]
      exact no
theorem tap_out (md : Int32) {s : Nat} (hs : s ≤ 66) : ∀ (d x n n2 : Nat) (z cnt fi : Int32), x + d = 10 → 300 * d + 10 ≤ n → 300 * d + 10 ≤ n2 → tIn (10 * x) cnt fi → ∃ r, Gf_tap_0 n 0 md (nI s) cnt fi (nI x) z w = some (r, w) ∧ Gm_tap_89 n2 1 md (nI s) cnt fi (nI x) 0 0 0 m = some (r, m) := by
  intro d
  induction d with
  | zero =>
    intro x n n2 z cnt fi hx hn hn2 ht
    obtain ⟨n, rfl⟩ : ∃ k, n = k + 1 := ⟨n - 1, by omega⟩
    obtain ⟨n2, rfl⟩ : ∃ k, n2 = k + 1 := ⟨n2 - 1, by omega⟩
    have : x = 10 := by omega
    subst this
    rw [Gf_tap_0, Gm_tap_89, if_pos (show (9 : Int32) < nI 10 by decide), if_pos (show (10 : Int32) ≤ nI 10 by decide)]
    by_cases c : md = 0
    · rw [if_pos c, if_pos c]
      exact ⟨_, rfl, rfl⟩
    · rw [if_neg c, if_neg c]
      exact ⟨_, rfl, rfl⟩
  | succ d ih =>
    intro x n n2 z cnt fi hx hn hn2 ht
    obtain ⟨n, rfl⟩ : ∃ k, n = k + 1 := ⟨n - 1, by omega⟩
    obtain ⟨n2, rfl⟩ : ∃ k, n2 = k + 1 := ⟨n2 - 1, by omega⟩
    rw [Gf_tap_0, Gm_tap_89, if_neg (show ¬ (9 : Int32) < nI x from nI_nlt (a := 9) (by omega) (by decide)), if_neg (show ¬ (10 : Int32) ≤ nI x from nI_ge (b := 10) (by omega) (by decide))]
    have q := tap_in (w := w) (m := m) md (x := x) (K := 300 * d + 10) hs (by omega) (fun n n2 z cnt fi h1 h2 h3 => ih (x + 1) n n2 z cnt fi (by omega) h1 h2 h3) 10 0 n n2 cnt fi (by omega) (by omega) (by omega) ht
    rw [nI_0] at q
    exact q
theorem C_tap (h : R w m) (a : Int32) : Ok (fun n => Ff_tap_0 n a w) (fun n => Fm_tap_89 n a m) := Ok.of 4000 fun n hn => by
  obtain ⟨w2, m2, e1, e2, hR⟩ := R_badAs h (-10)
  obtain ⟨f, hf⟩ : ∃ f, sl (a_m_w m) 0 = f := ⟨_, rfl⟩
  have hs := h.s
  rw [hf] at hs
  simp only [Ff_tap_0, Fm_tap_89, Ff_within_eq, Fm_in_eq a (lo := 0) (hi := 1) 0 1 rfl rfl, bd_some, ifz, e1, e2]
  by_cases c1 : 0 ≤ a ∧ a ≤ 1
  · simp only [if_pos c1]
    have h7 := hs.c0.2.1
    obtain ⟨z, hz, ez⟩ := swS_rng hs (Nn (f 0)) 0 0 (by omega) (by omega)
    have hx := X_sweet hs (Nn (f 0)) 0 n 0 (by omega) (by omega)
    have hm := M_sweet h.w hf hs.c0 hs.c1 a (Nn (f 0)) 0 n 0 (by omega) (by omega)
    rw [nI_0] at hx hm ez
    have hx : Fsea_sweetInAll_1 n w = some (swS f (Nn (f 0)) 0 0, w) := hx
    rw [hx, hm, bd_some, ez]
    obtain ⟨r, q1, q2⟩ := tap_out (w := w) (m := m) a hz 10 0 n (n - Nn (f 0) - 1) 0 0 (-1) (by omega) (by omega) (by omega) ⟨0, by omega, by rw [nI_0], ⟨fun _ => rfl, fun _ => rfl⟩⟩
    rw [nI_0] at q1 q2
    exact ⟨r, w, m, q1, q2, h⟩
  · simp only [if_neg c1]; exact ⟨_, _, _, rfl, rfl, hR⟩
end C46
