/-! reading: which word, and the numbers behind it -/
section C60
variable {w : WX} {m : WM} {b : Nat → Int32} {L : Nat}
def wqC (b : Nat → Int32) (c : List Int32) (p e : Nat) : Bool := if c.length = e - p then eqD b c p c.length 0 else false
theorem M_n3 (h : TM m b L) {p e : Nat} (he : p ≤ e) (hL : e ≤ L) (c0 c1 c2 : Int32) (v : List Int32) (ig : Int32) (nu : List Int32) (wo : Int32) : Fm_isNamed_89 c0 c1 c2 0 0 (mkP m v (nI e) (nI p) 1 ig nu wo) = some (if wqC b [c0, c1, c2] p e = true then 1 else 0, mkP m v (nI e) (nI p) 1 ig nu wo) := by
  have h1 := h.1
  have u : wqC b [c0, c1, c2] p e = if 3 = e - p then (if b p = c0 then (if b (p + 1) = c1 then (if b (p + 2) = c2 then true else false) else false) else false) else false := rfl
  unfold Fm_isNamed_89
  rw [if_pos rfl, kP_iw, if_neg (show ¬ (1 : Int32) = 0 by decide), kP_at, kP_st, show nI e - nI p = nI (e - p) from pk_sub he, u]
  by_cases c : 3 = e - p
  · rw [if_pos (by rw [← c]; rfl), if_pos c, M_byte h (by omega)]
    simp only [bd_some]
    by_cases q0 : b p = c0
    · rw [if_pos q0, if_pos q0, kP_st, show nI p + 1 = nI (p + 1) from nI_1 p, M_byte h (by omega)]
      simp only [bd_some]
      by_cases q1 : b (p + 1) = c1
      · rw [if_pos q1, if_pos q1, kP_st, show nI p + 2 = nI (p + 2) from by rw [show (2 : Int32) = nI 2 from rfl, nI_add], M_byte h (by omega)]
        simp only [bd_some]
        by_cases q2 : b (p + 2) = c2
        · rw [if_pos q2, if_pos q2, if_pos trivial, if_pos trivial, if_pos rfl]
        · rw [if_neg q2, if_neg q2, if_neg Bool.false_ne_true]
      · rw [if_neg q1, if_neg q1, if_neg Bool.false_ne_true]
    · rw [if_neg q0, if_neg q0, if_neg Bool.false_ne_true]
  · rw [if_neg (show ¬ nI (e - p) = 3 from fun z => c ((nI_eq (a := e - p) (b := 3) (by omega) (by decide)).mp z).symm), if_neg c, if_neg Bool.false_ne_true]
theorem M_n4 (h : TM m b L) {p e : Nat} (he : p ≤ e) (hL : e ≤ L) (c0 c1 c2 c3 : Int32) (z3 : ¬ c3 = 0) (v : List Int32) (ig : Int32) (nu : List Int32) (wo : Int32) : Fm_isNamed_89 c0 c1 c2 c3 0 (mkP m v (nI e) (nI p) 1 ig nu wo) = some (if wqC b [c0, c1, c2, c3] p e = true then 1 else 0, mkP m v (nI e) (nI p) 1 ig nu wo) := by
  have h1 := h.1
  have u : wqC b [c0, c1, c2, c3] p e = if 4 = e - p then (if b p = c0 then (if b (p + 1) = c1 then (if b (p + 2) = c2 then (if b (p + 3) = c3 then true else false) else false) else false) else false) else false := rfl
  unfold Fm_isNamed_89
  rw [if_neg z3, if_pos rfl, kP_iw, if_neg (show ¬ (1 : Int32) = 0 by decide), kP_at, kP_st, show nI e - nI p = nI (e - p) from pk_sub he, u]
  by_cases c : 4 = e - p
  · rw [if_pos (by rw [← c]; rfl), if_pos c, M_byte h (by omega)]
    simp only [bd_some]
    by_cases q0 : b p = c0
    · rw [if_pos q0, if_pos q0, kP_st, show nI p + 1 = nI (p + 1) from nI_1 p, M_byte h (by omega)]
      simp only [bd_some]
      by_cases q1 : b (p + 1) = c1
      · rw [if_pos q1, if_pos q1, kP_st, show nI p + 2 = nI (p + 2) from by rw [show (2 : Int32) = nI 2 from rfl, nI_add], M_byte h (by omega)]
        simp only [bd_some]
        by_cases q2 : b (p + 2) = c2
        · rw [if_pos q2, if_pos q2, if_neg z3, kP_st, show nI p + 3 = nI (p + 3) from by rw [show (3 : Int32) = nI 3 from rfl, nI_add], M_byte h (by omega)]
          simp only [bd_some]
          by_cases q3 : b (p + 3) = c3
          · rw [if_pos q3, if_pos q3, if_pos trivial, if_pos rfl]
          · rw [if_neg q3, if_neg q3, if_neg Bool.false_ne_true]
        · rw [if_neg q2, if_neg q2, if_neg Bool.false_ne_true]
      · rw [if_neg q1, if_neg q1, if_neg Bool.false_ne_true]
    · rw [if_neg q0, if_neg q0, if_neg Bool.false_ne_true]
  · rw [if_neg (show ¬ nI (e - p) = 4 from fun z => c ((nI_eq (a := e - p) (b := 4) (by omega) (by decide)).mp z).symm), if_neg c, if_neg Bool.false_ne_true]
theorem M_n5 (h : TM m b L) {p e : Nat} (he : p ≤ e) (hL : e ≤ L) (c0 c1 c2 c3 c4 : Int32) (z3 : ¬ c3 = 0) (z4 : ¬ c4 = 0) (v : List Int32) (ig : Int32) (nu : List Int32) (wo : Int32) : Fm_isNamed_89 c0 c1 c2 c3 c4 (mkP m v (nI e) (nI p) 1 ig nu wo) = some (if wqC b [c0, c1, c2, c3, c4] p e = true then 1 else 0, mkP m v (nI e) (nI p) 1 ig nu wo) := by
  have h1 := h.1
  have u : wqC b [c0, c1, c2, c3, c4] p e = if 5 = e - p then (if b p = c0 then (if b (p + 1) = c1 then (if b (p + 2) = c2 then (if b (p + 3) = c3 then (if b (p + 4) = c4 then true else false) else false) else false) else false) else false) else false := rfl
  unfold Fm_isNamed_89
  rw [if_neg z3, if_neg z4, kP_iw, if_neg (show ¬ (1 : Int32) = 0 by decide), kP_at, kP_st, show nI e - nI p = nI (e - p) from pk_sub he, u]
  by_cases c : 5 = e - p
  · rw [if_pos (by rw [← c]; rfl), if_pos c, M_byte h (by omega)]
    simp only [bd_some]
    by_cases q0 : b p = c0
    · rw [if_pos q0, if_pos q0, kP_st, show nI p + 1 = nI (p + 1) from nI_1 p, M_byte h (by omega)]
      simp only [bd_some]
      by_cases q1 : b (p + 1) = c1
      · rw [if_pos q1, if_pos q1, kP_st, show nI p + 2 = nI (p + 2) from by rw [show (2 : Int32) = nI 2 from rfl, nI_add], M_byte h (by omega)]
        simp only [bd_some]
        by_cases q2 : b (p + 2) = c2
        · rw [if_pos q2, if_pos q2, if_neg z3, kP_st, show nI p + 3 = nI (p + 3) from by rw [show (3 : Int32) = nI 3 from rfl, nI_add], M_byte h (by omega)]
          simp only [bd_some]
          by_cases q3 : b (p + 3) = c3
          · rw [if_pos q3, if_pos q3, if_neg z4, kP_st, show nI p + 4 = nI (p + 4) from by rw [show (4 : Int32) = nI 4 from rfl, nI_add], M_byte h (by omega)]
            simp only [bd_some]
            by_cases q4 : b (p + 4) = c4
            · rw [if_pos q4, if_pos q4, if_pos rfl]
            · rw [if_neg q4, if_neg q4, if_neg Bool.false_ne_true]
          · rw [if_neg q3, if_neg q3, if_neg Bool.false_ne_true]
        · rw [if_neg q2, if_neg q2, if_neg Bool.false_ne_true]
      · rw [if_neg q1, if_neg q1, if_neg Bool.false_ne_true]
    · rw [if_neg q0, if_neg q0, if_neg Bool.false_ne_true]
  · rw [if_neg (show ¬ nI (e - p) = 5 from fun z => c ((nI_eq (a := e - p) (b := 5) (by omega) (by decide)).mp z).symm), if_neg c, if_neg Bool.false_ne_true]
theorem M_n0 (m : WM) (c0 c1 c2 c3 c4 : Int32) (v : List Int32) (a1 a2 ig : Int32) (nu : List Int32) (wo : Int32) : Fm_isNamed_89 c0 c1 c2 c3 c4 (mkP m v a1 a2 0 ig nu wo) = some (0, mkP m v a1 a2 0 ig nu wo) := by
  unfold Fm_isNamed_89
  rw [kP_iw]
  by_cases z3 : c3 = 0
  · rw [if_pos z3, if_pos rfl]
  · rw [if_neg z3]
    by_cases z4 : c4 = 0
    · rw [if_pos z4, if_pos rfl]
    · rw [if_neg z4, if_pos rfl]
theorem M_word0 (m : WM) (v : List Int32) (a1 a2 ig : Int32) (nu : List Int32) (wo : Int32) : Fm_wordNow_89 (mkP m v a1 a2 0 ig nu wo) = some (-1, mkP m v a1 a2 0 ig nu wo) := by
  unfold Fm_wordNow_89
  simp only [M_n0, bd_some]
  rfl
theorem wq_C (b : Nat → Int32) (p e : Nat) : wq b p e 0 = wqC b [115, 101, 97] p e ∧ wq b p e 1 = wqC b [119, 97, 116, 101, 114] p e ∧ wq b p e 2 = wqC b [116, 104, 105, 99, 107] p e ∧ wq b p e 3 = wqC b [115, 107, 105, 110] p e ∧ wq b p e 4 = wqC b [116, 104, 105, 110, 103] p e ∧ wq b p e 5 = wqC b [108, 105, 102, 116] p e ∧ wq b p e 6 = wqC b [116, 111, 119, 110] p e ∧ wq b p e 7 = wqC b [100, 97, 109] p e := ⟨rfl, rfl, rfl, rfl, rfl, rfl, rfl, rfl⟩
theorem wN_u (b : Nat → Int32) (p e d k : Nat) : wN b p e (d + 1) k = if wq b p e k = true then nI k else wN b p e d (k + 1) := by rw [wN]
theorem M_word1 (h : TM m b L) {p e : Nat} (he : p ≤ e) (hL : e ≤ L) (v : List Int32) (ig : Int32) (nu : List Int32) (wo : Int32) : Fm_wordNow_89 (mkP m v (nI e) (nI p) 1 ig nu wo) = some (wN b p e 8 0, mkP m v (nI e) (nI p) 1 ig nu wo) := by
  obtain ⟨u0, u1, u2, u3, u4, u5, u6, u7⟩ := wq_C b p e
  unfold Fm_wordNow_89
  rw [wN_u, M_n3 h he hL, ← u0]
  simp only [bd_some, ifz]
  by_cases q0 : wq b p e 0 = true
  · rw [if_pos q0, if_pos q0]; rfl
  rw [if_neg q0, if_neg q0, wN_u, M_n5 h he hL _ _ _ _ _ (by decide) (by decide), ← u1]
  simp only [bd_some, ifz]
  by_cases q1 : wq b p e 1 = true
  · rw [if_pos q1, if_pos q1]; rfl
  rw [if_neg q1, if_neg q1, wN_u, M_n5 h he hL _ _ _ _ _ (by decide) (by decide), ← u2]
  simp only [bd_some, ifz]
  by_cases q2 : wq b p e 2 = true
  · rw [if_pos q2, if_pos q2]; rfl
  rw [if_neg q2, if_neg q2, wN_u, M_n4 h he hL _ _ _ _ (by decide), ← u3]
  simp only [bd_some, ifz]
  by_cases q3 : wq b p e 3 = true
  · rw [if_pos q3, if_pos q3]; rfl
  rw [if_neg q3, if_neg q3, wN_u, M_n5 h he hL _ _ _ _ _ (by decide) (by decide), ← u4]
  simp only [bd_some, ifz]
  by_cases q4 : wq b p e 4 = true
  · rw [if_pos q4, if_pos q4]; rfl
  rw [if_neg q4, if_neg q4, wN_u, M_n4 h he hL _ _ _ _ (by decide), ← u5]
  simp only [bd_some, ifz]
  by_cases q5 : wq b p e 5 = true
  · rw [if_pos q5, if_pos q5]; rfl
  rw [if_neg q5, if_neg q5, wN_u, M_n4 h he hL _ _ _ _ (by decide), ← u6]
  simp only [bd_some, ifz]
  by_cases q6 : wq b p e 6 = true
  · rw [if_pos q6, if_pos q6]; rfl
  rw [if_neg q6, if_neg q6, wN_u, M_n3 h he hL, ← u7]
  simp only [bd_some, ifz]
  by_cases q7 : wq b p e 7 = true
  · rw [if_pos q7, if_pos q7]; rfl
  rw [if_neg q7, if_neg q7]
  rfl
theorem wN_0 (b : Nat → Int32) (p : Nat) : ∀ d k, k + d = 8 → wN b p p d k = -1 := by
  intro d
  induction d with
  | zero => intro k hk; rfl
  | succ d ih =>
    intro k hk
    obtain ⟨n1, n2, n3, n4⟩ := nm_dec ⟨k, by omega⟩
    have n3 : 3 ≤ (ai_str.getD k []).length := n3
    rw [wN_u, if_neg, ih (k + 1) (by omega)]
    unfold wq
    rw [if_neg (by omega)]
    exact Bool.false_ne_true
theorem wN_or (b : Nat → Int32) (p e : Nat) : ∀ d k, k + d = 8 → wN b p e d k = -1 ∨ ∃ j, j < 8 ∧ wN b p e d k = nI j := by
  intro d
  induction d with
  | zero => intro k hk; exact Or.inl rfl
  | succ d ih =>
    intro k hk
    rw [wN_u]
    by_cases q : wq b p e k = true
    · rw [if_pos q]; exact Or.inr ⟨k, by omega, rfl⟩
    · rw [if_neg q]; exact ih (k + 1) (by omega)
/-- the numbers behind a word -/
def nS (b : Nat → Int32) (L : Nat) : Nat → Nat → List Int32 → Option (List Int32 × Nat)
  | 0, p, vs => some (vs, p)
  | d + 1, p, vs =>
    if isF (b (sk b (L - p) p)) then
      if isF (b (sk b (L - p) p + 1)) then
        if isF (b (sk b (L - p) p + 2)) then none
        else nS b L d (sk b (L - p) p + 2) (vs ++ [((10 * (b (sk b (L - p) p) - 48)) + b (sk b (L - p) p + 1)) - 48])
      else nS b L d (sk b (L - p) p + 1) (vs ++ [b (sk b (L - p) p) - 48])
    else none
theorem isF_lt {b : Nat → Int32} {L : Nat} (hb : ∀ k, L ≤ k → b k = -1) {p : Nat} (h : isF (b p)) : p < L := by
  by_cases c : p < L
  · exact c
  · rw [hb p (by omega)] at h
    exact absurd h (by decide)
theorem isL_lt {b : Nat → Int32} {L : Nat} (hb : ∀ k, L ≤ k → b k = -1) {p : Nat} (h : isL (b p)) : p < L := by
  by_cases c : p < L
  · exact c
  · rw [hb p (by omega)] at h
    exact absurd h (by decide)
theorem X_fig (h : TX w b L) (hb : ∀ k, L ≤ k → b k = -1) {p : Nat} (hp : p ≤ L) (s : TS) (t : TT) (l : TL) (it rf : Int32) (nu : List Int32) : Ftxt_isFigure_78 (mkT w s t l it rf nu (nI p)) = some (if isF (b p) then 1 else 0, mkT w s t l it rf nu (nI p)) := by
  have h1 := h.1
  unfold Ftxt_isFigure_78
  rw [kT_len, kT_at, h.2.1]
  by_cases c : L ≤ p
  · rw [if_pos (nI_le c (by omega)), if_neg (fun z => by have := isF_lt hb z; omega)]
  · rw [if_neg (nI_ge (by omega) (by omega)), kT_by, X_sign h (by omega), bd_some, Ff_within_eq, bd_some]
    simp only [ifz]
    by_cases q : isF (b p)
    · rw [if_pos q, if_pos q]
    · rw [if_neg q, if_neg q]
theorem gD_app (vs : List Int32) (x : Int32) (nu : List Int32) {j : Nat} (hj : vs.length = j) (h3 : j < nu.length) (h : ∀ i, i < j → nu.getD i 0 = vs.getD i 0) : ∀ i, i < j + 1 → (nu.set j x).getD i 0 = (vs ++ [x]).getD i 0 := by
  intro i hi
  rw [gD_set _ _ _ _ h3]
  by_cases e : i = j
  · rw [if_pos e, List.getD_eq_getElem?_getD, List.getElem?_append_right (by omega), show i - vs.length = 0 by omega]
    rfl
  · rw [if_neg e, h i (by omega), List.getD_eq_getElem?_getD, List.getD_eq_getElem?_getD, List.getElem?_append_left (by omega)]
theorem X_nums (h : TX w b L) (hb : ∀ k, L ≤ k → b k = -1) {K : Nat} (hK : K ≤ 3) (s : TS) (t : TT) (l : TL) (it rf : Int32) : ∀ (d j p n : Nat) (nu vs : List Int32), j + d = K → 200 + d ≤ n → p ≤ L → nu.length = 3 → vs.length = j → (∀ i, i < j → nu.getD i 0 = vs.getD i 0) → ∃ r nu' a', nu'.length = 3 ∧ Gtxt_takeNumbers_78 n 0 (nI K) (nI j) (mkT w s t l it rf nu (nI (sk b (L - p) p))) = some (r, mkT w s t l it rf nu' a') ∧ (∀ vv q, nS b L d p vs = some (vv, q) → r = -1 ∧ q ≤ L ∧ p ≤ q ∧ a' = nI (sk b (L - q) q) ∧ ∀ i, i < K → nu'.getD i 0 = vv.getD i 0) ∧ (nS b L d p vs = none → ¬ r = -1) := by
  have h1 := h.1
  intro d
  induction d with
  | zero =>
    intro j p n nu vs hj hn hp hl hv ha
    obtain ⟨n, rfl⟩ : ∃ k, n = k + 1 := ⟨n - 1, by omega⟩
    rw [Gtxt_takeNumbers_78, if_pos (nI_le (by omega) (by omega))]
    refine ⟨_, nu, _, hl, rfl, fun vv q e => ?_, fun e => ?_⟩
    · rw [nS] at e
      injection e with e
      injection e with e1 e2
      subst e1 e2
      exact ⟨rfl, hp, Nat.le_refl _, rfl, fun i hi => ha i (by omega)⟩
    · rw [nS] at e
      exact absurd e (by simp)
  | succ d ih =>
    intro j p n nu vs hj hn hp hl hv ha
    obtain ⟨n, rfl⟩ : ∃ k, n = k + 1 := ⟨n - 1, by omega⟩
    have le := sk_le b (L - p) p
    rw [Gtxt_takeNumbers_78, if_neg (nI_ge (by omega) (by omega)), nS]
    generalize sk b (L - p) p = q at le
    have neg : ∀ q : Nat, q ≤ L → ¬ nI q = -1 := fun q hq z => nI_pos (n := q) (by omega) (by rw [z]; decide)
    rw [X_fig h hb (by omega)]
    simp only [bd_some, ifz]
    by_cases f1 : isF (b q)
    · have q1 := isF_lt hb f1
      rw [if_pos f1, if_pos f1, kT_by, kT_at, X_sign h q1, bd_some, kT_nu, up_e (l := nu) (i := nI j) _ j rfl (by omega) (by omega), bd_some, kTu_nu, kTu_at, show nI q + 1 = nI (q + 1) from nI_1 q, X_fig h hb (by omega)]
      simp only [bd_some, ifz]
      have l2 : (nu.set j (b q - 48)).length = 3 := by rw [List.length_set]; exact hl
      by_cases f2 : isF (b (q + 1))
      · have q2 := isF_lt hb f2
        have g1 : (nu.set j (b q - 48)).getD j 0 = b q - 48 := by rw [gD_set _ _ _ _ (by omega), if_pos rfl]
        rw [if_pos f2, if_pos f2, kT_nu, ix_e (l := nu.set j (b q - 48)) (i := nI j) j rfl (by omega) (by omega), g1, bd_some, kT_by, kT_at, X_sign h q2, bd_some, up_e (l := nu.set j (b q - 48)) (i := nI j) _ j rfl (by omega) (by omega), bd_some, kTu_nu, kTu_at, show nI (q + 1) + 1 = nI (q + 2) from nI_1 (q + 1), X_fig h hb (by omega)]
        simp only [bd_some, ifz]
        by_cases f3 : isF (b (q + 2))
        · rw [if_pos f3, if_pos f3]
          refine ⟨_, _, _, by rw [List.length_set]; exact l2, rfl, fun vv q e => absurd e (by simp), fun _ => ?_⟩
          rw [kT_at]
          exact neg _ (by omega)
        · rw [if_neg f3, if_neg f3, X_skip h s t l it rf _ (L - (q + 2)) (q + 2) n (by omega) (by omega), bd_some, nI_1]
          obtain ⟨r, nu', a', b1, b2, b3, b4⟩ := ih (j + 1) (q + 2) n _ (vs ++ [((10 * (b q - 48)) + b (q + 1)) - 48]) (by omega) (by omega) (by omega) (by rw [List.length_set]; exact l2) (by rw [List.length_append, hv]; rfl) (gD_app vs _ _ hv (by omega) (fun i hi => by rw [gD_set _ _ _ _ (by omega), if_neg (by omega)]; exact ha i hi))
          refine ⟨r, nu', a', b1, b2, fun vv z e => ?_, b4⟩
          obtain ⟨c1, c2, c3, c4⟩ := b3 vv z e
          exact ⟨c1, c2, by omega, c4⟩
      · rw [if_neg f2, if_neg f2, X_fig h hb (by omega)]
        simp only [bd_some, ifz]
        rw [if_neg f2, X_skip h s t l it rf _ (L - (q + 1)) (q + 1) n (by omega) (by omega), bd_some, nI_1]
        obtain ⟨r, nu', a', b1, b2, b3, b4⟩ := ih (j + 1) (q + 1) n _ (vs ++ [b q - 48]) (by omega) (by omega) (by omega) l2 (by rw [List.length_append, hv]; rfl) (gD_app vs _ _ hv (by omega) ha)
        refine ⟨r, nu', a', b1, b2, fun vv z e => ?_, b4⟩
        obtain ⟨c1, c2, c3, c4⟩ := b3 vv z e
        exact ⟨c1, c2, by omega, c4⟩
    · rw [if_neg f1, if_neg f1]
      refine ⟨_, nu, _, hl, rfl, fun vv q e => absurd e (by simp), fun _ => ?_⟩
      rw [kT_at]
      exact neg _ (by omega)
theorem rd_u (hb : ∀ k, L ≤ k → b k = -1) {p : Nat} (hp : p ≤ L) : rd b (L - p) p = if isF (b p) then rd b (L - (p + 1)) (p + 1) else p := by
  by_cases c : p = L
  · subst c
    rw [if_neg (fun z => by have := isF_lt hb z; omega), Nat.sub_self, rd]
  · rw [show L - p = (L - (p + 1)) + 1 by omega, rd]
theorem M_digE {n : Nat} (a z : Int32) {j e : Nat} (he : e < 2 ^ 31) (v : List Int32) (st iw ig : Int32) (nu : List Int32) (wo : Int32) : Gm_takesItem_89 (n + 1) 1 a (nI j) (nI e) (mkP m v (nI e) st iw ig nu wo) = Gm_takesItem_89 n 0 a (nI (j + 1)) 0 (mkP m v (nI e) st iw ig nu wo) := by
  rw [Gm_takesItem_89, kP_at, if_pos (Int32.le_refl _), nI_1]
theorem M_digS (h : TM m b L) {n : Nat} (a : Int32) {j p e : Nat} (he : e ≤ L) (hp : p < e) (hj : j < 3) (v : List Int32) (st iw ig : Int32) {nu : List Int32} (hl : nu.length = 3) (wo : Int32) : Gm_takesItem_89 (n + 1) 1 a (nI j) (nI p) (mkP m v (nI e) st iw ig nu wo) = Gm_takesItem_89 n 1 a (nI j) (nI (p + 1)) (mkP m v (nI e) st iw ig (nu.set j (((10 * nu.getD j 0) + b p) - 48)) wo) := by
  have h1 := h.1
  rw [Gm_takesItem_89, kP_at, if_neg (nI_ge hp (by omega)), kP_nu, ix_e (l := nu) (i := nI j) j rfl (by omega) (by omega), bd_some, M_byte h (by omega)]
  simp only [bd_some]
  rw [kP_nu, up_e (l := nu) (i := nI j) _ j rfl (by omega) (by omega), bd_some, kPu_nu, nI_1]
theorem M_nums (h : TM m b L) {K : Nat} (hK : K ≤ 3) (a : Int32) (v : List Int32) {wo : Int32} (hwo : Fm_manyOf wo = some (nI K)) : ∀ (d j p n : Nat) (nu vs : List Int32) (st iw ig : Int32), j + d = K → 500 + 5 * d ≤ n → p ≤ L → nu.length = 3 → vs.length = j → (∀ i, i < j → nu.getD i 0 = vs.getD i 0) → ∃ r nu' a1 a2 a3 a4, nu'.length = 3 ∧ Gm_takesItem_89 n 0 a (nI j) 0 (mkP m v (nI p) st iw ig nu wo) = some (r, mkP m v a1 a2 a3 a4 nu' wo) ∧ (∀ vv q, nS b L d p vs = some (vv, q) → r = (if b (sk b (L - q) q) = 59 then 1 else 0) ∧ a1 = nI (te b L (sk b (L - q) q)) ∧ ∀ i, i < K → nu'.getD i 0 = vv.getD i 0) ∧ (nS b L d p vs = none → r = 0) := by
  have h1 := h.1
  have hb := h.2.2.2.2
  intro d
  induction d with
  | zero =>
    intro j p n nu vs st iw ig hj hn hp hl hv ha
    obtain ⟨n, rfl⟩ : ∃ k, n = k + 1 := ⟨n - 1, by omega⟩
    have le := sk_le b (L - p) p
    rw [Gm_takesItem_89, kP_wo, hwo, bd_some, if_pos (nI_le (by omega) (by omega)), M_token h hp (by omega), bd_some, kP_st, M_byte h (by omega)]
    simp only [bd_some]
    by_cases c : b (sk b (L - p) p) = 59
    · rw [if_pos c]
      refine ⟨_, nu, _, _, _, _, hl, rfl, fun vv q e => ?_, fun e => absurd e (by simp [nS])⟩
      rw [nS] at e
      injection e with e
      injection e with e1 e2
      subst e1 e2
      exact ⟨by rw [if_pos c], rfl, fun i hi => ha i (by omega)⟩
    · rw [if_neg c]
      refine ⟨_, nu, _, _, _, _, hl, rfl, fun vv q e => ?_, fun e => absurd e (by simp [nS])⟩
      rw [nS] at e
      injection e with e
      injection e with e1 e2
      subst e1 e2
      exact ⟨by rw [if_neg c], rfl, fun i hi => ha i (by omega)⟩
  | succ d ih =>
    intro j p n nu vs st iw ig hj hn hp hl hv ha
    obtain ⟨n, rfl⟩ : ∃ k, n = k + 1 := ⟨n - 1, by omega⟩
    have le := sk_le b (L - p) p
    rw [Gm_takesItem_89, kP_wo, hwo, bd_some, if_neg (nI_ge (by omega) (by omega)), M_token h hp (by omega), bd_some, kP_ig, kP_at, kP_st, kP_nu, nS]
    generalize sk b (L - p) p = q at le
    simp only [ifz]
    by_cases f1 : isF (b q)
    · have q1 := isF_lt hb f1
      have nl : ¬ isL (b q) := fun z => LF z f1
      have et : te b L q = rd b (L - (q + 1)) (q + 1) := by
        unfold te
        rw [if_neg nl, if_pos f1, rd_u hb (by omega), if_pos f1]
      simp only [if_pos f1]
      rw [et, rd_u hb (by omega)]
      have l2 : (nu.set j 0).length = 3 := by rw [List.length_set]; exact hl
      have g0 : (nu.set j 0).getD j 0 = 0 := by rw [gD_set _ _ _ _ (by omega), if_pos rfl]
      rw [up_e (l := nu) (i := nI j) 0 j rfl (by omega) (by omega), bd_some, kPu_nu]
      have one : ((10 * (nu.set j 0).getD j 0) + b q) - 48 = b q - 48 := by rw [g0, show (10 : Int32) * 0 = 0 by decide, Int32.zero_add]
      by_cases f2 : isF (b (q + 1))
      · have q2 := isF_lt hb f2
        rw [if_pos f2, if_pos f2, rd_u hb (by omega)]
        by_cases f3 : isF (b (q + 2))
        · have q3 := isF_lt hb f3
          have le3 := rd_le b (L - (q + 1 + 1 + 1)) (q + 1 + 1 + 1)
          rw [if_pos f3, show nI (rd b (L - (q + 1 + 1 + 1)) (q + 1 + 1 + 1)) - nI q = nI (rd b (L - (q + 1 + 1 + 1)) (q + 1 + 1 + 1) - q) from pk_sub (by omega), if_neg (show ¬ nI (rd b (L - (q + 1 + 1 + 1)) (q + 1 + 1 + 1) - q) ≤ 2 from nI_ge (a := 2) (by omega) (by omega))]
          simp only [if_pos f3]
          exact ⟨_, nu, _, _, _, _, hl, rfl, fun vv q e => absurd e (by simp), fun _ => rfl⟩
        · rw [if_neg f3, if_neg f3, show nI (q + 1 + 1) - nI q = nI 2 from by rw [pk_sub (by omega)]; congr 1; omega, if_pos (show nI 2 ≤ (2 : Int32) by decide)]
          obtain ⟨n, rfl⟩ : ∃ k, n = k + 1 + 1 + 1 := ⟨n - 3, by omega⟩
          rw [M_digS h a (by omega) (by omega) (by omega) v _ _ _ l2, one]
          have l3 : ((nu.set j 0).set j (b q - 48)).length = 3 := by rw [List.length_set]; exact l2
          have g1 : ((nu.set j 0).set j (b q - 48)).getD j 0 = b q - 48 := by rw [gD_set _ _ _ _ (by omega), if_pos rfl]
          rw [M_digS h a (by omega) (by omega) (by omega) v _ _ _ l3, g1, M_digE a 0 (by omega)]
          obtain ⟨r, nu', a1, a2, a3, a4, b1, b2, b3, b4⟩ := ih (j + 1) (q + 2) n _ (vs ++ [((10 * (b q - 48)) + b (q + 1)) - 48]) (nI q) (if isL (b q) then 1 else 0) 1 (by omega) (by omega) (by omega) (by rw [List.length_set]; exact l3) (by rw [List.length_append, hv]; rfl) (gD_app vs _ _ hv (by omega) (fun i hi => by rw [gD_set _ _ _ _ (by omega), if_neg (by omega), gD_set _ _ _ _ (by omega), if_neg (by omega)]; exact ha i hi))
          exact ⟨r, nu', a1, a2, a3, a4, b1, b2, b3, b4⟩
      · rw [if_neg f2, if_neg f2, show nI (q + 1) - nI q = nI 1 from by rw [pk_sub (by omega)]; congr 1; omega, if_pos (show nI 1 ≤ (2 : Int32) by decide)]
        obtain ⟨n, rfl⟩ : ∃ k, n = k + 1 + 1 := ⟨n - 2, by omega⟩
        rw [M_digS h a (by omega) (by omega) (by omega) v _ _ _ l2, one, M_digE a 0 (by omega)]
        obtain ⟨r, nu', a1, a2, a3, a4, b1, b2, b3, b4⟩ := ih (j + 1) (q + 1) n _ (vs ++ [b q - 48]) (nI q) (if isL (b q) then 1 else 0) 1 (by omega) (by omega) (by omega) (by rw [List.length_set]; exact l2) (by rw [List.length_append, hv]; rfl) (gD_app vs _ _ hv (by omega) (fun i hi => by rw [gD_set _ _ _ _ (by omega), if_neg (by omega)]; exact ha i hi))
        exact ⟨r, nu', a1, a2, a3, a4, b1, b2, b3, b4⟩
    · simp only [if_neg f1]
      exact ⟨_, nu, _, _, _, _, hl, rfl, fun vv q e => absurd e (by simp), fun _ => rfl⟩
end C60
