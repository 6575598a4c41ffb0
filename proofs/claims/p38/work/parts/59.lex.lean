/-! reading: signs, blanks, runs, words -/
abbrev isL (x : Int32) : Prop := 97 ≤ x ∧ x ≤ 122
abbrev isF (x : Int32) : Prop := 48 ≤ x ∧ x ≤ 57
def sk (b : Nat → Int32) : Nat → Nat → Nat
  | 0, p => p
  | d + 1, p => if b p = 32 then sk b d (p + 1) else p
def rl (b : Nat → Int32) : Nat → Nat → Nat
  | 0, p => p
  | d + 1, p => if isL (b p) then rl b d (p + 1) else p
def rd (b : Nat → Int32) : Nat → Nat → Nat
  | 0, p => p
  | d + 1, p => if isF (b p) then rd b d (p + 1) else p
theorem sk_le (b : Nat → Int32) : ∀ d p, p ≤ sk b d p ∧ sk b d p ≤ p + d
  | 0, p => ⟨Nat.le_refl _, Nat.le_refl _⟩
  | d + 1, p => by
    rw [sk]
    by_cases c : b p = 32
    · rw [if_pos c]
      have := sk_le b d (p + 1)
      omega
    · rw [if_neg c]; omega
theorem rl_le (b : Nat → Int32) : ∀ d p, p ≤ rl b d p ∧ rl b d p ≤ p + d
  | 0, p => ⟨Nat.le_refl _, Nat.le_refl _⟩
  | d + 1, p => by
    rw [rl]
    by_cases c : isL (b p)
    · rw [if_pos c]
      have := rl_le b d (p + 1)
      omega
    · rw [if_neg c]; omega
theorem rd_le (b : Nat → Int32) : ∀ d p, p ≤ rd b d p ∧ rd b d p ≤ p + d
  | 0, p => ⟨Nat.le_refl _, Nat.le_refl _⟩
  | d + 1, p => by
    rw [rd]
    by_cases c : isF (b p)
    · rw [if_pos c]
      have := rd_le b d (p + 1)
      omega
    · rw [if_neg c]; omega
theorem sk_no {b : Nat → Int32} {L : Nat} (hb : ∀ k, L ≤ k → b k = -1) : ∀ d p, p + d = L → ¬ b (sk b d p) = 32
  | 0, p => fun h => by rw [sk, hb p (by omega)]; decide
  | d + 1, p => fun h => by
    rw [sk]
    by_cases c : b p = 32
    · rw [if_pos c]; exact sk_no hb d (p + 1) (by omega)
    · rw [if_neg c]; exact c
def mkT (w : WX) (s : TS) (t : TT) (l : TL) (it rf : Int32) (nu : List Int32) (a : Int32) : WX := (w.1, w.2.1, w.2.2.1, w.2.2.2.1, s, t, l, w.2.2.2.2.2.2.2.1, w.2.2.2.2.2.2.2.2.1, w.2.2.2.2.2.2.2.2.2.1, w.2.2.2.2.2.2.2.2.2.2.1, w.2.2.2.2.2.2.2.2.2.2.2.1, w.2.2.2.2.2.2.2.2.2.2.2.2.1, (w.2.2.2.2.2.2.2.2.2.2.2.2.2.1.1, it, rf, w.2.2.2.2.2.2.2.2.2.2.2.2.2.1.2.2.2.1, nu, a), w.2.2.2.2.2.2.2.2.2.2.2.2.2.2)
section MKT
variable (w : WX) (s s' : TS) (t t' : TT) (l l' : TL) (it rf a x : Int32) (nu y : List Int32)
theorem kT_len : a_text_length (mkT w s t l it rf nu a) = a_text_length w := by dsimp only [mkT, a_text_length]
theorem kT_by : a_text_bytes (mkT w s t l it rf nu a) = a_text_bytes w := by dsimp only [mkT, a_text_bytes]
theorem kT_it : a_text_items (mkT w s t l it rf nu a) = it := by dsimp only [mkT, a_text_items]
theorem kT_rf : a_text_refusedItem (mkT w s t l it rf nu a) = rf := by dsimp only [mkT, a_text_refusedItem]
theorem kT_nu : a_text_numbers (mkT w s t l it rf nu a) = nu := by dsimp only [mkT, a_text_numbers]
theorem kT_at : a_text_at (mkT w s t l it rf nu a) = a := by dsimp only [mkT, a_text_at]
theorem kTu_it : u_text_items (mkT w s t l it rf nu a) x = mkT w s t l x rf nu a := by dsimp only [mkT, u_text_items]
theorem kTu_rf : u_text_refusedItem (mkT w s t l it rf nu a) x = mkT w s t l it x nu a := by dsimp only [mkT, u_text_refusedItem]
theorem kTu_nu : u_text_numbers (mkT w s t l it rf nu a) y = mkT w s t l it rf y a := by dsimp only [mkT, u_text_numbers]
theorem kTu_at : u_text_at (mkT w s t l it rf nu a) x = mkT w s t l it rf nu x := by dsimp only [mkT, u_text_at]
theorem kT_X2 : X2 (mkT w s t l it rf nu a) s' t' l' = mkT w s' t' l' it rf nu a := by dsimp only [mkT, X2]
theorem kT_in : u_text_refusedItem (u_text_items (u_text_at w 0) 0) (-1) = mkT w w.2.2.2.2.1 w.2.2.2.2.2.1 w.2.2.2.2.2.2.1 0 (-1) (a_text_numbers w) 0 := by dsimp only [mkT, u_text_refusedItem, u_text_items, u_text_at, a_text_numbers]
end MKT
def mkP (m : WM) (v : List Int32) (a b c d : Int32) (nu : List Int32) (e : Int32) : WM := (v, m.2.1, m.2.2.1, m.2.2.2.1, m.2.2.2.2.1, m.2.2.2.2.2.1, m.2.2.2.2.2.2.1, a, b, c, d, nu, e, m.2.2.2.2.2.2.2.2.2.2.2.2.2)
section MKP
variable (m : WM) (v v' : List Int32) (a b c d x : Int32) (nu y : List Int32) (e : Int32)
theorem kP_w : a_m_w (mkP m v a b c d nu e) = v := by dsimp only [mkP, a_m_w]
theorem kP_tx : a_m_texted (mkP m v a b c d nu e) = a_m_texted m := by dsimp only [mkP, a_m_texted]
theorem kP_text : a_m_text (mkP m v a b c d nu e) = a_m_text m := by dsimp only [mkP, a_m_text]
theorem kP_at : a_m_at (mkP m v a b c d nu e) = a := by dsimp only [mkP, a_m_at]
theorem kP_st : a_m_start (mkP m v a b c d nu e) = b := by dsimp only [mkP, a_m_start]
theorem kP_iw : a_m_isWord (mkP m v a b c d nu e) = c := by dsimp only [mkP, a_m_isWord]
theorem kP_ig : a_m_isFigures (mkP m v a b c d nu e) = d := by dsimp only [mkP, a_m_isFigures]
theorem kP_nu : a_m_numbers (mkP m v a b c d nu e) = nu := by dsimp only [mkP, a_m_numbers]
theorem kP_wo : a_m_word (mkP m v a b c d nu e) = e := by dsimp only [mkP, a_m_word]
theorem kPu_w : u_m_w (mkP m v a b c d nu e) v' = mkP m v' a b c d nu e := by dsimp only [mkP, u_m_w]
theorem kPu_at : u_m_at (mkP m v a b c d nu e) x = mkP m v x b c d nu e := by dsimp only [mkP, u_m_at]
theorem kPu_st : u_m_start (mkP m v a b c d nu e) x = mkP m v a x c d nu e := by dsimp only [mkP, u_m_start]
theorem kPu_iw : u_m_isWord (mkP m v a b c d nu e) x = mkP m v a b x d nu e := by dsimp only [mkP, u_m_isWord]
theorem kPu_ig : u_m_isFigures (mkP m v a b c d nu e) x = mkP m v a b c x nu e := by dsimp only [mkP, u_m_isFigures]
theorem kPu_nu : u_m_numbers (mkP m v a b c d nu e) y = mkP m v a b c d y e := by dsimp only [mkP, u_m_numbers]
theorem kPu_wo : u_m_word (mkP m v a b c d nu e) x = mkP m v a b c d nu x := by dsimp only [mkP, u_m_word]
theorem kP_in : u_m_at m 0 = mkP m (a_m_w m) 0 (a_m_start m) (a_m_isWord m) (a_m_isFigures m) (a_m_numbers m) (a_m_word m) := by dsimp only [mkP, u_m_at, a_m_w, a_m_start, a_m_isWord, a_m_isFigures, a_m_numbers, a_m_word]
end MKP
def TX (w : WX) (b : Nat → Int32) (L : Nat) : Prop := L ≤ 150 ∧ a_text_length w = nI L ∧ (a_text_bytes w).length = 150 ∧ ∀ k, k < L → (a_text_bytes w).getD k 0 = b k
def TM (m : WM) (b : Nat → Int32) (L : Nat) : Prop := L ≤ 150 ∧ a_m_texted m = nI L ∧ (a_m_text m).length = 150 ∧ (∀ k, k < L → (a_m_text m).getD k 0 = b k) ∧ ∀ k, L ≤ k → b k = -1
section C59
variable {w : WX} {m : WM} {b : Nat → Int32} {L : Nat}
theorem X_sign (h : TX w b L) {p : Nat} (hp : p < L) : ai_ix (a_text_bytes w) (nI p) = some (b p) := by
  have h1 := h.1
  have h2 := h.2.2.1
  rw [ix_e (l := a_text_bytes w) (i := nI p) p rfl (by omega) (by omega), h.2.2.2 p hp]
theorem M_byte (h : TM m b L) {p : Nat} (hp : p < 2 ^ 31) (v : List Int32) (a1 a2 a3 a4 : Int32) (nu : List Int32) (a5 : Int32) : Fm_byteAt_89 (nI p) (mkP m v a1 a2 a3 a4 nu a5) = some (b p, mkP m v a1 a2 a3 a4 nu a5) := by
  have h1 := h.1
  have h2 := h.2.2.1
  unfold Fm_byteAt_89
  rw [kP_tx, kP_text, h.2.1]
  by_cases c : L ≤ p
  · rw [if_pos (nI_le c hp), h.2.2.2.2 p c]
  · rw [if_neg (nI_ge (by omega) (by omega)), ix_e (l := a_m_text m) (i := nI p) p rfl (by omega) (by omega), bd_some, h.2.2.2.1 p (by omega)]
theorem X_skip (h : TX w b L) (s : TS) (t : TT) (l : TL) (it rf : Int32) (nu : List Int32) : ∀ (d p n : Nat), p + d = L → d < n → Ftxt_skipBlanks_78 n (mkT w s t l it rf nu (nI p)) = some (mkT w s t l it rf nu (nI (sk b d p))) := by
  have h1 := h.1
  intro d
  induction d with
  | zero =>
    intro p n hp hn
    obtain ⟨n, rfl⟩ : ∃ k, n = k + 1 := ⟨n - 1, by omega⟩
    unfold Ftxt_skipBlanks_78
    rw [Gtxt_skipBlanks_78, kT_len, kT_at, h.2.1, if_pos (nI_le (by omega) (by omega))]
    rfl
  | succ d ih =>
    intro p n hp hn
    obtain ⟨n, rfl⟩ : ∃ k, n = k + 1 := ⟨n - 1, by omega⟩
    unfold Ftxt_skipBlanks_78
    rw [Gtxt_skipBlanks_78, kT_len, kT_at, h.2.1, if_neg (nI_ge (by omega) (by omega)), kT_by, X_sign h (by omega), bd_some, kTu_at, nI_1, sk]
    by_cases c : b p = 32
    · rw [if_pos c, if_pos c]
      exact ih (p + 1) n (by omega) (by omega)
    · rw [if_neg c, if_neg c]
theorem X_runL (h : TX w b L) (s : TS) (t : TT) (l : TL) (it rf z : Int32) (nu : List Int32) : ∀ (d p n : Nat), p + d = L → d < n → ∃ n', n - d - 1 ≤ n' ∧ Gtxt_takeWord_78 n 0 z 0 (mkT w s t l it rf nu (nI p)) = Gtxt_takeWord_78 n' 1 z 0 (mkT w s t l it rf nu (nI (rl b d p))) := by
  have h1 := h.1
  intro d
  induction d with
  | zero =>
    intro p n hp hn
    obtain ⟨n, rfl⟩ : ∃ k, n = k + 1 := ⟨n - 1, by omega⟩
    rw [Gtxt_takeWord_78, kT_len, kT_at, h.2.1, if_pos (nI_le (by omega) (by omega))]
    exact ⟨n, by omega, rfl⟩
  | succ d ih =>
    intro p n hp hn
    obtain ⟨n, rfl⟩ : ∃ k, n = k + 1 := ⟨n - 1, by omega⟩
    rw [Gtxt_takeWord_78, kT_len, kT_at, h.2.1, if_neg (nI_ge (by omega) (by omega)), kT_by, X_sign h (by omega), bd_some, Ff_within_eq, bd_some, kTu_at, nI_1, rl]
    simp only [ifz]
    by_cases c : isL (b p)
    · rw [if_pos c, if_pos c]
      obtain ⟨n', a1, a2⟩ := ih (p + 1) n (by omega) (by omega)
      exact ⟨n', by omega, a2⟩
    · rw [if_neg c, if_neg c]
      exact ⟨n, by omega, rfl⟩
/-- the signs from p on are these -/
def eqD (b : Nat → Int32) (c : List Int32) (p : Nat) : Nat → Nat → Bool
  | 0, _ => true
  | d + 1, i => if b (p + i) = c.getD i 0 then eqD b c p d (i + 1) else false
def wq (b : Nat → Int32) (p e k : Nat) : Bool := if (ai_str.getD k []).length = e - p then eqD b (ai_str.getD k []) p (ai_str.getD k []).length 0 else false
theorem nm_dec : ∀ k : Fin 8, ai_sln (ai_nm (nI k.val)) = some (nI (ai_str.getD k.val []).length) ∧ (ai_str.getD k.val []).length ≤ 5 ∧ 3 ≤ (ai_str.getD k.val []).length ∧ ∀ i : Fin 5, i.val < (ai_str.getD k.val []).length → ai_sch (ai_nm (nI k.val)) (nI i.val) = some ((ai_str.getD k.val []).getD i.val 0) := by decide +kernel
theorem X_isWordG (h : TX w b L) (y : Int32) {p k : Nat} (hk : k < 8) (hp : p + (ai_str.getD k []).length ≤ L) (s : TS) (t : TT) (l : TL) (it rf : Int32) (nu : List Int32) (a : Int32) : ∀ (d i n : Nat), i + d = (ai_str.getD k []).length → d < n → Gtxt_isWord_78 n 0 (nI p) y (nI i) (ai_nm (nI k)) (mkT w s t l it rf nu a) = some (if eqD b (ai_str.getD k []) p d i = true then 1 else 0, mkT w s t l it rf nu a) := by
  have h1 := h.1
  obtain ⟨n1, n2, n3, n4⟩ := nm_dec ⟨k, hk⟩
  have n1 : ai_sln (ai_nm (nI k)) = some (nI (ai_str.getD k []).length) := n1
  have n2 : (ai_str.getD k []).length ≤ 5 := n2
  intro d
  induction d with
  | zero =>
    intro i n hi hn
    obtain ⟨n, rfl⟩ : ∃ k, n = k + 1 := ⟨n - 1, by omega⟩
    rw [Gtxt_isWord_78, n1, bd_some, if_pos (nI_le (by omega) (by omega))]
    rfl
  | succ d ih =>
    intro i n hi hn
    obtain ⟨n, rfl⟩ : ∃ k, n = k + 1 := ⟨n - 1, by omega⟩
    have n4 : ai_sch (ai_nm (nI k)) (nI i) = some ((ai_str.getD k []).getD i 0) := n4 ⟨i, by omega⟩ (show i < (ai_str.getD k []).length by omega)
    rw [Gtxt_isWord_78, n1, bd_some, if_neg (nI_ge (by omega) (by omega)), kT_by, nI_add, X_sign h (by omega), bd_some, n4, bd_some, nI_1, eqD]
    by_cases c : b (p + i) = (ai_str.getD k []).getD i 0
    · rw [if_pos c, if_pos c]
      exact ih (i + 1) n (by omega) (by omega)
    · rw [if_neg c, if_neg c]
      rfl
theorem X_isWord (h : TX w b L) {p e k n : Nat} (hk : k < 8) (he : p ≤ e) (hL : e ≤ L) (hn : 6 ≤ n) (s : TS) (t : TT) (l : TL) (it rf : Int32) (nu : List Int32) (a : Int32) : Ftxt_isWord_78 n (ai_nm (nI k)) (nI p) (nI e) (mkT w s t l it rf nu a) = some (if wq b p e k = true then 1 else 0, mkT w s t l it rf nu a) := by
  have h1 := h.1
  obtain ⟨n1, n2, n3, n4⟩ := nm_dec ⟨k, hk⟩
  have n1 : ai_sln (ai_nm (nI k)) = some (nI (ai_str.getD k []).length) := n1
  have n2 : (ai_str.getD k []).length ≤ 5 := n2
  unfold Ftxt_isWord_78 wq
  rw [n1, bd_some, show nI e - nI p = nI (e - p) from pk_sub he]
  by_cases c : (ai_str.getD k []).length = e - p
  · rw [if_pos (by rw [c]), if_pos c]
    have q := X_isWordG h (nI e) (p := p) hk (by omega) s t l it rf nu a (ai_str.getD k []).length 0 n (by omega) (by omega)
    rw [nI_0] at q
    exact q
  · rw [if_neg (fun z => c ((nI_eq (by omega) (by omega)).mp z)), if_neg c, if_neg Bool.false_ne_true]
/-- which word it is -/
def wN (b : Nat → Int32) (p e : Nat) : Nat → Nat → Int32
  | 0, _ => -1
  | d + 1, k => if wq b p e k = true then nI k else wN b p e d (k + 1)
theorem X_word1 (h : TX w b L) {p e : Nat} (he : p ≤ e) (hL : e ≤ L) (s : TS) (t : TT) (l : TL) (it rf : Int32) (nu : List Int32) : ∀ (d k n : Nat), k + d = 8 → d + 8 ≤ n → Gtxt_takeWord_78 n 1 (nI p) (nI k) (mkT w s t l it rf nu (nI e)) = some (wN b p e d k, mkT w s t l it rf nu (nI e)) := by
  intro d
  induction d with
  | zero =>
    intro k n hk hn
    obtain ⟨n, rfl⟩ : ∃ k, n = k + 1 := ⟨n - 1, by omega⟩
    rw [show k = 8 by omega, Gtxt_takeWord_78, if_pos (show (8 : Int32) ≤ nI 8 by decide)]
    rfl
  | succ d ih =>
    intro k n hk hn
    obtain ⟨n, rfl⟩ : ∃ k, n = k + 1 := ⟨n - 1, by omega⟩
    rw [Gtxt_takeWord_78, if_neg (show ¬ (8 : Int32) ≤ nI k from nI_ge (b := 8) (by omega) (by decide)), kT_at, X_isWord h (by omega) he hL (by omega), wN]
    simp only [bd_some, ifz, nI_1]
    by_cases c : wq b p e k = true
    · rw [if_pos c, if_pos c]
    · rw [if_neg c, if_neg c]
      exact ih (k + 1) n (by omega) (by omega)
theorem X_word (h : TX w b L) {p n : Nat} (hp : p ≤ L) (hn : 200 ≤ n) (s : TS) (t : TT) (l : TL) (it rf : Int32) (nu : List Int32) : Ftxt_takeWord_78 n (mkT w s t l it rf nu (nI p)) = some (wN b p (rl b (L - p) p) 8 0, mkT w s t l it rf nu (nI (rl b (L - p) p))) := by
  have h1 := h.1
  unfold Ftxt_takeWord_78
  rw [kT_at]
  obtain ⟨n', a1, a2⟩ := X_runL h s t l it rf (nI p) nu (L - p) p n (by omega) (by omega)
  have le := rl_le b (L - p) p
  rw [a2]
  have q := X_word1 h (p := p) (e := rl b (L - p) p) le.1 (by omega) s t l it rf nu 8 0 n' (by omega) (by omega)
  rw [nI_0] at q
  exact q
theorem M_tokL (h : TM m b L) (v : List Int32) (st : Int32) (nu : List Int32) (wo : Int32) : ∀ (d p n : Nat), p + d = L → d < n → Gm_token_89 n 1 (mkP m v (nI p) st 1 0 nu wo) = some (mkP m v (nI (rl b d p)) st 1 0 nu wo) := by
  have h1 := h.1
  intro d
  induction d with
  | zero =>
    intro p n hp hn
    obtain ⟨n, rfl⟩ : ∃ k, n = k + 1 := ⟨n - 1, by omega⟩
    have hb : b p = -1 := h.2.2.2.2 p (by omega)
    rw [Gm_token_89, kP_iw, if_neg (show ¬ (1 : Int32) = 0 by decide), kP_at, M_byte h (by omega), bd_some, Fm_in_eq (b p) (lo := 97) (hi := 122) 97 122 rfl rfl, bd_some, hb, if_pos (by decide), kP_ig, if_pos rfl]
    rfl
  | succ d ih =>
    intro p n hp hn
    obtain ⟨n, rfl⟩ : ∃ k, n = k + 1 := ⟨n - 1, by omega⟩
    rw [Gm_token_89, kP_iw, if_neg (show ¬ (1 : Int32) = 0 by decide), kP_at, M_byte h (by omega), bd_some, Fm_in_eq (b p) (lo := 97) (hi := 122) 97 122 rfl rfl, bd_some, kP_ig, kP_at, kPu_at, nI_1, rl]
    simp only [ifz]
    by_cases c : isL (b p)
    · rw [if_pos c, if_pos c]
      exact ih (p + 1) n (by omega) (by omega)
    · rw [if_neg c, if_neg c, if_pos trivial]
theorem M_tokF (h : TM m b L) (v : List Int32) (st : Int32) (nu : List Int32) (wo : Int32) : ∀ (d p n : Nat), p + d = L → d < n → Gm_token_89 n 1 (mkP m v (nI p) st 0 1 nu wo) = some (mkP m v (nI (rd b d p)) st 0 1 nu wo) := by
  have h1 := h.1
  intro d
  induction d with
  | zero =>
    intro p n hp hn
    obtain ⟨n, rfl⟩ : ∃ k, n = k + 1 := ⟨n - 1, by omega⟩
    have hb : b p = -1 := h.2.2.2.2 p (by omega)
    rw [Gm_token_89, kP_iw, if_pos rfl, kP_ig, if_neg (show ¬ (1 : Int32) = 0 by decide), kP_at, M_byte h (by omega), bd_some, Fm_in_eq (b p) (lo := 48) (hi := 57) 48 57 rfl rfl, bd_some, hb, if_pos (by decide)]
    rfl
  | succ d ih =>
    intro p n hp hn
    obtain ⟨n, rfl⟩ : ∃ k, n = k + 1 := ⟨n - 1, by omega⟩
    rw [Gm_token_89, kP_iw, if_pos rfl, kP_ig, if_neg (show ¬ (1 : Int32) = 0 by decide), kP_at, M_byte h (by omega), bd_some, Fm_in_eq (b p) (lo := 48) (hi := 57) 48 57 rfl rfl, bd_some, kP_at, kPu_at, nI_1, rd]
    simp only [ifz]
    by_cases c : isF (b p)
    · rw [if_pos c, if_pos c]
      exact ih (p + 1) n (by omega) (by omega)
    · rw [if_neg c, if_neg c]
/-- where a token ends that begins at s -/
def te (b : Nat → Int32) (L s : Nat) : Nat := if isL (b s) then rl b (L - s) s else if isF (b s) then rd b (L - s) s else if s < L then s + 1 else s
theorem LF {x : Int32} (h : isL x) : ¬ isF x := fun q => by
  have a := Int32.le_iff_toInt_le.mp h.1
  have c := Int32.le_iff_toInt_le.mp q.2
  have z1 : (97 : Int32).toInt = 97 := rfl
  have z2 : (57 : Int32).toInt = 57 := rfl
  omega
theorem M_tok1 (h : TM m b L) {s n : Nat} (hs : s ≤ L) (hn : 160 ≤ n) (h32 : ¬ b s = 32) (v : List Int32) (st iw ig : Int32) (nu : List Int32) (wo : Int32) : Gm_token_89 n 0 (mkP m v (nI s) st iw ig nu wo) = some (mkP m v (nI (te b L s)) (nI s) (if isL (b s) then 1 else 0) (if isF (b s) then 1 else 0) nu wo) := by
  have h1 := h.1
  obtain ⟨n, rfl⟩ : ∃ k, n = k + 1 := ⟨n - 1, by omega⟩
  rw [Gm_token_89, kP_at, M_byte h (by omega), bd_some]
  simp only [if_neg h32]
  rw [kP_at, kPu_st, M_byte h (by omega), bd_some, Fm_in_eq (b s) (lo := 97) (hi := 122) 97 122 rfl rfl, bd_some, if_pos (i10 _), kPu_iw, kP_at, M_byte h (by omega), bd_some, Fm_in_eq (b s) (lo := 48) (hi := 57) 48 57 rfl rfl, bd_some, if_pos (i10 _), kP_tx, kP_at, kPu_ig, kPu_at, kPu_at, h.2.1, nI_1, Int32.add_zero]
  unfold te
  by_cases sL : s < L
  · rw [if_neg (nI_ge sL (by omega)), if_pos sL]
    by_cases c1 : isL (b s)
    · rw [if_pos c1, if_pos c1, if_neg (LF c1), M_tokL h v (nI s) nu wo (L - (s + 1)) (s + 1) n (by omega) (by omega), show L - s = (L - (s + 1)) + 1 by omega, rl, if_pos c1]
    · rw [if_neg c1, if_neg c1]
      by_cases c2 : isF (b s)
      · rw [if_pos c2, if_pos c2, M_tokF h v (nI s) nu wo (L - (s + 1)) (s + 1) n (by omega) (by omega), show L - s = (L - (s + 1)) + 1 by omega, rd, if_pos c2]
      · rw [if_neg c2, if_neg c2]
        obtain ⟨n, rfl⟩ : ∃ k, n = k + 1 := ⟨n - 1, by omega⟩
        rw [Gm_token_89, kP_iw, if_pos rfl, kP_ig, if_pos rfl]
  · have hb : b s = -1 := h.2.2.2.2 s (by omega)
    have c1 : ¬ isL (b s) := by rw [hb]; decide
    have c2 : ¬ isF (b s) := by rw [hb]; decide
    rw [if_pos (nI_le (by omega) (by omega)), if_neg sL, if_neg c1, if_neg c1, if_neg c2, if_neg c2]
    obtain ⟨n, rfl⟩ : ∃ k, n = k + 1 := ⟨n - 1, by omega⟩
    rw [Gm_token_89, kP_iw, if_pos rfl, kP_ig, if_pos rfl]
theorem M_tokS (h : TM m b L) (v : List Int32) (st iw ig : Int32) (nu : List Int32) (wo : Int32) : ∀ (d p n : Nat), p + d = L → d < n → ∃ n', n - d ≤ n' ∧ Gm_token_89 n 0 (mkP m v (nI p) st iw ig nu wo) = Gm_token_89 n' 0 (mkP m v (nI (sk b d p)) st iw ig nu wo) := by
  have h1 := h.1
  intro d
  induction d with
  | zero => intro p n hp hn; exact ⟨n, by omega, rfl⟩
  | succ d ih =>
    intro p n hp hn
    obtain ⟨n, rfl⟩ : ∃ k, n = k + 1 := ⟨n - 1, by omega⟩
    rw [sk]
    by_cases c : b p = 32
    · rw [if_pos c, Gm_token_89, kP_at, M_byte h (by omega), bd_some]
      simp only [if_pos c]
      rw [kP_at, kPu_at, nI_1]
      obtain ⟨n', a1, a2⟩ := ih (p + 1) n (by omega) (by omega)
      exact ⟨n', by omega, a2⟩
    · rw [if_neg c]
      exact ⟨n + 1, by omega, rfl⟩
theorem M_token (h : TM m b L) {p n : Nat} (hp : p ≤ L) (hn : 400 ≤ n) (v : List Int32) (st iw ig : Int32) (nu : List Int32) (wo : Int32) : Fm_token_89 n (mkP m v (nI p) st iw ig nu wo) = some (mkP m v (nI (te b L (sk b (L - p) p))) (nI (sk b (L - p) p)) (if isL (b (sk b (L - p) p)) then 1 else 0) (if isF (b (sk b (L - p) p)) then 1 else 0) nu wo) := by
  have h1 := h.1
  obtain ⟨n', a1, a2⟩ := M_tokS h v st iw ig nu wo (L - p) p n (by omega) (by omega)
  have le := sk_le b (L - p) p
  unfold Fm_token_89
  rw [a2, M_tok1 h (by omega) (by omega) (sk_no h.2.2.2.2 (L - p) p (by omega))]
end C59
