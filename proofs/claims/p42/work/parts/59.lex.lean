/-! reading: signs, blanks, runs, words -/
abbrev isL (x : Int32) : Prop := 97 ≤ x ∧ x ≤ 122
abbrev isF (x : Int32) : Prop := 48 ≤ x ∧ x ≤ 57
def sk (b : Nat → Int32) : Nat → Nat → Nat
  | 0, p => p
  | d + 1, p => if b p = 32 then sk b d (p + 1) else p
def rl (b : Nat → Int32) : Nat → Nat → Nat
  | 0, p => p
  | d + 1, p => if isL (b p) then rl b d (p + 1) else p
def rd (b : Nat → Int32) : Nat → Nat → Nat
  | 0, p => p
  | d + 1, p => if isF (b p) then rd b d (p + 1) else p
theorem sk_le (b : Nat → Int32) : ∀ d p, p ≤ sk b d p ∧ sk b d p ≤ p + d
  | 0, p => ⟨Nat.le_refl _, Nat.le_refl _⟩
  | d + 1, p => by
    rw [sk]
    by_cases c : b p = 32
    · rw [if_pos c]
      have := sk_le b d (p + 1)
      omega
    · rw [if_neg c]; omega
theorem rl_le (b : Nat → Int32) : ∀ d p, p ≤ rl b d p ∧ rl b d p ≤ p + d
  | 0, p => ⟨Nat.le_refl _, Nat.le_refl _⟩
  | d + 1, p => by
    rw [rl]
    by_cases c : isL (b p)
    · rw [if_pos c]
      have := rl_le b d (p + 1)
      omega
    · rw [if_neg c]; omega
theorem rd_le (b : Nat → Int32) : ∀ d p, p ≤ rd b d p ∧ rd b d p ≤ p + d
  | 0, p => ⟨Nat.le_refl _, Nat.le_refl _⟩
  | d + 1, p => by
    rw [rd]
    by_cases c : isF (b p)
    · rw [if_pos c]
      have := rd_le b d (p + 1)
      omega
    · rw [if_neg c]; omega
theorem sk_no {b : Nat → Int32} {L : Nat} (hb : ∀ k, L ≤ k → b k = -1) : ∀ d p, p + d = L → ¬ b (sk b d p) = 32
  | 0, p => fun h => by rw [sk, hb p (by omega)]; decide
  | d + 1, p => fun h => by
    rw [sk]
    by_cases c : b p = 32
    · rw [if_pos c]; exact sk_no hb d (p + 1) (by omega)
    · rw [if_neg c]; exact c
def mkT (w : WX) (s : TS) (t : TT) (l : TL) (it rf : Int32) (nu : List Int32) (a : Int32) : WX := (w.1, w.2.1, w.2.2.1, w.2.2.2.1, s, t, l, w.2.2.2.2.2.2.2.1, w.2.2.2.2.2.2.2.2.1, w.2.2.2.2.2.2.2.2.2.1, w.2.2.2.2.2.2.2.2.2.2.1, w.2.2.2.2.2.2.2.2.2.2.2.1, w.2.2.2.2.2.2.2.2.2.2.2.2.1, (w.2.2.2.2.2.2.2.2.2.2.2.2.2.1.1, it, rf, w.2.2.2.2.2.2.2.2.2.2.2.2.2.1.2.2.2.1, nu, a), w.2.2.2.2.2.2.2.2.2.2.2.2.2.2)
section MKT
variable (w : WX) (s s' : TS) (t t' : TT) (l l' : TL) (it rf a x : Int32) (nu y : List Int32)
theorem kT_len : a_text_length (mkT w s t l it rf nu a) = a_text_length w := by dsimp only [mkT, a_text_length]
theorem kT_by : a_text_bytes (mkT w s t l it rf nu a) = a_text_bytes w := by dsimp only [mkT, a_text_bytes]
theorem kT_it : a_text_items (mkT w s t l it rf nu a) = it := by dsimp only [mkT, a_text_items]
theorem kT_rf : a_text_refusedItem (mkT w s t l it rf nu a) = rf := by dsimp only [mkT, a_text_refusedItem]
theorem kT_nu : a_text_numbers (mkT w s t l it rf nu a) = nu := by dsimp only [mkT, a_text_numbers]
theorem kT_at : a_text_at (mkT w s t l it rf nu a) = a := by dsimp only [mkT, a_text_at]
theorem kTu_it : u_text_items (mkT w s t l it rf nu a) x = mkT w s t l x rf nu a := by dsimp only [mkT, u_text_items]
theorem kTu_rf : u_text_refusedItem (mkT w s t l it rf nu a) x = mkT w s t l it x nu a := by dsimp only [mkT, u_text_refusedItem]
theorem kTu_nu : u_text_numbers (mkT w s t l it rf nu a) y = mkT w s t l it rf y a := by dsimp only [mkT, u_text_numbers]
theorem kTu_at : u_text_at (mkT w s t l it rf nu a) x = mkT w s t l it rf nu x := by dsimp only [mkT, u_text_at]
theorem kT_X2 : X2 (mkT w s t l it rf nu a) s' t' l' = mkT w s' t' l' it rf nu a := by dsimp only [mkT, X2]
theorem kT_in : u_text_refusedItem (u_text_items (u_text_at w 0) 0) (-1) = mkT w w.2.2.2.2.1 w.2.2.2.2.2.1 w.2.2.2.2.2.2.1 0 (-1) (a_text_numbers w) 0 := by dsimp only [mkT, u_text_refusedItem, u_text_items, u_text_at, a_text_numbers]
end MKT
def mkP (m : WM) (v : List Int32) (a b c d : Int32) (nu : List Int32) (e : Int32) : WM := (v, m.2.1, m.2.2.1, m.2.2.2.1, m.2.2.2.2.1, m.2.2.2.2.2.1, m.2.2.2.2.2.2.1, a, b, c, d, nu, e, m.2.2.2.2.2.2.2.2.2.2.2.2.2)
section MKP
variable (m : WM) (v v' : List Int32) (a b c d x : Int32) (nu y : List Int32) (e : Int32)
theorem kP_w : a_m_w (mkP m v a b c d nu e) = v := by dsimp only [mkP, a_m_w]
theorem kP_tx : a_m_texted (mkP m v a b c d nu e) = a_m_texted m := by dsimp only [mkP, a_m_texted]
theorem kP_text : a_m_text (mkP m v a b c d nu e) = a_m_text m := by dsimp only [mkP, a_m_text]
theorem kP_at : a_m_at (mkP m v a b c d nu e) = a := by dsimp only [mkP, a_m_at]
theorem kP_st : a_m_start (mkP m v a b c d nu e) = b := by dsimp only [mkP, a_m_start]
theorem kP_iw : a_m_isWord (mkP m v a b c d nu e) = c := by dsimp only [mkP, a_m_isWord]
theorem kP_ig : a_m_isFigures (mkP m v a b c d nu e) = d := by dsimp only [mkP, a_m_isFigures]
theorem kP_nu : a_m_numbers (mkP m v a b c d nu e) = nu := by dsimp only [mkP, a_m_numbers]
theorem kP_wo : a_m_word (mkP m v a b c d nu e) = e := by dsimp only [mkP, a_m_word]
theorem kPu_w : u_m_w (mkP m v a b c d nu e) v' = mkP m v' a b c d nu e := by dsimp only [mkP, u_m_w]
theorem kPu_at : u_m_at (mkP m v a b c d nu e) x = mkP m v x b c d nu e := by dsimp only [mkP, u_m_at]
theorem kPu_st : u_m_start (mkP m v a b c d nu e) x = mkP m v a x c d nu e := by dsimp only [mkP, u_m_start]
theorem kPu_iw : u_m_isWord (mkP m v a b c d nu e) x = mkP m v a b x d nu e := by dsimp only [mkP, u_m_isWord]
theorem kPu_ig : u_m_isFigures (mkP m v a b c d nu e) x = mkP m v a b c x nu e := by dsimp only [mkP, u_m_isFigures]
theorem kPu_nu : u_m_numbers (mkP m v a b c d nu e) y = mkP m v a b c d y e := by dsimp only [mkP, u_m_numbers]
theorem kPu_wo : u_m_word (mkP m v a b c d nu e) x = mkP m v a b c d nu x := by dsimp only [mkP, u_m_word]
theorem kP_in : u_m_at m 0 = mkP m (a_m_w m) 0 (a_m_start m) (a_m_isWord m) (a_m_isFigures m) (a_m_numbers m) (a_m_word m) := by dsimp only [mkP, u_m_at, a_m_w, a_m_start, a_m_isWord, a_m_isFigures, a_m_numbers, a_m_word]
end MKP
def TX (w : WX) (b : Nat → Int32) (L : Nat) : Prop := L ≤ 150 ∧ a_text_length w = nI L ∧ (a_text_bytes w).length = 150 ∧ ∀ k, k < L → (a_text_bytes w).getD k 0 = b k
def TM (m : WM) (b : Nat → Int32) (L : Nat) : Prop := L ≤ 150 ∧ a_m_texted m = nI L ∧ (a_m_text m).length = 150 ∧ (∀ k, k < L → (a_m_text m).getD k 0 = b k) ∧ ∀ k, L ≤ k → b k = -1
section C59
variable {w : WX} {m : WM} {b : Nat → Int32} {L : Nat}
theorem X_sign (h : TX w b L) {p : Nat} (hp : p < L) : ai_ix (a_text_bytes w) (nI p) = some (b p) := by
  have h1 := h.1
  have h2 := h.2.2.1
  rw [ix_e (l := a_text_bytes w) (i := nI p) p rfl (by omega) (by omega), h.2.2.2 p hp]
theorem M_byte (h : TM m b L) {p : Nat} (hp : p < 2 ^ 31) (v : List Int32) (a1 a2 a3 a4 : Int32) (nu : List Int32) (a5 : Int32) : Fm_byteAt_89 (nI p) (mkP m v a1 a2 a3 a4 nu a5) = some (b p, mkP m v a1 a2 a3 a4 nu a5) := by
  have h1 := h.1
  have h2 := h.2.2.1
  unfold Fm_byteAt_89
  rw [kP_tx, kP_text, h.2.1]
  by_cases c : L ≤ p
  · rw [if_pos (nI_le c hp), h.2.2.2.2 p c]
  · rw [if_neg (nI_ge (by omega) (by omega)), ix_e (l := a_m_text m) (i := nI p) p rfl (by omega) (by omega), bd_some, h.2.2.2.1 p (by omega)]
theorem X_skip (h : TX w b L) (s : TS) (t : TT) (l : TL) (it rf : Int32) (nu : List Int32) : ∀ (d p n : Nat), p + d = L → d < n → Ftxt_skipBlanks_78 n (mkT w s t l it rf nu (nI p)) = some (mkT w s t l it rf nu (nI (sk b d p))) := by
  have h1 := h.1
  intro d
  induction d with
  | zero =>
    intro p n hp hn
    obtain ⟨n, rfl⟩ : ∃ k, n = k + 1 := ⟨n - 1, by omega⟩
    unfold Ftxt_skipBlanks_78
    rw [Gtxt_skipBlanks_78, kT_len, kT_at, h.2.1, if_pos (nI_le (by omega) (by omega))]
    rfl
  | succ d ih =>
    intro p n hp hn
    obtain ⟨n, rfl⟩ : ∃ k, n = k + 1 := ⟨n - 1, by omega⟩
    unfold Ftxt_skipBlanks_78
    rw [Gtxt_skipBlanks_78, kT_len, kT_at, h.2.1, if_neg (nI_ge (by omega) (by omega)), kT_by, X_sign h (by omega), bd_some, kTu_at, nI_1, sk]
    by_cases c : b p = 32
    · rw [if_pos c, if_pos c]
      exact ih (p + 1) n (by omega) (by omega)
    · rw [if_neg c, if_neg c]
theorem X_runL (h : TX w b L) (s : TS) (t : TT) (l : TL) (it rf z : Int32) (nu : List Int32) : ∀ (d p n : Nat), p + d = L → d < n → ∃ n', n - d - 1 ≤ n' ∧ Gtxt_takeWord_78 n 0 z 0 (mkT w s t l it rf nu (nI p)) = Gtxt_takeWord_78 n' 1 z 0 (mkT w s t l it rf nu (nI (rl b d p))) := by
  have h1 := h.1
  intro d
  induction d with
  | zero =>
    intro p n hp hn
    obtain ⟨n, rfl⟩ : ∃ k, n = k + 1 := ⟨n - 1, by omega⟩
    rw [Gtxt_takeWord_78, kT_len, kT_at, h.2.1, if_pos (nI_le (by omega) (by omega))]
    exact ⟨n, by omega, rfl⟩
  | succ d ih =>
    intro p n hp hn
    obtain ⟨n, rfl⟩ : ∃ k, n = k + 1 := ⟨n - 1, by omega⟩
    rw [Gtxt_takeWord_78, kT_len, kT_at, h.2.1, if_neg (nI_ge (by omega) (by omega)), kT_by, X_sign h (by omega), bd_some, Ff_within_eq, bd_some, kTu_at, nI_1, rl]
    simp only [ifz]
    by_cases c : isL (b p)
    · rw [if_pos c, if_pos c]
      obtain ⟨n', a1, a2⟩ := ih (p + 1) n (by omega) (by omega)
      exact ⟨n', by omega, a2⟩
    · rw [if_neg c, if_neg c]
      exact ⟨n, by omega, rfl⟩
/-- the signs from p on are these -/
def eqD (b : Nat → Int32) (c : List Int32) (p : Nat) : Nat → Nat → Bool
  | 0, _ => true
  | d + 1, i => if b (p + i) = c.getD i 0 then eqD b c p d (i + 1) else false
def wq (b : Nat → Int32) (p e k : Nat) : Bool := if (ai_str.getD k []).length = e - p then eqD b (ai_str.getD k []) p (ai_str.getD k []).length 0 else false
theorem nm_dec : ∀ k : Fin 8, ai_sln (ai_nm (nI k.val)) = some (nI (ai_str.getD k.val []).length) ∧ (ai_str.getD k.val []).length ≤ 5 ∧ 3 ≤ (ai_str.getD k.val []).length ∧ ∀ i : Fin 5, i.val < (ai_str.getD k.val []).length → ai_sch (ai_nm (nI k.val)) (nI i.val) = some ((ai_str.getD k.val []).getD i.val 0) := by decide +kernel
theorem X_isWordG (h : TX w b L) (y : Int32) {p k : Nat} (hk : k < 8) (hp : p + (ai_str.getD k []).length ≤ L) (s : TS) (t : TT) (l : TL) (it rf : Int32) (nu : List Int32) (a : Int32) : ∀ (d i n : Nat), i + d = (ai_str.getD k []).length → d < n → Gtxt_isWord_78 n 0 (nI p) y (nI i) (ai_nm (nI k)) (mkT w s t l it rf nu a) = some (if eqD b (ai_str.getD k []) p d i = true then 1 else 0, mkT w s t l it rf nu a) := by
  have h1 := h.1
  obtain ⟨n1, n2, n3, n4⟩ := nm_dec ⟨k, hk⟩
  have n1 : ai_sln (ai_nm (nI k)) = some (nI (ai_str.getD k []).length) := n1
  have n2 : (ai_str.getD k []).length ≤ 5 := n2
  intro d
  induction d with
  | zero =>
    intro i n hi hn
    obtain ⟨n, rfl⟩ : ∃ k, n = k + 1 := ⟨n - 1, by omega⟩
    rw [Gtxt_isWord_78, n1, bd_some, if_pos (nI_le (by omega) (by omega))]
    rfl
  | succ d ih =>
    intro i n hi hn
    obtain ⟨n, rfl⟩ : ∃ k, n = k + 1 := ⟨n - 1, by omega⟩
    have n4 : ai_sch (ai_nm (nI k)) (nI i) = some ((ai_str.getD k []).getD i 0) := n4 ⟨i, by omega⟩ (show i < (ai_str.getD k []).length by omega)
    rw [Gtxt_isWord_78, n1, bd_some, if_neg (nI_ge (by omega) (by omega)), kT_by, nI_add, X_sign h (by omega), bd_some, n4, bd_some, nI_1, eqD]
    by_cases c : b (p + i) = (ai_str.getD k []).getD i 0
    · rw [if_pos c, if_pos c]
      exact ih (i + 1) n (by omega) (by omega)
    · rw [if_neg c, if_neg c]
      rfl
theorem X_isWord (h : TX w b L) {p e k n : Nat} (hk : k < 8) (he : p ≤ e) (hL : e ≤ L) (hn : 6 ≤ n) (s : TS) (t : TT) (l : TL) (it rf : Int32) (nu : List Int32) (a : Int32) : Ftxt_isWord_78 n (ai_nm (nI k)) (nI p) (nI e) (mkT w s t l it rf nu a) = some (if wq b p e k = true then 1 else 0, mkT w s t l it rf nu a) := by
  have h1 := h.1
  obtain ⟨n1, n2, n3, n4⟩ := nm_dec ⟨k, hk⟩
  have n1 : ai_sln (ai_nm (nI k)) = some (nI (ai_str.getD k []).length) := n1
  have n2 : (ai_str.getD k []).length ≤ 5 := n2
  unfold Ftxt_isWord_78 wq
  rw [n1, bd_some, show nI e - nI p = nI (e - p) from pk_sub he]
  by_cases c : (ai_str.getD k []).length = e - p
  · rw [if_pos (by rw [c]), if_pos c]
    have q := X_isWordG h (nI e) (p := p) hk (by omega) s t l it rf nu a (ai_str.getD k []).length 0 n (by omega) (by omega)
    rw [nI_0] at q
    exact q
  · rw [if_neg (fun z => c ((nI_eq (by omega) (by omega)).mp z)), if_neg c, if_neg Bool.false_ne_true]
/-- which word it is -/
def wN (b : Nat → Int32) (p e : Nat) : Nat → Nat → Int32
  | 0, _ => -1
  | d + 1, k => if wq b p e k = true then nI k else wN b p e d (k + 1)
theorem X_word1 (h : TX w b L) {p e : Nat} (he : p ≤ e) (hL : e ≤ L) (s : TS) (t : TT) (l : TL) (it rf : Int32) (nu : List Int32) : ∀ (d k n : Nat), k + d = 8 → d + 8 ≤ n → Gtxt_takeWord_78 n 1 (nI p) (nI k) (mkT w s t l it rf nu (nI e)) = some (wN b p e d k, mkT w s t l it rf nu (nI e)) := by
  intro d
  induction d with
  | zero =>
    intro k n hk hn
    obtain ⟨n, rfl⟩ : ∃ k, n = k + 1 := ⟨n - 1, by omega⟩
    rw [show k = 8 by omega, Gtxt_takeWord_78, if_pos (show (8 : Int32) ≤ nI 8 by decide)]
    rfl
  | succ d ih =>
    intro k n hk hn
    obtain ⟨n, rfl⟩ : ∃ k, n = k + 1 := ⟨n - 1, by omega⟩
    rw [Gtxt_takeWord_78, if_neg (show ¬ (8 : Int32) ≤ nI k from nI_ge (b := 8) (by omega) (by decide)), kT_at, X_isWord h (by omega) he hL (by omega), wN]
    simp only [bd_some, ifz, nI_1]
    by_cases c : wq b p e k = true
    · rw [if_pos c, if_pos c]
    · rw [if_neg c, if_neg c]
      exact ih (k + 1) n (by omega) (by omega)
theorem X_word (h : TX w b L) {p n : Nat} (hp : p ≤ L) (hn : 200 ≤ n) (s : TS) (t : TT) (l : TL) (it rf : Int32) (nu : List Int32) : Ftxt_takeWord_78 n (mkT w s t l it rf nu (nI p)) = some (wN b p (rl b (L - p) p) 8 0, mkT w s t l it rf nu (nI (rl b (L - p) p))) := by
  have h1 := h.1
  unfold Ftxt_takeWord_78
  rw [kT_at]
  obtain ⟨n', a1, a2⟩ := X_runL h s t l it rf (nI p) nu (L - p) p n (by omega) (by omega)
  have le := rl_le b (L - p) p
  rw [a2]
  have q := X_word1 h (p := p) (e := rl b (L - p) p) le.1 (by omega) s t l it rf nu 8 0 n' (by omega) (by omega)
  rw [nI_0] at q
  exact q
theorem M_tokL (h : TM m b L) (v : List Int32) (st : Int32) (nu : List Int32) (wo : Int32) : ∀ (d p n : Nat), p + d = L → d < n → Gm_token_89 n 1 (mkP m v (nI p) st 1 0 nu wo) = some (mkP m v (nI (rl b d p)) st 1 0 nu wo) := by
  have h1 := h.1
  intro d
  induction d with
  | zero =>
    intro p n hp hn
    obtain ⟨n, rfl⟩ : ∃ k, n = k + 1 := ⟨n - 1, by omega⟩
    have hb : b p = -1 := h.2.2.2.2 p (by omega)
    rw [Gm_token_89, kP_iw, if_neg (show ¬ (1 : Int32) = 0 by decide), kP_at, M_byte h (by omega), bd_some, Fm_in_eq (b p) (lo := 97) (hi := 122) 97 122 rfl rfl, bd_some, hb, if_pos (by decide), kP_ig, if_pos rfl]
    rfl
  | succ d ih =>
    intro p n hp hn
    obtain ⟨n, rfl⟩ : ∃ k, n = k + 1 := ⟨n - 1, by omega⟩
    rw [Gm_token_89, kP_iw, if_neg (show ¬ (1 : Int32) = 0 by decide), kP_at, M_byte h (by omega), bd_some, Fm_in_eq (b p) (lo := 97) (hi := 122) 97 122 rfl rfl, bd_some, kP_ig, kP_at, kPu_at, nI_1, rl]
    simp only [ifz]
    by_cases c : isL (b p)
    · rw [if_pos c, if_pos c]
      exact ih (p + 1) n (by omega) (by omega)
    · rw [if_neg c, if_neg c, if_pos trivial]
theorem M_tokF (h : TM m b L) (v : List Int32) (st : Int32) (nu : List Int32) (wo : Int32) : ∀ (d p n : Nat), p + d = L → d < n → Gm_token_89 n 1 (mkP m v (nI p) st 0 1 nu wo) = some (mkP m v (nI (rd b d p)) st 0 1 nu wo) := by
  have h1 := h.1
  intro d
  induction d with
  | zero =>
    intro p n hp hn
    obtain ⟨n, rfl⟩ : ∃ k, n = k + 1 := ⟨n - 1, by omega⟩
    have hb : b p = -1 := h.2.2.2.2 p (by omega)
    rw [Gm_token_89, kP_iw, if_pos rfl, kP_ig, if_neg (show ¬ (1 : Int32) = 0 by decide), kP_at, M_byte h (by omega), bd_some, Fm_in_eq (b p) (lo := 48) (hi := 57) 48 57 rfl rfl, bd_some, hb, if_pos (by decide)]
    rfl
  | succ d ih =>
    intro p n hp hn
    obtain ⟨n, rfl⟩ : ∃ k, n = k + 1 := ⟨n - 1, by omega⟩
    rw [Gm_token_89, kP_iw, if_pos rfl, kP_ig, if_neg (show ¬ (1 : Int32) = 0 by decide), kP_at, M_byte h (by omega), bd_some, Fm_in_eq (b p) (lo := 48) (hi := 57) 48 57 rfl rfl, bd_some, kP_at, kPu_at, nI_1, rd]
    simp only [ifz]
    by_cases c : isF (b p)
    · rw [if_pos c, if_pos c]
      exact ih (p + 1) n (by omega) (by omega)
    · rw [if_neg c, if_neg c]
/-- where a token ends that begins at s -/
def te (b : Nat → Int32) (L s : Nat) : Nat := if isL (b s) then rl b (L - s) s else if isF (b s) then rd b (L - s) s else if s < L then s + 1 else s
theorem LF {x : Int32} (h : isL x) : ¬ isF x := fun q => by
  have a := Int32.le_iff_toInt_le.mp h.1
  have c := Int32.le_iff_toInt_le.mp q.2
  have z1 : (97 : Int32).toInt = 97 := rfl
  have z2 : (57 : Int32).toInt = 57 := rfl
  omega
theorem M_tok1 (h : TM m b L) {s n : Nat} (hs : s ≤ L) (hn : 160 ≤ n) (h32 : ¬ b s = 32) (v : List Int32) (st iw ig : Int32) (nu : List Int32) (wo : Int32) : Gm_token_89 n 0 (mkP m v (nI s) st iw ig nu wo) = some (mkP m v (nI (te b L s)) (nI s) (if isL (b s) then 1 else 0) (if isF (b s) then 1 else 0) nu wo) := by
  have h1 := h.1
  obtain ⟨n, rfl⟩ : ∃ k, n = k + 1 := ⟨n - 1, by omega⟩
  rw [Gm_token_89, kP_at, M_byte h (by omega), bd_some]
  simp only [if_neg h32]
  rw [kP_at, kPu_st, M_byte h (by omega), bd_some, Fm_in_eq (b s) (lo := 97) (hi := 122) 97 122 rfl rfl, bd_some, if_pos (i10 _), kPu_iw, kP_at, M_byte h (by omega), bd_some, Fm_in_eq (b s) (lo := 48) (hi := 57) 48 57 rfl rfl, bd_some, if_pos (i10 _), kP_tx, kP_at, kPu_ig, kPu_at, kPu_at, h.2.1, nI_1, Int32.add_zero]
  unfold te
  by_cases sL : s < L
  · rw [if_neg (nI_ge sL (by omega)), if_pos sL]
    by_cases c1 : isL (b s)
    · rw [if_pos c1, if_pos c1, if_neg (LF c1), M_tokL h v (nI s) nu wo (L - (s + 1)) (s + 1) n (by omega) (by omega), show L - s = (L - (s + 1)) + 1 by omega, rl, if_pos c1]
    · rw [if_neg c1, if_neg c1]
      by_cases c2 : isF (b s)
      · rw [if_pos c2, if_pos c2, M_tokF h v (nI s) nu wo (L - (s + 1)) (s + 1) n (by omega) (by omega), show L - s = (L - (s + 1)) + 1 by omega, rd, if_pos c2]
      · rw [if_neg c2, if_neg c2]
        obtain ⟨n, rfl⟩ : ∃ k, n = k + 1 := ⟨n - 1, by omega⟩
        rw [Gm_token_89, kP_iw, if_pos rfl, kP_ig, if_pos rfl]
  · have hb : b s = -1 := h.2.2.2.2 s (by omega)
    have c1 : ¬ isL (b s) := by rw [hb]; decide
    have c2 : ¬ isF (b s) := by rw [hb]; decide
    rw [if_pos (nI_le (by omega) (by omega)), if_neg sL, if_neg c1, if_neg c1, if_neg c2, if_neg c2]
    obtain ⟨n, rfl⟩ : ∃ k, n = k + 1 := ⟨n - 1, by omega⟩
    rw [Gm_token_89, kP_iw, if_pos rfl, kP_ig, if_pos rfl]
theorem M_tokS (h : TM m b L) (v : List Int32) (st iw ig : Int32) (nu : List Int32) (wo : Int32) : ∀ (d p n : Nat), p + d = L → d < n → ∃ n', n - d ≤ n' ∧ Gm_token_89 n 0 (mkP m v (nI p) st iw ig nu wo) = Gm_token_89 n' 0 (mkP m v (nI (sk b d p)) st iw ig nu wo) := by
  have h1 := h.1
  intro d
  induction d with
  | zero => intro p n hp hn; exact ⟨n, by omega, rfl⟩
  | succ d ih =>
    intro p n hp hn
    obtain ⟨n, rfl⟩ : ∃ k, n = k + 1 := ⟨n - 1, by omega⟩
    rw [sk]
    by_cases c : b p = 32
    · rw [if_pos c, Gm_token_89, kP_at, M_byte h (by omega), bd_some]
      simp only [if_pos c]
      rw [kP_at, kPu_at, nI_1]
      obtain ⟨n', a1, a2⟩ := ih (p + 1) n (by omega) (by omega)
      exact ⟨n', by omega, a2⟩
    · rw [if_neg c]
      exact ⟨n + 1, by omega, rfl⟩
theorem M_token (h : TM m b L) {p n : Nat} (hp : p ≤ L) (hn : 400 ≤ n) (v : List Int32) (st iw ig : Int32) (nu : List Int32) (wo : Int32) : Fm_token_89 n (mkP m v (nI p) st iw ig nu wo) = some (mkP m v (nI (te b L (sk b (L - p) p))) (nI (sk b (L - p) p)) (if isL (b (sk b (L - p) p)) then 1 else 0) (if isF (b (sk b (L - p) p)) then 1 else 0) nu wo) := by
  have h1 := h.1
  obtain ⟨n', a1, a2⟩ := M_tokS h v st iw ig nu wo (L - p) p n (by omega) (by omega)
  have le := sk_le b (L - p) p
  unfold Fm_token_89
  rw [a2, M_tok1 h (by omega) (by omega) (sk_no h.2.2.2.2 (L - p) p (by omega))]
end C59
/-! reading: which word, and the numbers behind it -/
section C60
variable {w : WX} {m : WM} {b : Nat → Int32} {L : Nat}
def wqC (b : Nat → Int32) (c : List Int32) (p e : Nat) : Bool := if c.length = e - p then eqD b c p c.length 0 else false
theorem M_n3 (h : TM m b L) {p e : Nat} (he : p ≤ e) (hL : e ≤ L) (c0 c1 c2 : Int32) (v : List Int32) (ig : Int32) (nu : List Int32) (wo : Int32) : Fm_isNamed_89 c0 c1 c2 0 0 (mkP m v (nI e) (nI p) 1 ig nu wo) = some (if wqC b [c0, c1, c2] p e = true then 1 else 0, mkP m v (nI e) (nI p) 1 ig nu wo) := by
  have h1 := h.1
  have u : wqC b [c0, c1, c2] p e = if 3 = e - p then (if b p = c0 then (if b (p + 1) = c1 then (if b (p + 2) = c2 then true else false) else false) else false) else false := rfl
  unfold Fm_isNamed_89
  rw [if_pos rfl, kP_iw, if_neg (show ¬ (1 : Int32) = 0 by decide), kP_at, kP_st, show nI e - nI p = nI (e - p) from pk_sub he, u]
  by_cases c : 3 = e - p
  · rw [if_pos (by rw [← c]; rfl), if_pos c, M_byte h (by omega)]
    simp only [bd_some]
    by_cases q0 : b p = c0
    · rw [if_pos q0, if_pos q0, kP_st, show nI p + 1 = nI (p + 1) from nI_1 p, M_byte h (by omega)]
      simp only [bd_some]
      by_cases q1 : b (p + 1) = c1
      · rw [if_pos q1, if_pos q1, kP_st, show nI p + 2 = nI (p + 2) from by rw [show (2 : Int32) = nI 2 from rfl, nI_add], M_byte h (by omega)]
        simp only [bd_some]
        by_cases q2 : b (p + 2) = c2
        · rw [if_pos q2, if_pos q2, if_pos trivial, if_pos trivial, if_pos rfl]
        · rw [if_neg q2, if_neg q2, if_neg Bool.false_ne_true]
      · rw [if_neg q1, if_neg q1, if_neg Bool.false_ne_true]
    · rw [if_neg q0, if_neg q0, if_neg Bool.false_ne_true]
  · rw [if_neg (show ¬ nI (e - p) = 3 from fun z => c ((nI_eq (a := e - p) (b := 3) (by omega) (by decide)).mp z).symm), if_neg c, if_neg Bool.false_ne_true]
theorem M_n4 (h : TM m b L) {p e : Nat} (he : p ≤ e) (hL : e ≤ L) (c0 c1 c2 c3 : Int32) (z3 : ¬ c3 = 0) (v : List Int32) (ig : Int32) (nu : List Int32) (wo : Int32) : Fm_isNamed_89 c0 c1 c2 c3 0 (mkP m v (nI e) (nI p) 1 ig nu wo) = some (if wqC b [c0, c1, c2, c3] p e = true then 1 else 0, mkP m v (nI e) (nI p) 1 ig nu wo) := by
  have h1 := h.1
  have u : wqC b [c0, c1, c2, c3] p e = if 4 = e - p then (if b p = c0 then (if b (p + 1) = c1 then (if b (p + 2) = c2 then (if b (p + 3) = c3 then true else false) else false) else false) else false) else false := rfl
  unfold Fm_isNamed_89
  rw [if_neg z3, if_pos rfl, kP_iw, if_neg (show ¬ (1 : Int32) = 0 by decide), kP_at, kP_st, show nI e - nI p = nI (e - p) from pk_sub he, u]
  by_cases c : 4 = e - p
  · rw [if_pos (by rw [← c]; rfl), if_pos c, M_byte h (by omega)]
    simp only [bd_some]
    by_cases q0 : b p = c0
    · rw [if_pos q0, if_pos q0, kP_st, show nI p + 1 = nI (p + 1) from nI_1 p, M_byte h (by omega)]
      simp only [bd_some]
      by_cases q1 : b (p + 1) = c1
      · rw [if_pos q1, if_pos q1, kP_st, show nI p + 2 = nI (p + 2) from by rw [show (2 : Int32) = nI 2 from rfl, nI_add], M_byte h (by omega)]
        simp only [bd_some]
        by_cases q2 : b (p + 2) = c2
        · rw [if_pos q2, if_pos q2, if_neg z3, kP_st, show nI p + 3 = nI (p + 3) from by rw [show (3 : Int32) = nI 3 from rfl, nI_add], M_byte h (by omega)]
          simp only [bd_some]
          by_cases q3 : b (p + 3) = c3
          · rw [if_pos q3, if_pos q3, if_pos trivial, if_pos rfl]
          · rw [if_neg q3, if_neg q3, if_neg Bool.false_ne_true]
        · rw [if_neg q2, if_neg q2, if_neg Bool.false_ne_true]
      · rw [if_neg q1, if_neg q1, if_neg Bool.false_ne_true]
    · rw [if_neg q0, if_neg q0, if_neg Bool.false_ne_true]
  · rw [if_neg (show ¬ nI (e - p) = 4 from fun z => c ((nI_eq (a := e - p) (b := 4) (by omega) (by decide)).mp z).symm), if_neg c, if_neg Bool.false_ne_true]
theorem M_n5 (h : TM m b L) {p e : Nat} (he : p ≤ e) (hL : e ≤ L) (c0 c1 c2 c3 c4 : Int32) (z3 : ¬ c3 = 0) (z4 : ¬ c4 = 0) (v : List Int32) (ig : Int32) (nu : List Int32) (wo : Int32) : Fm_isNamed_89 c0 c1 c2 c3 c4 (mkP m v (nI e) (nI p) 1 ig nu wo) = some (if wqC b [c0, c1, c2, c3, c4] p e = true then 1 else 0, mkP m v (nI e) (nI p) 1 ig nu wo) := by
  have h1 := h.1
  have u : wqC b [c0, c1, c2, c3, c4] p e = if 5 = e - p then (if b p = c0 then (if b (p + 1) = c1 then (if b (p + 2) = c2 then (if b (p + 3) = c3 then (if b (p + 4) = c4 then true else false) else false) else false) else false) else false) else false := rfl
  unfold Fm_isNamed_89
  rw [if_neg z3, if_neg z4, kP_iw, if_neg (show ¬ (1 : Int32) = 0 by decide), kP_at, kP_st, show nI e - nI p = nI (e - p) from pk_sub he, u]
  by_cases c : 5 = e - p
  · rw [if_pos (by rw [← c]; rfl), if_pos c, M_byte h (by omega)]
    simp only [bd_some]
    by_cases q0 : b p = c0
    · rw [if_pos q0, if_pos q0, kP_st, show nI p + 1 = nI (p + 1) from nI_1 p, M_byte h (by omega)]
      simp only [bd_some]
      by_cases q1 : b (p + 1) = c1
      · rw [if_pos q1, if_pos q1, kP_st, show nI p + 2 = nI (p + 2) from by rw [show (2 : Int32) = nI 2 from rfl, nI_add], M_byte h (by omega)]
        simp only [bd_some]
        by_cases q2 : b (p + 2) = c2
        · rw [if_pos q2, if_pos q2, if_neg z3, kP_st, show nI p + 3 = nI (p + 3) from by rw [show (3 : Int32) = nI 3 from rfl, nI_add], M_byte h (by omega)]
          simp only [bd_some]
          by_cases q3 : b (p + 3) = c3
          · rw [if_pos q3, if_pos q3, if_neg z4, kP_st, show nI p + 4 = nI (p + 4) from by rw [show (4 : Int32) = nI 4 from rfl, nI_add], M_byte h (by omega)]
            simp only [bd_some]
            by_cases q4 : b (p + 4) = c4
            · rw [if_pos q4, if_pos q4, if_pos rfl]
            · rw [if_neg q4, if_neg q4, if_neg Bool.false_ne_true]
          · rw [if_neg q3, if_neg q3, if_neg Bool.false_ne_true]
        · rw [if_neg q2, if_neg q2, if_neg Bool.false_ne_true]
      · rw [if_neg q1, if_neg q1, if_neg Bool.false_ne_true]
    · rw [if_neg q0, if_neg q0, if_neg Bool.false_ne_true]
  · rw [if_neg (show ¬ nI (e - p) = 5 from fun z => c ((nI_eq (a := e - p) (b := 5) (by omega) (by decide)).mp z).symm), if_neg c, if_neg Bool.false_ne_true]
theorem M_n0 (m : WM) (c0 c1 c2 c3 c4 : Int32) (v : List Int32) (a1 a2 ig : Int32) (nu : List Int32) (wo : Int32) : Fm_isNamed_89 c0 c1 c2 c3 c4 (mkP m v a1 a2 0 ig nu wo) = some (0, mkP m v a1 a2 0 ig nu wo) := by
  unfold Fm_isNamed_89
  rw [kP_iw]
  by_cases z3 : c3 = 0
  · rw [if_pos z3, if_pos rfl]
  · rw [if_neg z3]
    by_cases z4 : c4 = 0
    · rw [if_pos z4, if_pos rfl]
    · rw [if_neg z4, if_pos rfl]
theorem M_word0 (m : WM) (v : List Int32) (a1 a2 ig : Int32) (nu : List Int32) (wo : Int32) : Fm_wordNow_89 (mkP m v a1 a2 0 ig nu wo) = some (-1, mkP m v a1 a2 0 ig nu wo) := by
  unfold Fm_wordNow_89
  simp only [M_n0, bd_some]
  rfl
theorem wq_C (b : Nat → Int32) (p e : Nat) : wq b p e 0 = wqC b [115, 101, 97] p e ∧ wq b p e 1 = wqC b [119, 97, 116, 101, 114] p e ∧ wq b p e 2 = wqC b [116, 104, 105, 99, 107] p e ∧ wq b p e 3 = wqC b [115, 107, 105, 110] p e ∧ wq b p e 4 = wqC b [116, 104, 105, 110, 103] p e ∧ wq b p e 5 = wqC b [108, 105, 102, 116] p e ∧ wq b p e 6 = wqC b [116, 111, 119, 110] p e ∧ wq b p e 7 = wqC b [100, 97, 109] p e := ⟨rfl, rfl, rfl, rfl, rfl, rfl, rfl, rfl⟩
theorem wN_u (b : Nat → Int32) (p e d k : Nat) : wN b p e (d + 1) k = if wq b p e k = true then nI k else wN b p e d (k + 1) := by rw [wN]
theorem M_word1 (h : TM m b L) {p e : Nat} (he : p ≤ e) (hL : e ≤ L) (v : List Int32) (ig : Int32) (nu : List Int32) (wo : Int32) : Fm_wordNow_89 (mkP m v (nI e) (nI p) 1 ig nu wo) = some (wN b p e 8 0, mkP m v (nI e) (nI p) 1 ig nu wo) := by
  obtain ⟨u0, u1, u2, u3, u4, u5, u6, u7⟩ := wq_C b p e
  unfold Fm_wordNow_89
  rw [wN_u, M_n3 h he hL, ← u0]
  simp only [bd_some, ifz]
  by_cases q0 : wq b p e 0 = true
  · rw [if_pos q0, if_pos q0]; rfl
  rw [if_neg q0, if_neg q0, wN_u, M_n5 h he hL _ _ _ _ _ (by decide) (by decide), ← u1]
  simp only [bd_some, ifz]
  by_cases q1 : wq b p e 1 = true
  · rw [if_pos q1, if_pos q1]; rfl
  rw [if_neg q1, if_neg q1, wN_u, M_n5 h he hL _ _ _ _ _ (by decide) (by decide), ← u2]
  simp only [bd_some, ifz]
  by_cases q2 : wq b p e 2 = true
  · rw [if_pos q2, if_pos q2]; rfl
  rw [if_neg q2, if_neg q2, wN_u, M_n4 h he hL _ _ _ _ (by decide), ← u3]
  simp only [bd_some, ifz]
  by_cases q3 : wq b p e 3 = true
  · rw [if_pos q3, if_pos q3]; rfl
  rw [if_neg q3, if_neg q3, wN_u, M_n5 h he hL _ _ _ _ _ (by decide) (by decide), ← u4]
  simp only [bd_some, ifz]
  by_cases q4 : wq b p e 4 = true
  · rw [if_pos q4, if_pos q4]; rfl
  rw [if_neg q4, if_neg q4, wN_u, M_n4 h he hL _ _ _ _ (by decide), ← u5]
  simp only [bd_some, ifz]
  by_cases q5 : wq b p e 5 = true
  · rw [if_pos q5, if_pos q5]; rfl
  rw [if_neg q5, if_neg q5, wN_u, M_n4 h he hL _ _ _ _ (by decide), ← u6]
  simp only [bd_some, ifz]
  by_cases q6 : wq b p e 6 = true
  · rw [if_pos q6, if_pos q6]; rfl
  rw [if_neg q6, if_neg q6, wN_u, M_n3 h he hL, ← u7]
  simp only [bd_some, ifz]
  by_cases q7 : wq b p e 7 = true
  · rw [if_pos q7, if_pos q7]; rfl
  rw [if_neg q7, if_neg q7]
  rfl
theorem wN_0 (b : Nat → Int32) (p : Nat) : ∀ d k, k + d = 8 → wN b p p d k = -1 := by
  intro d
  induction d with
  | zero => intro k hk; rfl
  | succ d ih =>
    intro k hk
    obtain ⟨n1, n2, n3, n4⟩ := nm_dec ⟨k, by omega⟩
    have n3 : 3 ≤ (ai_str.getD k []).length := n3
    rw [wN_u, if_neg, ih (k + 1) (by omega)]
    unfold wq
    rw [if_neg (by omega)]
    exact Bool.false_ne_true
theorem wN_or (b : Nat → Int32) (p e : Nat) : ∀ d k, k + d = 8 → wN b p e d k = -1 ∨ ∃ j, j < 8 ∧ wN b p e d k = nI j := by
  intro d
  induction d with
  | zero => intro k hk; exact Or.inl rfl
  | succ d ih =>
    intro k hk
    rw [wN_u]
    by_cases q : wq b p e k = true
    · rw [if_pos q]; exact Or.inr ⟨k, by omega, rfl⟩
    · rw [if_neg q]; exact ih (k + 1) (by omega)
/-- the numbers behind a word -/
def nS (b : Nat → Int32) (L : Nat) : Nat → Nat → List Int32 → Option (List Int32 × Nat)
  | 0, p, vs => some (vs, p)
  | d + 1, p, vs =>
    if isF (b (sk b (L - p) p)) then
      if isF (b (sk b (L - p) p + 1)) then
        if isF (b (sk b (L - p) p + 2)) then none
        else nS b L d (sk b (L - p) p + 2) (vs ++ [((10 * (b (sk b (L - p) p) - 48)) + b (sk b (L - p) p + 1)) - 48])
      else nS b L d (sk b (L - p) p + 1) (vs ++ [b (sk b (L - p) p) - 48])
    else none
theorem isF_lt {b : Nat → Int32} {L : Nat} (hb : ∀ k, L ≤ k → b k = -1) {p : Nat} (h : isF (b p)) : p < L := by
  by_cases c : p < L
  · exact c
  · rw [hb p (by omega)] at h
    exact absurd h (by decide)
theorem isL_lt {b : Nat → Int32} {L : Nat} (hb : ∀ k, L ≤ k → b k = -1) {p : Nat} (h : isL (b p)) : p < L := by
  by_cases c : p < L
  · exact c
  · rw [hb p (by omega)] at h
    exact absurd h (by decide)
theorem X_fig (h : TX w b L) (hb : ∀ k, L ≤ k → b k = -1) {p : Nat} (hp : p ≤ L) (s : TS) (t : TT) (l : TL) (it rf : Int32) (nu : List Int32) : Ftxt_isFigure_78 (mkT w s t l it rf nu (nI p)) = some (if isF (b p) then 1 else 0, mkT w s t l it rf nu (nI p)) := by
  have h1 := h.1
  unfold Ftxt_isFigure_78
  rw [kT_len, kT_at, h.2.1]
  by_cases c : L ≤ p
  · rw [if_pos (nI_le c (by omega)), if_neg (fun z => by have := isF_lt hb z; omega)]
  · rw [if_neg (nI_ge (by omega) (by omega)), kT_by, X_sign h (by omega), bd_some, Ff_within_eq, bd_some]
    simp only [ifz]
    by_cases q : isF (b p)
    · rw [if_pos q, if_pos q]
    · rw [if_neg q, if_neg q]
theorem gD_app (vs : List Int32) (x : Int32) (nu : List Int32) {j : Nat} (hj : vs.length = j) (h3 : j < nu.length) (h : ∀ i, i < j → nu.getD i 0 = vs.getD i 0) : ∀ i, i < j + 1 → (nu.set j x).getD i 0 = (vs ++ [x]).getD i 0 := by
  intro i hi
  rw [gD_set _ _ _ _ h3]
  by_cases e : i = j
  · rw [if_pos e, List.getD_eq_getElem?_getD, List.getElem?_append_right (by omega), show i - vs.length = 0 by omega]
    rfl
  · rw [if_neg e, h i (by omega), List.getD_eq_getElem?_getD, List.getD_eq_getElem?_getD, List.getElem?_append_left (by omega)]
theorem X_nums (h : TX w b L) (hb : ∀ k, L ≤ k → b k = -1) {K : Nat} (hK : K ≤ 3) (s : TS) (t : TT) (l : TL) (it rf : Int32) : ∀ (d j p n : Nat) (nu vs : List Int32), j + d = K → 200 + d ≤ n → p ≤ L → nu.length = 3 → vs.length = j → (∀ i, i < j → nu.getD i 0 = vs.getD i 0) → ∃ r nu' a', nu'.length = 3 ∧ Gtxt_takeNumbers_78 n 0 (nI K) (nI j) (mkT w s t l it rf nu (nI (sk b (L - p) p))) = some (r, mkT w s t l it rf nu' a') ∧ (∀ vv q, nS b L d p vs = some (vv, q) → r = -1 ∧ q ≤ L ∧ p ≤ q ∧ a' = nI (sk b (L - q) q) ∧ ∀ i, i < K → nu'.getD i 0 = vv.getD i 0) ∧ (nS b L d p vs = none → ¬ r = -1) := by
  have h1 := h.1
  intro d
  induction d with
  | zero =>
    intro j p n nu vs hj hn hp hl hv ha
    obtain ⟨n, rfl⟩ : ∃ k, n = k + 1 := ⟨n - 1, by omega⟩
    rw [Gtxt_takeNumbers_78, if_pos (nI_le (by omega) (by omega))]
    refine ⟨_, nu, _, hl, rfl, fun vv q e => ?_, fun e => ?_⟩
    · rw [nS] at e
      injection e with e
      injection e with e1 e2
      subst e1 e2
      exact ⟨rfl, hp, Nat.le_refl _, rfl, fun i hi => ha i (by omega)⟩
    · rw [nS] at e
      exact absurd e (by simp)
  | succ d ih =>
    intro j p n nu vs hj hn hp hl hv ha
    obtain ⟨n, rfl⟩ : ∃ k, n = k + 1 := ⟨n - 1, by omega⟩
    have le := sk_le b (L - p) p
    rw [Gtxt_takeNumbers_78, if_neg (nI_ge (by omega) (by omega)), nS]
    generalize sk b (L - p) p = q at le
    have neg : ∀ q : Nat, q ≤ L → ¬ nI q = -1 := fun q hq z => nI_pos (n := q) (by omega) (by rw [z]; decide)
    rw [X_fig h hb (by omega)]
    simp only [bd_some, ifz]
    by_cases f1 : isF (b q)
    · have q1 := isF_lt hb f1
      rw [if_pos f1, if_pos f1, kT_by, kT_at, X_sign h q1, bd_some, kT_nu, up_e (l := nu) (i := nI j) _ j rfl (by omega) (by omega), bd_some, kTu_nu, kTu_at, show nI q + 1 = nI (q + 1) from nI_1 q, X_fig h hb (by omega)]
      simp only [bd_some, ifz]
      have l2 : (nu.set j (b q - 48)).length = 3 := by rw [List.length_set]; exact hl
      by_cases f2 : isF (b (q + 1))
      · have q2 := isF_lt hb f2
        have g1 : (nu.set j (b q - 48)).getD j 0 = b q - 48 := by rw [gD_set _ _ _ _ (by omega), if_pos rfl]
        rw [if_pos f2, if_pos f2, kT_nu, ix_e (l := nu.set j (b q - 48)) (i := nI j) j rfl (by omega) (by omega), g1, bd_some, kT_by, kT_at, X_sign h q2, bd_some, up_e (l := nu.set j (b q - 48)) (i := nI j) _ j rfl (by omega) (by omega), bd_some, kTu_nu, kTu_at, show nI (q + 1) + 1 = nI (q + 2) from nI_1 (q + 1), X_fig h hb (by omega)]
        simp only [bd_some, ifz]
        by_cases f3 : isF (b (q + 2))
        · rw [if_pos f3, if_pos f3]
          refine ⟨_, _, _, by rw [List.length_set]; exact l2, rfl, fun vv q e => absurd e (by simp), fun _ => ?_⟩
          rw [kT_at]
          exact neg _ (by omega)
        · rw [if_neg f3, if_neg f3, X_skip h s t l it rf _ (L - (q + 2)) (q + 2) n (by omega) (by omega), bd_some, nI_1]
          obtain ⟨r, nu', a', b1, b2, b3, b4⟩ := ih (j + 1) (q + 2) n _ (vs ++ [((10 * (b q - 48)) + b (q + 1)) - 48]) (by omega) (by omega) (by omega) (by rw [List.length_set]; exact l2) (by rw [List.length_append, hv]; rfl) (gD_app vs _ _ hv (by omega) (fun i hi => by rw [gD_set _ _ _ _ (by omega), if_neg (by omega)]; exact ha i hi))
          refine ⟨r, nu', a', b1, b2, fun vv z e => ?_, b4⟩
          obtain ⟨c1, c2, c3, c4⟩ := b3 vv z e
          exact ⟨c1, c2, by omega, c4⟩
      · rw [if_neg f2, if_neg f2, X_fig h hb (by omega)]
        simp only [bd_some, ifz]
        rw [if_neg f2, X_skip h s t l it rf _ (L - (q + 1)) (q + 1) n (by omega) (by omega), bd_some, nI_1]
        obtain ⟨r, nu', a', b1, b2, b3, b4⟩ := ih (j + 1) (q + 1) n _ (vs ++ [b q - 48]) (by omega) (by omega) (by omega) l2 (by rw [List.length_append, hv]; rfl) (gD_app vs _ _ hv (by omega) ha)
        refine ⟨r, nu', a', b1, b2, fun vv z e => ?_, b4⟩
        obtain ⟨c1, c2, c3, c4⟩ := b3 vv z e
        exact ⟨c1, c2, by omega, c4⟩
    · rw [if_neg f1, if_neg f1]
      refine ⟨_, nu, _, hl, rfl, fun vv q e => absurd e (by simp), fun _ => ?_⟩
      rw [kT_at]
      exact neg _ (by omega)
theorem rd_u (hb : ∀ k, L ≤ k → b k = -1) {p : Nat} (hp : p ≤ L) : rd b (L - p) p = if isF (b p) then rd b (L - (p + 1)) (p + 1) else p := by
  by_cases c : p = L
  · subst c
    rw [if_neg (fun z => by have := isF_lt hb z; omega), Nat.sub_self, rd]
  · rw [show L - p = (L - (p + 1)) + 1 by omega, rd]
theorem M_digE {n : Nat} (a z : Int32) {j e : Nat} (he : e < 2 ^ 31) (v : List Int32) (st iw ig : Int32) (nu : List Int32) (wo : Int32) : Gm_takesItem_89 (n + 1) 1 a (nI j) (nI e) (mkP m v (nI e) st iw ig nu wo) = Gm_takesItem_89 n 0 a (nI (j + 1)) 0 (mkP m v (nI e) st iw ig nu wo) := by
  rw [Gm_takesItem_89, kP_at, if_pos (Int32.le_refl _), nI_1]
theorem M_digS (h : TM m b L) {n : Nat} (a : Int32) {j p e : Nat} (he : e ≤ L) (hp : p < e) (hj : j < 3) (v : List Int32) (st iw ig : Int32) {nu : List Int32} (hl : nu.length = 3) (wo : Int32) : Gm_takesItem_89 (n + 1) 1 a (nI j) (nI p) (mkP m v (nI e) st iw ig nu wo) = Gm_takesItem_89 n 1 a (nI j) (nI (p + 1)) (mkP m v (nI e) st iw ig (nu.set j (((10 * nu.getD j 0) + b p) - 48)) wo) := by
  have h1 := h.1
  rw [Gm_takesItem_89, kP_at, if_neg (nI_ge hp (by omega)), kP_nu, ix_e (l := nu) (i := nI j) j rfl (by omega) (by omega), bd_some, M_byte h (by omega)]
  simp only [bd_some]
  rw [kP_nu, up_e (l := nu) (i := nI j) _ j rfl (by omega) (by omega), bd_some, kPu_nu, nI_1]
theorem M_nums (h : TM m b L) {K : Nat} (hK : K ≤ 3) (a : Int32) (v : List Int32) {wo : Int32} (hwo : Fm_manyOf wo = some (nI K)) : ∀ (d j p n : Nat) (nu vs : List Int32) (st iw ig : Int32), j + d = K → 500 + 5 * d ≤ n → p ≤ L → nu.length = 3 → vs.length = j → (∀ i, i < j → nu.getD i 0 = vs.getD i 0) → ∃ r nu' a1 a2 a3 a4, nu'.length = 3 ∧ Gm_takesItem_89 n 0 a (nI j) 0 (mkP m v (nI p) st iw ig nu wo) = some (r, mkP m v a1 a2 a3 a4 nu' wo) ∧ (∀ vv q, nS b L d p vs = some (vv, q) → r = (if b (sk b (L - q) q) = 59 then 1 else 0) ∧ a1 = nI (te b L (sk b (L - q) q)) ∧ ∀ i, i < K → nu'.getD i 0 = vv.getD i 0) ∧ (nS b L d p vs = none → r = 0) := by
  have h1 := h.1
  have hb := h.2.2.2.2
  intro d
  induction d with
  | zero =>
    intro j p n nu vs st iw ig hj hn hp hl hv ha
    obtain ⟨n, rfl⟩ : ∃ k, n = k + 1 := ⟨n - 1, by omega⟩
    have le := sk_le b (L - p) p
    rw [Gm_takesItem_89, kP_wo, hwo, bd_some, if_pos (nI_le (by omega) (by omega)), M_token h hp (by omega), bd_some, kP_st, M_byte h (by omega)]
    simp only [bd_some]
    by_cases c : b (sk b (L - p) p) = 59
    · rw [if_pos c]
      refine ⟨_, nu, _, _, _, _, hl, rfl, fun vv q e => ?_, fun e => absurd e (by simp [nS])⟩
      rw [nS] at e
      injection e with e
      injection e with e1 e2
      subst e1 e2
      exact ⟨by rw [if_pos c], rfl, fun i hi => ha i (by omega)⟩
    · rw [if_neg c]
      refine ⟨_, nu, _, _, _, _, hl, rfl, fun vv q e => ?_, fun e => absurd e (by simp [nS])⟩
      rw [nS] at e
      injection e with e
      injection e with e1 e2
      subst e1 e2
      exact ⟨by rw [if_neg c], rfl, fun i hi => ha i (by omega)⟩
  | succ d ih =>
    intro j p n nu vs st iw ig hj hn hp hl hv ha
    obtain ⟨n, rfl⟩ : ∃ k, n = k + 1 := ⟨n - 1, by omega⟩
    have le := sk_le b (L - p) p
    rw [Gm_takesItem_89, kP_wo, hwo, bd_some, if_neg (nI_ge (by omega) (by omega)), M_token h hp (by omega), bd_some, kP_ig, kP_at, kP_st, kP_nu, nS]
    generalize sk b (L - p) p = q at le
    simp only [ifz]
    by_cases f1 : isF (b q)
    · have q1 := isF_lt hb f1
      have nl : ¬ isL (b q) := fun z => LF z f1
      have et : te b L q = rd b (L - (q + 1)) (q + 1) := by
        unfold te
        rw [if_neg nl, if_pos f1, rd_u hb (by omega), if_pos f1]
      simp only [if_pos f1]
      rw [et, rd_u hb (by omega)]
      have l2 : (nu.set j 0).length = 3 := by rw [List.length_set]; exact hl
      have g0 : (nu.set j 0).getD j 0 = 0 := by rw [gD_set _ _ _ _ (by omega), if_pos rfl]
      rw [up_e (l := nu) (i := nI j) 0 j rfl (by omega) (by omega), bd_some, kPu_nu]
      have one : ((10 * (nu.set j 0).getD j 0) + b q) - 48 = b q - 48 := by rw [g0, show (10 : Int32) * 0 = 0 by decide, Int32.zero_add]
      by_cases f2 : isF (b (q + 1))
      · have q2 := isF_lt hb f2
        rw [if_pos f2, if_pos f2, rd_u hb (by omega)]
        by_cases f3 : isF (b (q + 2))
        · have q3 := isF_lt hb f3
          have le3 := rd_le b (L - (q + 1 + 1 + 1)) (q + 1 + 1 + 1)
          rw [if_pos f3, show nI (rd b (L - (q + 1 + 1 + 1)) (q + 1 + 1 + 1)) - nI q = nI (rd b (L - (q + 1 + 1 + 1)) (q + 1 + 1 + 1) - q) from pk_sub (by omega), if_neg (show ¬ nI (rd b (L - (q + 1 + 1 + 1)) (q + 1 + 1 + 1) - q) ≤ 2 from nI_ge (a := 2) (by omega) (by omega))]
          simp only [if_pos f3]
          exact ⟨_, nu, _, _, _, _, hl, rfl, fun vv q e => absurd e (by simp), fun _ => rfl⟩
        · rw [if_neg f3, if_neg f3, show nI (q + 1 + 1) - nI q = nI 2 from by rw [pk_sub (by omega)]; congr 1; omega, if_pos (show nI 2 ≤ (2 : Int32) by decide)]
          obtain ⟨n, rfl⟩ : ∃ k, n = k + 1 + 1 + 1 := ⟨n - 3, by omega⟩
          rw [M_digS h a (by omega) (by omega) (by omega) v _ _ _ l2, one]
          have l3 : ((nu.set j 0).set j (b q - 48)).length = 3 := by rw [List.length_set]; exact l2
          have g1 : ((nu.set j 0).set j (b q - 48)).getD j 0 = b q - 48 := by rw [gD_set _ _ _ _ (by omega), if_pos rfl]
          rw [M_digS h a (by omega) (by omega) (by omega) v _ _ _ l3, g1, M_digE a 0 (by omega)]
          obtain ⟨r, nu', a1, a2, a3, a4, b1, b2, b3, b4⟩ := ih (j + 1) (q + 2) n _ (vs ++ [((10 * (b q - 48)) + b (q + 1)) - 48]) (nI q) (if isL (b q) then 1 else 0) 1 (by omega) (by omega) (by omega) (by rw [List.length_set]; exact l3) (by rw [List.length_append, hv]; rfl) (gD_app vs _ _ hv (by omega) (fun i hi => by rw [gD_set _ _ _ _ (by omega), if_neg (by omega), gD_set _ _ _ _ (by omega), if_neg (by omega)]; exact ha i hi))
          exact ⟨r, nu', a1, a2, a3, a4, b1, b2, b3, b4⟩
      · rw [if_neg f2, if_neg f2, show nI (q + 1) - nI q = nI 1 from by rw [pk_sub (by omega)]; congr 1; omega, if_pos (show nI 1 ≤ (2 : Int32) by decide)]
        obtain ⟨n, rfl⟩ : ∃ k, n = k + 1 + 1 := ⟨n - 2, by omega⟩
        rw [M_digS h a (by omega) (by omega) (by omega) v _ _ _ l2, one, M_digE a 0 (by omega)]
        obtain ⟨r, nu', a1, a2, a3, a4, b1, b2, b3, b4⟩ := ih (j + 1) (q + 1) n _ (vs ++ [b q - 48]) (nI q) (if isL (b q) then 1 else 0) 1 (by omega) (by omega) (by omega) (by rw [List.length_set]; exact l2) (by rw [List.length_append, hv]; rfl) (gD_app vs _ _ hv (by omega) (fun i hi => by rw [gD_set _ _ _ _ (by omega), if_neg (by omega)]; exact ha i hi))
        exact ⟨r, nu', a1, a2, a3, a4, b1, b2, b3, b4⟩
    · simp only [if_neg f1]
      exact ⟨_, nu, _, _, _, _, hl, rfl, fun vv q e => absurd e (by simp), fun _ => rfl⟩
end C60
/-! reading: an item told -/
def VV (m : WM) (v : List Int32) : Prop := v.length = 596 ∧ ∀ j, j < 447 → v.getD j 0 = (a_m_w m).getD j 0
/-- good, or refused -/
def gb (r : Int32) : Prop := 0 ≤ r ∨ r = -2 ∨ r = -3 ∨ r = -4
def mn : Nat → Nat
  | 0 => 1 | 1 => 2 | 2 => 3 | 3 => 2 | 4 => 3 | 5 => 3 | 6 => 1 | _ => 1
theorem mn_dec : ∀ j : Fin 8, Fm_manyOf (nI j.val) = some (nI (mn j.val)) ∧ Ftxt_numbersBehind (nI j.val) = some (nI (mn j.val)) ∧ mn j.val ≤ 3 := by decide +kernel
section RNG
variable {s : TS} {t : TT} {l : TL} {f : Nat → Int32}
theorem g_water (hs : RS s t l f) (a d : Int32) : gb (A_water a d f).1 := by
  unfold A_water gb
  by_cases c1 : C_lay a
  · rw [if_pos c1]
    by_cases c2 : 1 ≤ d ∧ d ≤ 99
    · rw [if_pos c2]
      by_cases c3 : (Nn a = 0 ∨ f (8 + (Nn a - 1)) < d) ∧ (Nn a = 3 ∨ d < f (8 + (Nn a + 1)))
      · rw [if_pos c3]
        obtain ⟨j, hj, rfl⟩ := lay_N c1
        rw [Nn_nI (by omega)]
        have o := hs.ok (k := 8 + j) (by omega)
        rw [okv_r8 _ _ (by omega) (by omega)] at o
        exact Or.inl (o.ge (by decide))
      · rw [if_neg c3]; exact Or.inr (Or.inr (Or.inl rfl))
    · rw [if_neg c2]; exact Or.inr (Or.inl rfl)
  · rw [if_neg c1]; exact Or.inr (Or.inl rfl)
theorem g_thick (hs : RS s t l f) (a b c : Int32) : gb (A_thick a b c f).1 := by
  unfold A_thick gb
  by_cases c1 : C_lay a
  · rw [if_pos c1]
    by_cases c2 : C_cell (f 0) b
    · rw [if_pos c2]
      by_cases c3 : 0 ≤ c ∧ c ≤ 9
      · rw [if_pos c3]
        obtain ⟨j, hj, rfl⟩ := lay_N c1
        obtain ⟨k, hk, rfl⟩ := cell_N hs.c0 (by decide) c2
        have h6 := hs.c0.2.1
        rw [Nn_nI (by omega), Nn_nI (by omega)]
        have o := hs.ok (k := 40 + (6 * j + k)) (by omega)
        rw [okv_r40 _ _ (by omega) (by omega)] at o
        exact Or.inl (o.ge (by decide))
      · rw [if_neg c3]; exact Or.inr (Or.inl rfl)
    · rw [if_neg c2]; exact Or.inr (Or.inl rfl)
  · rw [if_neg c1]; exact Or.inr (Or.inl rfl)
theorem g_skin (hs : RS s t l f) (a c : Int32) : gb (A_skin a c f).1 := by
  unfold A_skin gb
  by_cases c1 : 0 ≤ a ∧ a ≤ 2
  · rw [if_pos c1]
    by_cases c3 : 0 ≤ c ∧ c ≤ 99
    · rw [if_pos c3]
      obtain ⟨j, hj, rfl⟩ := in0 2 rfl c1
      rw [Nn_nI (by omega)]
      have o := hs.ok (k := 64 + j) (by omega)
      rw [okv_r64 _ _ (by omega) (by omega)] at o
      exact Or.inl (o.ge (by decide))
    · rw [if_neg c3]; exact Or.inr (Or.inl rfl)
  · rw [if_neg c1]; exact Or.inr (Or.inl rfl)
theorem g_thing (hs : RS s t l f) (a b c : Int32) : gb (A_thing a b c f).1 := by
  unfold A_thing gb
  by_cases c1 : 0 ≤ a ∧ a ≤ 5
  · rw [if_pos c1]
    by_cases c2 : 1 ≤ b ∧ b ≤ 99
    · rw [if_pos c2]
      by_cases c3 : 1 ≤ c ∧ c ≤ 9
      · rw [if_pos c3]
        by_cases c4 : Nn (f 2) = 6
        · rw [if_pos c4]; exact Or.inr (Or.inr (Or.inr rfl))
        · rw [if_neg c4]; exact Or.inl (hs.c2.ge (by decide))
      · rw [if_neg c3]; exact Or.inr (Or.inl rfl)
    · rw [if_neg c2]; exact Or.inr (Or.inl rfl)
  · rw [if_neg c1]; exact Or.inr (Or.inl rfl)
theorem g_lift (hs : RS s t l f) (a b c : Int32) : gb (A_lift a b c f).1 := by
  unfold A_lift gb
  by_cases c1 : C_pl (f 0) a
  · rw [if_pos c1]
    by_cases c2 : C_pl (f 0) b
    · rw [if_pos c2]
      by_cases c5 : a = b
      · rw [if_pos c5]; exact Or.inr (Or.inl rfl)
      rw [if_neg c5]
      by_cases c3 : 1 ≤ c ∧ c ≤ 9
      · rw [if_pos c3]
        by_cases c4 : Nn (f 3) = 10
        · rw [if_pos c4]; exact Or.inr (Or.inr (Or.inr rfl))
        · rw [if_neg c4]; exact Or.inl (hs.c3.ge (by decide))
      · rw [if_neg c3]; exact Or.inr (Or.inl rfl)
    · rw [if_neg c2]; exact Or.inr (Or.inl rfl)
  · rw [if_neg c1]; exact Or.inr (Or.inl rfl)
theorem g_town (hs : RS s t l f) (p : Int32) : gb (A_town p f).1 := by
  unfold A_town gb
  by_cases c1 : C_pl (f 0) p
  · rw [if_pos c1]
    by_cases c2 : twn f p (Nn (f 4)) = true
    · rw [if_pos c2]; exact Or.inr (Or.inr (Or.inl rfl))
    rw [if_neg c2]
    by_cases c4 : Nn (f 4) = 6
    · rw [if_pos c4]; exact Or.inr (Or.inr (Or.inr rfl))
    · rw [if_neg c4]; exact Or.inl (hs.c4.ge (by decide))
  · rw [if_neg c1]; exact Or.inr (Or.inl rfl)
theorem g_dam (k b : Int32) (f : Nat → Int32) : gb (A_dam k b f).1 := by
  unfold A_dam gb
  by_cases c1 : 0 ≤ k ∧ k ≤ f 0 - 2
  · rw [if_pos c1]
    by_cases c2 : (if C_bit (f 5) k then (1 : Int32) else 0) = b
    · rw [if_pos c2]; exact Or.inr (Or.inr (Or.inl rfl))
    · rw [if_neg c2]; exact Or.inl (show (0 : Int32) ≤ 1 by decide)
  · rw [if_neg c1]; exact Or.inr (Or.inl rfl)
end RNG
section C61
variable {w : WX} {m : WM}
theorem ix3 {nu : List Int32} (h : nu.length = 3) : ai_ix nu 0 = some (nu.getD 0 0) ∧ ai_ix nu 1 = some (nu.getD 1 0) ∧ ai_ix nu 2 = some (nu.getD 2 0) :=
  ⟨ix_e (l := nu) (i := 0) 0 rfl (by omega) (by decide), ix_e (l := nu) (i := 1) 1 rfl (by omega) (by decide), ix_e (l := nu) (i := 2) 2 rfl (by omega) (by decide)⟩
theorem ap_of {s : TS} {t : TT} {l : TL} {it rf a : Int32} {nu : List Int32} {v : List Int32} (hV : VV m v) {a1 a2 a3 a4 : Int32} {nu2 : List Int32} {wo : Int32} {ox : Option (Int32 × WX)} {om : Option (Int32 × WM)} {A : Int32 × (Nat → Int32)} (hg : gb A.1) (hx : ∃ s' t' l', ox = some (A.1, X2 (mkT w s t l it rf nu a) s' t' l') ∧ RS s' t' l' A.2) (hm : ∃ m', om = some (A.1, m') ∧ MW (mkP m v a1 a2 a3 a4 nu2 wo) m' 447 A.2) : ∃ r s' t' l' v', (ai_bd ox fun c => some (c.1, c.2)) = some (r, mkT w s' t' l' it rf nu a) ∧ (ai_bd om fun c => some (c.1, c.2)) = some (r, mkP m v' a1 a2 a3 a4 nu2 wo) ∧ VV m v' ∧ RS s' t' l' (sl v' 447) ∧ gb r := by
  obtain ⟨s', t', l', rfl, hS⟩ := hx
  obtain ⟨m', rfl, v', rfl, h1, h2, h3⟩ := hm
  refine ⟨A.1, s', t', l', v', ?_, ?_, ⟨?_, fun j hj => ?_⟩, RS_congr (fun k hk => (h2 k hk).symm) hS, hg⟩
  · simp only [bd_some, kT_X2]
  · simp only [bd_some, kPu_w]
  · rw [h1, kP_w]; exact hV.1
  · rw [h3 j (Or.inl hj), kP_w]; exact hV.2 j hj
theorem it_ap {s : TS} {t : TT} {l : TL} {v : List Int32} (hs : RS s t l (sl v 447)) (hV : VV m v) {j n : Nat} (h1 : 1 ≤ j) (h8 : j < 8) (hn : 300 ≤ n) {n2 : Nat} (hn2 : 300 ≤ n2) {nu nu2 : List Int32} (l1 : nu.length = 3) (l2 : nu2.length = 3) (he : ∀ i, i < mn j → nu.getD i 0 = nu2.getD i 0) (it rf a a1 a2 a3 a4 : Int32) : ∃ r s' t' l' v', Ftxt_tellItem_78_20 n (nI j) (mkT w s t l it rf nu a) = some (r, mkT w s' t' l' it rf nu a) ∧ Fm_done_89 n2 (mkP m v a1 a2 a3 a4 nu2 (nI j)) = some (r, mkP m v' a1 a2 a3 a4 nu2 (nI j)) ∧ VV m v' ∧ RS s' t' l' (sl v' 447) ∧ gb r := by
  obtain ⟨x0, x1, x2⟩ := ix3 l1
  obtain ⟨y0, y1, y2⟩ := ix3 l2
  have hw : ∀ wo, (a_m_w (mkP m v a1 a2 a3 a4 nu2 wo)).length = 596 := fun wo => by rw [kP_w]; exact hV.1
  have hsl : ∀ wo, sl (a_m_w (mkP m v a1 a2 a3 a4 nu2 wo)) 447 = sl v 447 := fun wo => by rw [kP_w]
  have e447 : (447 : Int32) = nI 447 := rfl
  unfold Ftxt_tellItem_78_20 Fm_done_89
  rw [kT_nu, kP_wo, kP_nu, x0, x1, x2, y0, y1, y2]
  simp only [bd_some]
  match j, h1, h8, he with
  | 1, _, _, he =>
    rw [if_neg (show ¬ nI 1 = 0 by decide), if_neg (show ¬ nI 1 = 0 by decide), if_pos (show nI 1 = 1 from rfl), if_pos (show nI 1 = 1 from rfl), he 0 (by decide), he 1 (by decide)]
    have hm := M_water (m := mkP m v a1 a2 a3 a4 nu2 (nI 1)) (a := nu2.getD 0 0) (d := nu2.getD 1 0) e447 (hw _) (by omega)
    rw [hsl] at hm
    exact ap_of hV (g_water hs _ _) (X2_water (w := mkT w s t l it rf nu a) hs (nu2.getD 0 0) (nu2.getD 1 0)) hm
  | 2, _, _, he =>
    rw [if_neg (show ¬ nI 2 = 0 by decide), if_neg (show ¬ nI 2 = 0 by decide), if_neg (show ¬ nI 2 = 1 by decide), if_neg (show ¬ nI 2 = 1 by decide), if_pos (show nI 2 = 2 from rfl), if_pos (show nI 2 = 2 from rfl), he 0 (by decide), he 1 (by decide), he 2 (by decide)]
    have hm := M_thick (m := mkP m v a1 a2 a3 a4 nu2 (nI 2)) (a := nu2.getD 0 0) (b := nu2.getD 1 0) (c := nu2.getD 2 0) e447 (hw _) (by omega) (by rw [hsl]; exact hs.c0)
    rw [hsl] at hm
    exact ap_of hV (g_thick hs _ _ _) (X2_thick (w := mkT w s t l it rf nu a) hs (nu2.getD 0 0) (nu2.getD 1 0) (nu2.getD 2 0)) hm
  | 3, _, _, he =>
    rw [if_neg (show ¬ nI 3 = 0 by decide), if_neg (show ¬ nI 3 = 0 by decide), if_neg (show ¬ nI 3 = 1 by decide), if_neg (show ¬ nI 3 = 1 by decide), if_neg (show ¬ nI 3 = 2 by decide), if_neg (show ¬ nI 3 = 2 by decide), if_pos (show nI 3 = 3 from rfl), if_pos (show nI 3 = 3 from rfl), he 0 (by decide), he 1 (by decide)]
    have hm := M_skin (m := mkP m v a1 a2 a3 a4 nu2 (nI 3)) (a := nu2.getD 0 0) (c := nu2.getD 1 0) e447 (hw _) (by omega)
    rw [hsl] at hm
    exact ap_of hV (g_skin hs _ _) (X2_skin (w := mkT w s t l it rf nu a) hs (nu2.getD 0 0) (nu2.getD 1 0)) hm
  | 4, _, _, he =>
    rw [if_neg (show ¬ nI 4 = 0 by decide), if_neg (show ¬ nI 4 = 0 by decide), if_neg (show ¬ nI 4 = 1 by decide), if_neg (show ¬ nI 4 = 1 by decide), if_neg (show ¬ nI 4 = 2 by decide), if_neg (show ¬ nI 4 = 2 by decide), if_neg (show ¬ nI 4 = 3 by decide), if_neg (show ¬ nI 4 = 3 by decide), if_pos (show nI 4 = 4 from rfl), if_pos (show nI 4 = 4 from rfl), he 0 (by decide), he 1 (by decide), he 2 (by decide)]
    have hm := M_thing (m := mkP m v a1 a2 a3 a4 nu2 (nI 4)) (a := nu2.getD 0 0) (b := nu2.getD 1 0) (c := nu2.getD 2 0) e447 (hw _) (by omega) (by rw [hsl]; exact hs.c2)
    rw [hsl] at hm
    exact ap_of hV (g_thing hs _ _ _) (X2_thing (w := mkT w s t l it rf nu a) hs (nu2.getD 0 0) (nu2.getD 1 0) (nu2.getD 2 0)) hm
  | 5, _, _, he =>
    rw [if_neg (show ¬ nI 5 = 0 by decide), if_neg (show ¬ nI 5 = 0 by decide), if_neg (show ¬ nI 5 = 1 by decide), if_neg (show ¬ nI 5 = 1 by decide), if_neg (show ¬ nI 5 = 2 by decide), if_neg (show ¬ nI 5 = 2 by decide), if_neg (show ¬ nI 5 = 3 by decide), if_neg (show ¬ nI 5 = 3 by decide), if_neg (show ¬ nI 5 = 4 by decide), if_neg (show ¬ nI 5 = 4 by decide), if_pos (show nI 5 = 5 from rfl), if_pos (show nI 5 = 5 from rfl), he 0 (by decide), he 1 (by decide), he 2 (by decide)]
    have hm := M_lift (m := mkP m v a1 a2 a3 a4 nu2 (nI 5)) (a := nu2.getD 0 0) (b := nu2.getD 1 0) (c := nu2.getD 2 0) e447 (hw _) (by omega) (by rw [hsl]; exact hs.c3)
    rw [hsl] at hm
    exact ap_of hV (g_lift hs _ _ _) (X2_lift (w := mkT w s t l it rf nu a) hs (nu2.getD 0 0) (nu2.getD 1 0) (nu2.getD 2 0)) hm
  | 6, _, _, he =>
    rw [if_neg (show ¬ nI 6 = 0 by decide), if_neg (show ¬ nI 6 = 0 by decide), if_neg (show ¬ nI 6 = 1 by decide), if_neg (show ¬ nI 6 = 1 by decide), if_neg (show ¬ nI 6 = 2 by decide), if_neg (show ¬ nI 6 = 2 by decide), if_neg (show ¬ nI 6 = 3 by decide), if_neg (show ¬ nI 6 = 3 by decide), if_neg (show ¬ nI 6 = 4 by decide), if_neg (show ¬ nI 6 = 4 by decide), if_neg (show ¬ nI 6 = 5 by decide), if_neg (show ¬ nI 6 = 5 by decide), if_pos (show nI 6 = 6 from rfl), if_pos (show nI 6 = 6 from rfl), he 0 (by decide)]
    have hm := M_town (m := mkP m v a1 a2 a3 a4 nu2 (nI 6)) (p := nu2.getD 0 0) (n := n2) (by omega) e447 (hw _) (by omega) (by rw [hsl]; exact hs.c4)
    rw [hsl] at hm
    exact ap_of hV (g_town hs _) (X2_town (w := mkT w s t l it rf nu a) (n := n) (by omega) hs (nu2.getD 0 0)) hm
  | 7, _, _, he =>
    rw [if_neg (show ¬ nI 7 = 0 by decide), if_neg (show ¬ nI 7 = 0 by decide), if_neg (show ¬ nI 7 = 1 by decide), if_neg (show ¬ nI 7 = 1 by decide), if_neg (show ¬ nI 7 = 2 by decide), if_neg (show ¬ nI 7 = 2 by decide), if_neg (show ¬ nI 7 = 3 by decide), if_neg (show ¬ nI 7 = 3 by decide), if_neg (show ¬ nI 7 = 4 by decide), if_neg (show ¬ nI 7 = 4 by decide), if_neg (show ¬ nI 7 = 5 by decide), if_neg (show ¬ nI 7 = 5 by decide), if_neg (show ¬ nI 7 = 6 by decide), if_neg (show ¬ nI 7 = 6 by decide), he 0 (by decide)]
    have hm := M_dam (m := mkP m v a1 a2 a3 a4 nu2 (nI 7)) (k := nu2.getD 0 0) (b := 1) e447 (hw _) (by omega)
    rw [hsl] at hm
    exact ap_of hV (g_dam _ _ _) (X2_dam (w := mkT w s t l it rf nu a) hs (nu2.getD 0 0) 1 (Or.inr rfl)) hm
  | k + 8, _, h8, _ => exact absurd h8 (by omega)
theorem RS.pos {s : TS} {t : TT} {l : TL} {f : Nat → Int32} (hs : RS s t l f) : LSe s t l ∧ 0 ≤ q_cells s ∧ 0 ≤ f 0 := by
  have e : q_cells s = f 0 := hs.k (k := 0) (by omega)
  have g := hs.c0.ge (by decide)
  exact ⟨hs.1, by rw [e]; exact g, g⟩
theorem it_sea {s : TS} {t : TT} {l : TL} {v : List Int32} (hL : LSe s t l) (h0 : 0 ≤ q_cells s) (h1 : 0 ≤ sl v 447 0) (hV : VV m v) {n : Nat} (hn : 300 ≤ n) {n2 : Nat} (hn2 : 300 ≤ n2) {nu nu2 : List Int32} (l1 : nu.length = 3) (l2 : nu2.length = 3) (he : nu.getD 0 0 = nu2.getD 0 0) (it rf a a1 a2 a3 a4 : Int32) : ∃ r r2 s' t' l' v', Ftxt_tellItem_78_20 n 0 (mkT w s t l it rf nu a) = some (r, mkT w s' t' l' it rf nu a) ∧ Fm_done_89 n2 (mkP m v a1 a2 a3 a4 nu2 0) = some (r2, mkP m v' a1 a2 a3 a4 nu2 0) ∧ VV m v' ∧ ((0 ≤ r ∧ -1 ≤ r2 ∧ RS s' t' l' (sl v' 447)) ∨ (¬ 0 ≤ r ∧ ¬ -1 ≤ r2 ∧ LSe s' t' l' ∧ 0 ≤ q_cells s' ∧ 0 ≤ sl v' 447 0)) := by
  obtain ⟨x0, x1, x2⟩ := ix3 l1
  obtain ⟨y0, y1, y2⟩ := ix3 l2
  have hw : (a_m_w (mkP m v a1 a2 a3 a4 nu2 0)).length = 596 := by rw [kP_w]; exact hV.1
  have hsl : sl (a_m_w (mkP m v a1 a2 a3 a4 nu2 0)) 447 = sl v 447 := by rw [kP_w]
  unfold Ftxt_tellItem_78_20 Fm_done_89
  rw [kT_nu, kP_wo, kP_nu, x0, y0]
  simp only [bd_some]
  rw [if_pos trivial, if_pos trivial, he]
  obtain ⟨m', em, v', rfl, k1, k2, k3⟩ := M_sea (m := mkP m v a1 a2 a3 a4 nu2 0) (y := nu2.getD 0 0) (n := n2) (r := 447) (by omega) (show (447 : Int32) = nI 447 from rfl) hw (by omega)
  rw [em]
  rw [hsl] at k2 ⊢
  rw [kP_w] at k1 k3
  simp only [bd_some, kPu_w]
  have hV' : VV m v' := ⟨by rw [k1]; exact hV.1, fun j hj => by rw [k3 j (Or.inl hj)]; exact hV.2 j hj⟩
  unfold A_sea at k2 ⊢
  by_cases c : 1 ≤ nu2.getD 0 0 ∧ nu2.getD 0 0 ≤ 6
  · rw [if_pos c] at k2 ⊢
    rw [X2_sea0 (w := mkT w s t l it rf nu a) (n := n) (by omega) hL (nu2.getD 0 0) c]
    simp only [bd_some, kT_X2]
    exact ⟨_, _, _, _, _, _, rfl, rfl, hV', Or.inl ⟨h0, Int32.le_trans (by decide) h1, RS_congr (fun k hk => (k2 k hk).symm) (RS_beg hL (isN_of1 (L := 1) (M := 6) (a := 1) (n := 6) rfl rfl c (by decide)))⟩⟩
  · rw [if_neg c] at k2 ⊢
    unfold Fsea_startAnew_20
    rw [Ff_within_eq, bd_some, ifz, if_neg c]
    simp only [bd_some]
    exact ⟨_, _, _, _, _, _, rfl, rfl, hV', Or.inr ⟨by decide, by decide, hL, h0, by rw [k2 0 (by omega)]; exact h1⟩⟩
theorem it_all {s : TS} {t : TT} {l : TL} {v : List Int32} (hL : LSe s t l) (h0 : 0 ≤ q_cells s) (h1 : 0 ≤ sl v 447 0) (hV : VV m v) {j n : Nat} (h8 : j < 8) (hs : 1 ≤ j → RS s t l (sl v 447)) (hn : 300 ≤ n) {n2 : Nat} (hn2 : 300 ≤ n2) {nu nu2 : List Int32} (l1 : nu.length = 3) (l2 : nu2.length = 3) (he : ∀ i, i < mn j → nu.getD i 0 = nu2.getD i 0) (it rf a a1 a2 a3 a4 : Int32) : ∃ r r2 s' t' l' v', Ftxt_tellItem_78_20 n (nI j) (mkT w s t l it rf nu a) = some (r, mkT w s' t' l' it rf nu a) ∧ Fm_done_89 n2 (mkP m v a1 a2 a3 a4 nu2 (nI j)) = some (r2, mkP m v' a1 a2 a3 a4 nu2 (nI j)) ∧ VV m v' ∧ ((0 ≤ r ∧ -1 ≤ r2 ∧ RS s' t' l' (sl v' 447)) ∨ (¬ 0 ≤ r ∧ ¬ -1 ≤ r2 ∧ LSe s' t' l' ∧ 0 ≤ q_cells s' ∧ 0 ≤ sl v' 447 0)) := by
  by_cases c : j = 0
  · subst c
    exact it_sea hL h0 h1 hV hn hn2 l1 l2 (he 0 (by decide)) it rf a a1 a2 a3 a4
  · obtain ⟨r, s', t', l', v', e1, e2, e3, e4, e5⟩ := it_ap (w := w) (hs (by omega)) hV (by omega) h8 hn hn2 l1 l2 he it rf a a1 a2 a3 a4
    refine ⟨r, r, s', t', l', v', e1, e2, e3, ?_⟩
    rcases e5 with g | rfl | rfl | rfl
    · exact Or.inl ⟨g, Int32.le_trans (by decide) g, e4⟩
    · exact Or.inr ⟨by decide, by decide, e4.pos⟩
    · exact Or.inr ⟨by decide, by decide, e4.pos⟩
    · exact Or.inr ⟨by decide, by decide, e4.pos⟩
end C61
/-! reading: the whole text -/
def blkX (n : Nat) (y W : Int32) (w0 : WX) : Option (Int32 × WX) :=
  ai_bd (Ftxt_numbersBehind W) fun c1193 =>
  ai_bd (Ftxt_takeNumbers_78 n c1193 w0) fun c1211 =>
  if c1211.1 = (-1) then
    if (a_text_length c1211.2) ≤ (a_text_at c1211.2) then
      some ((a_text_at c1211.2), c1211.2)
    else
      ai_bd (ai_ix (a_text_bytes c1211.2) (a_text_at c1211.2)) fun v1212 =>
      if v1212 = 59 then
        if (a_text_refusedItem c1211.2) = (-1) then
          ai_bd (Ftxt_tellItem_78_20 n W (u_text_at c1211.2 ((a_text_at c1211.2) + 1))) fun c1333 =>
          if 0 ≤ c1333.1 then
            ai_bd (Ftxt_skipBlanks_78 n (u_text_items c1333.2 ((a_text_items c1333.2) + 1))) fun c1334 =>
            Gtxt_tell_78_20 n 0 (y + 1) c1334
          else
            ai_bd (Ftxt_skipBlanks_78 n (u_text_items (u_text_refusedItem c1333.2 (a_text_items c1333.2)) ((a_text_items c1333.2) + 1))) fun c1335 =>
            Gtxt_tell_78_20 n 0 (y + 1) c1335
        else
          ai_bd (Ftxt_skipBlanks_78 n (u_text_items (u_text_at c1211.2 ((a_text_at c1211.2) + 1)) ((a_text_items c1211.2) + 1))) fun c1213 =>
          Gtxt_tell_78_20 n 0 (y + 1) c1213
      else
        some ((a_text_at c1211.2), c1211.2)
  else
    some (c1211.1, c1211.2)
theorem tell_u (n : Nat) (y : Int32) (w : WX) : Gtxt_tell_78_20 (n + 1) 0 y w = if 150 ≤ y then some ((-1), w) else if (a_text_length w) ≤ (a_text_at w) then some ((-1), w) else ai_bd (Ftxt_takeWord_78 n w) fun c => if c.1 = (-1) then some ((a_text_at w), c.2) else if c.1 = 0 then (if (a_text_items c.2) = 0 then blkX n y c.1 c.2 else some ((a_text_at w), c.2)) else if (a_text_items c.2) = 0 then some ((a_text_at w), c.2) else blkX n y c.1 c.2 := by
  rw [Gtxt_tell_78_20]
  rfl
def blkM (n : Nat) (y z : Int32) (w : WM) : Option (Int32 × WM) :=
  ai_bd (Fm_takesItem_89 n y w) fun c277 =>
  if c277.1 = 0 then
    some (((-10) - (a_m_start c277.2)), c277.2)
  else
    if z = (-1) then
      ai_bd (Fm_done_89 n c277.2) fun c303 =>
      if (-1) ≤ c303.1 then
        ai_bd (Fm_token_89 n c303.2) fun c304 =>
        Gm_read_89 n 0 (y + 1) z c304
      else
        ai_bd (Fm_token_89 n c303.2) fun c305 =>
        Gm_read_89 n 0 (y + 1) y c305
    else
      ai_bd (Fm_token_89 n c277.2) fun c278 =>
      Gm_read_89 n 0 (y + 1) z c278
theorem read_u (n : Nat) (y z : Int32) (w : WM) : Gm_read_89 (n + 1) 0 y z w = if (a_m_start w) < (a_m_texted w) then blkM n y z w else if y = 0 then blkM n y z w else if z = (-1) then (ai_bd (Fm_copy_89 n 447 0 w) fun c313 => some (y, c313)) else some (((-1000) - z), w) := by
  rw [Gm_read_89]
  rfl
/-- what the class does with what its text told -/
def endX (c1343 : Int32 × WX) : Option (Int32 × WX) :=
  if c1343.1 = (-1) then
    if (a_text_refusedItem c1343.2) = (-1) then
      ai_bd (Fsea_copyFrom_1_20 c1343.2) fun c1362 =>
      some ((a_text_items c1362), c1362)
    else
      some (((-1000) - (a_text_refusedItem c1343.2)), c1343.2)
  else
    some (((-10) - c1343.1), c1343.2)
section C62
variable {w : WX} {m : WM} {b : Nat → Int32} {L : Nat}
theorem R_read (h : R w m) {s : TS} {t : TT} {l : TL} (hL : LSe s t l) (h0 : 0 ≤ q_cells s) {v : List Int32} (hV : VV m v) (h1 : 0 ≤ sl v 447 0) {nu nu2 : List Int32} (l1 : nu.length = 3) (l2 : nu2.length = 3) (it rf a a1 a2 a3 a4 wo : Int32) : R (mkT w s t l it rf nu a) (mkP m v a1 a2 a3 a4 nu2 wo) := by
  obtain ⟨r1, r2, ⟨⟨r31, r32, r33⟩, r34, r35⟩, ⟨k0, k1, i1, i2, i3, i4⟩, r5, r6, r7, ⟨c1, c2, c3⟩, ⟨d1, d2⟩⟩ := h
  have c : ∀ r, r + 149 ≤ 447 → ∀ k, k < 149 → sl (a_m_w m) r k = sl v r k := fun r hr k hk => (hV.2 (r + k) (by omega)).symm
  exact ⟨hV.1, RS_congr (c 0 (by omega)) r2, ⟨⟨hL, r32, r33⟩, h0, h1⟩, ⟨k0, k1, i1, i2, fun q => RS_congr (c 149 (by omega)) (i3 q), fun q => RS_congr (c 298 (by omega)) (i4 q)⟩, r5, r6, r7, ⟨c1, l1, c3⟩, ⟨l2, d2⟩⟩
/-- both stop here, and the worlds stand side by side -/
def both (ox : Option (Int32 × WX)) (om : Option (Int32 × WM)) : Prop := ∃ r r2 w' m', ai_bd ox endX = some (r, w') ∧ om = some (r2, m') ∧ R w' m'
theorem both_no {x : Int32} (hx : ¬ x = -1) {w' : WX} {m' : WM} (r : Int32) (h : R w' m') : both (some (x, w')) (some (r, m')) := by
  refine ⟨(-10) - x, r, w', m', ?_, rfl, h⟩
  rw [bd_some]
  unfold endX
  rw [if_neg hx]
theorem nI_m1 {p : Nat} (hp : p < 2 ^ 31) : ¬ nI p = -1 := fun z => nI_pos (n := p) hp (by rw [z]; decide)
theorem rd_end (h : R w m) (hT : TX w b L) (hM : TM m b L) {s : TS} {t : TT} {l : TL} (hL : LSe s t l) (h0 : 0 ≤ q_cells s) {v : List Int32} (hV : VV m v) (h1 : 0 ≤ sl v 447 0) {nu nu2 : List Int32} (l1 : nu.length = 3) (l2 : nu2.length = 3) {c : Nat} (hc : 1 ≤ c) (hc2 : c ≤ 150) {rf : Int32} (hs : rf = -1 → RS s t l (sl v 447)) {n n2 : Nat} (hn2 : 200 ≤ n2) (a1 a3 a4 wo : Int32) : both (Gtxt_tell_78_20 (n + 1) 0 (nI c) (mkT w s t l (nI c) rf nu (nI L))) (Gm_read_89 (n2 + 1) 0 (nI c) rf (mkP m v a1 (nI L) a3 a4 nu2 wo)) := by
  have hL1 := hT.1
  have e1 : Gtxt_tell_78_20 (n + 1) 0 (nI c) (mkT w s t l (nI c) rf nu (nI L)) = some ((-1), mkT w s t l (nI c) rf nu (nI L)) := by
    rw [tell_u, kT_len, kT_at, hT.2.1, if_pos (Int32.le_refl (nI L))]
    by_cases k : (150 : Int32) ≤ nI c
    · rw [if_pos k]
    · rw [if_neg k]
  have hR := R_read h hL h0 hV h1 l1 l2 (nI c) rf (nI L) a1 (nI L) a3 a4 wo
  rw [e1, read_u, kP_st, kP_tx, hM.2.1, if_neg (show ¬ nI L < nI L from nI_nlt (Nat.le_refl _) (by omega)), if_neg (show ¬ nI c = 0 from nI_ne0 (by omega) (by omega))]
  by_cases z : rf = -1
  · rw [if_pos z]
    obtain ⟨m', em, hMW⟩ := M_copy (m := mkP m v a1 (nI L) a3 a4 nu2 wo) (x := 447) (y := 0) (p := 447) (q := 0) (n := n2) (by omega) rfl rfl (by omega) (by omega) (by omega) (by rw [kP_w]; exact hV.1)
    rw [kP_w] at hMW
    rw [em, bd_some]
    unfold both
    rw [bd_some]
    unfold endX
    rw [if_pos rfl]
    rw [kT_rf, if_pos z, copy_1_20 (mkT w s t l (nI c) rf nu (nI L)) hL h.s.1, bd_some]
    exact ⟨_, _, _, _, rfl, rfl, R_now hR hMW (hs z)⟩
  · rw [if_neg z]
    unfold both
    rw [bd_some]
    unfold endX
    rw [if_pos rfl]
    rw [kT_rf, if_neg z]
    exact ⟨_, _, _, _, rfl, rfl, hR⟩
theorem rl_not (hb : ∀ k, L ≤ k → b k = -1) {p : Nat} (hp : p ≤ L) (h : ¬ isL (b p)) : rl b (L - p) p = p := by
  by_cases c : p = L
  · subst c
    rw [Nat.sub_self, rl]
  · rw [show L - p = (L - (p + 1)) + 1 by omega, rl, if_neg h]
theorem te_L {p : Nat} (h : isL (b p)) : te b L p = rl b (L - p) p := by
  unfold te
  rw [if_pos h]
theorem te_59 {p : Nat} (h : b p = 59) (hp : p < L) : te b L p = p + 1 := by
  unfold te
  rw [h, if_neg (by decide), if_neg (by decide), if_pos hp]
theorem rd_loop (h : R w m) (hT : TX w b L) (hM : TM m b L) : ∀ (d p c n n2 : Nat) (s : TS) (t : TT) (l : TL) (v nu nu2 : List Int32) (rf wo : Int32), L - p ≤ d → p ≤ L → c ≤ p → (c = 0 → p < L) → 1000 + d ≤ n → 1000 + d ≤ n2 → LSe s t l → 0 ≤ q_cells s → VV m v → 0 ≤ sl v 447 0 → nu.length = 3 → nu2.length = 3 → (1 ≤ c → rf = -1 → RS s t l (sl v 447)) → both (Gtxt_tell_78_20 n 0 (nI c) (mkT w s t l (nI c) rf nu (nI p))) (Gm_read_89 n2 0 (nI c) rf (mkP m v (nI (te b L p)) (nI p) (if isL (b p) then 1 else 0) (if isF (b p) then 1 else 0) nu2 wo)) := by
  have hL1 := hT.1
  have hb := hM.2.2.2.2
  intro d
  induction d with
  | zero =>
    intro p c n n2 s t l v nu nu2 rf wo hd hp hc hc0 hn hn2 hL h0 hV h1 l1 l2 hs
    have : p = L := by omega
    subst this
    obtain ⟨n, rfl⟩ : ∃ k, n = k + 1 := ⟨n - 1, by omega⟩
    obtain ⟨n2, rfl⟩ : ∃ k, n2 = k + 1 := ⟨n2 - 1, by omega⟩
    have c1 : 1 ≤ c := by
      by_cases z : c = 0
      · have := hc0 z; omega
      · omega
    exact rd_end h hT hM hL h0 hV h1 l1 l2 c1 (by omega) (hs c1) (by omega) _ _ _ _
  | succ d ih =>
    intro p c n n2 s t l v nu nu2 rf wo hd hp hc hc0 hn hn2 hL h0 hV h1 l1 l2 hs
    obtain ⟨n, rfl⟩ : ∃ k, n = k + 1 := ⟨n - 1, by omega⟩
    obtain ⟨n2, rfl⟩ : ∃ k, n2 = k + 1 := ⟨n2 - 1, by omega⟩
    by_cases pL : p = L
    · subst pL
      have c1 : 1 ≤ c := by
        by_cases z : c = 0
        · have := hc0 z; omega
        · omega
      exact rd_end h hT hM hL h0 hV h1 l1 l2 c1 (by omega) (hs c1) (by omega) _ _ _ _
    have le := rl_le b (L - p) p
    rw [tell_u, if_neg (show ¬ (150 : Int32) ≤ nI c from nI_ge (b := 150) (by omega) (by decide)), kT_len, kT_at, hT.2.1, if_neg (nI_ge (by omega) (by omega)), X_word hT hp (by omega), bd_some, read_u, kP_st, kP_tx, hM.2.1, if_pos (nI_lt (by omega) (by omega))]
    dsimp only
    rw [kT_it]
    unfold blkM Fm_takesItem_89
    by_cases cL : isL (b p)
    · rw [if_pos cL, te_L cL, M_word1 hM le.1 (by omega)]
      simp only [bd_some, kPu_wo]
      generalize hE : rl b (L - p) p = e at le
      have hW := wN_or b p e 8 0 (by omega)
      generalize wN b p e 8 0 = W at hW
      have fail : ∀ wo a, both (some (nI p, mkT w s t l (nI c) rf nu (nI e))) (some (a, mkP m v (nI e) (nI p) 1 (if isF (b p) then 1 else 0) nu2 wo)) := fun wo a => both_no (nI_m1 (by omega)) _ (R_read h hL h0 hV h1 l1 l2 _ _ _ _ _ _ _ _)
      rcases hW with rfl | ⟨j, hj, rfl⟩
      · rw [if_pos rfl, if_pos rfl, bd_some, if_pos rfl]
        exact fail _ _
      rw [if_neg (nI_m1 (by omega)), if_neg (nI_m1 (by omega))]
      have go : (1 ≤ j → 1 ≤ c) → (j = 0 → c = 0) → both (blkX n (nI c) (nI j) (mkT w s t l (nI c) rf nu (nI e))) (ai_bd (Gm_takesItem_89 n2 0 (nI c) 0 0 (mkP m v (nI e) (nI p) 1 (if isF (b p) then 1 else 0) nu2 (nI j))) fun c277 => if c277.1 = 0 then some (((-10) - (a_m_start c277.2)), c277.2) else if rf = (-1) then ai_bd (Fm_done_89 n2 c277.2) fun c303 => if (-1) ≤ c303.1 then ai_bd (Fm_token_89 n2 c303.2) fun c304 => Gm_read_89 n2 0 (nI c + 1) rf c304 else ai_bd (Fm_token_89 n2 c303.2) fun c305 => Gm_read_89 n2 0 (nI c + 1) (nI c) c305 else ai_bd (Fm_token_89 n2 c277.2) fun c278 => Gm_read_89 n2 0 (nI c + 1) rf c278) := by
        intro g1 g2
        obtain ⟨k1, k2, k3⟩ := mn_dec ⟨j, hj⟩
        have k1 : Fm_manyOf (nI j) = some (nI (mn j)) := k1
        have k2 : Ftxt_numbersBehind (nI j) = some (nI (mn j)) := k2
        have k3 : mn j ≤ 3 := k3
        obtain ⟨r, nuX, aX, x1, x2, x3, x4⟩ := X_nums hT hb k3 s t l (nI c) rf (mn j) 0 e n nu [] (by omega) (by omega) (by omega) l1 rfl (fun i hi => absurd hi (by omega))
        obtain ⟨r2, nuM, b1, b2, b3, b4, y1, y2, y3, y4⟩ := M_nums hM k3 (nI c) v k1 (mn j) 0 e n2 nu2 [] (nI p) 1 (if isF (b p) then 1 else 0) (by omega) (by omega) (by omega) l2 rfl (fun i hi => absurd hi (by omega))
        rw [nI_0] at x2 y2
        unfold blkX Ftxt_takeNumbers_78
        rw [k2, bd_some, X_skip hT s t l (nI c) rf nu (L - e) e n (by omega) (by omega), bd_some, x2, y2, bd_some, bd_some]
        dsimp only
        have hRX : ∀ z a5, R (mkT w s t l (nI c) rf nuX z) (mkP m v b1 b2 b3 b4 nuM a5) := fun z a5 => R_read h hL h0 hV h1 x1 y1 _ _ _ _ _ _ _ _
        cases hN : nS b L (mn j) e [] with
        | none =>
          rw [if_neg (x4 hN), if_pos (y4 hN)]
          exact both_no (x4 hN) _ (hRX _ _)
        | some vq =>
          obtain ⟨vv, q⟩ := vq
          obtain ⟨p1, p2, p3, p4, p5⟩ := x3 vv q hN
          obtain ⟨q1, q2, q3⟩ := y3 vv q hN
          have lez := sk_le b (L - q) q
          generalize sk b (L - q) q = z at lez p4 q1 q2
          rw [if_pos p1, p4, kT_len, kT_at, hT.2.1, q1, q2]
          by_cases zL : L ≤ z
          · have n59 : ¬ b z = 59 := by rw [hb z zL]; decide
            rw [if_pos (nI_le zL (by omega)), if_neg n59, if_pos rfl]
            rw [q2] at hRX
            exact both_no (nI_m1 (by omega)) _ (hRX _ _)
          rw [if_neg (nI_ge (by omega) (by omega)), kT_by, X_sign hT (by omega), bd_some]
          by_cases n59 : b z = 59
          · rw [if_pos n59, if_pos n59, if_neg (show ¬ (1 : Int32) = 0 by decide), kT_rf, kTu_at, te_59 n59 (by omega), nI_1]
            have agree : ∀ i, i < mn j → nuX.getD i 0 = nuM.getD i 0 := fun i hi => by rw [p5 i hi, q3 i hi]
            have lep := sk_le b (L - (z + 1)) (z + 1)
            by_cases rz : rf = -1
            · rw [if_pos rz, if_pos rz]
              obtain ⟨u, u2, s', t', l', v', e1, e2, e3, e4⟩ := it_all (w := w) (m := m) hL h0 h1 hV hj (fun q => hs (g1 q) rz) (n := n) (by omega) (n2 := n2) (by omega) x1 y1 agree (nI c) rf (nI (z + 1)) (nI (z + 1)) b2 b3 b4
              rw [e1, bd_some, e2, bd_some]
              dsimp only
              rcases e4 with ⟨f1, f2, f3⟩ | ⟨f1, f2, f3, f4, f5⟩
              · rw [if_pos f1, if_pos f2, kT_it, kTu_it, nI_1, X_skip hT s' t' l' (nI (c + 1)) rf nuX (L - (z + 1)) (z + 1) n (by omega) (by omega), bd_some, M_token hM (by omega) (by omega), bd_some]
                obtain ⟨f4, f5, f6⟩ := f3.pos
                exact ih _ (c + 1) n n2 s' t' l' v' nuX nuM rf (nI j) (by omega) (by omega) (by omega) (by omega) (by omega) (by omega) f4 f5 e3 f6 x1 y1 (fun _ _ => f3)
              · rw [if_neg f1, if_neg f2, kT_it, kTu_rf, kTu_it, nI_1, X_skip hT s' t' l' (nI (c + 1)) (nI c) nuX (L - (z + 1)) (z + 1) n (by omega) (by omega), bd_some, M_token hM (by omega) (by omega), bd_some]
                exact ih _ (c + 1) n n2 s' t' l' v' nuX nuM (nI c) (nI j) (by omega) (by omega) (by omega) (by omega) (by omega) (by omega) f3 f4 e3 f5 x1 y1 (fun _ q => absurd q (nI_m1 (by omega)))
            · rw [if_neg rz, if_neg rz, kT_it, kTu_it, nI_1, X_skip hT s t l (nI (c + 1)) rf nuX (L - (z + 1)) (z + 1) n (by omega) (by omega), bd_some, M_token hM (by omega) (by omega), bd_some]
              exact ih _ (c + 1) n n2 s t l v nuX nuM rf (nI j) (by omega) (by omega) (by omega) (by omega) (by omega) (by omega) hL h0 hV h1 x1 y1 (fun _ q => absurd q rz)
          · rw [if_neg n59, if_neg n59, if_pos rfl]
            rw [q2] at hRX
            exact both_no (nI_m1 (by omega)) _ (hRX _ _)
      by_cases j0 : j = 0
      · subst j0
        rw [if_pos (show nI 0 = 0 from rfl), if_pos (show nI 0 = 0 from rfl)]
        by_cases c0 : c = 0
        · subst c0
          rw [if_pos (show nI 0 = 0 from rfl), if_pos (show nI 0 = 0 from rfl)]
          exact go (fun q => absurd q (by omega)) (fun _ => rfl)
        · have cn : ¬ nI c = 0 := nI_ne0 (by omega) (by omega)
          rw [if_neg cn, if_neg cn, bd_some, if_pos rfl]
          exact fail _ _
      · have jn : ¬ nI j = 0 := nI_ne0 (by omega) (by omega)
        rw [if_neg jn, if_neg jn]
        by_cases c0 : c = 0
        · subst c0
          rw [if_pos (show nI 0 = 0 from rfl), if_pos (show nI 0 = 0 from rfl), bd_some, if_pos rfl]
          exact fail _ _
        · have cn : ¬ nI c = 0 := nI_ne0 (by omega) (by omega)
          rw [if_neg cn, if_neg cn]
          exact go (fun _ => by omega) (fun q => absurd q j0)
    · rw [if_neg cL, rl_not hb hp cL, wN_0 b p 8 0 (by omega), M_word0, if_pos rfl]
      simp only [bd_some, kPu_wo]
      rw [if_pos trivial, bd_some, if_pos rfl]
      exact both_no (nI_m1 (by omega)) _ (R_read h hL h0 hV h1 l1 l2 _ _ _ _ _ _ _ _)
theorem Cg_read (h : R w m) : Og (fun n => Ff_read_0 n w) (fun n => Fm_read_89 n m) := ⟨3000, fun n hn => by
  obtain ⟨L, hL, eL, eM, lX, lM, hE⟩ := h.2.2.2.2.1
  have hT : TX w (fun k => if k < L then (a_text_bytes w).getD k 0 else -1) L := ⟨hL, eL, lX, fun k hk => by dsimp only; rw [if_pos hk]⟩
  have hM : TM m (fun k => if k < L then (a_text_bytes w).getD k 0 else -1) L := ⟨hL, eM, lM, fun k hk => by dsimp only; rw [if_pos hk, hE k hk], fun k hk => by dsimp only; rw [if_neg (by omega)]⟩
  generalize (fun k => if k < L then (a_text_bytes w).getD k 0 else (-1 : Int32)) = b at hT hM
  have hb := hM.2.2.2.2
  have l1 : (a_text_numbers w).length = 3 := h.2.2.2.2.2.2.2.1.2.1
  have l2 : (a_m_numbers m).length = 3 := h.2.2.2.2.2.2.2.2.1
  have hLS : LSe w.2.2.2.2.1 w.2.2.2.2.2.1 w.2.2.2.2.2.2.1 := h.2.2.1.1.1
  have h0 : 0 ≤ q_cells w.2.2.2.2.1 := h.2.2.1.2.1
  have h1 : 0 ≤ sl (a_m_w m) 447 0 := h.2.2.1.2.2
  have hV : VV m (a_m_w m) := ⟨h.1, fun _ _ => rfl⟩
  have le := sk_le b (L - 0) 0
  have x0 := X_skip hT w.2.2.2.2.1 w.2.2.2.2.2.1 w.2.2.2.2.2.2.1 0 (-1) (a_text_numbers w) (L - 0) 0 n (by omega) (by omega)
  have m0 := M_token hM (p := 0) (n := n) (by omega) (by omega) (a_m_w m) (a_m_start m) (a_m_isWord m) (a_m_isFigures m) (a_m_numbers m) (a_m_word m)
  rw [nI_0] at x0 m0
  show ∃ r s w' m', Ff_read_0 n w = some (r, w') ∧ Fm_read_89 n m = some (s, m') ∧ R w' m'
  unfold Ff_read_0 Fm_read_89 Ftxt_tell_78_20
  rw [kT_in, x0, kP_in, m0, bd_some, bd_some, kT_at, kT_len, eL]
  generalize sk b (L - 0) 0 = p at le
  have done : both (if nI p < nI L then Gtxt_tell_78_20 n 0 0 (mkT w w.2.2.2.2.1 w.2.2.2.2.2.1 w.2.2.2.2.2.2.1 0 (-1) (a_text_numbers w) (nI p)) else some (nI L, mkT w w.2.2.2.2.1 w.2.2.2.2.2.1 w.2.2.2.2.2.2.1 0 (-1) (a_text_numbers w) (nI p))) (Gm_read_89 n 0 0 (-1) (mkP m (a_m_w m) (nI (te b L p)) (nI p) (if isL (b p) then 1 else 0) (if isF (b p) then 1 else 0) (a_m_numbers m) (a_m_word m))) := by
    by_cases c : p < L
    · rw [if_pos (nI_lt c (by omega))]
      exact rd_loop h hT hM (L - p) p 0 n n _ _ _ (a_m_w m) _ _ (-1) (a_m_word m) (by omega) (by omega) (by omega) (fun _ => c) (by omega) (by omega) hLS h0 hV h1 l1 l2 (fun q => absurd q (by omega))
    · have pL : p = L := by omega
      subst pL
      have cL : ¬ isL (b p) := fun z => by have := isL_lt hb z; omega
      obtain ⟨n, rfl⟩ : ∃ k, n = k + 1 := ⟨n - 1, by omega⟩
      rw [if_neg (nI_nlt (Nat.le_refl _) (by omega)), read_u, kP_st, kP_tx, eM, if_neg (show ¬ nI p < nI p from nI_nlt (Nat.le_refl _) (by omega)), if_pos rfl]
      unfold blkM Fm_takesItem_89
      rw [if_neg cL, M_word0]
      simp only [bd_some, kPu_wo]
      rw [if_pos trivial, bd_some, if_pos rfl]
      exact both_no (nI_m1 (by omega)) _ (R_read h hLS h0 hV h1 l1 l2 _ _ _ _ _ _ _ _)
  obtain ⟨r, r2, w', m', e1, e2, e3⟩ := done
  exact ⟨r, r2, w', m', e1, e2, e3⟩⟩
end C62
