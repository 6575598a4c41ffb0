/-! reading: the whole text -/
def blkX (n : Nat) (y W : Int32) (w0 : WX) : Option (Int32 × WX) :=
  ai_bd (Ftxt_numbersBehind W) fun c1193 =>
  ai_bd (Ftxt_takeNumbers_78 n c1193 w0) fun c1211 =>
  if c1211.1 = (-1) then
    if (a_text_length c1211.2) ≤ (a_text_at c1211.2) then
      some ((a_text_at c1211.2), c1211.2)
    else
      ai_bd (ai_ix (a_text_bytes c1211.2) (a_text_at c1211.2)) fun v1212 =>
      if v1212 = 59 then
        if (a_text_refusedItem c1211.2) = (-1) then
          ai_bd (Ftxt_tellItem_78_20 n W (u_text_at c1211.2 ((a_text_at c1211.2) + 1))) fun c1333 =>
          if 0 ≤ c1333.1 then
            ai_bd (Ftxt_skipBlanks_78 n (u_text_items c1333.2 ((a_text_items c1333.2) + 1))) fun c1334 =>
            Gtxt_tell_78_20 n 0 (y + 1) c1334
          else
            ai_bd (Ftxt_skipBlanks_78 n (u_text_items (u_text_refusedItem c1333.2 (a_text_items c1333.2)) ((a_text_items c1333.2) + 1))) fun c1335 =>
            Gtxt_tell_78_20 n 0 (y + 1) c1335
        else
          ai_bd (Ftxt_skipBlanks_78 n (u_text_items (u_text_at c1211.2 ((a_text_at c1211.2) + 1)) ((a_text_items c1211.2) + 1))) fun c1213 =>
          Gtxt_tell_78_20 n 0 (y + 1) c1213
      else
        some ((a_text_at c1211.2), c1211.2)
  else
    some (c1211.1, c1211.2)
theorem tell_u (n : Nat) (y : Int32) (w : WX) : Gtxt_tell_78_20 (n + 1) 0 y w = if 150 ≤ y then some ((-1), w) else if (a_text_length w) ≤ (a_text_at w) then some ((-1), w) else ai_bd (Ftxt_takeWord_78 n w) fun c => if c.1 = (-1) then some ((a_text_at w), c.2) else if c.1 = 0 then (if (a_text_items c.2) = 0 then blkX n y c.1 c.2 else some ((a_text_at w), c.2)) else if (a_text_items c.2) = 0 then some ((a_text_at w), c.2) else blkX n y c.1 c.2 := by
  rw [Gtxt_tell_78_20]
  rfl
def blkM (n : Nat) (y z : Int32) (w : WM) : Option (Int32 × WM) :=
  ai_bd (Fm_takesItem_89 n y w) fun c277 =>
  if c277.1 = 0 then
    some (((-10) - (a_m_start c277.2)), c277.2)
  else
    if z = (-1) then
      ai_bd (Fm_done_89 n c277.2) fun c303 =>
      if (-1) ≤ c303.1 then
        ai_bd (Fm_token_89 n c303.2) fun c304 =>
        Gm_read_89 n 0 (y + 1) z c304
      else
        ai_bd (Fm_token_89 n c303.2) fun c305 =>
        Gm_read_89 n 0 (y + 1) y c305
    else
      ai_bd (Fm_token_89 n c277.2) fun c278 =>
      Gm_read_89 n 0 (y + 1) z c278
theorem read_u (n : Nat) (y z : Int32) (w : WM) : Gm_read_89 (n + 1) 0 y z w = if (a_m_start w) < (a_m_texted w) then blkM n y z w else if y = 0 then blkM n y z w else if z = (-1) then (ai_bd (Fm_copy_89 n 447 0 w) fun c313 => some (y, c313)) else some (((-1000) - z), w) := by
  rw [Gm_read_89]
  rfl
/-- what the class does with what its text told -/
def endX (c1343 : Int32 × WX) : Option (Int32 × WX) :=
  if c1343.1 = (-1) then
    if (a_text_refusedItem c1343.2) = (-1) then
      ai_bd (Fsea_copyFrom_1_20 c1343.2) fun c1362 =>
      some ((a_text_items c1362), c1362)
    else
      some (((-1000) - (a_text_refusedItem c1343.2)), c1343.2)
  else
    some (((-10) - c1343.1), c1343.2)
section C62
variable {w : WX} {m : WM} {b : Nat → Int32} {L : Nat}
theorem R_read (h : R w m) {s : TS} {t : TT} {l : TL} (hL : LSe s t l) (h0 : 0 ≤ q_cells s) {v : List Int32} (hV : VV m v) (h1 : 0 ≤ sl v 447 0) {nu nu2 : List Int32} (l1 : nu.length = 3) (l2 : nu2.length = 3) (it rf a a1 a2 a3 a4 wo : Int32) : R (mkT w s t l it rf nu a) (mkP m v a1 a2 a3 a4 nu2 wo) := by
  obtain ⟨r1, r2, ⟨⟨r31, r32, r33⟩, r34, r35⟩, ⟨k0, k1, i1, i2, i3, i4⟩, r5, r6, r7, ⟨c1, c2, c3⟩, ⟨d1, d2⟩⟩ := h
  have c : ∀ r, r + 149 ≤ 447 → ∀ k, k < 149 → sl (a_m_w m) r k = sl v r k := fun r hr k hk => (hV.2 (r + k) (by omega)).symm
  exact ⟨hV.1, RS_congr (c 0 (by omega)) r2, ⟨⟨hL, r32, r33⟩, h0, h1⟩, ⟨k0, k1, i1, i2, fun q => RS_congr (c 149 (by omega)) (i3 q), fun q => RS_congr (c 298 (by omega)) (i4 q)⟩, r5, r6, r7, ⟨c1, l1, c3⟩, ⟨l2, d2⟩⟩
/-- both stop here, and the worlds stand side by side -/
def both (ox : Option (Int32 × WX)) (om : Option (Int32 × WM)) : Prop := ∃ r r2 w' m', ai_bd ox endX = some (r, w') ∧ om = some (r2, m') ∧ R w' m'
theorem both_no {x : Int32} (hx : ¬ x = -1) {w' : WX} {m' : WM} (r : Int32) (h : R w' m') : both (some (x, w')) (some (r, m')) := by
  refine ⟨(-10) - x, r, w', m', ?_, rfl, h⟩
  rw [bd_some]
  unfold endX
  rw [if_neg hx]
theorem nI_m1 {p : Nat} (hp : p < 2 ^ 31) : ¬ nI p = -1 := fun z => nI_pos (n := p) hp (by rw [z]; decide)
theorem rd_end (h : R w m) (hT : TX w b L) (hM : TM m b L) {s : TS} {t : TT} {l : TL} (hL : LSe s t l) (h0 : 0 ≤ q_cells s) {v : List Int32} (hV : VV m v) (h1 : 0 ≤ sl v 447 0) {nu nu2 : List Int32} (l1 : nu.length = 3) (l2 : nu2.length = 3) {c : Nat} (hc : 1 ≤ c) (hc2 : c ≤ 150) {rf : Int32} (hs : rf = -1 → RS s t l (sl v 447)) {n n2 : Nat} (hn2 : 200 ≤ n2) (a1 a3 a4 wo : Int32) : both (Gtxt_tell_78_20 (n + 1) 0 (nI c) (mkT w s t l (nI c) rf nu (nI L))) (Gm_read_89 (n2 + 1) 0 (nI c) rf (mkP m v a1 (nI L) a3 a4 nu2 wo)) := by
  have hL1 := hT.1
  have e1 : Gtxt_tell_78_20 (n + 1) 0 (nI c) (mkT w s t l (nI c) rf nu (nI L)) = some ((-1), mkT w s t l (nI c) rf nu (nI L)) := by
    rw [tell_u, kT_len, kT_at, hT.2.1, if_pos (Int32.le_refl (nI L))]
    by_cases k : (150 : Int32) ≤ nI c
    · rw [if_pos k]
    · rw [if_neg k]
  have hR := R_read h hL h0 hV h1 l1 l2 (nI c) rf (nI L) a1 (nI L) a3 a4 wo
  rw [e1, read_u, kP_st, kP_tx, hM.2.1, if_neg (show ¬ nI L < nI L from nI_nlt (Nat.le_refl _) (by omega)), if_neg (show ¬ nI c = 0 from nI_ne0 (by omega) (by omega))]
  by_cases z : rf = -1
  · rw [if_pos z]
    obtain ⟨m', em, hMW⟩ := M_copy (m := mkP m v a1 (nI L) a3 a4 nu2 wo) (x := 447) (y := 0) (p := 447) (q := 0) (n := n2) (by omega) rfl rfl (by omega) (by omega) (by omega) (by rw [kP_w]; exact hV.1)
    rw [kP_w] at hMW
    rw [em, bd_some]
    unfold both
    rw [bd_some]
    unfold endX
    rw [if_pos rfl]
    rw [kT_rf, if_pos z, copy_1_20 (mkT w s t l (nI c) rf nu (nI L)) hL h.s.1, bd_some]
    exact ⟨_, _, _, _, rfl, rfl, R_now hR hMW (hs z)⟩
  · rw [if_neg z]
    unfold both
    rw [bd_some]
    unfold endX
    rw [if_pos rfl]
    rw [kT_rf, if_neg z]
    exact ⟨_, _, _, _, rfl, rfl, hR⟩
theorem rl_not (hb : ∀ k, L ≤ k → b k = -1) {p : Nat} (hp : p ≤ L) (h : ¬ isL (b p)) : rl b (L - p) p = p := by
  by_cases c : p = L
  · subst c
    rw [Nat.sub_self, rl]
  · rw [show L - p = (L - (p + 1)) + 1 by omega, rl, if_neg h]
theorem te_L {p : Nat} (h : isL (b p)) : te b L p = rl b (L - p) p := by
  unfold te
  rw [if_pos h]
theorem te_59 {p : Nat} (h : b p = 59) (hp : p < L) : te b L p = p + 1 := by
  unfold te
  rw [h, if_neg (by decide), if_neg (by decide), if_pos hp]
theorem rd_loop (h : R w m) (hT : TX w b L) (hM : TM m b L) : ∀ (d p c n n2 : Nat) (s : TS) (t : TT) (l : TL) (v nu nu2 : List Int32) (rf wo : Int32), L - p ≤ d → p ≤ L → c ≤ p → (c = 0 → p < L) → 1000 + d ≤ n → 1000 + d ≤ n2 → LSe s t l → 0 ≤ q_cells s → VV m v → 0 ≤ sl v 447 0 → nu.length = 3 → nu2.length = 3 → (1 ≤ c → rf = -1 → RS s t l (sl v 447)) → both (Gtxt_tell_78_20 n 0 (nI c) (mkT w s t l (nI c) rf nu (nI p))) (Gm_read_89 n2 0 (nI c) rf (mkP m v (nI (te b L p)) (nI p) (if isL (b p) then 1 else 0) (if isF (b p) then 1 else 0) nu2 wo)) := by
  have hL1 := hT.1
  have hb := hM.2.2.2.2
  intro d
  induction d with
  | zero =>
    intro p c n n2 s t l v nu nu2 rf wo hd hp hc hc0 hn hn2 hL h0 hV h1 l1 l2 hs
    have : p = L := by omega
    subst this
    obtain ⟨n, rfl⟩ : ∃ k, n = k + 1 := ⟨n - 1, by omega⟩
    obtain ⟨n2, rfl⟩ : ∃ k, n2 = k + 1 := ⟨n2 - 1, by omega⟩
    have c1 : 1 ≤ c := by
      by_cases z : c = 0
      · have := hc0 z; omega
      · omega
    exact rd_end h hT hM hL h0 hV h1 l1 l2 c1 (by omega) (hs c1) (by omega) _ _ _ _
  | succ d ih =>
    intro p c n n2 s t l v nu nu2 rf wo hd hp hc hc0 hn hn2 hL h0 hV h1 l1 l2 hs
    obtain ⟨n, rfl⟩ : ∃ k, n = k + 1 := ⟨n - 1, by omega⟩
    obtain ⟨n2, rfl⟩ : ∃ k, n2 = k + 1 := ⟨n2 - 1, by omega⟩
    by_cases pL : p = L
    · subst pL
      have c1 : 1 ≤ c := by
        by_cases z : c = 0
        · have := hc0 z; omega
        · omega
      exact rd_end h hT hM hL h0 hV h1 l1 l2 c1 (by omega) (hs c1) (by omega) _ _ _ _
    have le := rl_le b (L - p) p
    rw [tell_u, if_neg (show ¬ (150 : Int32) ≤ nI c from nI_ge (b := 150) (by omega) (by decide)), kT_len, kT_at, hT.2.1, if_neg (nI_ge (by omega) (by omega)), X_word hT hp (by omega), bd_some, read_u, kP_st, kP_tx, hM.2.1, if_pos (nI_lt (by omega) (by omega))]
    dsimp only
    rw [kT_it]
    unfold blkM Fm_takesItem_89
    by_cases cL : isL (b p)
    · rw [if_pos cL, te_L cL, M_word1 hM le.1 (by omega)]
      simp only [bd_some, kPu_wo]
      generalize hE : rl b (L - p) p = e at le
      have hW := wN_or b p e 8 0 (by omega)
      generalize wN b p e 8 0 = W at hW
      have fail : ∀ wo a, both (some (nI p, mkT w s t l (nI c) rf nu (nI e))) (some (a, mkP m v (nI e) (nI p) 1 (if isF (b p) then 1 else 0) nu2 wo)) := fun wo a => both_no (nI_m1 (by omega)) _ (R_read h hL h0 hV h1 l1 l2 _ _ _ _ _ _ _ _)
      rcases hW with rfl | ⟨j, hj, rfl⟩
      · rw [if_pos rfl, if_pos rfl, bd_some, if_pos rfl]
        exact fail _ _
      rw [if_neg (nI_m1 (by omega)), if_neg (nI_m1 (by omega))]
      have go : (1 ≤ j → 1 ≤ c) → (j = 0 → c = 0) → both (blkX n (nI c) (nI j) (mkT w s t l (nI c) rf nu (nI e))) (ai_bd (Gm_takesItem_89 n2 0 (nI c) 0 0 (mkP m v (nI e) (nI p) 1 (if isF (b p) then 1 else 0) nu2 (nI j))) fun c277 => if c277.1 = 0 then some (((-10) - (a_m_start c277.2)), c277.2) else if rf = (-1) then ai_bd (Fm_done_89 n2 c277.2) fun c303 => if (-1) ≤ c303.1 then ai_bd (Fm_token_89 n2 c303.2) fun c304 => Gm_read_89 n2 0 (nI c + 1) rf c304 else ai_bd (Fm_token_89 n2 c303.2) fun c305 => Gm_read_89 n2 0 (nI c + 1) (nI c) c305 else ai_bd (Fm_token_89 n2 c277.2) fun c278 => Gm_read_89 n2 0 (nI c + 1) rf c278) := by
        intro g1 g2
        obtain ⟨k1, k2, k3⟩ := mn_dec ⟨j, hj⟩
        have k1 : Fm_manyOf (nI j) = some (nI (mn j)) := k1
        have k2 : Ftxt_numbersBehind (nI j) = some (nI (mn j)) := k2
        have k3 : mn j ≤ 3 := k3
        obtain ⟨r, nuX, aX, x1, x2, x3, x4⟩ := X_nums hT hb k3 s t l (nI c) rf (mn j) 0 e n nu [] (by omega) (by omega) (by omega) l1 rfl (fun i hi => absurd hi (by omega))
        obtain ⟨r2, nuM, b1, b2, b3, b4, y1, y2, y3, y4⟩ := M_nums hM k3 (nI c) v k1 (mn j) 0 e n2 nu2 [] (nI p) 1 (if isF (b p) then 1 else 0) (by omega) (by omega) (by omega) l2 rfl (fun i hi => absurd hi (by omega))
        rw [nI_0] at x2 y2
        unfold blkX Ftxt_takeNumbers_78
        rw [k2, bd_some, X_skip hT s t l (nI c) rf nu (L - e) e n (by omega) (by omega), bd_some, x2, y2, bd_some, bd_some]
        dsimp only
        have hRX : ∀ z a5, R (mkT w s t l (nI c) rf nuX z) (mkP m v b1 b2 b3 b4 nuM a5) := fun z a5 => R_read h hL h0 hV h1 x1 y1 _ _ _ _ _ _ _ _
        cases hN : nS b L (mn j) e [] with
        | none =>
          rw [if_neg (x4 hN), if_pos (y4 hN)]
          exact both_no (x4 hN) _ (hRX _ _)
        | some vq =>
          obtain ⟨vv, q⟩ := vq
          obtain ⟨p1, p2, p3, p4, p5⟩ := x3 vv q hN
          obtain ⟨q1, q2, q3⟩ := y3 vv q hN
          have lez := sk_le b (L - q) q
          generalize sk b (L - q) q = z at lez p4 q1 q2
          rw [if_pos p1, p4, kT_len, kT_at, hT.2.1, q1, q2]
          by_cases zL : L ≤ z
          · have n59 : ¬ b z = 59 := by rw [hb z zL]; decide
            rw [if_pos (nI_le zL (by omega)), if_neg n59, if_pos rfl]
            rw [q2] at hRX
            exact both_no (nI_m1 (by omega)) _ (hRX _ _)
          rw [if_neg (nI_ge (by omega) (by omega)), kT_by, X_sign hT (by omega), bd_some]
          by_cases n59 : b z = 59
          · rw [if_pos n59, if_pos n59, if_neg (show ¬ (1 : Int32) = 0 by decide), kT_rf, kTu_at, te_59 n59 (by omega), nI_1]
            have agree : ∀ i, i < mn j → nuX.getD i 0 = nuM.getD i 0 := fun i hi => by rw [p5 i hi, q3 i hi]
            have lep := sk_le b (L - (z + 1)) (z + 1)
            by_cases rz : rf = -1
            · rw [if_pos rz, if_pos rz]
              obtain ⟨u, u2, s', t', l', v', e1, e2, e3, e4⟩ := it_all (w := w) (m := m) hL h0 h1 hV hj (fun q => hs (g1 q) rz) (n := n) (by omega) (n2 := n2) (by omega) x1 y1 agree (nI c) rf (nI (z + 1)) (nI (z + 1)) b2 b3 b4
              rw [e1, bd_some, e2, bd_some]
              dsimp only
              rcases e4 with ⟨f1, f2, f3⟩ | ⟨f1, f2, f3, f4, f5⟩
              · rw [if_pos f1, if_pos f2, kT_it, kTu_it, nI_1, X_skip hT s' t' l' (nI (c + 1)) rf nuX (L - (z + 1)) (z + 1) n (by omega) (by omega), bd_some, M_token hM (by omega) (by omega), bd_some]
                obtain ⟨f4, f5, f6⟩ := f3.pos
                exact ih _ (c + 1) n n2 s' t' l' v' nuX nuM rf (nI j) (by omega) (by omega) (by omega) (by omega) (by omega) (by omega) f4 f5 e3 f6 x1 y1 (fun _ _ => f3)
              · rw [if_neg f1, if_neg f2, kT_it, kTu_rf, kTu_it, nI_1, X_skip hT s' t' l' (nI (c + 1)) (nI c) nuX (L - (z + 1)) (z + 1) n (by omega) (by omega), bd_some, M_token hM (by omega) (by omega), bd_some]
                exact ih _ (c + 1) n n2 s' t' l' v' nuX nuM (nI c) (nI j) (by omega) (by omega) (by omega) (by omega) (by omega) (by omega) f3 f4 e3 f5 x1 y1 (fun _ q => absurd q (nI_m1 (by omega)))
            · rw [if_neg rz, if_neg rz, kT_it, kTu_it, nI_1, X_skip hT s t l (nI (c + 1)) rf nuX (L - (z + 1)) (z + 1) n (by omega) (by omega), bd_some, M_token hM (by omega) (by omega), bd_some]
              exact ih _ (c + 1) n n2 s t l v nuX nuM rf (nI j) (by omega) (by omega) (by omega) (by omega) (by omega) (by omega) hL h0 hV h1 x1 y1 (fun _ q => absurd q rz)
          · rw [if_neg n59, if_neg n59, if_pos rfl]
            rw [q2] at hRX
            exact both_no (nI_m1 (by omega)) _ (hRX _ _)
      by_cases j0 : j = 0
      · subst j0
        rw [if_pos (show nI 0 = 0 from rfl), if_pos (show nI 0 = 0 from rfl)]
        by_cases c0 : c = 0
        · subst c0
          rw [if_pos (show nI 0 = 0 from rfl), if_pos (show nI 0 = 0 from rfl)]
          exact go (fun q => absurd q (by omega)) (fun _ => rfl)
        · have cn : ¬ nI c = 0 := nI_ne0 (by omega) (by omega)
          rw [if_neg cn, if_neg cn, bd_some, if_pos rfl]
          exact fail _ _
      · have jn : ¬ nI j = 0 := nI_ne0 (by omega) (by omega)
        rw [if_neg jn, if_neg jn]
        by_cases c0 : c = 0
        · subst c0
          rw [if_pos (show nI 0 = 0 from rfl), if_pos (show nI 0 = 0 from rfl), bd_some, if_pos rfl]
          exact fail _ _
        · have cn : ¬ nI c = 0 := nI_ne0 (by omega) (by omega)
          rw [if_neg cn, if_neg cn]
          exact go (fun _ => by omega) (fun q => absurd q j0)
    · rw [if_neg cL, rl_not hb hp cL, wN_0 b p 8 0 (by omega), M_word0, if_pos rfl]
      simp only [bd_some, kPu_wo]
      rw [if_pos trivial, bd_some, if_pos rfl]
      exact both_no (nI_m1 (by omega)) _ (R_read h hL h0 hV h1 l1 l2 _ _ _ _ _ _ _ _)
theorem Cg_read (h : R w m) : Og (fun n => Ff_read_0 n w) (fun n => Fm_read_89 n m) := ⟨3000, fun n hn => by
  obtain ⟨L, hL, eL, eM, lX, lM, hE⟩ := h.2.2.2.2.1
  have hT : TX w (fun k => if k < L then (a_text_bytes w).getD k 0 else -1) L := ⟨hL, eL, lX, fun k hk => by dsimp only; rw [if_pos hk]⟩
  have hM : TM m (fun k => if k < L then (a_text_bytes w).getD k 0 else -1) L := ⟨hL, eM, lM, fun k hk => by dsimp only; rw [if_pos hk, hE k hk], fun k hk => by dsimp only; rw [if_neg (by omega)]⟩
  generalize (fun k => if k < L then (a_text_bytes w).getD k 0 else (-1 : Int32)) = b at hT hM
  have hb := hM.2.2.2.2
  have l1 : (a_text_numbers w).length = 3 := h.2.2.2.2.2.2.2.1.2.1
  have l2 : (a_m_numbers m).length = 3 := h.2.2.2.2.2.2.2.2.1
  have hLS : LSe w.2.2.2.2.1 w.2.2.2.2.2.1 w.2.2.2.2.2.2.1 := h.2.2.1.1.1
  have h0 : 0 ≤ q_cells w.2.2.2.2.1 := h.2.2.1.2.1
  have h1 : 0 ≤ sl (a_m_w m) 447 0 := h.2.2.1.2.2
  have hV : VV m (a_m_w m) := ⟨h.1, fun _ _ => rfl⟩
  have le := sk_le b (L - 0) 0
  have x0 := X_skip hT w.2.2.2.2.1 w.2.2.2.2.2.1 w.2.2.2.2.2.2.1 0 (-1) (a_text_numbers w) (L - 0) 0 n (by omega) (by omega)
  have m0 := M_token hM (p := 0) (n := n) (by omega) (by omega) (a_m_w m) (a_m_start m) (a_m_isWord m) (a_m_isFigures m) (a_m_numbers m) (a_m_word m)
  rw [nI_0] at x0 m0
  show ∃ r s w' m', Ff_read_0 n w = some (r, w') ∧ Fm_read_89 n m = some (s, m') ∧ R w' m'
  unfold Ff_read_0 Fm_read_89 Ftxt_tell_78_20
  rw [kT_in, x0, kP_in, m0, bd_some, bd_some, kT_at, kT_len, eL]
  generalize sk b (L - 0) 0 = p at le
  have done : both (if nI p < nI L then Gtxt_tell_78_20 n 0 0 (mkT w w.2.2.2.2.1 w.2.2.2.2.2.1 w.2.2.2.2.2.2.1 0 (-1) (a_text_numbers w) (nI p)) else some (nI L, mkT w w.2.2.2.2.1 w.2.2.2.2.2.1 w.2.2.2.2.2.2.1 0 (-1) (a_text_numbers w) (nI p))) (Gm_read_89 n 0 0 (-1) (mkP m (a_m_w m) (nI (te b L p)) (nI p) (if isL (b p) then 1 else 0) (if isF (b p) then 1 else 0) (a_m_numbers m) (a_m_word m))) := by
    by_cases c : p < L
    · rw [if_pos (nI_lt c (by omega))]
      exact rd_loop h hT hM (L - p) p 0 n n _ _ _ (a_m_w m) _ _ (-1) (a_m_word m) (by omega) (by omega) (by omega) (fun _ => c) (by omega) (by omega) hLS h0 hV h1 l1 l2 (fun q => absurd q (by omega))
    · have pL : p = L := by omega
      subst pL
      have cL : ¬ isL (b p) := fun z => by have := isL_lt hb z; omega
      obtain ⟨n, rfl⟩ : ∃ k, n = k + 1 := ⟨n - 1, by omega⟩
      rw [if_neg (nI_nlt (Nat.le_refl _) (by omega)), read_u, kP_st, kP_tx, eM, if_neg (show ¬ nI p < nI p from nI_nlt (Nat.le_refl _) (by omega)), if_pos rfl]
      unfold blkM Fm_takesItem_89
      rw [if_neg cL, M_word0]
      simp only [bd_some, kPu_wo]
      rw [if_pos trivial, bd_some, if_pos rfl]
      exact both_no (nI_m1 (by omega)) _ (R_read h hLS h0 hV h1 l1 l2 _ _ _ _ _ _ _ _)
  obtain ⟨r, r2, w', m', e1, e2, e3⟩ := done
  exact ⟨r, r2, w', m', e1, e2, e3⟩⟩
end C62
