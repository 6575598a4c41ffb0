/-! the digest -/
theorem RS.li {s : TS} {t : TT} {l : TL} {f : Nat → Int32} (h : RS s t l f) {i : Nat} (hi : i < Nn (f 3)) : (q_froms l).getD i 0 = f (91 + i) ∧ (q_tos l).getD i 0 = f (101 + i) ∧ (q_times l).getD i 0 = f (111 + i) := by
  have h6 := h.c3.2.1
  have g : ∀ b : Nat, b < 3 → fl s t l (91 + 10 * b + i) = f (91 + 10 * b + i) := fun b hb => h.2.1 _ (by omega) (Or.inr (Or.inr (Or.inl ⟨by omega, by omega, by omega⟩)))
  refine ⟨?_, ?_, ?_⟩
  · rw [← fl_froms s t l (by omega)]; exact g 0 (by omega)
  · rw [← fl_tos s t l (by omega)]; exact g 1 (by omega)
  · rw [← fl_times s t l (by omega)]; exact g 2 (by omega)
def mH (m : WM) (x : Int64) : WM := u_m_h m x
section MH
variable (m : WM) (a b : Int64)
theorem mH_u : u_m_h (mH m a) b = mH m b := by dsimp only [mH, u_m_h]
theorem mH_h : a_m_h (mH m a) = a := by dsimp only [mH, u_m_h, a_m_h]
theorem mH_w : a_m_w (mH m a) = a_m_w m := by dsimp only [mH, u_m_h, a_m_w]
theorem mH_above : a_m_above (mH m a) = a_m_above m := by dsimp only [mH, u_m_h, a_m_above]
theorem mH_below : a_m_below (mH m a) = a_m_below m := by dsimp only [mH, u_m_h, a_m_below]
theorem mH_texted : a_m_texted (mH m a) = a_m_texted m := by dsimp only [mH, u_m_h, a_m_texted]
end MH
theorem M_mix (m : WM) (a x : Int64) : Fm_mix_89 x (mH m a) = some (mH m (31 * a + x)) := by
  unfold Fm_mix_89
  rw [mH_h, mH_u]
theorem R_H {w : WX} {m : WM} (h : R w m) (x : Int64) : R w (mH m x) := by
  obtain ⟨h1, h2, h3, h4, h5, h6, h7, h8, h9⟩ := h
  exact ⟨h1, h2, h3, h4, h5, h6, h7, h8, h9⟩
/-- numbers mixed in, one after the other -/
def dg (v : Nat → Int32) : Nat → Nat → Int64 → Int64
  | 0, _, h => h
  | d + 1, i, h => dg v d (i + 1) (31 * h + (v i).toInt64)
def thF (f : Nat → Int32) : Nat → Nat → Int64 → Int64
  | 0, _, h => h
  | d + 1, i, h => thF f d (i + 1) (31 * (31 * (31 * (31 * h + (f (67 + i)).toInt64) + (f (73 + i)).toInt64) + (f (79 + i)).toInt64) + (f (85 + i)).toInt64)
def waF (f : Nat → Int32) : Nat → Nat → Int64 → Int64
  | 0, _, h => h
  | d + 1, l, h => waF f d (l + 1) (dg (fun j => f (40 + (6 * l + j))) (Nn (f 0)) 0 (dg (fun j => f (16 + (6 * l + j))) 6 0 (31 * (31 * h + (f (8 + l)).toInt64) + (f (12 + l)).toInt64)))
section C52
variable {W : WX} {m : WM} {f : Nat → Int32}
theorem mh_ix (hw : (a_m_w m).length = 596) (hf : sl (a_m_w m) 0 = f) (a : Int64) {x : Int32} (k : Nat) (hx : x = nI k) (hk : k < 149) : ai_ix (a_m_w (mH m a)) x = some (f k) := by
  rw [mH_w, m_ix0 hw (x := x) k hx hk, hf]
theorem M_mx4 (hw : (a_m_w m).length = 596) (hf : sl (a_m_w m) 0 = f) (h2 : isN (f 2) 0 6) : ∀ (d i n : Nat) (z : Int32) (h : Int64), i + d = Nn (f 2) → 7 * d + 2 ≤ n → Gm_mixSea_89 n 4 (nI i) z (mH m h) = some (mH m (thF f d i h)) := by
  have h6 := h2.2.1
  have q2 := h2.2.2
  obtain ⟨T, hT⟩ : ∃ T, Nn (f 2) = T := ⟨_, rfl⟩
  rw [hT] at h6 q2 ⊢
  intro d
  induction d with
  | zero =>
    intro i n z h hi hn
    obtain ⟨n, rfl⟩ : ∃ k, n = k + 1 := ⟨n - 1, by omega⟩
    rw [Gm_mixSea_89, mh_ix hw hf h (x := 2) 2 rfl (by omega), bd_some, q2, if_pos (nI_le (by omega) (by omega))]
    rfl
  | succ d ih =>
    intro i n z h hi hn
    obtain ⟨n, rfl⟩ : ∃ k, n = k + 1 + 1 + 1 + 1 + 1 + 1 := ⟨n - 6, by omega⟩
    have e : ∀ (b : Nat) (x : Int32), x = nI (67 + 6 * b) → x + nI i = nI (67 + 6 * b + i) := fun b x hx => by rw [hx, nI_add]
    rw [Gm_mixSea_89, mh_ix hw hf h (x := 2) 2 rfl (by omega), bd_some, q2, if_neg (nI_ge (by omega) (by omega))]
    rw [Gm_mixSea_89, if_neg (show ¬ (4 : Int32) ≤ 0 by decide), mh_ix hw hf _ (67 + 6 * 0 + i) (e 0 _ (by decide)) (by omega), bd_some, M_mix, bd_some]
    rw [Gm_mixSea_89, if_neg (show ¬ (4 : Int32) ≤ 0 + 1 by decide), mh_ix hw hf _ (67 + 6 * 1 + i) (e 1 _ (by decide)) (by omega), bd_some, M_mix, bd_some]
    rw [Gm_mixSea_89, if_neg (show ¬ (4 : Int32) ≤ 0 + 1 + 1 by decide), mh_ix hw hf _ (67 + 6 * 2 + i) (e 2 _ (by decide)) (by omega), bd_some, M_mix, bd_some]
    rw [Gm_mixSea_89, if_neg (show ¬ (4 : Int32) ≤ 0 + 1 + 1 + 1 by decide), mh_ix hw hf _ (67 + 6 * 3 + i) (e 3 _ (by decide)) (by omega), bd_some, M_mix, bd_some]
    rw [Gm_mixSea_89, if_pos (show (4 : Int32) ≤ 0 + 1 + 1 + 1 + 1 by decide), nI_1, thF]
    exact ih (i + 1) n 0 _ (by omega) (by omega)
theorem M_mx3 (hw : (a_m_w m).length = 596) (hf : sl (a_m_w m) 0 = f) (h2 : isN (f 2) 0 6) : ∀ (d i n : Nat) (z : Int32) (h : Int64), i + d = 3 → d + 60 ≤ n → Gm_mixSea_89 n 3 (nI i) z (mH m h) = some (mH m (thF f (Nn (f 2)) 0 (dg (fun j => f (64 + j)) d i h))) := by
  have h6 := h2.2.1
  intro d
  induction d with
  | zero =>
    intro i n z h hi hn
    obtain ⟨n, rfl⟩ : ∃ k, n = k + 1 := ⟨n - 1, by omega⟩
    rw [show i = 3 by omega, Gm_mixSea_89, if_pos (show (3 : Int32) ≤ nI 3 from Int32.le_refl _)]
    have q := M_mx4 hw hf h2 (Nn (f 2)) 0 n 0 h (by omega) (by omega)
    rw [nI_0] at q
    exact q
  | succ d ih =>
    intro i n z h hi hn
    obtain ⟨n, rfl⟩ : ∃ k, n = k + 1 := ⟨n - 1, by omega⟩
    rw [Gm_mixSea_89, if_neg (show ¬ (3 : Int32) ≤ nI i from nI_ge (b := 3) (by omega) (by decide)), mh_ix hw hf h (x := 64 + nI i) (64 + i) (by rw [show (64 : Int32) = nI 64 from rfl, nI_add]) (by omega), bd_some, M_mix, bd_some, nI_1, dg]
    exact ih (i + 1) n 0 _ (by omega) (by omega)
theorem M_mx2 (hw : (a_m_w m).length = 596) (hf : sl (a_m_w m) 0 = f) (h0 : isN (f 0) 1 6) {l K : Nat} (hl : l < 4) {F : Int64 → Int64} (cont : ∀ (n : Nat) (h : Int64), K ≤ n → Gm_mixSea_89 n 0 (nI (l + 1)) 0 (mH m h) = some (mH m (F h))) : ∀ (d j n : Nat) (h : Int64), j + d = Nn (f 0) → K + d + 1 ≤ n → Gm_mixSea_89 n 2 (nI l) (nI j) (mH m h) = some (mH m (F (dg (fun j => f (40 + (6 * l + j))) d j h))) := by
  have h6 := h0.2.1
  have q0 := h0.2.2
  obtain ⟨C, hC⟩ : ∃ C, Nn (f 0) = C := ⟨_, rfl⟩
  rw [hC] at h6 q0 ⊢
  intro d
  induction d with
  | zero =>
    intro j n h hj hn
    obtain ⟨n, rfl⟩ : ∃ k, n = k + 1 := ⟨n - 1, by omega⟩
    rw [Gm_mixSea_89, mh_ix hw hf h (x := 0) 0 rfl (by omega), bd_some, q0, if_pos (nI_le (by omega) (by omega)), nI_1]
    exact cont n h (by omega)
  | succ d ih =>
    intro j n h hj hn
    obtain ⟨n, rfl⟩ : ∃ k, n = k + 1 := ⟨n - 1, by omega⟩
    rw [Gm_mixSea_89, mh_ix hw hf h (x := 0) 0 rfl (by omega), bd_some, q0, if_neg (nI_ge (by omega) (by omega)), mh_ix hw hf h (x := (40 + (6 * nI l)) + nI j) (40 + (6 * l + j)) (by rw [show (6 : Int32) = nI 6 from rfl, show (40 : Int32) = nI 40 from rfl, pk_mul, nI_add, nI_add]; congr 1; omega) (by omega), bd_some, M_mix, bd_some, nI_1, dg]
    exact ih (j + 1) n _ (by omega) (by omega)
theorem M_mx1 (hw : (a_m_w m).length = 596) (hf : sl (a_m_w m) 0 = f) (h0 : isN (f 0) 1 6) {l K : Nat} (hl : l < 4) {F : Int64 → Int64} (cont : ∀ (n : Nat) (h : Int64), K ≤ n → Gm_mixSea_89 n 0 (nI (l + 1)) 0 (mH m h) = some (mH m (F h))) : ∀ (d j n : Nat) (h : Int64), j + d = 6 → K + d + 9 ≤ n → Gm_mixSea_89 n 1 (nI l) (nI j) (mH m h) = some (mH m (F (dg (fun j => f (40 + (6 * l + j))) (Nn (f 0)) 0 (dg (fun j => f (16 + (6 * l + j))) d j h)))) := by
  have h6 := h0.2.1
  intro d
  induction d with
  | zero =>
    intro j n h hj hn
    obtain ⟨n, rfl⟩ : ∃ k, n = k + 1 := ⟨n - 1, by omega⟩
    rw [show j = 6 by omega, Gm_mixSea_89, if_pos (show (6 : Int32) ≤ nI 6 from Int32.le_refl _)]
    have q := M_mx2 hw hf h0 hl cont (Nn (f 0)) 0 n h (by omega) (by omega)
    rw [nI_0] at q
    exact q
  | succ d ih =>
    intro j n h hj hn
    obtain ⟨n, rfl⟩ : ∃ k, n = k + 1 := ⟨n - 1, by omega⟩
    rw [Gm_mixSea_89, if_neg (show ¬ (6 : Int32) ≤ nI j from nI_ge (b := 6) (by omega) (by decide)), mh_ix hw hf h (x := (16 + (6 * nI l)) + nI j) (16 + (6 * l + j)) (by rw [show (6 : Int32) = nI 6 from rfl, show (16 : Int32) = nI 16 from rfl, pk_mul, nI_add, nI_add]; congr 1; omega) (by omega), bd_some, M_mix, bd_some, nI_1, dg]
    exact ih (j + 1) n _ (by omega) (by omega)
theorem M_mx0 (hw : (a_m_w m).length = 596) (hf : sl (a_m_w m) 0 = f) (h0 : isN (f 0) 1 6) (h2 : isN (f 2) 0 6) : ∀ (d l n : Nat) (z : Int32) (h : Int64), l + d = 4 → 20 * d + 70 ≤ n → Gm_mixSea_89 n 0 (nI l) z (mH m h) = some (mH m (thF f (Nn (f 2)) 0 (dg (fun j => f (64 + j)) 3 0 (waF f d l h)))) := by
  intro d
  induction d with
  | zero =>
    intro l n z h hl hn
    obtain ⟨n, rfl⟩ : ∃ k, n = k + 1 := ⟨n - 1, by omega⟩
    rw [show l = 4 by omega, Gm_mixSea_89, if_pos (show (4 : Int32) ≤ nI 4 from Int32.le_refl _)]
    have q := M_mx3 hw hf h2 3 0 n 0 h (by omega) (by omega)
    rw [nI_0] at q
    exact q
  | succ d ih =>
    intro l n z h hl hn
    obtain ⟨n, rfl⟩ : ∃ k, n = k + 1 := ⟨n - 1, by omega⟩
    rw [Gm_mixSea_89, if_neg (show ¬ (4 : Int32) ≤ nI l from nI_ge (b := 4) (by omega) (by decide)), mh_ix hw hf h (x := 8 + nI l) (8 + l) (by rw [show (8 : Int32) = nI 8 from rfl, nI_add]) (by omega), bd_some, M_mix, bd_some, mh_ix hw hf _ (x := 12 + nI l) (12 + l) (by rw [show (12 : Int32) = nI 12 from rfl, nI_add]) (by omega), bd_some, M_mix, bd_some, waF]
    have q := M_mx1 hw hf h0 (l := l) (K := 20 * d + 70) (by omega) (F := fun h => thF f (Nn (f 2)) 0 (dg (fun j => f (64 + j)) 3 0 (waF f d (l + 1) h))) (fun n h hn => ih (l + 1) n 0 h (by omega) hn) 6 0 n (31 * (31 * h + (f (8 + l)).toInt64) + (f (12 + l)).toInt64) (by omega) (by omega)
    rw [nI_0] at q
    exact q
end C52
