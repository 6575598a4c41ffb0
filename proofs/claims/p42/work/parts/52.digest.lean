/-! the digest -/
theorem RS.li {s : TS} {t : TT} {l : TL} {f : Nat → Int32} (h : RS s t l f) {i : Nat} (hi : i < Nn (f 3)) : (q_froms l).getD i 0 = f (91 + i) ∧ (q_tos l).getD i 0 = f (101 + i) ∧ (q_times l).getD i 0 = f (111 + i) := by
  have h6 := h.c3.2.1
  have g : ∀ b : Nat, b < 3 → fl s t l (91 + 10 * b + i) = f (91 + 10 * b + i) := fun b hb => h.2.1 _ (by omega) (Or.inr (Or.inr (Or.inl ⟨by omega, by omega, by omega⟩)))
  refine ⟨?_, ?_, ?_⟩
  · rw [← fl_froms s t l (by omega)]; exact g 0 (by omega)
  · rw [← fl_tos s t l (by omega)]; exact g 1 (by omega)
  · rw [← fl_times s t l (by omega)]; exact g 2 (by omega)
def mH (m : WM) (x : Int64) : WM := u_m_h m x
section MH
variable (m : WM) (a b : Int64)
theorem mH_u : u_m_h (mH m a) b = mH m b := by dsimp only [mH, u_m_h]
theorem mH_h : a_m_h (mH m a) = a := by dsimp only [mH, u_m_h, a_m_h]
theorem mH_w : a_m_w (mH m a) = a_m_w m := by dsimp only [mH, u_m_h, a_m_w]
theorem mH_above : a_m_above (mH m a) = a_m_above m := by dsimp only [mH, u_m_h, a_m_above]
theorem mH_below : a_m_below (mH m a) = a_m_below m := by dsimp only [mH, u_m_h, a_m_below]
theorem mH_texted : a_m_texted (mH m a) = a_m_texted m := by dsimp only [mH, u_m_h, a_m_texted]
end MH
theorem M_mix (m : WM) (a x : Int64) : Fm_mix_89 x (mH m a) = some (mH m (31 * a + x)) := by
  unfold Fm_mix_89
  rw [mH_h, mH_u]
theorem R_H {w : WX} {m : WM} (h : R w m) (x : Int64) : R w (mH m x) := by
  obtain ⟨h1, h2, h3, h4, h5, h6, h7, h8, h9⟩ := h
  exact ⟨h1, h2, h3, h4, h5, h6, h7, h8, h9⟩
/-- numbers mixed in, one after the other -/
def dg (v : Nat → Int32) : Nat → Nat → Int64 → Int64
  | 0, _, h => h
  | d + 1, i, h => dg v d (i + 1) (31 * h + (v i).toInt64)
def thF (f : Nat → Int32) : Nat → Nat → Int64 → Int64
  | 0, _, h => h
  | d + 1, i, h => thF f d (i + 1) (31 * (31 * (31 * (31 * h + (f (67 + i)).toInt64) + (f (73 + i)).toInt64) + (f (79 + i)).toInt64) + (f (85 + i)).toInt64)
def waF (f : Nat → Int32) : Nat → Nat → Int64 → Int64
  | 0, _, h => h
  | d + 1, l, h => waF f d (l + 1) (dg (fun j => f (40 + (6 * l + j))) (Nn (f 0)) 0 (dg (fun j => f (16 + (6 * l + j))) 6 0 (31 * (31 * h + (f (8 + l)).toInt64) + (f (12 + l)).toInt64)))
section C52
variable {W : WX} {m : WM} {f : Nat → Int32}
theorem mh_ix (hw : (a_m_w m).length = 596) (hf : sl (a_m_w m) 0 = f) (a : Int64) {x : Int32} (k : Nat) (hx : x = nI k) (hk : k < 149) : ai_ix (a_m_w (mH m a)) x = some (f k) := by
  rw [mH_w, m_ix0 hw (x := x) k hx hk, hf]
theorem M_mx4 (hw : (a_m_w m).length = 596) (hf : sl (a_m_w m) 0 = f) (h2 : isN (f 2) 0 6) : ∀ (d i n : Nat) (z : Int32) (h : Int64), i + d = Nn (f 2) → 7 * d + 2 ≤ n → Gm_mixSea_89 n 4 (nI i) z (mH m h) = some (mH m (thF f d i h)) := by
  have h6 := h2.2.1
  have q2 := h2.2.2
  obtain ⟨T, hT⟩ : ∃ T, Nn (f 2) = T := ⟨_, rfl⟩
  rw [hT] at h6 q2 ⊢
  intro d
  induction d with
  | zero =>
    intro i n z h hi hn
    obtain ⟨n, rfl⟩ : ∃ k, n = k + 1 := ⟨n - 1, by omega⟩
    rw [Gm_mixSea_89, mh_ix hw hf h (x := 2) 2 rfl (by omega), bd_some, q2, if_pos (nI_le (by omega) (by omega))]
    rfl
  | succ d ih =>
    intro i n z h hi hn
    obtain ⟨n, rfl⟩ : ∃ k, n = k + 1 + 1 + 1 + 1 + 1 + 1 := ⟨n - 6, by omega⟩
    have e : ∀ (b : Nat) (x : Int32), x = nI (67 + 6 * b) → x + nI i = nI (67 + 6 * b + i) := fun b x hx => by rw [hx, nI_add]
    rw [Gm_mixSea_89, mh_ix hw hf h (x := 2) 2 rfl (by omega), bd_some, q2, if_neg (nI_ge (by omega) (by omega))]
    rw [Gm_mixSea_89, if_neg (show ¬ (4 : Int32) ≤ 0 by decide), mh_ix hw hf _ (67 + 6 * 0 + i) (e 0 _ (by decide)) (by omega), bd_some, M_mix, bd_some]
    rw [Gm_mixSea_89, if_neg (show ¬ (4 : Int32) ≤ 0 + 1 by decide), mh_ix hw hf _ (67 + 6 * 1 + i) (e 1 _ (by decide)) (by omega), bd_some, M_mix, bd_some]
    rw [Gm_mixSea_89, if_neg (show ¬ (4 : Int32) ≤ 0 + 1 + 1 by decide), mh_ix hw hf _ (67 + 6 * 2 + i) (e 2 _ (by decide)) (by omega), bd_some, M_mix, bd_some]
    rw [Gm_mixSea_89, if_neg (show ¬ (4 : Int32) ≤ 0 + 1 + 1 + 1 by decide), mh_ix hw hf _ (67 + 6 * 3 + i) (e 3 _ (by decide)) (by omega), bd_some, M_mix, bd_some]
    rw [Gm_mixSea_89, if_pos (show (4 : Int32) ≤ 0 + 1 + 1 + 1 + 1 by decide), nI_1, thF]
    exact ih (i + 1) n 0 _ (by omega) (by omega)
theorem M_mx3 (hw : (a_m_w m).length = 596) (hf : sl (a_m_w m) 0 = f) (h2 : isN (f 2) 0 6) : ∀ (d i n : Nat) (z : Int32) (h : Int64), i + d = 3 → d + 60 ≤ n → Gm_mixSea_89 n 3 (nI i) z (mH m h) = some (mH m (thF f (Nn (f 2)) 0 (dg (fun j => f (64 + j)) d i h))) := by
  have h6 := h2.2.1
  intro d
  induction d with
  | zero =>
    intro i n z h hi hn
    obtain ⟨n, rfl⟩ : ∃ k, n = k + 1 := ⟨n - 1, by omega⟩
    rw [show i = 3 by omega, Gm_mixSea_89, if_pos (show (3 : Int32) ≤ nI 3 from Int32.le_refl _)]
    have q := M_mx4 hw hf h2 (Nn (f 2)) 0 n 0 h (by omega) (by omega)
    rw [nI_0] at q
    exact q
  | succ d ih =>
    intro i n z h hi hn
    obtain ⟨n, rfl⟩ : ∃ k, n = k + 1 := ⟨n - 1, by omega⟩
    rw [Gm_mixSea_89, if_neg (show ¬ (3 : Int32) ≤ nI i from nI_ge (b := 3) (by omega) (by decide)), mh_ix hw hf h (x := 64 + nI i) (64 + i) (by rw [show (64 : Int32) = nI 64 from rfl, nI_add]) (by omega), bd_some, M_mix, bd_some, nI_1, dg]
    exact ih (i + 1) n 0 _ (by omega) (by omega)
theorem M_mx2 (hw : (a_m_w m).length = 596) (hf : sl (a_m_w m) 0 = f) (h0 : isN (f 0) 1 6) {l K : Nat} (hl : l < 4) {F : Int64 → Int64} (cont : ∀ (n : Nat) (h : Int64), K ≤ n → Gm_mixSea_89 n 0 (nI (l + 1)) 0 (mH m h) = some (mH m (F h))) : ∀ (d j n : Nat) (h : Int64), j + d = Nn (f 0) → K + d + 1 ≤ n → Gm_mixSea_89 n 2 (nI l) (nI j) (mH m h) = some (mH m (F (dg (fun j => f (40 + (6 * l + j))) d j h))) := by
  have h6 := h0.2.1
  have q0 := h0.2.2
  obtain ⟨C, hC⟩ : ∃ C, Nn (f 0) = C := ⟨_, rfl⟩
  rw [hC] at h6 q0 ⊢
  intro d
  induction d with
  | zero =>
    intro j n h hj hn
    obtain ⟨n, rfl⟩ : ∃ k, n = k + 1 := ⟨n - 1, by omega⟩
    rw [Gm_mixSea_89, mh_ix hw hf h (x := 0) 0 rfl (by omega), bd_some, q0, if_pos (nI_le (by omega) (by omega)), nI_1]
    exact cont n h (by omega)
  | succ d ih =>
    intro j n h hj hn
    obtain ⟨n, rfl⟩ : ∃ k, n = k + 1 := ⟨n - 1, by omega⟩
    rw [Gm_mixSea_89, mh_ix hw hf h (x := 0) 0 rfl (by omega), bd_some, q0, if_neg (nI_ge (by omega) (by omega)), mh_ix hw hf h (x := (40 + (6 * nI l)) + nI j) (40 + (6 * l + j)) (by rw [show (6 : Int32) = nI 6 from rfl, show (40 : Int32) = nI 40 from rfl, pk_mul, nI_add, nI_add]; congr 1; omega) (by omega), bd_some, M_mix, bd_some, nI_1, dg]
    exact ih (j + 1) n _ (by omega) (by omega)
theorem M_mx1 (hw : (a_m_w m).length = 596) (hf : sl (a_m_w m) 0 = f) (h0 : isN (f 0) 1 6) {l K : Nat} (hl : l < 4) {F : Int64 → Int64} (cont : ∀ (n : Nat) (h : Int64), K ≤ n → Gm_mixSea_89 n 0 (nI (l + 1)) 0 (mH m h) = some (mH m (F h))) : ∀ (d j n : Nat) (h : Int64), j + d = 6 → K + d + 9 ≤ n → Gm_mixSea_89 n 1 (nI l) (nI j) (mH m h) = some (mH m (F (dg (fun j => f (40 + (6 * l + j))) (Nn (f 0)) 0 (dg (fun j => f (16 + (6 * l + j))) d j h)))) := by
  have h6 := h0.2.1
  intro d
  induction d with
  | zero =>
    intro j n h hj hn
    obtain ⟨n, rfl⟩ : ∃ k, n = k + 1 := ⟨n - 1, by omega⟩
    rw [show j = 6 by omega, Gm_mixSea_89, if_pos (show (6 : Int32) ≤ nI 6 from Int32.le_refl _)]
    have q := M_mx2 hw hf h0 hl cont (Nn (f 0)) 0 n h (by omega) (by omega)
    rw [nI_0] at q
    exact q
  | succ d ih =>
    intro j n h hj hn
    obtain ⟨n, rfl⟩ : ∃ k, n = k + 1 := ⟨n - 1, by omega⟩
    rw [Gm_mixSea_89, if_neg (show ¬ (6 : Int32) ≤ nI j from nI_ge (b := 6) (by omega) (by decide)), mh_ix hw hf h (x := (16 + (6 * nI l)) + nI j) (16 + (6 * l + j)) (by rw [show (6 : Int32) = nI 6 from rfl, show (16 : Int32) = nI 16 from rfl, pk_mul, nI_add, nI_add]; congr 1; omega) (by omega), bd_some, M_mix, bd_some, nI_1, dg]
    exact ih (j + 1) n _ (by omega) (by omega)
theorem M_mx0 (hw : (a_m_w m).length = 596) (hf : sl (a_m_w m) 0 = f) (h0 : isN (f 0) 1 6) (h2 : isN (f 2) 0 6) : ∀ (d l n : Nat) (z : Int32) (h : Int64), l + d = 4 → 20 * d + 70 ≤ n → Gm_mixSea_89 n 0 (nI l) z (mH m h) = some (mH m (thF f (Nn (f 2)) 0 (dg (fun j => f (64 + j)) 3 0 (waF f d l h)))) := by
  intro d
  induction d with
  | zero =>
    intro l n z h hl hn
    obtain ⟨n, rfl⟩ : ∃ k, n = k + 1 := ⟨n - 1, by omega⟩
    rw [show l = 4 by omega, Gm_mixSea_89, if_pos (show (4 : Int32) ≤ nI 4 from Int32.le_refl _)]
    have q := M_mx3 hw hf h2 3 0 n 0 h (by omega) (by omega)
    rw [nI_0] at q
    exact q
  | succ d ih =>
    intro l n z h hl hn
    obtain ⟨n, rfl⟩ : ∃ k, n = k + 1 := ⟨n - 1, by omega⟩
    rw [Gm_mixSea_89, if_neg (show ¬ (4 : Int32) ≤ nI l from nI_ge (b := 4) (by omega) (by decide)), mh_ix hw hf h (x := 8 + nI l) (8 + l) (by rw [show (8 : Int32) = nI 8 from rfl, nI_add]) (by omega), bd_some, M_mix, bd_some, mh_ix hw hf _ (x := 12 + nI l) (12 + l) (by rw [show (12 : Int32) = nI 12 from rfl, nI_add]) (by omega), bd_some, M_mix, bd_some, waF]
    have q := M_mx1 hw hf h0 (l := l) (K := 20 * d + 70) (by omega) (F := fun h => thF f (Nn (f 2)) 0 (dg (fun j => f (64 + j)) 3 0 (waF f d (l + 1) h))) (fun n h hn => ih (l + 1) n 0 h (by omega) hn) 6 0 n (31 * (31 * h + (f (8 + l)).toInt64) + (f (12 + l)).toInt64) (by omega) (by omega)
    rw [nI_0] at q
    exact q
end C52
/-! the digest, the class's half, and both -/
def liF (f : Nat → Int32) : Nat → Nat → Int64 → Int64
  | 0, _, h => h
  | d + 1, i, h => liF f d (i + 1) (31 * (31 * (31 * h + (f (91 + i)).toInt64) + (f (101 + i)).toInt64) + (f (111 + i)).toInt64)
def drF (f : Nat → Int32) : Nat → Nat → Int64 → Int64
  | 0, _, h => h
  | d + 1, i, h => drF f d (i + 1) (31 * (31 * h + (f (127 + i)).toInt64) + (f (133 + i)).toInt64)
section C53
variable {W : WX} {m : WM} {f : Nat → Int32}
theorem X_wa3 (hs : RS W.2.1 W.2.2.1 W.2.2.2.1 f) (y : Int64) : ∀ (d i n : Nat) (z : Int32) (h : Int64), i + d = 3 → d < n → Gsea_digestWaters_1 n 3 (nI i) z y h W = some (dg (fun j => f (64 + j)) d i h, W) := by
  have l1 : (a_s1_skins W).length = 3 := LSe_skins hs.1
  intro d
  induction d with
  | zero =>
    intro i n z h hi hn
    obtain ⟨n, rfl⟩ : ∃ k, n = k + 1 := ⟨n - 1, by omega⟩
    rw [show i = 3 by omega, Gsea_digestWaters_1, if_pos (show (3 : Int32) ≤ nI 3 from Int32.le_refl _)]
    rfl
  | succ d ih =>
    intro i n z h hi hn
    obtain ⟨n, rfl⟩ : ∃ k, n = k + 1 := ⟨n - 1, by omega⟩
    have g : (a_s1_skins W).getD i 0 = f (64 + i) := hs.skins (by omega)
    rw [Gsea_digestWaters_1, if_neg (show ¬ (3 : Int32) ≤ nI i from nI_ge (b := 3) (by omega) (by decide)), ix_e (l := a_s1_skins W) (i := nI i) i rfl (by omega) (by omega), bd_some, g, nI_1, dg]
    exact ih (i + 1) n 0 _ (by omega) (by omega)
theorem X_wa2 (hs : RS W.2.1 W.2.2.1 W.2.2.2.1 f) (y : Int64) {l K : Nat} (hl : l < 4) {F : Int64 → Int64} (cont : ∀ (n : Nat) (h : Int64), K ≤ n → Gsea_digestWaters_1 n 0 (nI (l + 1)) 0 y h W = some (F h, W)) : ∀ (d j n : Nat) (h : Int64), j + d = Nn (f 0) → K + d + 1 ≤ n → Gsea_digestWaters_1 n 2 (nI l) (nI j) y h W = some (F (dg (fun j => f (40 + (6 * l + j))) d j h), W) := by
  have h6 := hs.c0.2.1
  have e0 : a_s1_cells W = nI (Nn (f 0)) := (hs.k (k := 0) (by omega)).trans hs.c0.2.2
  have l1 : (a_s1_thicks W).length = 24 := LSe_thicks hs.1
  intro d
  induction d with
  | zero =>
    intro j n h hj hn
    obtain ⟨n, rfl⟩ : ∃ k, n = k + 1 := ⟨n - 1, by omega⟩
    rw [Gsea_digestWaters_1, e0, if_pos (nI_le (by omega) (by omega)), nI_1]
    exact cont n h (by omega)
  | succ d ih =>
    intro j n h hj hn
    obtain ⟨n, rfl⟩ : ∃ k, n = k + 1 := ⟨n - 1, by omega⟩
    have g : (a_s1_thicks W).getD (6 * l + j) 0 = f (40 + (6 * l + j)) := hs.thicks (by omega)
    rw [Gsea_digestWaters_1, e0, if_neg (nI_ge (by omega) (by omega)), ix_e (l := a_s1_thicks W) (i := nI l * 6 + nI j) (6 * l + j) (by rw [show (6 : Int32) = nI 6 from rfl, pk_mul, nI_add, Nat.mul_comm]) (by omega) (by omega), bd_some, g, nI_1, dg]
    exact ih (j + 1) n _ (by omega) (by omega)
theorem X_wa1 (hs : RS W.2.1 W.2.2.1 W.2.2.2.1 f) (y : Int64) {l K : Nat} (hl : l < 4) {F : Int64 → Int64} (cont : ∀ (n : Nat) (h : Int64), K ≤ n → Gsea_digestWaters_1 n 0 (nI (l + 1)) 0 y h W = some (F h, W)) : ∀ (d j n : Nat) (h : Int64), j + d = 6 → K + d + 9 ≤ n → Gsea_digestWaters_1 n 1 (nI l) (nI j) y h W = some (F (dg (fun j => f (40 + (6 * l + j))) (Nn (f 0)) 0 (dg (fun j => f (16 + (6 * l + j))) d j h)), W) := by
  have h6 := hs.c0.2.1
  have l1 : (a_s1_tides W).length = 24 := LSe_tides hs.1
  intro d
  induction d with
  | zero =>
    intro j n h hj hn
    obtain ⟨n, rfl⟩ : ∃ k, n = k + 1 := ⟨n - 1, by omega⟩
    rw [show j = 6 by omega, Gsea_digestWaters_1, if_pos (show (6 : Int32) ≤ nI 6 from Int32.le_refl _)]
    have q := X_wa2 hs y hl cont (Nn (f 0)) 0 n h (by omega) (by omega)
    rw [nI_0] at q
    exact q
  | succ d ih =>
    intro j n h hj hn
    obtain ⟨n, rfl⟩ : ∃ k, n = k + 1 := ⟨n - 1, by omega⟩
    have g : (a_s1_tides W).getD (6 * l + j) 0 = f (16 + (6 * l + j)) := hs.tides (by omega)
    rw [Gsea_digestWaters_1, if_neg (show ¬ (6 : Int32) ≤ nI j from nI_ge (b := 6) (by omega) (by decide)), ix_e (l := a_s1_tides W) (i := nI l * 6 + nI j) (6 * l + j) (by rw [show (6 : Int32) = nI 6 from rfl, pk_mul, nI_add, Nat.mul_comm]) (by omega) (by omega), bd_some, g, nI_1, dg]
    exact ih (j + 1) n _ (by omega) (by omega)
theorem X_wa0 (hs : RS W.2.1 W.2.2.1 W.2.2.2.1 f) (y : Int64) : ∀ (d l n : Nat) (z : Int32) (h : Int64), l + d = 4 → 20 * d + 10 ≤ n → Gsea_digestWaters_1 n 0 (nI l) z y h W = some (dg (fun j => f (64 + j)) 3 0 (waF f d l h), W) := by
  have l1 : (a_s1_densities W).length = 4 := LSe_dens hs.1
  have l2 : (a_s1_currents W).length = 4 := LSe_cur hs.1
  intro d
  induction d with
  | zero =>
    intro l n z h hl hn
    obtain ⟨n, rfl⟩ : ∃ k, n = k + 1 := ⟨n - 1, by omega⟩
    rw [show l = 4 by omega, Gsea_digestWaters_1, if_pos (show (4 : Int32) ≤ nI 4 from Int32.le_refl _)]
    have q := X_wa3 hs y 3 0 n 0 h (by omega) (by omega)
    rw [nI_0] at q
    exact q
  | succ d ih =>
    intro l n z h hl hn
    obtain ⟨n, rfl⟩ : ∃ k, n = k + 1 := ⟨n - 1, by omega⟩
    have g1 : (a_s1_densities W).getD l 0 = f (8 + l) := hs.dens (by omega)
    have g2 : (a_s1_currents W).getD l 0 = f (12 + l) := hs.cur (by omega)
    rw [Gsea_digestWaters_1, if_neg (show ¬ (4 : Int32) ≤ nI l from nI_ge (b := 4) (by omega) (by decide)), ix_e (l := a_s1_densities W) (i := nI l) l rfl (by omega) (by omega), bd_some, g1, ix_e (l := a_s1_currents W) (i := nI l) l rfl (by omega) (by omega), bd_some, g2, waF]
    have q := X_wa1 hs y (l := l) (K := 20 * d + 10) (by omega) (F := fun h => dg (fun j => f (64 + j)) 3 0 (waF f d (l + 1) h)) (fun n h hn => ih (l + 1) n 0 h (by omega) hn) 6 0 n (31 * (31 * h + (f (8 + l)).toInt64) + (f (12 + l)).toInt64) (by omega) (by omega)
    rw [nI_0] at q
    exact q
theorem X_ro3 (hs : RS W.2.1 W.2.2.1 W.2.2.2.1 f) (y : Int64) : ∀ (d i n : Nat) (h : Int64), i + d = Nn (f 6) → d < n → Gsea_digestRows_1 n 3 (nI i) y h W = some (drF f d i h, W) := by
  have h6 := hs.c6.2.1
  have e6 : a_s1_drops W = nI (Nn (f 6)) := (hs.k (k := 6) (by omega)).trans hs.c6.2.2
  have l1 : (a_s1_dropLayers W).length = 6 := LSe_dropLayers hs.1
  have l2 : (a_s1_dropFloats W).length = 6 := LSe_dropFloats hs.1
  intro d
  induction d with
  | zero =>
    intro i n h hi hn
    obtain ⟨n, rfl⟩ : ∃ k, n = k + 1 := ⟨n - 1, by omega⟩
    rw [Gsea_digestRows_1, e6, if_pos (nI_le (by omega) (by omega))]
    rfl
  | succ d ih =>
    intro i n h hi hn
    obtain ⟨n, rfl⟩ : ∃ k, n = k + 1 := ⟨n - 1, by omega⟩
    obtain ⟨t1, t2, t3⟩ := hs.dr (i := i) (by omega)
    have t1 : (a_s1_dropLayers W).getD i 0 = f (127 + i) := t1
    have t3 : (a_s1_dropFloats W).getD i 0 = f (133 + i) := t3
    rw [Gsea_digestRows_1, e6, if_neg (nI_ge (by omega) (by omega)), ix_e (l := a_s1_dropLayers W) (i := nI i) i rfl (by omega) (by omega), bd_some, t1, ix_e (l := a_s1_dropFloats W) (i := nI i) i rfl (by omega) (by omega), bd_some, t3, nI_1, drF]
    exact ih (i + 1) n _ (by omega) (by omega)
theorem X_ro2 (hs : RS W.2.1 W.2.2.1 W.2.2.2.1 f) (y : Int64) : ∀ (d i n : Nat) (h : Int64), i + d = Nn (f 4) → d + 10 ≤ n → Gsea_digestRows_1 n 2 (nI i) y h W = some (drF f (Nn (f 6)) 0 (dg (fun j => f (121 + j)) d i h), W) := by
  have h6 := hs.c4.2.1
  have h66 := hs.c6.2.1
  have e4 : a_s1_towns W = nI (Nn (f 4)) := (hs.k (k := 4) (by omega)).trans hs.c4.2.2
  have l1 : (a_s1_townPlaces W).length = 6 := LSe_townPlaces hs.1
  intro d
  induction d with
  | zero =>
    intro i n h hi hn
    obtain ⟨n, rfl⟩ : ∃ k, n = k + 1 := ⟨n - 1, by omega⟩
    rw [Gsea_digestRows_1, e4, if_pos (nI_le (by omega) (by omega))]
    have q := X_ro3 hs y (Nn (f 6)) 0 n h (by omega) (by omega)
    rw [nI_0] at q
    exact q
  | succ d ih =>
    intro i n h hi hn
    obtain ⟨n, rfl⟩ : ∃ k, n = k + 1 := ⟨n - 1, by omega⟩
    have t1 : (a_s1_townPlaces W).getD i 0 = f (121 + i) := (hs.tw (i := i) (by omega)).1
    rw [Gsea_digestRows_1, e4, if_neg (nI_ge (by omega) (by omega)), ix_e (l := a_s1_townPlaces W) (i := nI i) i rfl (by omega) (by omega), bd_some, t1, nI_1, dg]
    exact ih (i + 1) n _ (by omega) (by omega)
theorem X_ro1 (hs : RS W.2.1 W.2.2.1 W.2.2.2.1 f) (y : Int64) : ∀ (d i n : Nat) (h : Int64), i + d = Nn (f 3) → d + 20 ≤ n → Gsea_digestRows_1 n 1 (nI i) y h W = some (drF f (Nn (f 6)) 0 (dg (fun j => f (121 + j)) (Nn (f 4)) 0 (liF f d i h)), W) := by
  have h6 := hs.c3.2.1
  have h64 := hs.c4.2.1
  have e3 : a_s1lifts_count W = nI (Nn (f 3)) := (hs.k (k := 3) (by omega)).trans hs.c3.2.2
  have l1 : (a_s1lifts_froms W).length = 10 := LSe_froms hs.1
  have l2 : (a_s1lifts_tos W).length = 10 := LSe_tos hs.1
  have l3 : (a_s1lifts_times W).length = 10 := LSe_times hs.1
  intro d
  induction d with
  | zero =>
    intro i n h hi hn
    obtain ⟨n, rfl⟩ : ∃ k, n = k + 1 := ⟨n - 1, by omega⟩
    rw [Gsea_digestRows_1, e3, if_pos (nI_le (by omega) (by omega))]
    have q := X_ro2 hs y (Nn (f 4)) 0 n h (by omega) (by omega)
    rw [nI_0] at q
    exact q
  | succ d ih =>
    intro i n h hi hn
    obtain ⟨n, rfl⟩ : ∃ k, n = k + 1 := ⟨n - 1, by omega⟩
    obtain ⟨t1, t2, t3⟩ := hs.li (i := i) (by omega)
    have t1 : (a_s1lifts_froms W).getD i 0 = f (91 + i) := t1
    have t2 : (a_s1lifts_tos W).getD i 0 = f (101 + i) := t2
    have t3 : (a_s1lifts_times W).getD i 0 = f (111 + i) := t3
    rw [Gsea_digestRows_1, e3, if_neg (nI_ge (by omega) (by omega)), ix_e (l := a_s1lifts_froms W) (i := nI i) i rfl (by omega) (by omega), bd_some, t1, ix_e (l := a_s1lifts_tos W) (i := nI i) i rfl (by omega) (by omega), bd_some, t2, ix_e (l := a_s1lifts_times W) (i := nI i) i rfl (by omega) (by omega), bd_some, t3, nI_1, liF]
    exact ih (i + 1) n _ (by omega) (by omega)
theorem X_ro0 (hs : RS W.2.1 W.2.2.1 W.2.2.2.1 f) (y : Int64) : ∀ (d i n : Nat) (h : Int64), i + d = Nn (f 2) → d + 40 ≤ n → Gsea_digestRows_1 n 0 (nI i) y h W = some (drF f (Nn (f 6)) 0 (dg (fun j => f (121 + j)) (Nn (f 4)) 0 (liF f (Nn (f 3)) 0 (thF f d i h))), W) := by
  have h6 := hs.c2.2.1
  have h63 := hs.c3.2.1
  have e2 : a_s1things_count W = nI (Nn (f 2)) := (hs.k (k := 2) (by omega)).trans hs.c2.2.2
  have l1 : (a_s1things_kinds W).length = 6 := LSe_kinds hs.1
  have l2 : (a_s1things_weights W).length = 6 := LSe_weights hs.1
  have l3 : (a_s1things_volumes W).length = 6 := LSe_volumes hs.1
  have l4 : (a_s1things_ballasts W).length = 6 := LSe_ballasts hs.1
  intro d
  induction d with
  | zero =>
    intro i n h hi hn
    obtain ⟨n, rfl⟩ : ∃ k, n = k + 1 := ⟨n - 1, by omega⟩
    rw [Gsea_digestRows_1, e2, if_pos (nI_le (by omega) (by omega))]
    have q := X_ro1 hs y (Nn (f 3)) 0 n h (by omega) (by omega)
    rw [nI_0] at q
    exact q
  | succ d ih =>
    intro i n h hi hn
    obtain ⟨n, rfl⟩ : ∃ k, n = k + 1 := ⟨n - 1, by omega⟩
    obtain ⟨t1, t2, t3, t4⟩ := hs.th (i := i) (by omega)
    have t1 : (a_s1things_kinds W).getD i 0 = f (67 + i) := t1
    have t2 : (a_s1things_weights W).getD i 0 = f (73 + i) := t2
    have t3 : (a_s1things_volumes W).getD i 0 = f (79 + i) := t3
    have t4 : (a_s1things_ballasts W).getD i 0 = f (85 + i) := t4
    rw [Gsea_digestRows_1, e2, if_neg (nI_ge (by omega) (by omega)), ix_e (l := a_s1things_kinds W) (i := nI i) i rfl (by omega) (by omega), bd_some, t1, ix_e (l := a_s1things_weights W) (i := nI i) i rfl (by omega) (by omega), bd_some, t2, ix_e (l := a_s1things_volumes W) (i := nI i) i rfl (by omega) (by omega), bd_some, t3, ix_e (l := a_s1things_ballasts W) (i := nI i) i rfl (by omega) (by omega), bd_some, t4, nI_1, thF]
    exact ih (i + 1) n _ (by omega) (by omega)
end C53
/-! the digest, both sides -/
section C54
variable {w : WX} {m : WM} {f : Nat → Int32}
def enD (m : WM) (h : Int64) : Int64 := 31 * (31 * h + a_m_above m) + a_m_below m
theorem M_di3 (hw : (a_m_w m).length = 596) (hf : sl (a_m_w m) 0 = f) (h6 : isN (f 6) 0 6) : ∀ (d i n : Nat) (h : Int64), i + d = Nn (f 6) → d < n → Gm_digest_89 n 3 (nI i) (mH m h) = some (enD m (drF f d i h), mH m (enD m (drF f d i h))) := by
  have h7 := h6.2.1
  have q6 := h6.2.2
  obtain ⟨T, hT⟩ : ∃ T, Nn (f 6) = T := ⟨_, rfl⟩
  rw [hT] at h7 q6 ⊢
  intro d
  induction d with
  | zero =>
    intro i n h hi hn
    obtain ⟨n, rfl⟩ : ∃ k, n = k + 1 := ⟨n - 1, by omega⟩
    rw [Gm_digest_89, mh_ix hw hf h (x := 6) 6 rfl (by omega), bd_some, q6, if_pos (nI_le (by omega) (by omega)), mH_above, M_mix, bd_some, mH_below, M_mix, bd_some, mH_h]
    rfl
  | succ d ih =>
    intro i n h hi hn
    obtain ⟨n, rfl⟩ : ∃ k, n = k + 1 := ⟨n - 1, by omega⟩
    rw [Gm_digest_89, mh_ix hw hf h (x := 6) 6 rfl (by omega), bd_some, q6, if_neg (nI_ge (by omega) (by omega)), mh_ix hw hf _ (x := 127 + nI i) (127 + i) (by rw [show (127 : Int32) = nI 127 from rfl, nI_add]) (by omega), bd_some, M_mix, bd_some, mh_ix hw hf _ (x := 133 + nI i) (133 + i) (by rw [show (133 : Int32) = nI 133 from rfl, nI_add]) (by omega), bd_some, M_mix, bd_some, nI_1, drF]
    exact ih (i + 1) n _ (by omega) (by omega)
theorem M_di2 (hw : (a_m_w m).length = 596) (hf : sl (a_m_w m) 0 = f) (h4 : isN (f 4) 0 6) (h6 : isN (f 6) 0 6) : ∀ (d i n : Nat) (h : Int64), i + d = Nn (f 4) → d + 10 ≤ n → Gm_digest_89 n 2 (nI i) (mH m h) = some (enD m (drF f (Nn (f 6)) 0 (dg (fun j => f (121 + j)) d i h)), mH m (enD m (drF f (Nn (f 6)) 0 (dg (fun j => f (121 + j)) d i h)))) := by
  have h7 := h4.2.1
  have h8 := h6.2.1
  have q4 := h4.2.2
  obtain ⟨T, hT⟩ : ∃ T, Nn (f 4) = T := ⟨_, rfl⟩
  rw [hT] at h7 q4 ⊢
  intro d
  induction d with
  | zero =>
    intro i n h hi hn
    obtain ⟨n, rfl⟩ : ∃ k, n = k + 1 := ⟨n - 1, by omega⟩
    rw [Gm_digest_89, mh_ix hw hf h (x := 4) 4 rfl (by omega), bd_some, q4, if_pos (nI_le (by omega) (by omega))]
    have q := M_di3 hw hf h6 (Nn (f 6)) 0 n h (by omega) (by omega)
    rw [nI_0] at q
    exact q
  | succ d ih =>
    intro i n h hi hn
    obtain ⟨n, rfl⟩ : ∃ k, n = k + 1 := ⟨n - 1, by omega⟩
    rw [Gm_digest_89, mh_ix hw hf h (x := 4) 4 rfl (by omega), bd_some, q4, if_neg (nI_ge (by omega) (by omega)), mh_ix hw hf _ (x := 121 + nI i) (121 + i) (by rw [show (121 : Int32) = nI 121 from rfl, nI_add]) (by omega), bd_some, M_mix, bd_some, nI_1, dg]
    exact ih (i + 1) n _ (by omega) (by omega)
theorem M_di1 (hw : (a_m_w m).length = 596) (hf : sl (a_m_w m) 0 = f) (h3 : isN (f 3) 0 10) (h4 : isN (f 4) 0 6) (h6 : isN (f 6) 0 6) : ∀ (d i n : Nat) (h : Int64), i + d = Nn (f 3) → d + 20 ≤ n → Gm_digest_89 n 1 (nI i) (mH m h) = some (enD m (drF f (Nn (f 6)) 0 (dg (fun j => f (121 + j)) (Nn (f 4)) 0 (liF f d i h))), mH m (enD m (drF f (Nn (f 6)) 0 (dg (fun j => f (121 + j)) (Nn (f 4)) 0 (liF f d i h))))) := by
  have h7 := h3.2.1
  have h8 := h4.2.1
  have q3 := h3.2.2
  obtain ⟨T, hT⟩ : ∃ T, Nn (f 3) = T := ⟨_, rfl⟩
  rw [hT] at h7 q3 ⊢
  intro d
  induction d with
  | zero =>
    intro i n h hi hn
    obtain ⟨n, rfl⟩ : ∃ k, n = k + 1 := ⟨n - 1, by omega⟩
    rw [Gm_digest_89, mh_ix hw hf h (x := 3) 3 rfl (by omega), bd_some, q3, if_pos (nI_le (by omega) (by omega))]
    have q := M_di2 hw hf h4 h6 (Nn (f 4)) 0 n h (by omega) (by omega)
    rw [nI_0] at q
    exact q
  | succ d ih =>
    intro i n h hi hn
    obtain ⟨n, rfl⟩ : ∃ k, n = k + 1 := ⟨n - 1, by omega⟩
    rw [Gm_digest_89, mh_ix hw hf h (x := 3) 3 rfl (by omega), bd_some, q3, if_neg (nI_ge (by omega) (by omega)), mh_ix hw hf _ (x := 91 + nI i) (91 + i) (by rw [show (91 : Int32) = nI 91 from rfl, nI_add]) (by omega), bd_some, M_mix, bd_some, mh_ix hw hf _ (x := 101 + nI i) (101 + i) (by rw [show (101 : Int32) = nI 101 from rfl, nI_add]) (by omega), bd_some, M_mix, bd_some, mh_ix hw hf _ (x := 111 + nI i) (111 + i) (by rw [show (111 : Int32) = nI 111 from rfl, nI_add]) (by omega), bd_some, M_mix, bd_some, nI_1, liF]
    exact ih (i + 1) n _ (by omega) (by omega)
theorem M_c8 (m : WM) : Fm_countOf_89 (nI 8) m = some (a_m_texted m, m) := rfl
theorem di_step (h : R w m) (hf : sl (a_m_w m) 0 = f) (hs : RS w.2.1 w.2.2.1 w.2.2.2.1 f) : ∀ (d j n : Nat) (x : Int64), j + d = 8 → 400 + d ≤ n → ∃ r, Gf_digest_0 n 0 (nI j) x w = some (r, w) ∧ Gm_digest_89 n 0 (nI j) (mH m x) = some (r, mH m r) := by
  have c2 := hs.c2.2.1
  have c3 := hs.c3.2.1
  obtain ⟨tn, t1, t2, t3, t4⟩ := h.2.2.2.2.1
  obtain ⟨v1, v2⟩ := h.2.2.2.2.2.2.1
  intro d
  induction d with
  | zero =>
    intro j n x hj hn
    obtain ⟨n, rfl⟩ : ∃ k, n = k + 1 + 1 := ⟨n - 2, by omega⟩
    have : j = 8 := by omega
    subst this
    have wx := X_wa0 hs (31 * x + (nI tn).toInt64) 4 0 (n + 1) 0 (31 * x + (nI tn).toInt64) (by omega) (by omega)
    have rx := fun y z => X_ro0 hs y (Nn (f 2)) 0 (n + 1) z (by omega) (by omega)
    have wm := M_mx0 h.w hf hs.c0 hs.c2 4 0 n 0 (31 * x + (nI tn).toInt64) (by omega) (by omega)
    have rm := fun z => M_di1 h.w hf hs.c3 hs.c4 hs.c6 (Nn (f 3)) 0 n z (by omega) (by omega)
    rw [nI_0] at wx wm
    simp only [nI_0] at rx rm
    have wx : Fsea_digestWaters_1 (n + 1) (31 * x + (nI tn).toInt64) w = _ := wx
    have rx : ∀ y, Fsea_digestRows_1 (n + 1) y w = _ := fun y => rx y y
    have wm : Fm_mixSea_89 n (mH m (31 * x + (nI tn).toInt64)) = _ := wm
    rw [Gf_digest_0, Gm_digest_89, if_pos (show (8 : Int32) ≤ nI 8 from Int32.le_refl _), if_neg (show ¬ (9 : Int32) ≤ nI 8 by decide), t2, wx, bd_some, rx, bd_some, M_c8, bd_some, mH_texted, t3, M_mix, bd_some, Gm_digest_89, if_pos (show (9 : Int32) ≤ nI 8 + 1 by decide), wm, bd_some, rm]
    refine ⟨_, rfl, ?_⟩
    rw [← v1, ← v2]
    rfl
  | succ d ih =>
    intro j n x hj hn
    obtain ⟨n, rfl⟩ : ∃ k, n = k + 1 := ⟨n - 1, by omega⟩
    obtain ⟨r, e1, e2⟩ := cOf (R_H h x) j (by omega)
    rw [Gf_digest_0, Gm_digest_89, if_neg (show ¬ (8 : Int32) ≤ nI j from nI_ge (b := 8) (by omega) (by decide)), if_neg (show ¬ (9 : Int32) ≤ nI j from nI_ge (b := 9) (by omega) (by decide)), e1, bd_some, e2, bd_some, M_mix, bd_some, nI_1]
    exact ih (j + 1) n _ (by omega) (by omega)
theorem C_digest (h : R w m) : Ok (fun n => Ff_digest_0 n w) (fun n => Fm_digest_89 n m) := Ok.of 500 fun n hn => by
  obtain ⟨r, q1, q2⟩ := di_step h rfl h.s 8 0 n 887 (by omega) (by omega)
  rw [nI_0] at q1 q2
  exact ⟨r, w, mH m r, q1, q2, R_H h r⟩
end C54
/-! nets: which are fish, how deep they come, what a net catches -/
def fiB (f : Nat → Int32) (mk : Int32) : Nat → Nat → Bool
  | 0, _ => true
  | d + 1, i => if C_bit mk (nI i) then (if f (67 + i) = 5 then fiB f mk d (i + 1) else false) else fiB f mk d (i + 1)
section C55
variable {W : WX} {m : WM} {f : Nat → Int32}
theorem X_fish (hs : RS W.2.1 W.2.2.1 W.2.2.2.1 f) (mk : Int32) : ∀ (d i n : Nat), i + d = Nn (f 2) → d < n → Gf_areFish_0 n 0 mk (nI i) W = some (if fiB f mk d i = true then 1 else 0, W) := by
  have h6 := hs.c2.2.1
  have e2 : a_s1things_count W = nI (Nn (f 2)) := (hs.k (k := 2) (by omega)).trans hs.c2.2.2
  have l1 : (a_s1things_kinds W).length = 6 := LSe_kinds hs.1
  intro d
  induction d with
  | zero =>
    intro i n hi hn
    obtain ⟨n, rfl⟩ : ∃ k, n = k + 1 := ⟨n - 1, by omega⟩
    rw [Gf_areFish_0, e2, if_pos (nI_le (by omega) (by omega))]
    rfl
  | succ d ih =>
    intro i n hi hn
    obtain ⟨n, rfl⟩ : ∃ k, n = k + 1 := ⟨n - 1, by omega⟩
    have t1 : (a_s1things_kinds W).getD i 0 = f (67 + i) := (hs.th (i := i) (by omega)).1
    rw [Gf_areFish_0, e2, if_neg (nI_ge (by omega) (by omega)), ix_e (l := a_s1things_kinds W) (i := nI i) i rfl (by omega) (by omega), t1, nI_1, fiB]
    simp only [bd_some]
    have go := ih (i + 1) n (by omega) (by omega)
    by_cases cb : C_bit mk (nI i)
    · rw [if_pos cb, if_pos cb]
      by_cases k5 : f (67 + i) = 5
      · rw [if_pos k5, if_pos k5]
        exact go
      · rw [if_neg k5, if_neg k5]
        rfl
    · rw [if_neg cb, if_neg cb]
      exact go
theorem M_fish (hw : (a_m_w m).length = 596) (hf : sl (a_m_w m) 0 = f) (h2 : isN (f 2) 0 6) (c mk q : Int32) : ∀ (d i n : Nat), i + d = Nn (f 2) → d < n → Gm_nets_89 n 0 c mk q (nI i) 0 0 0 0 0 0 m = if fiB f mk d i = true then Gm_nets_89 (n - d - 1) 1 c mk q 0 (-1) 0 0 0 0 0 m else (ai_bd (Fm_badAs_89 (-10) m) fun c763 => some (c763.1, c763.2)) := by
  have h6 := h2.2.1
  have e2 : ai_ix (a_m_w m) 2 = some (nI (Nn (f 2))) := by rw [m_ix0 hw (x := 2) 2 rfl (by omega), hf, ← h2.2.2]
  intro d
  induction d with
  | zero =>
    intro i n hi hn
    obtain ⟨n, rfl⟩ : ∃ k, n = k + 1 := ⟨n - 1, by omega⟩
    rw [Gm_nets_89, e2, bd_some, if_pos (nI_le (by omega) (by omega)), if_pos (show fiB f mk 0 i = true from rfl)]
    rfl
  | succ d ih =>
    intro i n hi hn
    obtain ⟨n, rfl⟩ : ∃ k, n = k + 1 := ⟨n - 1, by omega⟩
    have k1 : ai_ix (a_m_w m) (67 + nI i) = some (f (67 + i)) := by rw [m_ix0 hw (x := 67 + nI i) (67 + i) (by rw [show (67 : Int32) = nI 67 from rfl, nI_add]) (by omega), hf]
    rw [Gm_nets_89, e2, bd_some, if_neg (nI_ge (by omega) (by omega)), Fm_has_eq, k1, nI_1, fiB, show n + 1 - (d + 1) - 1 = n - d - 1 by omega]
    simp only [bd_some, ifz]
    have go := ih (i + 1) n (by omega) (by omega)
    by_cases cb : C_bit mk (nI i)
    · rw [if_pos cb, if_pos cb]
      by_cases k5 : f (67 + i) = 5
      · rw [if_pos k5, if_pos k5]
        exact go
      · rw [if_neg k5, if_neg k5, if_neg Bool.false_ne_true]
    · rw [if_neg cb, if_neg cb]
      exact go
end C55
