/-! the digest, the class's half, and both -/
def liF (f : Nat → Int32) : Nat → Nat → Int64 → Int64
  | 0, _, h => h
  | d + 1, i, h => liF f d (i + 1) (31 * (31 * (31 * h + (f (91 + i)).toInt64) + (f (101 + i)).toInt64) + (f (111 + i)).toInt64)
def drF (f : Nat → Int32) : Nat → Nat → Int64 → Int64
  | 0, _, h => h
  | d + 1, i, h => drF f d (i + 1) (31 * (31 * h + (f (127 + i)).toInt64) + (f (133 + i)).toInt64)
section C53
variable {W : WX} {m : WM} {f : Nat → Int32}
theorem X_wa3 (hs : RS W.2.1 W.2.2.1 W.2.2.2.1 f) (y : Int64) : ∀ (d i n : Nat) (z : Int32) (h : Int64), i + d = 3 → d < n → Gsea_digestWaters_1 n 3 (nI i) z y h W = some (dg (fun j => f (64 + j)) d i h, W) := by
  have l1 : (a_s1_skins W).length = 3 := LSe_skins hs.1
  intro d
  induction d with
  | zero =>
    intro i n z h hi hn
    obtain ⟨n, rfl⟩ : ∃ k, n = k + 1 := ⟨n - 1, by omega⟩
    rw [show i = 3 by omega, Gsea_digestWaters_1, if_pos (show (3 : Int32) ≤ nI 3 from Int32.le_refl _)]
    rfl
  | succ d ih =>
    intro i n z h hi hn
    obtain ⟨n, rfl⟩ : ∃ k, n = k + 1 := ⟨n - 1, by omega⟩
    have g : (a_s1_skins W).getD i 0 = f (64 + i) := hs.skins (by omega)
    rw [Gsea_digestWaters_1, if_neg (show ¬ (3 : Int32) ≤ nI i from nI_ge (b := 3) (by omega) (by decide)), ix_e (l := a_s1_skins W) (i := nI i) i rfl (by omega) (by omega), bd_some, g, nI_1, dg]
    exact ih (i + 1) n 0 _ (by omega) (by omega)
theorem X_wa2 (hs : RS W.2.1 W.2.2.1 W.2.2.2.1 f) (y : Int64) {l K : Nat} (hl : l < 4) {F : Int64 → Int64} (cont : ∀ (n : Nat) (h : Int64), K ≤ n → Gsea_digestWaters_1 n 0 (nI (l + 1)) 0 y h W = some (F h, W)) : ∀ (d j n : Nat) (h : Int64), j + d = Nn (f 0) → K + d + 1 ≤ n → Gsea_digestWaters_1 n 2 (nI l) (nI j) y h W = some (F (dg (fun j => f (40 + (6 * l + j))) d j h), W) := by
  have h6 := hs.c0.2.1
  have e0 : a_s1_cells W = nI (Nn (f 0)) := (hs.k (k := 0) (by omega)).trans hs.c0.2.2
  have l1 : (a_s1_thicks W).length = 24 := LSe_thicks hs.1
  intro d
  induction d with
  | zero =>
    intro j n h hj hn
    obtain ⟨n, rfl⟩ : ∃ k, n = k + 1 := ⟨n - 1, by omega⟩
    rw [Gsea_digestWaters_1, e0, if_pos (nI_le (by omega) (by omega)), nI_1]
    exact cont n h (by omega)
  | succ d ih =>
    intro j n h hj hn
    obtain ⟨n, rfl⟩ : ∃ k, n = k + 1 := ⟨n - 1, by omega⟩
    have g : (a_s1_thicks W).getD (6 * l + j) 0 = f (40 + (6 * l + j)) := hs.thicks (by omega)
    rw [Gsea_digestWaters_1, e0, if_neg (nI_ge (by omega) (by omega)), ix_e (l := a_s1_thicks W) (i := nI l * 6 + nI j) (6 * l + j) (by rw [show (6 : Int32) = nI 6 from rfl, pk_mul, nI_add, Nat.mul_comm]) (by omega) (by omega), bd_some, g, nI_1, dg]
    exact ih (j + 1) n _ (by omega) (by omega)
theorem X_wa1 (hs : RS W.2.1 W.2.2.1 W.2.2.2.1 f) (y : Int64) {l K : Nat} (hl : l < 4) {F : Int64 → Int64} (cont : ∀ (n : Nat) (h : Int64), K ≤ n → Gsea_digestWaters_1 n 0 (nI (l + 1)) 0 y h W = some (F h, W)) : ∀ (d j n : Nat) (h : Int64), j + d = 6 → K + d + 9 ≤ n → Gsea_digestWaters_1 n 1 (nI l) (nI j) y h W = some (F (dg (fun j => f (40 + (6 * l + j))) (Nn (f 0)) 0 (dg (fun j => f (16 + (6 * l + j))) d j h)), W) := by
  have h6 := hs.c0.2.1
  have l1 : (a_s1_tides W).length = 24 := LSe_tides hs.1
  intro d
  induction d with
  | zero =>
    intro j n h hj hn
    obtain ⟨n, rfl⟩ : ∃ k, n = k + 1 := ⟨n - 1, by omega⟩
    rw [show j = 6 by omega, Gsea_digestWaters_1, if_pos (show (6 : Int32) ≤ nI 6 from Int32.le_refl _)]
    have q := X_wa2 hs y hl cont (Nn (f 0)) 0 n h (by omega) (by omega)
    rw [nI_0] at q
    exact q
  | succ d ih =>
    intro j n h hj hn
    obtain ⟨n, rfl⟩ : ∃ k, n = k + 1 := ⟨n - 1, by omega⟩
    have g : (a_s1_tides W).getD (6 * l + j) 0 = f (16 + (6 * l + j)) := hs.tides (by omega)
    rw [Gsea_digestWaters_1, if_neg (show ¬ (6 : Int32) ≤ nI j from nI_ge (b := 6) (by omega) (by decide)), ix_e (l := a_s1_tides W) (i := nI l * 6 + nI j) (6 * l + j) (by rw [show (6 : Int32) = nI 6 from rfl, pk_mul, nI_add, Nat.mul_comm]) (by omega) (by omega), bd_some, g, nI_1, dg]
    exact ih (j + 1) n _ (by omega) (by omega)
theorem X_wa0 (hs : RS W.2.1 W.2.2.1 W.2.2.2.1 f) (y : Int64) : ∀ (d l n : Nat) (z : Int32) (h : Int64), l + d = 4 → 20 * d + 10 ≤ n → Gsea_digestWaters_1 n 0 (nI l) z y h W = some (dg (fun j => f (64 + j)) 3 0 (waF f d l h), W) := by
  have l1 : (a_s1_densities W).length = 4 := LSe_dens hs.1
  have l2 : (a_s1_currents W).length = 4 := LSe_cur hs.1
  intro d
  induction d with
  | zero =>
    intro l n z h hl hn
    obtain ⟨n, rfl⟩ : ∃ k, n = k + 1 := ⟨n - 1, by omega⟩
    rw [show l = 4 by omega, Gsea_digestWaters_1, if_pos (show (4 : Int32) ≤ nI 4 from Int32.le_refl _)]
    have q := X_wa3 hs y 3 0 n 0 h (by omega) (by omega)
    rw [nI_0] at q
    exact q
  | succ d ih =>
    intro l n z h hl hn
    obtain ⟨n, rfl⟩ : ∃ k, n = k + 1 := ⟨n - 1, by omega⟩
    have g1 : (a_s1_densities W).getD l 0 = f (8 + l) := hs.dens (by omega)
    have g2 : (a_s1_currents W).getD l 0 = f (12 + l) := hs.cur (by omega)
    rw [Gsea_digestWaters_1, if_neg (show ¬ (4 : Int32) ≤ nI l from nI_ge (b := 4) (by omega) (by decide)), ix_e (l := a_s1_densities W) (i := nI l) l rfl (by omega) (by omega), bd_some, g1, ix_e (l := a_s1_currents W) (i := nI l) l rfl (by omega) (by omega), bd_some, g2, waF]
    have q := X_wa1 hs y (l := l) (K := 20 * d + 10) (by omega) (F := fun h => dg (fun j => f (64 + j)) 3 0 (waF f d (l + 1) h)) (fun n h hn => ih (l + 1) n 0 h (by omega) hn) 6 0 n (31 * (31 * h + (f (8 + l)).toInt64) + (f (12 + l)).toInt64) (by omega) (by omega)
    rw [nI_0] at q
    exact q
theorem X_ro3 (hs : RS W.2.1 W.2.2.1 W.2.2.2.1 f) (y : Int64) : ∀ (d i n : Nat) (h : Int64), i + d = Nn (f 6) → d < n → Gsea_digestRows_1 n 3 (nI i) y h W = some (drF f d i h, W) := by
  have h6 := hs.c6.2.1
  have e6 : a_s1_drops W = nI (Nn (f 6)) := (hs.k (k := 6) (by omega)).trans hs.c6.2.2
  have l1 : (a_s1_dropLayers W).length = 6 := LSe_dropLayers hs.1
  have l2 : (a_s1_dropFloats W).length = 6 := LSe_dropFloats hs.1
  intro d
  induction d with
  | zero =>
    intro i n h hi hn
    obtain ⟨n, rfl⟩ : ∃ k, n = k + 1 := ⟨n - 1, by omega⟩
    rw [Gsea_digestRows_1, e6, if_pos (nI_le (by omega) (by omega))]
    rfl
  | succ d ih =>
    intro i n h hi hn
    obtain ⟨n, rfl⟩ : ∃ k, n = k + 1 := ⟨n - 1, by omega⟩
    obtain ⟨t1, t2, t3⟩ := hs.dr (i := i) (by omega)
    have t1 : (a_s1_dropLayers W).getD i 0 = f (127 + i) := t1
    have t3 : (a_s1_dropFloats W).getD i 0 = f (133 + i) := t3
    rw [Gsea_digestRows_1, e6, if_neg (nI_ge (by omega) (by omega)), ix_e (l := a_s1_dropLayers W) (i := nI i) i rfl (by omega) (by omega), bd_some, t1, ix_e (l := a_s1_dropFloats W) (i := nI i) i rfl (by omega) (by omega), bd_some, t3, nI_1, drF]
    exact ih (i + 1) n _ (by omega) (by omega)
theorem X_ro2 (hs : RS W.2.1 W.2.2.1 W.2.2.2.1 f) (y : Int64) : ∀ (d i n : Nat) (h : Int64), i + d = Nn (f 4) → d + 10 ≤ n → Gsea_digestRows_1 n 2 (nI i) y h W = some (drF f (Nn (f 6)) 0 (dg (fun j => f (121 + j)) d i h), W) := by
  have h6 := hs.c4.2.1
  have h66 := hs.c6.2.1
  have e4 : a_s1_towns W = nI (Nn (f 4)) := (hs.k (k := 4) (by omega)).trans hs.c4.2.2
  have l1 : (a_s1_townPlaces W).length = 6 := LSe_townPlaces hs.1
  intro d
  induction d with
  | zero =>
    intro i n h hi hn
    obtain ⟨n, rfl⟩ : ∃ k, n = k + 1 := ⟨n - 1, by omega⟩
    rw [Gsea_digestRows_1, e4, if_pos (nI_le (by omega) (by omega))]
    have q := X_ro3 hs y (Nn (f 6)) 0 n h (by omega) (by omega)
    rw [nI_0] at q
    exact q
  | succ d ih =>
    intro i n h hi hn
    obtain ⟨n, rfl⟩ : ∃ k, n = k + 1 := ⟨n - 1, by omega⟩
    have t1 : (a_s1_townPlaces W).getD i 0 = f (121 + i) := (hs.tw (i := i) (by omega)).1
    rw [Gsea_digestRows_1, e4, if_neg (nI_ge (by omega) (by omega)), ix_e (l := a_s1_townPlaces W) (i := nI i) i rfl (by omega) (by omega), bd_some, t1, nI_1, dg]
    exact ih (i + 1) n _ (by omega) (by omega)
theorem X_ro1 (hs : RS W.2.1 W.2.2.1 W.2.2.2.1 f) (y : Int64) : ∀ (d i n : Nat) (h : Int64), i + d = Nn (f 3) → d + 20 ≤ n → Gsea_digestRows_1 n 1 (nI i) y h W = some (drF f (Nn (f 6)) 0 (dg (fun j => f (121 + j)) (Nn (f 4)) 0 (liF f d i h)), W) := by
  have h6 := hs.c3.2.1
  have h64 := hs.c4.2.1
  have e3 : a_s1lifts_count W = nI (Nn (f 3)) := (hs.k (k := 3) (by omega)).trans hs.c3.2.2
  have l1 : (a_s1lifts_froms W).length = 10 := LSe_froms hs.1
  have l2 : (a_s1lifts_tos W).length = 10 := LSe_tos hs.1
  have l3 : (a_s1lifts_times W).length = 10 := LSe_times hs.1
  intro d
  induction d with
  | zero =>
    intro i n h hi hn
    obtain ⟨n, rfl⟩ : ∃ k, n = k + 1 := ⟨n - 1, by omega⟩
    rw [Gsea_digestRows_1, e3, if_pos (nI_le (by omega) (by omega))]
    have q := X_ro2 hs y (Nn (f 4)) 0 n h (by omega) (by omega)
    rw [nI_0] at q
    exact q
  | succ d ih =>
    intro i n h hi hn
    obtain ⟨n, rfl⟩ : ∃ k, n = k + 1 := ⟨n - 1, by omega⟩
    obtain ⟨t1, t2, t3⟩ := hs.li (i := i) (by omega)
    have t1 : (a_s1lifts_froms W).getD i 0 = f (91 + i) := t1
    have t2 : (a_s1lifts_tos W).getD i 0 = f (101 + i) := t2
    have t3 : (a_s1lifts_times W).getD i 0 = f (111 + i) := t3
    rw [Gsea_digestRows_1, e3, if_neg (nI_ge (by omega) (by omega)), ix_e (l := a_s1lifts_froms W) (i := nI i) i rfl (by omega) (by omega), bd_some, t1, ix_e (l := a_s1lifts_tos W) (i := nI i) i rfl (by omega) (by omega), bd_some, t2, ix_e (l := a_s1lifts_times W) (i := nI i) i rfl (by omega) (by omega), bd_some, t3, nI_1, liF]
    exact ih (i + 1) n _ (by omega) (by omega)
theorem X_ro0 (hs : RS W.2.1 W.2.2.1 W.2.2.2.1 f) (y : Int64) : ∀ (d i n : Nat) (h : Int64), i + d = Nn (f 2) → d + 40 ≤ n → Gsea_digestRows_1 n 0 (nI i) y h W = some (drF f (Nn (f 6)) 0 (dg (fun j => f (121 + j)) (Nn (f 4)) 0 (liF f (Nn (f 3)) 0 (thF f d i h))), W) := by
  have h6 := hs.c2.2.1
  have h63 := hs.c3.2.1
  have e2 : a_s1things_count W = nI (Nn (f 2)) := (hs.k (k := 2) (by omega)).trans hs.c2.2.2
  have l1 : (a_s1things_kinds W).length = 6 := LSe_kinds hs.1
  have l2 : (a_s1things_weights W).length = 6 := LSe_weights hs.1
  have l3 : (a_s1things_volumes W).length = 6 := LSe_volumes hs.1
  have l4 : (a_s1things_ballasts W).length = 6 := LSe_ballasts hs.1
  intro d
  induction d with
  | zero =>
    intro i n h hi hn
    obtain ⟨n, rfl⟩ : ∃ k, n = k + 1 := ⟨n - 1, by omega⟩
    rw [Gsea_digestRows_1, e2, if_pos (nI_le (by omega) (by omega))]
    have q := X_ro1 hs y (Nn (f 3)) 0 n h (by omega) (by omega)
    rw [nI_0] at q
    exact q
  | succ d ih =>
    intro i n h hi hn
    obtain ⟨n, rfl⟩ : ∃ k, n = k + 1 := ⟨n - 1, by omega⟩
    obtain ⟨t1, t2, t3, t4⟩ := hs.th (i := i) (by omega)
    have t1 : (a_s1things_kinds W).getD i 0 = f (67 + i) := t1
    have t2 : (a_s1things_weights W).getD i 0 = f (73 + i) := t2
    have t3 : (a_s1things_volumes W).getD i 0 = f (79 + i) := t3
    have t4 : (a_s1things_ballasts W).getD i 0 = f (85 + i) := t4
    rw [Gsea_digestRows_1, e2, if_neg (nI_ge (by omega) (by omega)), ix_e (l := a_s1things_kinds W) (i := nI i) i rfl (by omega) (by omega), bd_some, t1, ix_e (l := a_s1things_weights W) (i := nI i) i rfl (by omega) (by omega), bd_some, t2, ix_e (l := a_s1things_volumes W) (i := nI i) i rfl (by omega) (by omega), bd_some, t3, ix_e (l := a_s1things_ballasts W) (i := nI i) i rfl (by omega) (by omega), bd_some, t4, nI_1, thF]
    exact ih (i + 1) n _ (by omega) (by omega)
end C53
