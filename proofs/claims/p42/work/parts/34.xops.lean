/-! the class's own changes of a sea -/
def X1 (w : WX) (s : TS) (t : TT) (l : TL) : WX := (w.1, s, t, l, w.2.2.2.2)
def X2 (w : WX) (s : TS) (t : TT) (l : TL) : WX := (w.1, w.2.1, w.2.2.1, w.2.2.2.1, s, t, l, w.2.2.2.2.2.2.2)
theorem RS.k {s : TS} {t : TT} {l : TL} {f : Nat → Int32} (h : RS s t l f) {k : Nat} (hk : k < 67) : fl s t l k = f k := h.2.1 k (by omega) (Or.inl hk)
theorem RS.ok {s : TS} {t : TT} {l : TL} {f : Nat → Int32} (h : RS s t l f) {k : Nat} (hk : k < 67) : okv (Nn (f 0)) k (f k) := h.2.2 k (by omega) (Or.inl hk)
theorem RS.c0 {s : TS} {t : TT} {l : TL} {f : Nat → Int32} (h : RS s t l f) : isN (f 0) 1 6 := h.ok (k := 0) (by omega)
theorem RS.c1 {s : TS} {t : TT} {l : TL} {f : Nat → Int32} (h : RS s t l f) : isN (f 1) 0 999 := h.ok (k := 1) (by omega)
theorem RS.c2 {s : TS} {t : TT} {l : TL} {f : Nat → Int32} (h : RS s t l f) : isN (f 2) 0 6 := h.ok (k := 2) (by omega)
theorem RS.c3 {s : TS} {t : TT} {l : TL} {f : Nat → Int32} (h : RS s t l f) : isN (f 3) 0 10 := h.ok (k := 3) (by omega)
theorem RS.c4 {s : TS} {t : TT} {l : TL} {f : Nat → Int32} (h : RS s t l f) : isN (f 4) 0 6 := h.ok (k := 4) (by omega)
theorem RS.c6 {s : TS} {t : TT} {l : TL} {f : Nat → Int32} (h : RS s t l f) : isN (f 6) 0 6 := h.ok (k := 6) (by omega)
theorem RS.c7 {s : TS} {t : TT} {l : TL} {f : Nat → Int32} (h : RS s t l f) : isN (f 7) 0 10 := h.ok (k := 7) (by omega)
theorem RS.dens {s : TS} {t : TT} {l : TL} {f : Nat → Int32} (h : RS s t l f) {i : Nat} (hi : i < 4) : (q_dens s).getD i 0 = f (8 + i) := by rw [← fl_dens s t l hi]; exact h.k (by omega)
theorem RS.cur {s : TS} {t : TT} {l : TL} {f : Nat → Int32} (h : RS s t l f) {i : Nat} (hi : i < 4) : (q_cur s).getD i 0 = f (12 + i) := by rw [← fl_cur s t l hi]; exact h.k (by omega)
theorem RS.tides {s : TS} {t : TT} {l : TL} {f : Nat → Int32} (h : RS s t l f) {i : Nat} (hi : i < 24) : (q_tides s).getD i 0 = f (16 + i) := by rw [← fl_tides s t l hi]; exact h.k (by omega)
theorem RS.thicks {s : TS} {t : TT} {l : TL} {f : Nat → Int32} (h : RS s t l f) {i : Nat} (hi : i < 24) : (q_thicks s).getD i 0 = f (40 + i) := by rw [← fl_thicks s t l hi]; exact h.k (by omega)
theorem RS.skins {s : TS} {t : TT} {l : TL} {f : Nat → Int32} (h : RS s t l f) {i : Nat} (hi : i < 3) : (q_skins s).getD i 0 = f (64 + i) := by rw [← fl_skins s t l hi]; exact h.k (by omega)
theorem and1 (y : Int32) : y &&& 1 = 0 ∨ y &&& 1 = 1 := by
  obtain ⟨j, hj, e⟩ := pk_andE y (m := 1) 1 (by decide)
  rw [e]
  match j, hj with
  | 0, _ => exact Or.inl rfl
  | 1, _ => exact Or.inr rfl
  | j + 2, h => exact absurd h (by omega)
/-- a row filled from place i on -/
def fil (l : List Int32) (i : Nat) (x : Int32) : List Int32 := l.take i ++ List.replicate (l.length - i) x
theorem fil_end {l : List Int32} {i : Nat} (x : Int32) (h : l.length ≤ i) : fil l i x = l := by
  unfold fil
  rw [List.take_of_length_le h, Nat.sub_eq_zero_of_le h]
  simp
theorem fil_set {l : List Int32} {i : Nat} (x : Int32) (h : i < l.length) : fil (l.set i x) (i + 1) x = fil l i x := by
  unfold fil
  rw [List.length_set, List.take_set, List.take_succ_eq_append_getElem h, List.set_append_right _ _ (by rw [List.length_take]; omega)]
  have e : i - (l.take i).length = 0 := by rw [List.length_take]; omega
  rw [e, List.append_assoc]
  congr 1
  rw [show l.length - i = (l.length - (i + 1)) + 1 by omega, List.replicate_succ]
  rfl
theorem fil_0 (l : List Int32) (x : Int32) : fil l 0 x = List.replicate l.length x := by
  unfold fil
  simp
theorem cpy_all {f g : List Int32} {n : Int32} (k : Nat) (hn : n = nI k) (hk : k < 2 ^ 31) (hf : f.length = k) (hg : g.length = k) : ai_cpy f g 0 0 n = some f := by
  subst hn
  unfold ai_cpy
  have e0 : (0 : Int32).toNatClampNeg = 0 := rfl
  rw [if_neg (fun q => by
    rcases q with q | q | q
    · exact absurd q (by decide)
    · exact absurd q (by decide)
    · exact nI_pos hk q), nI_clamp hk, e0]
  have h1 : Nat.ble (0 + k) f.length = true := Nat.ble_eq_true_of_le (by omega)
  have h2 : Nat.ble (0 + k) g.length = true := Nat.ble_eq_true_of_le (by omega)
  rw [h1, h2]
  show some (ai_cp f g 0 0 k) = some f
  unfold ai_cp
  rw [List.take_zero, List.drop_zero, List.take_of_length_le (by omega), List.drop_eq_nil_of_le (by omega)]
  simp
theorem fillG_3 (x : Int32) (N : Nat) (hN : N < 2 ^ 31) : ∀ (d i n : Nat) (w : WX), i + d = N → d < n → (a_s1_currents w).length = N → Garr_fill_3 n 0 x (nI i) (nI N) w = some (u_s1_currents w (fil (a_s1_currents w) i x)) := by
  intro d
  induction d with
  | zero =>
    intro i n w hi hn hl
    obtain ⟨n, rfl⟩ : ∃ k, n = k + 1 := ⟨n - 1, by omega⟩
    rw [show i = N by omega, Garr_fill_3, if_pos (Int32.le_refl _), fil_end x (by omega)]
  | succ d ih =>
    intro i n w hi hn hl
    obtain ⟨n, rfl⟩ : ∃ k, n = k + 1 := ⟨n - 1, by omega⟩
    rw [Garr_fill_3, if_neg (nI_ge (by omega) hN), up_e x i rfl (by omega) (by omega), bd_some, nI_1, ih (i + 1) n (u_s1_currents w ((a_s1_currents w).set i x)) (by omega) (by omega) (by rw [List.length_set]; exact hl)]
    show some (u_s1_currents w (fil ((a_s1_currents w).set i x) (i + 1) x)) = _
    rw [fil_set x (by omega)]
theorem fill_3 (x : Int32) {N n : Nat} (hN : N < 2 ^ 31) (hn : N < n) {w : WX} (hl : (a_s1_currents w).length = N) : Farr_fill_3 n x w = some (u_s1_currents w (List.replicate N x)) := by
  have h := fillG_3 x N hN N 0 n w (by omega) hn hl
  rw [fil_0, hl] at h
  unfold Farr_fill_3
  rw [hl]
  exact h
theorem fillG_4 (x : Int32) (N : Nat) (hN : N < 2 ^ 31) : ∀ (d i n : Nat) (w : WX), i + d = N → d < n → (a_s1_tides w).length = N → Garr_fill_4 n 0 x (nI i) (nI N) w = some (u_s1_tides w (fil (a_s1_tides w) i x)) := by
  intro d
  induction d with
  | zero =>
    intro i n w hi hn hl
    obtain ⟨n, rfl⟩ : ∃ k, n = k + 1 := ⟨n - 1, by omega⟩
    rw [show i = N by omega, Garr_fill_4, if_pos (Int32.le_refl _), fil_end x (by omega)]
  | succ d ih =>
    intro i n w hi hn hl
    obtain ⟨n, rfl⟩ : ∃ k, n = k + 1 := ⟨n - 1, by omega⟩
    rw [Garr_fill_4, if_neg (nI_ge (by omega) hN), up_e x i rfl (by omega) (by omega), bd_some, nI_1, ih (i + 1) n (u_s1_tides w ((a_s1_tides w).set i x)) (by omega) (by omega) (by rw [List.length_set]; exact hl)]
    show some (u_s1_tides w (fil ((a_s1_tides w).set i x) (i + 1) x)) = _
    rw [fil_set x (by omega)]
theorem fill_4 (x : Int32) {N n : Nat} (hN : N < 2 ^ 31) (hn : N < n) {w : WX} (hl : (a_s1_tides w).length = N) : Farr_fill_4 n x w = some (u_s1_tides w (List.replicate N x)) := by
  have h := fillG_4 x N hN N 0 n w (by omega) hn hl
  rw [fil_0, hl] at h
  unfold Farr_fill_4
  rw [hl]
  exact h
theorem fillG_5 (x : Int32) (N : Nat) (hN : N < 2 ^ 31) : ∀ (d i n : Nat) (w : WX), i + d = N → d < n → (a_s1_thicks w).length = N → Garr_fill_5 n 0 x (nI i) (nI N) w = some (u_s1_thicks w (fil (a_s1_thicks w) i x)) := by
  intro d
  induction d with
  | zero =>
    intro i n w hi hn hl
    obtain ⟨n, rfl⟩ : ∃ k, n = k + 1 := ⟨n - 1, by omega⟩
    rw [show i = N by omega, Garr_fill_5, if_pos (Int32.le_refl _), fil_end x (by omega)]
  | succ d ih =>
    intro i n w hi hn hl
    obtain ⟨n, rfl⟩ : ∃ k, n = k + 1 := ⟨n - 1, by omega⟩
    rw [Garr_fill_5, if_neg (nI_ge (by omega) hN), up_e x i rfl (by omega) (by omega), bd_some, nI_1, ih (i + 1) n (u_s1_thicks w ((a_s1_thicks w).set i x)) (by omega) (by omega) (by rw [List.length_set]; exact hl)]
    show some (u_s1_thicks w (fil ((a_s1_thicks w).set i x) (i + 1) x)) = _
    rw [fil_set x (by omega)]
theorem fill_5 (x : Int32) {N n : Nat} (hN : N < 2 ^ 31) (hn : N < n) {w : WX} (hl : (a_s1_thicks w).length = N) : Farr_fill_5 n x w = some (u_s1_thicks w (List.replicate N x)) := by
  have h := fillG_5 x N hN N 0 n w (by omega) hn hl
  rw [fil_0, hl] at h
  unfold Farr_fill_5
  rw [hl]
  exact h
theorem fillG_6 (x : Int32) (N : Nat) (hN : N < 2 ^ 31) : ∀ (d i n : Nat) (w : WX), i + d = N → d < n → (a_s1_skins w).length = N → Garr_fill_6 n 0 x (nI i) (nI N) w = some (u_s1_skins w (fil (a_s1_skins w) i x)) := by
  intro d
  induction d with
  | zero =>
    intro i n w hi hn hl
    obtain ⟨n, rfl⟩ : ∃ k, n = k + 1 := ⟨n - 1, by omega⟩
    rw [show i = N by omega, Garr_fill_6, if_pos (Int32.le_refl _), fil_end x (by omega)]
  | succ d ih =>
    intro i n w hi hn hl
    obtain ⟨n, rfl⟩ : ∃ k, n = k + 1 := ⟨n - 1, by omega⟩
    rw [Garr_fill_6, if_neg (nI_ge (by omega) hN), up_e x i rfl (by omega) (by omega), bd_some, nI_1, ih (i + 1) n (u_s1_skins w ((a_s1_skins w).set i x)) (by omega) (by omega) (by rw [List.length_set]; exact hl)]
    show some (u_s1_skins w (fil ((a_s1_skins w).set i x) (i + 1) x)) = _
    rw [fil_set x (by omega)]
theorem fill_6 (x : Int32) {N n : Nat} (hN : N < 2 ^ 31) (hn : N < n) {w : WX} (hl : (a_s1_skins w).length = N) : Farr_fill_6 n x w = some (u_s1_skins w (List.replicate N x)) := by
  have h := fillG_6 x N hN N 0 n w (by omega) hn hl
  rw [fil_0, hl] at h
  unfold Farr_fill_6
  rw [hl]
  exact h
theorem fillG_22 (x : Int32) (N : Nat) (hN : N < 2 ^ 31) : ∀ (d i n : Nat) (w : WX), i + d = N → d < n → (a_s2_currents w).length = N → Garr_fill_22 n 0 x (nI i) (nI N) w = some (u_s2_currents w (fil (a_s2_currents w) i x)) := by
  intro d
  induction d with
  | zero =>
    intro i n w hi hn hl
    obtain ⟨n, rfl⟩ : ∃ k, n = k + 1 := ⟨n - 1, by omega⟩
    rw [show i = N by omega, Garr_fill_22, if_pos (Int32.le_refl _), fil_end x (by omega)]
  | succ d ih =>
    intro i n w hi hn hl
    obtain ⟨n, rfl⟩ : ∃ k, n = k + 1 := ⟨n - 1, by omega⟩
    rw [Garr_fill_22, if_neg (nI_ge (by omega) hN), up_e x i rfl (by omega) (by omega), bd_some, nI_1, ih (i + 1) n (u_s2_currents w ((a_s2_currents w).set i x)) (by omega) (by omega) (by rw [List.length_set]; exact hl)]
    show some (u_s2_currents w (fil ((a_s2_currents w).set i x) (i + 1) x)) = _
    rw [fil_set x (by omega)]
theorem fill_22 (x : Int32) {N n : Nat} (hN : N < 2 ^ 31) (hn : N < n) {w : WX} (hl : (a_s2_currents w).length = N) : Farr_fill_22 n x w = some (u_s2_currents w (List.replicate N x)) := by
  have h := fillG_22 x N hN N 0 n w (by omega) hn hl
  rw [fil_0, hl] at h
  unfold Farr_fill_22
  rw [hl]
  exact h
theorem fillG_23 (x : Int32) (N : Nat) (hN : N < 2 ^ 31) : ∀ (d i n : Nat) (w : WX), i + d = N → d < n → (a_s2_tides w).length = N → Garr_fill_23 n 0 x (nI i) (nI N) w = some (u_s2_tides w (fil (a_s2_tides w) i x)) := by
  intro d
  induction d with
  | zero =>
    intro i n w hi hn hl
    obtain ⟨n, rfl⟩ : ∃ k, n = k + 1 := ⟨n - 1, by omega⟩
    rw [show i = N by omega, Garr_fill_23, if_pos (Int32.le_refl _), fil_end x (by omega)]
  | succ d ih =>
    intro i n w hi hn hl
    obtain ⟨n, rfl⟩ : ∃ k, n = k + 1 := ⟨n - 1, by omega⟩
    rw [Garr_fill_23, if_neg (nI_ge (by omega) hN), up_e x i rfl (by omega) (by omega), bd_some, nI_1, ih (i + 1) n (u_s2_tides w ((a_s2_tides w).set i x)) (by omega) (by omega) (by rw [List.length_set]; exact hl)]
    show some (u_s2_tides w (fil ((a_s2_tides w).set i x) (i + 1) x)) = _
    rw [fil_set x (by omega)]
theorem fill_23 (x : Int32) {N n : Nat} (hN : N < 2 ^ 31) (hn : N < n) {w : WX} (hl : (a_s2_tides w).length = N) : Farr_fill_23 n x w = some (u_s2_tides w (List.replicate N x)) := by
  have h := fillG_23 x N hN N 0 n w (by omega) hn hl
  rw [fil_0, hl] at h
  unfold Farr_fill_23
  rw [hl]
  exact h
theorem fillG_24 (x : Int32) (N : Nat) (hN : N < 2 ^ 31) : ∀ (d i n : Nat) (w : WX), i + d = N → d < n → (a_s2_thicks w).length = N → Garr_fill_24 n 0 x (nI i) (nI N) w = some (u_s2_thicks w (fil (a_s2_thicks w) i x)) := by
  intro d
  induction d with
  | zero =>
    intro i n w hi hn hl
    obtain ⟨n, rfl⟩ : ∃ k, n = k + 1 := ⟨n - 1, by omega⟩
    rw [show i = N by omega, Garr_fill_24, if_pos (Int32.le_refl _), fil_end x (by omega)]
  | succ d ih =>
    intro i n w hi hn hl
    obtain ⟨n, rfl⟩ : ∃ k, n = k + 1 := ⟨n - 1, by omega⟩
    rw [Garr_fill_24, if_neg (nI_ge (by omega) hN), up_e x i rfl (by omega) (by omega), bd_some, nI_1, ih (i + 1) n (u_s2_thicks w ((a_s2_thicks w).set i x)) (by omega) (by omega) (by rw [List.length_set]; exact hl)]
    show some (u_s2_thicks w (fil ((a_s2_thicks w).set i x) (i + 1) x)) = _
    rw [fil_set x (by omega)]
theorem fill_24 (x : Int32) {N n : Nat} (hN : N < 2 ^ 31) (hn : N < n) {w : WX} (hl : (a_s2_thicks w).length = N) : Farr_fill_24 n x w = some (u_s2_thicks w (List.replicate N x)) := by
  have h := fillG_24 x N hN N 0 n w (by omega) hn hl
  rw [fil_0, hl] at h
  unfold Farr_fill_24
  rw [hl]
  exact h
theorem fillG_25 (x : Int32) (N : Nat) (hN : N < 2 ^ 31) : ∀ (d i n : Nat) (w : WX), i + d = N → d < n → (a_s2_skins w).length = N → Garr_fill_25 n 0 x (nI i) (nI N) w = some (u_s2_skins w (fil (a_s2_skins w) i x)) := by
  intro d
  induction d with
  | zero =>
    intro i n w hi hn hl
    obtain ⟨n, rfl⟩ : ∃ k, n = k + 1 := ⟨n - 1, by omega⟩
    rw [show i = N by omega, Garr_fill_25, if_pos (Int32.le_refl _), fil_end x (by omega)]
  | succ d ih =>
    intro i n w hi hn hl
    obtain ⟨n, rfl⟩ : ∃ k, n = k + 1 := ⟨n - 1, by omega⟩
    rw [Garr_fill_25, if_neg (nI_ge (by omega) hN), up_e x i rfl (by omega) (by omega), bd_some, nI_1, ih (i + 1) n (u_s2_skins w ((a_s2_skins w).set i x)) (by omega) (by omega) (by rw [List.length_set]; exact hl)]
    show some (u_s2_skins w (fil ((a_s2_skins w).set i x) (i + 1) x)) = _
    rw [fil_set x (by omega)]
theorem fill_25 (x : Int32) {N n : Nat} (hN : N < 2 ^ 31) (hn : N < n) {w : WX} (hl : (a_s2_skins w).length = N) : Farr_fill_25 n x w = some (u_s2_skins w (List.replicate N x)) := by
  have h := fillG_25 x N hN N 0 n w (by omega) hn hl
  rw [fil_0, hl] at h
  unfold Farr_fill_25
  rw [hl]
  exact h
theorem fillG_82 (x : Int32) (N : Nat) (hN : N < 2 ^ 31) : ∀ (d i n : Nat) (w : WX), i + d = N → d < n → (a_fall_passedThick w).length = N → Garr_fill_82 n 0 x (nI i) (nI N) w = some (u_fall_passedThick w (fil (a_fall_passedThick w) i x)) := by
  intro d
  induction d with
  | zero =>
    intro i n w hi hn hl
    obtain ⟨n, rfl⟩ : ∃ k, n = k + 1 := ⟨n - 1, by omega⟩
    rw [show i = N by omega, Garr_fill_82, if_pos (Int32.le_refl _), fil_end x (by omega)]
  | succ d ih =>
    intro i n w hi hn hl
    obtain ⟨n, rfl⟩ : ∃ k, n = k + 1 := ⟨n - 1, by omega⟩
    rw [Garr_fill_82, if_neg (nI_ge (by omega) hN), up_e x i rfl (by omega) (by omega), bd_some, nI_1, ih (i + 1) n (u_fall_passedThick w ((a_fall_passedThick w).set i x)) (by omega) (by omega) (by rw [List.length_set]; exact hl)]
    show some (u_fall_passedThick w (fil ((a_fall_passedThick w).set i x) (i + 1) x)) = _
    rw [fil_set x (by omega)]
theorem fill_82 (x : Int32) {N n : Nat} (hN : N < 2 ^ 31) (hn : N < n) {w : WX} (hl : (a_fall_passedThick w).length = N) : Farr_fill_82 n x w = some (u_fall_passedThick w (List.replicate N x)) := by
  have h := fillG_82 x N hN N 0 n w (by omega) hn hl
  rw [fil_0, hl] at h
  unfold Farr_fill_82
  rw [hl]
  exact h
theorem fillG_84 (x : Int32) (N : Nat) (hN : N < 2 ^ 31) : ∀ (d i n : Nat) (w : WX), i + d = N → d < n → (a_spread_amounts w).length = N → Garr_fill_84 n 0 x (nI i) (nI N) w = some (u_spread_amounts w (fil (a_spread_amounts w) i x)) := by
  intro d
  induction d with
  | zero =>
    intro i n w hi hn hl
    obtain ⟨n, rfl⟩ : ∃ k, n = k + 1 := ⟨n - 1, by omega⟩
    rw [show i = N by omega, Garr_fill_84, if_pos (Int32.le_refl _), fil_end x (by omega)]
  | succ d ih =>
    intro i n w hi hn hl
    obtain ⟨n, rfl⟩ : ∃ k, n = k + 1 := ⟨n - 1, by omega⟩
    rw [Garr_fill_84, if_neg (nI_ge (by omega) hN), up_e x i rfl (by omega) (by omega), bd_some, nI_1, ih (i + 1) n (u_spread_amounts w ((a_spread_amounts w).set i x)) (by omega) (by omega) (by rw [List.length_set]; exact hl)]
    show some (u_spread_amounts w (fil ((a_spread_amounts w).set i x) (i + 1) x)) = _
    rw [fil_set x (by omega)]
theorem fill_84 (x : Int32) {N n : Nat} (hN : N < 2 ^ 31) (hn : N < n) {w : WX} (hl : (a_spread_amounts w).length = N) : Farr_fill_84 n x w = some (u_spread_amounts w (List.replicate N x)) := by
  have h := fillG_84 x N hN N 0 n w (by omega) hn hl
  rw [fil_0, hl] at h
  unfold Farr_fill_84
  rw [hl]
  exact h
theorem fillG_87 (x : Int32) (N : Nat) (hN : N < 2 ^ 31) : ∀ (d i n : Nat) (w : WX), i + d = N → d < n → (a_ways_reached w).length = N → Garr_fill_87 n 0 x (nI i) (nI N) w = some (u_ways_reached w (fil (a_ways_reached w) i x)) := by
  intro d
  induction d with
  | zero =>
    intro i n w hi hn hl
    obtain ⟨n, rfl⟩ : ∃ k, n = k + 1 := ⟨n - 1, by omega⟩
    rw [show i = N by omega, Garr_fill_87, if_pos (Int32.le_refl _), fil_end x (by omega)]
  | succ d ih =>
    intro i n w hi hn hl
    obtain ⟨n, rfl⟩ : ∃ k, n = k + 1 := ⟨n - 1, by omega⟩
    rw [Garr_fill_87, if_neg (nI_ge (by omega) hN), up_e x i rfl (by omega) (by omega), bd_some, nI_1, ih (i + 1) n (u_ways_reached w ((a_ways_reached w).set i x)) (by omega) (by omega) (by rw [List.length_set]; exact hl)]
    show some (u_ways_reached w (fil ((a_ways_reached w).set i x) (i + 1) x)) = _
    rw [fil_set x (by omega)]
theorem fill_87 (x : Int32) {N n : Nat} (hN : N < 2 ^ 31) (hn : N < n) {w : WX} (hl : (a_ways_reached w).length = N) : Farr_fill_87 n x w = some (u_ways_reached w (List.replicate N x)) := by
  have h := fillG_87 x N hN N 0 n w (by omega) hn hl
  rw [fil_0, hl] at h
  unfold Farr_fill_87
  rw [hl]
  exact h
def bS (s : TS) (x : Int32) : TS := (x, 0, 0, [10, 13, 16, 20], List.replicate 4 0, List.replicate 24 0, List.replicate 24 3, List.replicate 3 0, 0, q_townPlaces s, 0, q_dropLayers s, q_dropFloats s, 0, q_hoursBefore s)
theorem lv_beg {x : Int32} {k : Nat} (h : lv (beg x) k) : k < 67 := by
  have e : Nn (0 : Int32) = 0 := rfl
  have e2 : beg x 2 = 0 := rfl
  have e3 : beg x 3 = 0 := rfl
  have e4 : beg x 4 = 0 := rfl
  have e6 : beg x 6 = 0 := rfl
  have e7 : beg x 7 = 0 := rfl
  unfold lv at h
  rw [e2, e3, e4, e6, e7, e] at h
  omega
set_option maxRecDepth 10000 in
theorem bS_fl (s : TS) (t : TT) (l : TL) (x : Int32) : ∀ k, k < 67 → fl (bS s x) (p_tcount t 0) (p_lcount l 0) k = beg x k := by
  intro k hk
  match k, hk with
  | 0, _ => rfl
  | 1, _ => rfl
  | 2, _ => rfl
  | 3, _ => rfl
  | 4, _ => rfl
  | 5, _ => rfl
  | 6, _ => rfl
  | 7, _ => rfl
  | 8, _ => rfl
  | 9, _ => rfl
  | 10, _ => rfl
  | 11, _ => rfl
  | 12, _ => rfl
  | 13, _ => rfl
  | 14, _ => rfl
  | 15, _ => rfl
  | 16, _ => rfl
  | 17, _ => rfl
  | 18, _ => rfl
  | 19, _ => rfl
  | 20, _ => rfl
  | 21, _ => rfl
  | 22, _ => rfl
  | 23, _ => rfl
  | 24, _ => rfl
  | 25, _ => rfl
  | 26, _ => rfl
  | 27, _ => rfl
  | 28, _ => rfl
  | 29, _ => rfl
  | 30, _ => rfl
  | 31, _ => rfl
  | 32, _ => rfl
  | 33, _ => rfl
  | 34, _ => rfl
  | 35, _ => rfl
  | 36, _ => rfl
  | 37, _ => rfl
  | 38, _ => rfl
  | 39, _ => rfl
  | 40, _ => rfl
  | 41, _ => rfl
  | 42, _ => rfl
  | 43, _ => rfl
  | 44, _ => rfl
  | 45, _ => rfl
  | 46, _ => rfl
  | 47, _ => rfl
  | 48, _ => rfl
  | 49, _ => rfl
  | 50, _ => rfl
  | 51, _ => rfl
  | 52, _ => rfl
  | 53, _ => rfl
  | 54, _ => rfl
  | 55, _ => rfl
  | 56, _ => rfl
  | 57, _ => rfl
  | 58, _ => rfl
  | 59, _ => rfl
  | 60, _ => rfl
  | 61, _ => rfl
  | 62, _ => rfl
  | 63, _ => rfl
  | 64, _ => rfl
  | 65, _ => rfl
  | 66, _ => rfl
  | k + 67, h => exact absurd h (by omega)
theorem beg_ok {x : Int32} (h : isN x 1 6) : ∀ k, k < 67 → okv (Nn (beg x 0)) k (beg x k) := by
  intro k hk
  match k, hk with
  | 0, _ => exact h
  | 1, _ => exact (show isN 0 0 999 from ⟨by decide, by decide, by decide⟩)
  | 2, _ => exact (show isN 0 0 6 from ⟨by decide, by decide, by decide⟩)
  | 3, _ => exact (show isN 0 0 10 from ⟨by decide, by decide, by decide⟩)
  | 4, _ => exact (show isN 0 0 6 from ⟨by decide, by decide, by decide⟩)
  | 5, _ => exact trivial
  | 6, _ => exact (show isN 0 0 6 from ⟨by decide, by decide, by decide⟩)
  | 7, _ => exact (show isN 0 0 10 from ⟨by decide, by decide, by decide⟩)
  | 8, _ => exact (show isN 10 0 99 from ⟨by decide, by decide, by decide⟩)
  | 9, _ => exact (show isN 13 0 99 from ⟨by decide, by decide, by decide⟩)
  | 10, _ => exact (show isN 16 0 99 from ⟨by decide, by decide, by decide⟩)
  | 11, _ => exact (show isN 20 0 99 from ⟨by decide, by decide, by decide⟩)
  | 12, _ => exact (show rgI 0 (-1) 1 from ⟨by decide, by decide⟩)
  | 13, _ => exact (show rgI 0 (-1) 1 from ⟨by decide, by decide⟩)
  | 14, _ => exact (show rgI 0 (-1) 1 from ⟨by decide, by decide⟩)
  | 15, _ => exact (show rgI 0 (-1) 1 from ⟨by decide, by decide⟩)
  | 16, _ => exact (show rgI 0 (-2) 2 from ⟨by decide, by decide⟩)
  | 17, _ => exact (show rgI 0 (-2) 2 from ⟨by decide, by decide⟩)
  | 18, _ => exact (show rgI 0 (-2) 2 from ⟨by decide, by decide⟩)
  | 19, _ => exact (show rgI 0 (-2) 2 from ⟨by decide, by decide⟩)
  | 20, _ => exact (show rgI 0 (-2) 2 from ⟨by decide, by decide⟩)
  | 21, _ => exact (show rgI 0 (-2) 2 from ⟨by decide, by decide⟩)
  | 22, _ => exact (show rgI 0 (-2) 2 from ⟨by decide, by decide⟩)
  | 23, _ => exact (show rgI 0 (-2) 2 from ⟨by decide, by decide⟩)
  | 24, _ => exact (show rgI 0 (-2) 2 from ⟨by decide, by decide⟩)
  | 25, _ => exact (show rgI 0 (-2) 2 from ⟨by decide, by decide⟩)
  | 26, _ => exact (show rgI 0 (-2) 2 from ⟨by decide, by decide⟩)
  | 27, _ => exact (show rgI 0 (-2) 2 from ⟨by decide, by decide⟩)
  | 28, _ => exact (show rgI 0 (-2) 2 from ⟨by decide, by decide⟩)
  | 29, _ => exact (show rgI 0 (-2) 2 from ⟨by decide, by decide⟩)
  | 30, _ => exact (show rgI 0 (-2) 2 from ⟨by decide, by decide⟩)
  | 31, _ => exact (show rgI 0 (-2) 2 from ⟨by decide, by decide⟩)
  | 32, _ => exact (show rgI 0 (-2) 2 from ⟨by decide, by decide⟩)
  | 33, _ => exact (show rgI 0 (-2) 2 from ⟨by decide, by decide⟩)
  | 34, _ => exact (show rgI 0 (-2) 2 from ⟨by decide, by decide⟩)
  | 35, _ => exact (show rgI 0 (-2) 2 from ⟨by decide, by decide⟩)
  | 36, _ => exact (show rgI 0 (-2) 2 from ⟨by decide, by decide⟩)
  | 37, _ => exact (show rgI 0 (-2) 2 from ⟨by decide, by decide⟩)
  | 38, _ => exact (show rgI 0 (-2) 2 from ⟨by decide, by decide⟩)
  | 39, _ => exact (show rgI 0 (-2) 2 from ⟨by decide, by decide⟩)
  | 40, _ => exact (show isN 3 0 9 from ⟨by decide, by decide, by decide⟩)
  | 41, _ => exact (show isN 3 0 9 from ⟨by decide, by decide, by decide⟩)
  | 42, _ => exact (show isN 3 0 9 from ⟨by decide, by decide, by decide⟩)
  | 43, _ => exact (show isN 3 0 9 from ⟨by decide, by decide, by decide⟩)
  | 44, _ => exact (show isN 3 0 9 from ⟨by decide, by decide, by decide⟩)
  | 45, _ => exact (show isN 3 0 9 from ⟨by decide, by decide, by decide⟩)
  | 46, _ => exact (show isN 3 0 9 from ⟨by decide, by decide, by decide⟩)
  | 47, _ => exact (show isN 3 0 9 from ⟨by decide, by decide, by decide⟩)
  | 48, _ => exact (show isN 3 0 9 from ⟨by decide, by decide, by decide⟩)
  | 49, _ => exact (show isN 3 0 9 from ⟨by decide, by decide, by decide⟩)
  | 50, _ => exact (show isN 3 0 9 from ⟨by decide, by decide, by decide⟩)
  | 51, _ => exact (show isN 3 0 9 from ⟨by decide, by decide, by decide⟩)
  | 52, _ => exact (show isN 3 0 9 from ⟨by decide, by decide, by decide⟩)
  | 53, _ => exact (show isN 3 0 9 from ⟨by decide, by decide, by decide⟩)
  | 54, _ => exact (show isN 3 0 9 from ⟨by decide, by decide, by decide⟩)
  | 55, _ => exact (show isN 3 0 9 from ⟨by decide, by decide, by decide⟩)
  | 56, _ => exact (show isN 3 0 9 from ⟨by decide, by decide, by decide⟩)
  | 57, _ => exact (show isN 3 0 9 from ⟨by decide, by decide, by decide⟩)
  | 58, _ => exact (show isN 3 0 9 from ⟨by decide, by decide, by decide⟩)
  | 59, _ => exact (show isN 3 0 9 from ⟨by decide, by decide, by decide⟩)
  | 60, _ => exact (show isN 3 0 9 from ⟨by decide, by decide, by decide⟩)
  | 61, _ => exact (show isN 3 0 9 from ⟨by decide, by decide, by decide⟩)
  | 62, _ => exact (show isN 3 0 9 from ⟨by decide, by decide, by decide⟩)
  | 63, _ => exact (show isN 3 0 9 from ⟨by decide, by decide, by decide⟩)
  | 64, _ => exact (show isN 0 0 99 from ⟨by decide, by decide, by decide⟩)
  | 65, _ => exact (show isN 0 0 99 from ⟨by decide, by decide, by decide⟩)
  | 66, _ => exact (show isN 0 0 99 from ⟨by decide, by decide, by decide⟩)
  | k + 67, h => exact absurd h (by omega)
theorem RS_beg {s : TS} {t : TT} {l : TL} {x : Int32} (hL : LSe s t l) (h : isN x 1 6) : RS (bS s x) (p_tcount t 0) (p_lcount l 0) (beg x) := by
  have l1 := LSe_townPlaces hL
  have l2 := LSe_dropLayers hL
  have l3 := LSe_dropFloats hL
  have l4 := LSe_hoursBefore hL
  refine ⟨⟨rfl, rfl, rfl, rfl, rfl, LSe_kinds hL, LSe_weights hL, LSe_volumes hL, LSe_ballasts hL, LSe_froms hL, LSe_tos hL, LSe_times hL, l1, l2, l3, l4⟩, fun k hk hl => bS_fl s t l x k (lv_beg hl), fun k hk hl => beg_ok h k (lv_beg hl)⟩
/-- a thing comes, in words of a sea -/
theorem RS_thing {s : TS} {t : TT} {l : TL} {f : Nat → Int32} (h : RS s t l f) (a b c : Int32) {n : Nat} (hn : f 2 = nI n) (h6 : n < 6) : RS s (p_tcount (p_ballasts (p_volumes (p_weights (p_kinds t ((q_kinds t).set n a)) ((q_weights t).set n b)) ((q_volumes t).set n c)) ((q_ballasts t).set n 0)) (f 2 + 1)) l (upd (upd (upd (upd (upd f (67 + n) a) (73 + n) b) (79 + n) c) (85 + n) 0) 2 (f 2 + 1)) := by
  have e2 : Nn (f 2) = n := by rw [hn]; exact Nn_nI (by omega)
  have tr : ∀ (g : Nat → Int32) (j : Nat) (z : Int32), 67 ≤ j → j < 91 → (lv g j → okv (Nn (g 0)) j z) := fun g j z q1 q2 _ => by rw [okv_r67 _ _ q1 q2]; trivial
  have h1 := RS_upd h (j := 67 + n) (x := a) (Or.inl (by omega)) (LSe_set_kinds h.1 n a) (flset_kinds s t l a h6 (LSe_kinds h.1)) (tr _ _ _ (by omega) (by omega))
  have h2 := RS_upd h1 (j := 73 + n) (x := b) (Or.inl (by omega)) (LSe_set_weights h1.1 n b) (flset_weights s _ l b h6 (LSe_weights h1.1)) (tr _ _ _ (by omega) (by omega))
  have h3 := RS_upd h2 (j := 79 + n) (x := c) (Or.inl (by omega)) (LSe_set_volumes h2.1 n c) (flset_volumes s _ l c h6 (LSe_volumes h2.1)) (tr _ _ _ (by omega) (by omega))
  have h4 := RS_upd h3 (j := 85 + n) (x := 0) (Or.inl (by omega)) (LSe_set_ballasts h3.1 n 0) (flset_ballasts s _ l 0 h6 (LSe_ballasts h3.1)) (tr _ _ _ (by omega) (by omega))
  have hF : fl s (p_ballasts (p_volumes (p_weights (p_kinds t ((q_kinds t).set n a)) ((q_weights t).set n b)) ((q_volumes t).set n c)) ((q_ballasts t).set n 0)) l = upd (upd (upd (upd (fl s t l) (67 + n) a) (73 + n) b) (79 + n) c) (85 + n) 0 := by
    rw [← flset_kinds s t l a h6 (LSe_kinds h.1), ← flset_weights s _ l b h6 (LSe_weights h1.1), ← flset_volumes s _ l c h6 (LSe_volumes h2.1), ← flset_ballasts s _ l 0 h6 (LSe_ballasts h3.1)]
  refine RS_cnt h4 (j := 2) (by omega) (by omega) h4.1 (flset_tcount s _ l _) ?_ ?_
  · rw [okv_2, hn, nI_1]
    exact isN_nI (by omega) (by omega) (by decide)
  · intro k hk hk2 hl
    have g2 : upd (upd (upd (upd (upd f (67 + n) a) (73 + n) b) (79 + n) c) (85 + n) 0) 2 (f 2 + 1) 2 = nI (n + 1) := by rw [pk_us, hn, nI_1]
    have lvk : lv (upd (upd (upd (upd f (67 + n) a) (73 + n) b) (79 + n) c) (85 + n) 0) k = lv f k := by
      rw [lv_upd (by omega), lv_upd (by omega), lv_upd (by omega), lv_upd (by omega)]
    rw [lvk]
    by_cases hr : 67 ≤ k ∧ k < 91
    · unfold lv at hl
      rw [g2, Nn_nI (by omega)] at hl
      have hlt : (k - 67) % 6 < n + 1 := by omega
      by_cases hq : (k - 67) % 6 = n
      · right
        refine ⟨?_, by rw [okv_r67 _ _ hr.1 hr.2]; trivial⟩
        rw [hF]
        unfold upd
        by_cases k4 : k = 85 + n
        · rw [if_pos k4, if_pos k4]
        by_cases k3 : k = 79 + n
        · rw [if_neg k4, if_neg k4, if_pos k3, if_pos k3]
        by_cases k2 : k = 73 + n
        · rw [if_neg k4, if_neg k4, if_neg k3, if_neg k3, if_pos k2, if_pos k2]
        by_cases k1 : k = 67 + n
        · rw [if_neg k4, if_neg k4, if_neg k3, if_neg k3, if_neg k2, if_neg k2, if_pos k1, if_pos k1]
        omega
      · left
        unfold lv
        rw [e2]
        right; left
        omega
    · left
      unfold lv at hl ⊢
      rw [pk_un (f := upd (upd (upd (upd f (67 + n) a) (73 + n) b) (79 + n) c) (85 + n) 0) (k := 2) (j := 3) (by omega), pk_un (f := upd (upd (upd (upd f (67 + n) a) (73 + n) b) (79 + n) c) (85 + n) 0) (k := 2) (j := 4) (by omega), pk_un (f := upd (upd (upd (upd f (67 + n) a) (73 + n) b) (79 + n) c) (85 + n) 0) (k := 2) (j := 6) (by omega), pk_un (f := upd (upd (upd (upd f (67 + n) a) (73 + n) b) (79 + n) c) (85 + n) 0) (k := 2) (j := 7) (by omega)] at hl
      have u : ∀ j, j < 8 → upd (upd (upd (upd f (67 + n) a) (73 + n) b) (79 + n) c) (85 + n) 0 j = f j := fun j hj => by rw [pk_un (by omega), pk_un (by omega), pk_un (by omega), pk_un (by omega)]
      rw [u 3 (by omega), u 4 (by omega), u 6 (by omega), u 7 (by omega)] at hl
      rcases hl with v | ⟨v1, v2, v3⟩ | ⟨v1, v2, v3⟩ | ⟨v1, v2, v3⟩ | ⟨v1, v2, v3⟩ | ⟨v1, v2, v3⟩
      · exact Or.inl v
      · exact Or.inr (Or.inl ⟨v1, v2, by omega⟩)
      · exact Or.inr (Or.inr (Or.inl ⟨v1, v2, by omega⟩))
      · exact Or.inr (Or.inr (Or.inr (Or.inl ⟨v1, v2, by omega⟩)))
      · exact Or.inr (Or.inr (Or.inr (Or.inr (Or.inl ⟨v1, v2, by omega⟩))))
      · exact Or.inr (Or.inr (Or.inr (Or.inr (Or.inr ⟨v1, v2, by omega⟩))))
theorem RS_lift {s : TS} {t : TT} {l : TL} {f : Nat → Int32} (h : RS s t l f) {a b c : Int32} (ha : plc (Nn (f 0)) a) (hb : plc (Nn (f 0)) b) (hc : isN c 1 9) {n : Nat} (hn : f 3 = nI n) (h6 : n < 10) : RS s t (p_lcount (p_times (p_tos (p_froms l ((q_froms l).set n a)) ((q_tos l).set n b)) ((q_times l).set n c)) (f 3 + 1)) (upd (upd (upd (upd f (91 + n) a) (101 + n) b) (111 + n) c) 3 (f 3 + 1)) := by
  have e2 : Nn (f 3) = n := by rw [hn]; exact Nn_nI (by omega)
  have h1 := RS_upd h (j := 91 + n) (x := a) (Or.inl (by omega)) (LSe_set_froms h.1 n a) (flset_froms s t l a h6 (LSe_froms h.1)) (fun _ => by rw [okv_r91 _ _ (by omega) (by omega)]; exact ha)
  have h2 := RS_upd h1 (j := 101 + n) (x := b) (Or.inl (by omega)) (LSe_set_tos h1.1 n b) (flset_tos s t _ b h6 (LSe_tos h1.1)) (fun _ => by rw [okv_r91 _ _ (by omega) (by omega), pk_un (by omega)]; exact hb)
  have h3 := RS_upd h2 (j := 111 + n) (x := c) (Or.inl (by omega)) (LSe_set_times h2.1 n c) (flset_times s t _ c h6 (LSe_times h2.1)) (fun _ => by rw [okv_r111 _ _ (by omega) (by omega)]; exact hc)
  have hF : fl s t (p_times (p_tos (p_froms l ((q_froms l).set n a)) ((q_tos l).set n b)) ((q_times l).set n c)) = upd (upd (upd (fl s t l) (91 + n) a) (101 + n) b) (111 + n) c := by
    rw [← flset_froms s t l a h6 (LSe_froms h.1), ← flset_tos s t _ b h6 (LSe_tos h1.1), ← flset_times s t _ c h6 (LSe_times h2.1)]
  have u : ∀ j, j < 8 → upd (upd (upd f (91 + n) a) (101 + n) b) (111 + n) c j = f j := fun j hj => by rw [pk_un (by omega), pk_un (by omega), pk_un (by omega)]
  refine RS_cnt h3 (j := 3) (by omega) (by omega) h3.1 (flset_lcount s t _ _) ?_ ?_
  · rw [okv_3, hn, nI_1]
    exact isN_nI (by omega) (by omega) (by decide)
  · intro k hk hk2 hl
    have g2 : upd (upd (upd (upd f (91 + n) a) (101 + n) b) (111 + n) c) 3 (f 3 + 1) 3 = nI (n + 1) := by rw [pk_us, hn, nI_1]
    have lvk : lv (upd (upd (upd f (91 + n) a) (101 + n) b) (111 + n) c) k = lv f k := by
      rw [lv_upd (by omega), lv_upd (by omega), lv_upd (by omega)]
    rw [lvk]
    by_cases hr : 91 ≤ k ∧ k < 121
    · unfold lv at hl
      rw [g2, Nn_nI (by omega)] at hl
      have hlt : (k - 91) % 10 < n + 1 := by omega
      by_cases hq : (k - 91) % 10 = n
      · right
        rw [hF, u 0 (by omega)]
        unfold upd
        by_cases k3 : k = 111 + n
        · rw [if_pos k3, if_pos k3]
          exact ⟨rfl, by rw [okv_r111 _ _ (by omega) (by omega)]; exact hc⟩
        by_cases k2 : k = 101 + n
        · rw [if_neg k3, if_neg k3, if_pos k2, if_pos k2]
          exact ⟨rfl, by rw [okv_r91 _ _ (by omega) (by omega)]; exact hb⟩
        by_cases k1 : k = 91 + n
        · rw [if_neg k3, if_neg k3, if_neg k2, if_neg k2, if_pos k1, if_pos k1]
          exact ⟨rfl, by rw [okv_r91 _ _ (by omega) (by omega)]; exact ha⟩
        omega
      · left
        unfold lv
        rw [e2]
        right; right; left
        omega
    · left
      unfold lv at hl ⊢
      rw [pk_un (f := upd (upd (upd f (91 + n) a) (101 + n) b) (111 + n) c) (k := 3) (j := 2) (by omega), pk_un (f := upd (upd (upd f (91 + n) a) (101 + n) b) (111 + n) c) (k := 3) (j := 4) (by omega), pk_un (f := upd (upd (upd f (91 + n) a) (101 + n) b) (111 + n) c) (k := 3) (j := 6) (by omega), pk_un (f := upd (upd (upd f (91 + n) a) (101 + n) b) (111 + n) c) (k := 3) (j := 7) (by omega)] at hl
      rw [u 2 (by omega), u 4 (by omega), u 6 (by omega), u 7 (by omega)] at hl
      rcases hl with v | ⟨v1, v2, v3⟩ | ⟨v1, v2, v3⟩ | ⟨v1, v2, v3⟩ | ⟨v1, v2, v3⟩ | ⟨v1, v2, v3⟩
      · exact Or.inl v
      · exact Or.inr (Or.inl ⟨v1, v2, by omega⟩)
      · exact Or.inr (Or.inr (Or.inl ⟨v1, v2, by omega⟩))
      · exact Or.inr (Or.inr (Or.inr (Or.inl ⟨v1, v2, by omega⟩)))
      · exact Or.inr (Or.inr (Or.inr (Or.inr (Or.inl ⟨v1, v2, by omega⟩))))
      · exact Or.inr (Or.inr (Or.inr (Or.inr (Or.inr ⟨v1, v2, by omega⟩))))
theorem RS_town {s : TS} {t : TT} {l : TL} {f : Nat → Int32} (h : RS s t l f) {p : Int32} (hp : plc (Nn (f 0)) p) {n : Nat} (hn : f 4 = nI n) (h6 : n < 6) : RS (p_towns (p_townPlaces s ((q_townPlaces s).set n p)) (f 4 + 1)) t l (upd (upd f (121 + n) p) 4 (f 4 + 1)) := by
  have e2 : Nn (f 4) = n := by rw [hn]; exact Nn_nI (by omega)
  have h1 := RS_upd h (j := 121 + n) (x := p) (Or.inl (by omega)) (LSe_set_townPlaces h.1 n p) (flset_townPlaces s t l p h6 (LSe_townPlaces h.1)) (fun _ => by rw [okv_r121 _ _ (by omega) (by omega)]; exact hp)
  have hF : fl (p_townPlaces s ((q_townPlaces s).set n p)) t l = upd (fl s t l) (121 + n) p := flset_townPlaces s t l p h6 (LSe_townPlaces h.1)
  have u : ∀ j, j < 8 → upd f (121 + n) p j = f j := fun j hj => by rw [pk_un (by omega)]
  refine RS_cnt h1 (j := 4) (by omega) (by omega) h1.1 (flset_towns _ t l _) ?_ ?_
  · rw [okv_4, hn, nI_1]
    exact isN_nI (by omega) (by omega) (by decide)
  · intro k hk hk2 hl
    have g2 : upd (upd f (121 + n) p) 4 (f 4 + 1) 4 = nI (n + 1) := by rw [pk_us, hn, nI_1]
    rw [lv_upd (by omega)]
    by_cases hr : 121 ≤ k ∧ k < 127
    · unfold lv at hl
      rw [g2, Nn_nI (by omega)] at hl
      by_cases hq : k = 121 + n
      · right
        rw [hF, u 0 (by omega)]
        unfold upd
        rw [if_pos hq, if_pos hq]
        exact ⟨rfl, by rw [okv_r121 _ _ (by omega) (by omega)]; exact hp⟩
      · left
        unfold lv
        rw [e2]
        omega
    · left
      unfold lv at hl ⊢
      rw [pk_un (f := upd f (121 + n) p) (k := 4) (j := 2) (by omega), pk_un (f := upd f (121 + n) p) (k := 4) (j := 3) (by omega), pk_un (f := upd f (121 + n) p) (k := 4) (j := 6) (by omega), pk_un (f := upd f (121 + n) p) (k := 4) (j := 7) (by omega)] at hl
      rw [u 2 (by omega), u 3 (by omega), u 6 (by omega), u 7 (by omega)] at hl
      rcases hl with v | ⟨v1, v2, v3⟩ | ⟨v1, v2, v3⟩ | ⟨v1, v2, v3⟩ | ⟨v1, v2, v3⟩ | ⟨v1, v2, v3⟩
      · exact Or.inl v
      · exact Or.inr (Or.inl ⟨v1, v2, by omega⟩)
      · exact Or.inr (Or.inr (Or.inl ⟨v1, v2, by omega⟩))
      · exact Or.inr (Or.inr (Or.inr (Or.inl ⟨v1, v2, by omega⟩)))
      · exact Or.inr (Or.inr (Or.inr (Or.inr (Or.inl ⟨v1, v2, by omega⟩))))
      · exact Or.inr (Or.inr (Or.inr (Or.inr (Or.inr ⟨v1, v2, by omega⟩))))
theorem hasCell_1 (x : Int32) (w : WX) : Fsea_hasCell_1 x w = some (if C_cell (a_s1_cells w) x then 1 else 0, w) := by
  unfold Fsea_hasCell_1
  rw [Ff_within_eq, bd_some, ifz2]
theorem hasPlace_1 (x : Int32) (w : WX) : Fsea_hasPlace_1 x w = some (if C_pl (a_s1_cells w) x then 1 else 0, w) := by
  unfold Fsea_hasPlace_1
  by_cases h1 : x < 0
  · rw [if_pos h1, if_neg (fun h => h.1 h1)]
  · rw [if_neg h1, hasCell_1, bd_some]
    simp only [ifz]
    by_cases h2 : C_cell (a_s1_cells w) (x / 10)
    · rw [if_pos h2, Ff_isLayer_eq, bd_some, ifz]
      by_cases h3 : C_lay (x - x / 10 * 10)
      · rw [if_pos h3, if_pos ⟨h1, h2, h3⟩]
      · rw [if_neg h3, if_neg (fun h => h3 h.2.2)]
    · rw [if_neg h2, if_neg (fun h => h2 h.2.1)]
section XOP1
variable {w : WX} {f : Nat → Int32}
theorem X1_thick (h : RS w.2.1 w.2.2.1 w.2.2.2.1 f) (a b c : Int32) : ∃ s t l, Fsea_putThick_1 a b c w = some ((A_thick a b c f).1, X1 w s t l) ∧ RS s t l (A_thick a b c f).2 := by
  have e0 : a_s1_cells w = f 0 := h.k (k := 0) (by omega)
  unfold A_thick
  simp only [Fsea_putThick_1, Ff_isLayer_eq, hasCell_1, Ff_within_eq, bd_some, ifz]
  rw [e0]
  by_cases h1 : C_lay a
  · simp only [if_pos h1]
    by_cases h2 : C_cell (f 0) b
    · simp only [if_pos h2]
      by_cases h3 : 0 ≤ c ∧ c ≤ 9
      · simp only [if_pos h3]
        obtain ⟨j, hj, rfl⟩ := lay_N h1
        obtain ⟨k, hk, rfl⟩ := cell_N h.c0 (by decide) h2
        have h6 := h.c0.2.1
        rw [Nn_nI (by omega), Nn_nI (by omega)]
        have e1 : nI j * 6 + nI k = nI (6 * j + k) := by rw [show (6 : Int32) = nI 6 from rfl, pk_mul, nI_add, Nat.mul_comm]
        have hL : (a_s1_thicks w).length = 24 := LSe_thicks h.1
        rw [ix_e (l := a_s1_thicks w) (6 * j + k) e1 (by omega) (by omega), bd_some, up_e (l := a_s1_thicks w) c (6 * j + k) e1 (by omega) (by omega), bd_some]
        refine ⟨p_thicks w.2.1 ((q_thicks w.2.1).set (6 * j + k) c), w.2.2.1, w.2.2.2.1, ?_, RS_upd h (Or.inl (by omega)) (LSe_set_thicks h.1 _ _) (flset_thicks _ _ _ _ (by omega) hL) (fun _ => by rw [okv_r40 _ _ (by omega) (by omega)]; exact isN_of rfl h3 (by decide))⟩
        rw [← h.thicks (by omega)]
        rfl
      · simp only [if_neg h3]; exact ⟨_, _, _, rfl, h⟩
    · simp only [if_neg h2]; exact ⟨_, _, _, rfl, h⟩
  · simp only [if_neg h1]; exact ⟨_, _, _, rfl, h⟩
theorem X1_skin (h : RS w.2.1 w.2.2.1 w.2.2.2.1 f) (a c : Int32) : ∃ s t l, Fsea_putSkin_1 a c w = some ((A_skin a c f).1, X1 w s t l) ∧ RS s t l (A_skin a c f).2 := by
  unfold A_skin
  simp only [Fsea_putSkin_1, Ff_within_eq, bd_some, ifz]
  by_cases h1 : 0 ≤ a ∧ a ≤ 2
  · simp only [if_pos h1]
    by_cases h3 : 0 ≤ c ∧ c ≤ 99
    · simp only [if_pos h3]
      obtain ⟨j, hj, rfl⟩ := in0 2 rfl h1
      rw [Nn_nI (by omega)]
      have hL : (a_s1_skins w).length = 3 := LSe_skins h.1
      rw [ix_e (l := a_s1_skins w) j rfl (by omega) (by omega), bd_some, up_e (l := a_s1_skins w) c j rfl (by omega) (by omega), bd_some]
      refine ⟨p_skins w.2.1 ((q_skins w.2.1).set j c), w.2.2.1, w.2.2.2.1, ?_, RS_upd h (Or.inl (by omega)) (LSe_set_skins h.1 _ _) (flset_skins _ _ _ _ (by omega) hL) (fun _ => by rw [okv_r64 _ _ (by omega) (by omega)]; exact isN_of rfl h3 (by decide))⟩
      rw [← h.skins (by omega)]
      rfl
    · simp only [if_neg h3]; exact ⟨_, _, _, rfl, h⟩
  · simp only [if_neg h1]; exact ⟨_, _, _, rfl, h⟩
theorem X1_water (h : RS w.2.1 w.2.2.1 w.2.2.2.1 f) (a d : Int32) : ∃ s t l, Fsea_putDensity_1 a d w = some ((A_water a d f).1, X1 w s t l) ∧ RS s t l (A_water a d f).2 := by
  unfold A_water
  simp only [Fsea_putDensity_1, Ff_isLayer_eq, Ff_within_eq, bd_some, ifz]
  by_cases h1 : C_lay a
  · simp only [if_pos h1]
    by_cases h2 : 1 ≤ d ∧ d ≤ 99
    · simp only [if_pos h2]
      obtain ⟨j, hj, rfl⟩ := lay_N h1
      have e0 : Nn (nI j) = j := Nn_nI (by omega)
      rw [e0]
      have hL : (a_s1_densities w).length = 4 := LSe_dens h.1
      have hd : ∀ i, i < 4 → (a_s1_densities w).getD i 0 = f (8 + i) := fun i hi => h.dens hi
      have hok : okv (Nn (f 0)) (8 + j) d := by
        rw [okv_r8 _ _ (by omega) (by omega)]
        have := isN_of1 (L := 1) (M := 99) (a := 1) (n := 99) rfl rfl h2 (by decide)
        exact ⟨by omega, this.2.1, this.2.2⟩
      have hnew : RS (p_dens w.2.1 ((q_dens w.2.1).set j d)) w.2.2.1 w.2.2.2.1 (upd f (8 + j) d) := RS_upd h (Or.inl (by omega)) (LSe_set_dens h.1 _ _) (flset_dens _ _ _ _ (by omega) hL) (fun _ => hok)
      have hyes : ∃ s t l, some (f (8 + j), (u_s1_densities w ((a_s1_densities w).set j d))) = some (f (8 + j), X1 w s t l) ∧ RS s t l (upd f (8 + j) d) := ⟨_, _, _, rfl, hnew⟩
      rw [ix_e (l := a_s1_densities w) (i := nI j) j rfl (by omega) (by omega), up_e (l := a_s1_densities w) (i := nI j) d j rfl (by omega) (by omega)]
      simp only [bd_some]
      rw [hd j (by omega)]
      by_cases j0 : j = 0
      · subst j0
        rw [if_pos (show nI 0 = 0 from rfl), if_neg (show ¬ nI 0 = 3 by decide), ix_e (l := a_s1_densities w) (i := nI 0 + 1) 1 rfl (by omega) (by omega), bd_some, hd 1 (by omega)]
        by_cases h3 : f (8 + 1) ≤ d
        · rw [if_pos h3, if_neg (fun q => by rcases q.2 with q | q; · omega
                                             · exact absurd q (Int32.not_lt.mpr h3))]
          exact ⟨_, _, _, rfl, h⟩
        · rw [if_neg h3, if_pos ⟨Or.inl rfl, Or.inr (Int32.not_le.mp h3)⟩]
          exact hyes
      · rw [if_neg (show ¬ nI j = 0 from nI_ne0 (by omega) (by omega)), ix_e (l := a_s1_densities w) (i := nI j - 1) (j - 1) (pk_sub (a := j) (b := 1) (by omega)) (by omega) (by omega), bd_some, hd (j - 1) (by omega)]
        by_cases h4 : d ≤ f (8 + (j - 1))
        · have hno : ¬ ((j = 0 ∨ f (8 + (j - 1)) < d) ∧ (j = 3 ∨ d < f (8 + (j + 1)))) := by
            intro q
            rcases q.1 with q | q
            · omega
            · exact absurd q (Int32.not_lt.mpr h4)
          rw [if_pos h4, if_neg hno]
          by_cases j3 : j = 3
          · subst j3
            rw [if_pos (show nI 3 = 3 from rfl)]
            exact ⟨_, _, _, rfl, h⟩
          · rw [if_neg (show ¬ nI j = 3 from fun q => j3 ((nI_eq (by omega) (by decide)).mp q)), ix_e (l := a_s1_densities w) (i := nI j + 1) (j + 1) (nI_1 j) (by omega) (by omega), bd_some]
            by_cases h3 : (a_s1_densities w).getD (j + 1) 0 ≤ d
            · rw [if_pos h3]; exact ⟨_, _, _, rfl, h⟩
            · rw [if_neg h3]; exact ⟨_, _, _, rfl, h⟩
        · rw [if_neg h4]
          by_cases j3 : j = 3
          · subst j3
            rw [if_pos (show nI 3 = 3 from rfl), if_pos ⟨Or.inr (Int32.not_le.mp h4), Or.inl rfl⟩]
            exact hyes
          · rw [if_neg (show ¬ nI j = 3 from fun q => j3 ((nI_eq (by omega) (by decide)).mp q)), ix_e (l := a_s1_densities w) (i := nI j + 1) (j + 1) (nI_1 j) (by omega) (by omega), bd_some, hd (j + 1) (by omega)]
            by_cases h3 : f (8 + (j + 1)) ≤ d
            · rw [if_pos h3, if_neg (fun q => by rcases q.2 with q | q; · omega
                                                 · exact absurd q (Int32.not_lt.mpr h3))]
              exact ⟨_, _, _, rfl, h⟩
            · rw [if_neg h3, if_pos ⟨Or.inr (Int32.not_le.mp h4), Or.inr (Int32.not_le.mp h3)⟩]
              exact hyes
    · simp only [if_neg h2]; exact ⟨_, _, _, rfl, h⟩
  · simp only [if_neg h1]; exact ⟨_, _, _, rfl, h⟩
theorem X1_thing (h : RS w.2.1 w.2.2.1 w.2.2.2.1 f) (a b c : Int32) : ∃ s t l, Fthg_add_7 a b c w = some ((A_thing a b c f).1, X1 w s t l) ∧ RS s t l (A_thing a b c f).2 := by
  have e0 : a_s1things_count w = f 2 := h.k (k := 2) (by omega)
  unfold A_thing
  simp only [Fthg_add_7, Ff_within_eq, bd_some, ifz]
  rw [e0]
  by_cases c1 : 0 ≤ a ∧ a ≤ 5
  · simp only [if_pos c1]
    by_cases c2 : 1 ≤ b ∧ b ≤ 99
    · simp only [if_pos c2]
      by_cases c3 : 1 ≤ c ∧ c ≤ 9
      · simp only [if_pos c3]
        have h2 := h.c2
        have e2 := h2.2.2
        have e3 := h2.2.1
        generalize hn : Nn (f 2) = n at *
        by_cases c4 : n = 6
        · rw [if_neg (by rw [e2, c4]; decide), if_pos c4]
          exact ⟨_, _, _, rfl, h⟩
        · rw [if_pos (show f 2 < 6 by rw [e2]; exact nI_lt (b := 6) (by omega) (by decide)), if_neg c4]
          have l1 : (a_s1things_kinds w).length = 6 := LSe_kinds h.1
          have l2 : (a_s1things_weights w).length = 6 := LSe_weights h.1
          have l3 : (a_s1things_volumes w).length = 6 := LSe_volumes h.1
          have l4 : (a_s1things_ballasts w).length = 6 := LSe_ballasts h.1
          rw [up_e (l := a_s1things_kinds w) a n e2 (by omega) (by omega), bd_some, up_e (l := a_s1things_weights w) b n e2 (by omega) (by omega), bd_some, up_e (l := a_s1things_volumes w) c n e2 (by omega) (by omega), bd_some, up_e (l := a_s1things_ballasts w) 0 n e2 (by omega) (by omega), bd_some]
          exact ⟨_, _, _, rfl, RS_thing h a b c e2 (by omega)⟩
      · simp only [if_neg c3]; exact ⟨_, _, _, rfl, h⟩
    · simp only [if_neg c2]; exact ⟨_, _, _, rfl, h⟩
  · simp only [if_neg c1]; exact ⟨_, _, _, rfl, h⟩
theorem X1_lift (h : RS w.2.1 w.2.2.1 w.2.2.2.1 f) (a b c : Int32) : ∃ s t l, Fsea_addLift_1 a b c w = some ((A_lift a b c f).1, X1 w s t l) ∧ RS s t l (A_lift a b c f).2 := by
  have e0 : a_s1_cells w = f 0 := h.k (k := 0) (by omega)
  have e1 : a_s1lifts_count w = f 3 := h.k (k := 3) (by omega)
  unfold A_lift
  simp only [Fsea_addLift_1, hasPlace_1, Ff_within_eq, bd_some, ifz]
  rw [e0]
  by_cases c1 : C_pl (f 0) a
  · simp only [if_pos c1]
    by_cases c2 : C_pl (f 0) b
    · simp only [if_pos c2]
      by_cases c0 : a = b
      · simp only [if_pos c0]; exact ⟨_, _, _, rfl, h⟩
      simp only [if_neg c0]
      by_cases c3 : 1 ≤ c ∧ c ≤ 9
      · simp only [if_pos c3, Flift_add_12]
        rw [e1]
        have h2 := h.c3
        have e2 := h2.2.2
        have e3 := h2.2.1
        generalize hn : Nn (f 3) = n at *
        by_cases c4 : n = 10
        · rw [if_neg (by rw [e2, c4]; decide), if_pos c4]
          exact ⟨_, _, _, rfl, h⟩
        · rw [if_pos (show f 3 < 10 by rw [e2]; exact nI_lt (b := 10) (by omega) (by decide)), if_neg c4]
          have l1 : (a_s1lifts_froms w).length = 10 := LSe_froms h.1
          have l2 : (a_s1lifts_tos w).length = 10 := LSe_tos h.1
          have l3 : (a_s1lifts_times w).length = 10 := LSe_times h.1
          rw [up_e (l := a_s1lifts_froms w) a n e2 (by omega) (by omega), bd_some, up_e (l := a_s1lifts_tos w) b n e2 (by omega) (by omega), bd_some, up_e (l := a_s1lifts_times w) c n e2 (by omega) (by omega), bd_some]
          exact ⟨_, _, _, rfl, RS_lift h (pl_N h.c0 (by decide) c1) (pl_N h.c0 (by decide) c2) (isN_of1 (L := 1) (M := 9) (a := 1) (n := 9) rfl rfl c3 (by decide)) e2 (by omega)⟩
      · simp only [if_neg c3]; exact ⟨_, _, _, rfl, h⟩
    · simp only [if_neg c2]; exact ⟨_, _, _, rfl, h⟩
  · simp only [if_neg c1]; exact ⟨_, _, _, rfl, h⟩
theorem X1_townG (h : RS w.2.1 w.2.2.1 w.2.2.2.1 f) {p : Int32} (hp : plc (Nn (f 0)) p) : ∀ (d e n : Nat), e + d = Nn (f 4) → d < n → (∀ i, i < e → ¬ f (121 + i) = p) → ∃ s t l, Gsea_addTown_1 n 0 p (nI e) w = some ((if twn f p (Nn (f 4)) = true then (-3, f) else if Nn (f 4) = 6 then (-4, f) else (f 4, upd (upd f (121 + Nn (f 4)) p) 4 (f 4 + 1)) : Int32 × (Nat → Int32)).1, X1 w s t l) ∧ RS s t l (if twn f p (Nn (f 4)) = true then (-3, f) else if Nn (f 4) = 6 then (-4, f) else (f 4, upd (upd f (121 + Nn (f 4)) p) 4 (f 4 + 1)) : Int32 × (Nat → Int32)).2 := by
  have e1 : a_s1_towns w = f 4 := h.k (k := 4) (by omega)
  have h4 := h.c4
  have e2 := h4.2.2
  have e3 := h4.2.1
  have l1 : (a_s1_townPlaces w).length = 6 := LSe_townPlaces h.1
  have hg : ∀ i, i < Nn (f 4) → (a_s1_townPlaces w).getD i 0 = f (121 + i) := fun i hi => by
    have q := h.2.1 (121 + i) (by omega) (Or.inr (Or.inr (Or.inr (Or.inl ⟨by omega, by omega, by omega⟩))))
    rw [fl_townPlaces _ _ _ (by omega)] at q
    exact q
  generalize hn : Nn (f 4) = t at *
  intro d
  induction d with
  | zero =>
    intro e n he hn2 hi
    obtain ⟨n, rfl⟩ : ∃ k, n = k + 1 := ⟨n - 1, by omega⟩
    have he : e = t := by omega
    subst he
    have ht : ¬ twn f p e = true := fun q => by
      obtain ⟨i, h1, h2⟩ := twn_iff.mp q
      exact hi i h1 h2
    rw [Gsea_addTown_1, e1, if_pos (by rw [e2]; exact Int32.le_refl _), if_neg ht]
    by_cases c4 : e = 6
    · rw [if_neg (show ¬ f 4 < 6 by rw [e2, c4]; decide), if_pos c4]
      exact ⟨_, _, _, rfl, h⟩
    · rw [if_pos (show f 4 < 6 by rw [e2]; exact nI_lt (b := 6) (by omega) (by decide)), if_neg c4]
      rw [up_e (l := a_s1_townPlaces w) p e e2 (by omega) (by omega), bd_some]
      exact ⟨_, _, _, rfl, RS_town h hp e2 (by omega)⟩
  | succ d ih =>
    intro e n he hn2 hi
    obtain ⟨n, rfl⟩ : ∃ k, n = k + 1 := ⟨n - 1, by omega⟩
    rw [Gsea_addTown_1, e1, if_neg (show ¬ f 4 ≤ nI e by rw [e2]; exact nI_ge (by omega) (by omega)), ix_e (l := a_s1_townPlaces w) e rfl (by omega) (by omega), bd_some, hg e (by omega)]
    by_cases hq : f (121 + e) = p
    · have ht : twn f p t = true := twn_iff.mpr ⟨e, by omega, hq⟩
      rw [if_pos hq, if_pos ht]
      exact ⟨_, _, _, rfl, h⟩
    · rw [if_neg hq, nI_1]
      exact ih (e + 1) n (by omega) (by omega) (fun i h => by
        by_cases q : i = e
        · rw [q]; exact hq
        · exact hi i (by omega))
theorem X1_town {n : Nat} (hn : 7 ≤ n) (h : RS w.2.1 w.2.2.1 w.2.2.2.1 f) (p : Int32) : ∃ s t l, Fsea_addTown_1 n p w = some ((A_town p f).1, X1 w s t l) ∧ RS s t l (A_town p f).2 := by
  have e0 : a_s1_cells w = f 0 := h.k (k := 0) (by omega)
  unfold A_town
  simp only [Fsea_addTown_1, hasPlace_1, bd_some, ifz]
  rw [e0]
  by_cases c1 : C_pl (f 0) p
  · simp only [if_pos c1]
    have h5 := h.c4.2.1
    exact X1_townG h (pl_N h.c0 (by decide) c1) (Nn (f 4)) 0 n (by omega) (by omega) (fun i h => absurd h (by omega))
  · simp only [if_neg c1]; exact ⟨_, _, _, rfl, h⟩
theorem X1_dam (h : RS w.2.1 w.2.2.1 w.2.2.2.1 f) (k b : Int32) (hb : b = 0 ∨ b = 1) : ∃ s t l, Fsea_putDam_1 k b w = some ((A_dam k b f).1, X1 w s t l) ∧ RS s t l (A_dam k b f).2 := by
  have e0 : a_s1_cells w = f 0 := h.k (k := 0) (by omega)
  have e5 : a_s1_dams w = f 5 := h.k (k := 5) (by omega)
  have hyes : ∃ s t l, some ((1 : Int32), (u_s1_dams w (f 5 ^^^ (1 <<< (k &&& 31))))) = some ((1 : Int32), X1 w s t l) ∧ RS s t l (upd f 5 (f 5 ^^^ (1 <<< (k &&& 31)))) := ⟨_, _, _, rfl, RS_upd h (Or.inr (Or.inr rfl)) h.1 (flset_dams _ _ _ _) (fun _ => trivial)⟩
  unfold A_dam
  simp only [Fsea_putDam_1, Ff_within_eq, bd_some, ifz]
  rw [e0, e5]
  by_cases c1 : 0 ≤ k ∧ k ≤ f 0 - 2
  · simp only [if_pos c1]
    rcases hb with rfl | rfl
    · rw [if_pos rfl]
      by_cases c2 : C_bit (f 5) k
      · rw [if_neg (show ¬ ((f 5 >>> (k &&& 31)) &&& 1) = 0 by rw [c2]; decide)]
        simp only [if_pos c2]
        rw [if_neg (by decide)]
        exact hyes
      · have c3 : ((f 5 >>> (k &&& 31)) &&& 1) = 0 := by
          rcases and1 (f 5 >>> (k &&& 31)) with q | q
          · exact q
          · exact absurd q c2
        rw [if_pos c3]
        simp only [if_neg c2]
        exact ⟨_, _, _, rfl, h⟩
    · rw [if_neg (show ¬ (1 : Int32) = 0 by decide)]
      by_cases c2 : C_bit (f 5) k
      · rw [if_pos c2]
        simp only [if_pos c2]
        exact ⟨_, _, _, rfl, h⟩
      · rw [if_neg c2]
        simp only [if_neg c2]
        rw [if_neg (by decide)]
        exact hyes
  · simp only [if_neg c1]; exact ⟨_, _, _, rfl, h⟩
theorem X1_sea0 {n : Nat} (hn : 25 ≤ n) (hL : LSe w.2.1 w.2.2.1 w.2.2.2.1) (x : Int32) (hx : 1 ≤ x ∧ x ≤ 6) : Fsea_startAnew_1 n x w = some (a_s1_cells w, X1 w (bS w.2.1 x) (p_tcount w.2.2.1 0) (p_lcount w.2.2.2.1 0)) := by
  unfold Fsea_startAnew_1
  rw [Ff_within_eq, bd_some, ifz, if_pos hx, cpy_all (f := [10, 13, 16, 20]) (g := a_s1_densities w) (n := 4) 4 rfl (by decide) rfl (LSe_dens hL), bd_some]
  have k1 : (a_s1_currents w).length = 4 := LSe_cur hL
  have k2 : (a_s1_tides w).length = 24 := LSe_tides hL
  have k3 : (a_s1_thicks w).length = 24 := LSe_thicks hL
  have k4 : (a_s1_skins w).length = 3 := LSe_skins hL
  rw [fill_3 0 (N := 4) (n := n) (by decide) (by omega) (w := (u_s1_densities (u_s1_dams (u_s1_hour (u_s1_cells w x) 0) 0) [10, 13, 16, 20])) k1, bd_some]
  rw [fill_4 0 (N := 24) (n := n) (by decide) (by omega) (w := (u_s1_currents (u_s1_densities (u_s1_dams (u_s1_hour (u_s1_cells w x) 0) 0) [10, 13, 16, 20]) (List.replicate 4 0))) k2, bd_some]
  rw [fill_5 3 (N := 24) (n := n) (by decide) (by omega) (w := (u_s1_tides (u_s1_currents (u_s1_densities (u_s1_dams (u_s1_hour (u_s1_cells w x) 0) 0) [10, 13, 16, 20]) (List.replicate 4 0)) (List.replicate 24 0))) k3, bd_some]
  rw [fill_6 0 (N := 3) (n := n) (by decide) (by omega) (w := (u_s1_thicks (u_s1_tides (u_s1_currents (u_s1_densities (u_s1_dams (u_s1_hour (u_s1_cells w x) 0) 0) [10, 13, 16, 20]) (List.replicate 4 0)) (List.replicate 24 0)) (List.replicate 24 3))) k4, bd_some]
  rfl
theorem X1_sea {n : Nat} (hn : 25 ≤ n) (h : RS w.2.1 w.2.2.1 w.2.2.2.1 f) (x : Int32) : ∃ s t l, Fsea_startAnew_1 n x w = some ((A_sea x f).1, X1 w s t l) ∧ RS s t l (A_sea x f).2 := by
  have e0 : a_s1_cells w = f 0 := h.k (k := 0) (by omega)
  unfold A_sea
  by_cases c : 1 ≤ x ∧ x ≤ 6
  · rw [if_pos c, X1_sea0 hn h.1 x c, e0]
    exact ⟨_, _, _, rfl, RS_beg h.1 (isN_of1 (L := 1) (M := 6) (a := 1) (n := 6) rfl rfl c (by decide))⟩
  · rw [if_neg c]
    unfold Fsea_startAnew_1
    rw [Ff_within_eq, bd_some, ifz, if_neg c]
    exact ⟨_, _, _, rfl, h⟩
end XOP1
theorem hasCell_20 (x : Int32) (w : WX) : Fsea_hasCell_20 x w = some (if C_cell (a_s2_cells w) x then 1 else 0, w) := by
  unfold Fsea_hasCell_20
  rw [Ff_within_eq, bd_some, ifz2]
theorem hasPlace_20 (x : Int32) (w : WX) : Fsea_hasPlace_20 x w = some (if C_pl (a_s2_cells w) x then 1 else 0, w) := by
  unfold Fsea_hasPlace_20
  by_cases h1 : x < 0
  · rw [if_pos h1, if_neg (fun h => h.1 h1)]
  · rw [if_neg h1, hasCell_20, bd_some]
    simp only [ifz]
    by_cases h2 : C_cell (a_s2_cells w) (x / 10)
    · rw [if_pos h2, Ff_isLayer_eq, bd_some, ifz]
      by_cases h3 : C_lay (x - x / 10 * 10)
      · rw [if_pos h3, if_pos ⟨h1, h2, h3⟩]
      · rw [if_neg h3, if_neg (fun h => h3 h.2.2)]
    · rw [if_neg h2, if_neg (fun h => h2 h.2.1)]
section XOP2
variable {w : WX} {f : Nat → Int32}
theorem X2_thick (h : RS w.2.2.2.2.1 w.2.2.2.2.2.1 w.2.2.2.2.2.2.1 f) (a b c : Int32) : ∃ s t l, Fsea_putThick_20 a b c w = some ((A_thick a b c f).1, X2 w s t l) ∧ RS s t l (A_thick a b c f).2 := by
  have e0 : a_s2_cells w = f 0 := h.k (k := 0) (by omega)
  unfold A_thick
  simp only [Fsea_putThick_20, Ff_isLayer_eq, hasCell_20, Ff_within_eq, bd_some, ifz]
  rw [e0]
  by_cases h1 : C_lay a
  · simp only [if_pos h1]
    by_cases h2 : C_cell (f 0) b
    · simp only [if_pos h2]
      by_cases h3 : 0 ≤ c ∧ c ≤ 9
      · simp only [if_pos h3]
        obtain ⟨j, hj, rfl⟩ := lay_N h1
        obtain ⟨k, hk, rfl⟩ := cell_N h.c0 (by decide) h2
        have h6 := h.c0.2.1
        rw [Nn_nI (by omega), Nn_nI (by omega)]
        have e1 : nI j * 6 + nI k = nI (6 * j + k) := by rw [show (6 : Int32) = nI 6 from rfl, pk_mul, nI_add, Nat.mul_comm]
        have hL : (a_s2_thicks w).length = 24 := LSe_thicks h.1
        rw [ix_e (l := a_s2_thicks w) (6 * j + k) e1 (by omega) (by omega), bd_some, up_e (l := a_s2_thicks w) c (6 * j + k) e1 (by omega) (by omega), bd_some]
        refine ⟨p_thicks w.2.2.2.2.1 ((q_thicks w.2.2.2.2.1).set (6 * j + k) c), w.2.2.2.2.2.1, w.2.2.2.2.2.2.1, ?_, RS_upd h (Or.inl (by omega)) (LSe_set_thicks h.1 _ _) (flset_thicks _ _ _ _ (by omega) hL) (fun _ => by rw [okv_r40 _ _ (by omega) (by omega)]; exact isN_of rfl h3 (by decide))⟩
        rw [← h.thicks (by omega)]
        rfl
      · simp only [if_neg h3]; exact ⟨_, _, _, rfl, h⟩
    · simp only [if_neg h2]; exact ⟨_, _, _, rfl, h⟩
  · simp only [if_neg h1]; exact ⟨_, _, _, rfl, h⟩
theorem X2_skin (h : RS w.2.2.2.2.1 w.2.2.2.2.2.1 w.2.2.2.2.2.2.1 f) (a c : Int32) : ∃ s t l, Fsea_putSkin_20 a c w = some ((A_skin a c f).1, X2 w s t l) ∧ RS s t l (A_skin a c f).2 := by
  unfold A_skin
  simp only [Fsea_putSkin_20, Ff_within_eq, bd_some, ifz]
  by_cases h1 : 0 ≤ a ∧ a ≤ 2
  · simp only [if_pos h1]
    by_cases h3 : 0 ≤ c ∧ c ≤ 99
    · simp only [if_pos h3]
      obtain ⟨j, hj, rfl⟩ := in0 2 rfl h1
      rw [Nn_nI (by omega)]
      have hL : (a_s2_skins w).length = 3 := LSe_skins h.1
      rw [ix_e (l := a_s2_skins w) j rfl (by omega) (by omega), bd_some, up_e (l := a_s2_skins w) c j rfl (by omega) (by omega), bd_some]
      refine ⟨p_skins w.2.2.2.2.1 ((q_skins w.2.2.2.2.1).set j c), w.2.2.2.2.2.1, w.2.2.2.2.2.2.1, ?_, RS_upd h (Or.inl (by omega)) (LSe_set_skins h.1 _ _) (flset_skins _ _ _ _ (by omega) hL) (fun _ => by rw [okv_r64 _ _ (by omega) (by omega)]; exact isN_of rfl h3 (by decide))⟩
      rw [← h.skins (by omega)]
      rfl
    · simp only [if_neg h3]; exact ⟨_, _, _, rfl, h⟩
  · simp only [if_neg h1]; exact ⟨_, _, _, rfl, h⟩
theorem X2_water (h : RS w.2.2.2.2.1 w.2.2.2.2.2.1 w.2.2.2.2.2.2.1 f) (a d : Int32) : ∃ s t l, Fsea_putDensity_20 a d w = some ((A_water a d f).1, X2 w s t l) ∧ RS s t l (A_water a d f).2 := by
  unfold A_water
  simp only [Fsea_putDensity_20, Ff_isLayer_eq, Ff_within_eq, bd_some, ifz]
  by_cases h1 : C_lay a
  · simp only [if_pos h1]
    by_cases h2 : 1 ≤ d ∧ d ≤ 99
    · simp only [if_pos h2]
      obtain ⟨j, hj, rfl⟩ := lay_N h1
      have e0 : Nn (nI j) = j := Nn_nI (by omega)
      rw [e0]
      have hL : (a_s2_densities w).length = 4 := LSe_dens h.1
      have hd : ∀ i, i < 4 → (a_s2_densities w).getD i 0 = f (8 + i) := fun i hi => h.dens hi
      have hok : okv (Nn (f 0)) (8 + j) d := by
        rw [okv_r8 _ _ (by omega) (by omega)]
        have := isN_of1 (L := 1) (M := 99) (a := 1) (n := 99) rfl rfl h2 (by decide)
        exact ⟨by omega, this.2.1, this.2.2⟩
      have hnew : RS (p_dens w.2.2.2.2.1 ((q_dens w.2.2.2.2.1).set j d)) w.2.2.2.2.2.1 w.2.2.2.2.2.2.1 (upd f (8 + j) d) := RS_upd h (Or.inl (by omega)) (LSe_set_dens h.1 _ _) (flset_dens _ _ _ _ (by omega) hL) (fun _ => hok)
      have hyes : ∃ s t l, some (f (8 + j), (u_s2_densities w ((a_s2_densities w).set j d))) = some (f (8 + j), X2 w s t l) ∧ RS s t l (upd f (8 + j) d) := ⟨_, _, _, rfl, hnew⟩
      rw [ix_e (l := a_s2_densities w) (i := nI j) j rfl (by omega) (by omega), up_e (l := a_s2_densities w) (i := nI j) d j rfl (by omega) (by omega)]
      simp only [bd_some]
      rw [hd j (by omega)]
      by_cases j0 : j = 0
      · subst j0
        rw [if_pos (show nI 0 = 0 from rfl), if_neg (show ¬ nI 0 = 3 by decide), ix_e (l := a_s2_densities w) (i := nI 0 + 1) 1 rfl (by omega) (by omega), bd_some, hd 1 (by omega)]
        by_cases h3 : f (8 + 1) ≤ d
        · rw [if_pos h3, if_neg (fun q => by rcases q.2 with q | q; · omega
                                             · exact absurd q (Int32.not_lt.mpr h3))]
          exact ⟨_, _, _, rfl, h⟩
        · rw [if_neg h3, if_pos ⟨Or.inl rfl, Or.inr (Int32.not_le.mp h3)⟩]
          exact hyes
      · rw [if_neg (show ¬ nI j = 0 from nI_ne0 (by omega) (by omega)), ix_e (l := a_s2_densities w) (i := nI j - 1) (j - 1) (pk_sub (a := j) (b := 1) (by omega)) (by omega) (by omega), bd_some, hd (j - 1) (by omega)]
        by_cases h4 : d ≤ f (8 + (j - 1))
        · have hno : ¬ ((j = 0 ∨ f (8 + (j - 1)) < d) ∧ (j = 3 ∨ d < f (8 + (j + 1)))) := by
            intro q
            rcases q.1 with q | q
            · omega
            · exact absurd q (Int32.not_lt.mpr h4)
          rw [if_pos h4, if_neg hno]
          by_cases j3 : j = 3
          · subst j3
            rw [if_pos (show nI 3 = 3 from rfl)]
            exact ⟨_, _, _, rfl, h⟩
          · rw [if_neg (show ¬ nI j = 3 from fun q => j3 ((nI_eq (by omega) (by decide)).mp q)), ix_e (l := a_s2_densities w) (i := nI j + 1) (j + 1) (nI_1 j) (by omega) (by omega), bd_some]
            by_cases h3 : (a_s2_densities w).getD (j + 1) 0 ≤ d
            · rw [if_pos h3]; exact ⟨_, _, _, rfl, h⟩
            · rw [if_neg h3]; exact ⟨_, _, _, rfl, h⟩
        · rw [if_neg h4]
          by_cases j3 : j = 3
          · subst j3
            rw [if_pos (show nI 3 = 3 from rfl), if_pos ⟨Or.inr (Int32.not_le.mp h4), Or.inl rfl⟩]
            exact hyes
          · rw [if_neg (show ¬ nI j = 3 from fun q => j3 ((nI_eq (by omega) (by decide)).mp q)), ix_e (l := a_s2_densities w) (i := nI j + 1) (j + 1) (nI_1 j) (by omega) (by omega), bd_some, hd (j + 1) (by omega)]
            by_cases h3 : f (8 + (j + 1)) ≤ d
            · rw [if_pos h3, if_neg (fun q => by rcases q.2 with q | q; · omega
                                                 · exact absurd q (Int32.not_lt.mpr h3))]
              exact ⟨_, _, _, rfl, h⟩
            · rw [if_neg h3, if_pos ⟨Or.inr (Int32.not_le.mp h4), Or.inr (Int32.not_le.mp h3)⟩]
              exact hyes
    · simp only [if_neg h2]; exact ⟨_, _, _, rfl, h⟩
  · simp only [if_neg h1]; exact ⟨_, _, _, rfl, h⟩
theorem X2_thing (h : RS w.2.2.2.2.1 w.2.2.2.2.2.1 w.2.2.2.2.2.2.1 f) (a b c : Int32) : ∃ s t l, Fthg_add_26 a b c w = some ((A_thing a b c f).1, X2 w s t l) ∧ RS s t l (A_thing a b c f).2 := by
  have e0 : a_s2things_count w = f 2 := h.k (k := 2) (by omega)
  unfold A_thing
  simp only [Fthg_add_26, Ff_within_eq, bd_some, ifz]
  rw [e0]
  by_cases c1 : 0 ≤ a ∧ a ≤ 5
  · simp only [if_pos c1]
    by_cases c2 : 1 ≤ b ∧ b ≤ 99
    · simp only [if_pos c2]
      by_cases c3 : 1 ≤ c ∧ c ≤ 9
      · simp only [if_pos c3]
        have h2 := h.c2
        have e2 := h2.2.2
        have e3 := h2.2.1
        generalize hn : Nn (f 2) = n at *
        by_cases c4 : n = 6
        · rw [if_neg (by rw [e2, c4]; decide), if_pos c4]
          exact ⟨_, _, _, rfl, h⟩
        · rw [if_pos (show f 2 < 6 by rw [e2]; exact nI_lt (b := 6) (by omega) (by decide)), if_neg c4]
          have l1 : (a_s2things_kinds w).length = 6 := LSe_kinds h.1
          have l2 : (a_s2things_weights w).length = 6 := LSe_weights h.1
          have l3 : (a_s2things_volumes w).length = 6 := LSe_volumes h.1
          have l4 : (a_s2things_ballasts w).length = 6 := LSe_ballasts h.1
          rw [up_e (l := a_s2things_kinds w) a n e2 (by omega) (by omega), bd_some, up_e (l := a_s2things_weights w) b n e2 (by omega) (by omega), bd_some, up_e (l := a_s2things_volumes w) c n e2 (by omega) (by omega), bd_some, up_e (l := a_s2things_ballasts w) 0 n e2 (by omega) (by omega), bd_some]
          exact ⟨_, _, _, rfl, RS_thing h a b c e2 (by omega)⟩
      · simp only [if_neg c3]; exact ⟨_, _, _, rfl, h⟩
    · simp only [if_neg c2]; exact ⟨_, _, _, rfl, h⟩
  · simp only [if_neg c1]; exact ⟨_, _, _, rfl, h⟩
theorem X2_lift (h : RS w.2.2.2.2.1 w.2.2.2.2.2.1 w.2.2.2.2.2.2.1 f) (a b c : Int32) : ∃ s t l, Fsea_addLift_20 a b c w = some ((A_lift a b c f).1, X2 w s t l) ∧ RS s t l (A_lift a b c f).2 := by
  have e0 : a_s2_cells w = f 0 := h.k (k := 0) (by omega)
  have e1 : a_s2lifts_count w = f 3 := h.k (k := 3) (by omega)
  unfold A_lift
  simp only [Fsea_addLift_20, hasPlace_20, Ff_within_eq, bd_some, ifz]
  rw [e0]
  by_cases c1 : C_pl (f 0) a
  · simp only [if_pos c1]
    by_cases c2 : C_pl (f 0) b
    · simp only [if_pos c2]
      by_cases c0 : a = b
      · simp only [if_pos c0]; exact ⟨_, _, _, rfl, h⟩
      simp only [if_neg c0]
      by_cases c3 : 1 ≤ c ∧ c ≤ 9
      · simp only [if_pos c3, Flift_add_31]
        rw [e1]
        have h2 := h.c3
        have e2 := h2.2.2
        have e3 := h2.2.1
        generalize hn : Nn (f 3) = n at *
        by_cases c4 : n = 10
        · rw [if_neg (by rw [e2, c4]; decide), if_pos c4]
          exact ⟨_, _, _, rfl, h⟩
        · rw [if_pos (show f 3 < 10 by rw [e2]; exact nI_lt (b := 10) (by omega) (by decide)), if_neg c4]
          have l1 : (a_s2lifts_froms w).length = 10 := LSe_froms h.1
          have l2 : (a_s2lifts_tos w).length = 10 := LSe_tos h.1
          have l3 : (a_s2lifts_times w).length = 10 := LSe_times h.1
          rw [up_e (l := a_s2lifts_froms w) a n e2 (by omega) (by omega), bd_some, up_e (l := a_s2lifts_tos w) b n e2 (by omega) (by omega), bd_some, up_e (l := a_s2lifts_times w) c n e2 (by omega) (by omega), bd_some]
          exact ⟨_, _, _, rfl, RS_lift h (pl_N h.c0 (by decide) c1) (pl_N h.c0 (by decide) c2) (isN_of1 (L := 1) (M := 9) (a := 1) (n := 9) rfl rfl c3 (by decide)) e2 (by omega)⟩
      · simp only [if_neg c3]; exact ⟨_, _, _, rfl, h⟩
    · simp only [if_neg c2]; exact ⟨_, _, _, rfl, h⟩
  · simp only [if_neg c1]; exact ⟨_, _, _, rfl, h⟩
theorem X2_townG (h : RS w.2.2.2.2.1 w.2.2.2.2.2.1 w.2.2.2.2.2.2.1 f) {p : Int32} (hp : plc (Nn (f 0)) p) : ∀ (d e n : Nat), e + d = Nn (f 4) → d < n → (∀ i, i < e → ¬ f (121 + i) = p) → ∃ s t l, Gsea_addTown_20 n 0 p (nI e) w = some ((if twn f p (Nn (f 4)) = true then (-3, f) else if Nn (f 4) = 6 then (-4, f) else (f 4, upd (upd f (121 + Nn (f 4)) p) 4 (f 4 + 1)) : Int32 × (Nat → Int32)).1, X2 w s t l) ∧ RS s t l (if twn f p (Nn (f 4)) = true then (-3, f) else if Nn (f 4) = 6 then (-4, f) else (f 4, upd (upd f (121 + Nn (f 4)) p) 4 (f 4 + 1)) : Int32 × (Nat → Int32)).2 := by
  have e1 : a_s2_towns w = f 4 := h.k (k := 4) (by omega)
  have h4 := h.c4
  have e2 := h4.2.2
  have e3 := h4.2.1
  have l1 : (a_s2_townPlaces w).length = 6 := LSe_townPlaces h.1
  have hg : ∀ i, i < Nn (f 4) → (a_s2_townPlaces w).getD i 0 = f (121 + i) := fun i hi => by
    have q := h.2.1 (121 + i) (by omega) (Or.inr (Or.inr (Or.inr (Or.inl ⟨by omega, by omega, by omega⟩))))
    rw [fl_townPlaces _ _ _ (by omega)] at q
    exact q
  generalize hn : Nn (f 4) = t at *
  intro d
  induction d with
  | zero =>
    intro e n he hn2 hi
    obtain ⟨n, rfl⟩ : ∃ k, n = k + 1 := ⟨n - 1, by omega⟩
    have he : e = t := by omega
    subst he
    have ht : ¬ twn f p e = true := fun q => by
      obtain ⟨i, h1, h2⟩ := twn_iff.mp q
      exact hi i h1 h2
    rw [Gsea_addTown_20, e1, if_pos (by rw [e2]; exact Int32.le_refl _), if_neg ht]
    by_cases c4 : e = 6
    · rw [if_neg (show ¬ f 4 < 6 by rw [e2, c4]; decide), if_pos c4]
      exact ⟨_, _, _, rfl, h⟩
    · rw [if_pos (show f 4 < 6 by rw [e2]; exact nI_lt (b := 6) (by omega) (by decide)), if_neg c4]
      rw [up_e (l := a_s2_townPlaces w) p e e2 (by omega) (by omega), bd_some]
      exact ⟨_, _, _, rfl, RS_town h hp e2 (by omega)⟩
  | succ d ih =>
    intro e n he hn2 hi
    obtain ⟨n, rfl⟩ : ∃ k, n = k + 1 := ⟨n - 1, by omega⟩
    rw [Gsea_addTown_20, e1, if_neg (show ¬ f 4 ≤ nI e by rw [e2]; exact nI_ge (by omega) (by omega)), ix_e (l := a_s2_townPlaces w) e rfl (by omega) (by omega), bd_some, hg e (by omega)]
    by_cases hq : f (121 + e) = p
    · have ht : twn f p t = true := twn_iff.mpr ⟨e, by omega, hq⟩
      rw [if_pos hq, if_pos ht]
      exact ⟨_, _, _, rfl, h⟩
    · rw [if_neg hq, nI_1]
      exact ih (e + 1) n (by omega) (by omega) (fun i h => by
        by_cases q : i = e
        · rw [q]; exact hq
        · exact hi i (by omega))
theorem X2_town {n : Nat} (hn : 7 ≤ n) (h : RS w.2.2.2.2.1 w.2.2.2.2.2.1 w.2.2.2.2.2.2.1 f) (p : Int32) : ∃ s t l, Fsea_addTown_20 n p w = some ((A_town p f).1, X2 w s t l) ∧ RS s t l (A_town p f).2 := by
  have e0 : a_s2_cells w = f 0 := h.k (k := 0) (by omega)
  unfold A_town
  simp only [Fsea_addTown_20, hasPlace_20, bd_some, ifz]
  rw [e0]
  by_cases c1 : C_pl (f 0) p
  · simp only [if_pos c1]
    have h5 := h.c4.2.1
    exact X2_townG h (pl_N h.c0 (by decide) c1) (Nn (f 4)) 0 n (by omega) (by omega) (fun i h => absurd h (by omega))
  · simp only [if_neg c1]; exact ⟨_, _, _, rfl, h⟩
theorem X2_dam (h : RS w.2.2.2.2.1 w.2.2.2.2.2.1 w.2.2.2.2.2.2.1 f) (k b : Int32) (hb : b = 0 ∨ b = 1) : ∃ s t l, Fsea_putDam_20 k b w = some ((A_dam k b f).1, X2 w s t l) ∧ RS s t l (A_dam k b f).2 := by
  have e0 : a_s2_cells w = f 0 := h.k (k := 0) (by omega)
  have e5 : a_s2_dams w = f 5 := h.k (k := 5) (by omega)
  have hyes : ∃ s t l, some ((1 : Int32), (u_s2_dams w (f 5 ^^^ (1 <<< (k &&& 31))))) = some ((1 : Int32), X2 w s t l) ∧ RS s t l (upd f 5 (f 5 ^^^ (1 <<< (k &&& 31)))) := ⟨_, _, _, rfl, RS_upd h (Or.inr (Or.inr rfl)) h.1 (flset_dams _ _ _ _) (fun _ => trivial)⟩
  unfold A_dam
  simp only [Fsea_putDam_20, Ff_within_eq, bd_some, ifz]
  rw [e0, e5]
  by_cases c1 : 0 ≤ k ∧ k ≤ f 0 - 2
  · simp only [if_pos c1]
    rcases hb with rfl | rfl
    · rw [if_pos rfl]
      by_cases c2 : C_bit (f 5) k
      · rw [if_neg (show ¬ ((f 5 >>> (k &&& 31)) &&& 1) = 0 by rw [c2]; decide)]
        simp only [if_pos c2]
        rw [if_neg (by decide)]
        exact hyes
      · have c3 : ((f 5 >>> (k &&& 31)) &&& 1) = 0 := by
          rcases and1 (f 5 >>> (k &&& 31)) with q | q
          · exact q
          · exact absurd q c2
        rw [if_pos c3]
        simp only [if_neg c2]
        exact ⟨_, _, _, rfl, h⟩
    · rw [if_neg (show ¬ (1 : Int32) = 0 by decide)]
      by_cases c2 : C_bit (f 5) k
      · rw [if_pos c2]
        simp only [if_pos c2]
        exact ⟨_, _, _, rfl, h⟩
      · rw [if_neg c2]
        simp only [if_neg c2]
        rw [if_neg (by decide)]
        exact hyes
  · simp only [if_neg c1]; exact ⟨_, _, _, rfl, h⟩
theorem X2_sea0 {n : Nat} (hn : 25 ≤ n) (hL : LSe w.2.2.2.2.1 w.2.2.2.2.2.1 w.2.2.2.2.2.2.1) (x : Int32) (hx : 1 ≤ x ∧ x ≤ 6) : Fsea_startAnew_20 n x w = some (a_s2_cells w, X2 w (bS w.2.2.2.2.1 x) (p_tcount w.2.2.2.2.2.1 0) (p_lcount w.2.2.2.2.2.2.1 0)) := by
  unfold Fsea_startAnew_20
  rw [Ff_within_eq, bd_some, ifz, if_pos hx, cpy_all (f := [10, 13, 16, 20]) (g := a_s2_densities w) (n := 4) 4 rfl (by decide) rfl (LSe_dens hL), bd_some]
  have k1 : (a_s2_currents w).length = 4 := LSe_cur hL
  have k2 : (a_s2_tides w).length = 24 := LSe_tides hL
  have k3 : (a_s2_thicks w).length = 24 := LSe_thicks hL
  have k4 : (a_s2_skins w).length = 3 := LSe_skins hL
  rw [fill_22 0 (N := 4) (n := n) (by decide) (by omega) (w := (u_s2_densities (u_s2_dams (u_s2_hour (u_s2_cells w x) 0) 0) [10, 13, 16, 20])) k1, bd_some]
  rw [fill_23 0 (N := 24) (n := n) (by decide) (by omega) (w := (u_s2_currents (u_s2_densities (u_s2_dams (u_s2_hour (u_s2_cells w x) 0) 0) [10, 13, 16, 20]) (List.replicate 4 0))) k2, bd_some]
  rw [fill_24 3 (N := 24) (n := n) (by decide) (by omega) (w := (u_s2_tides (u_s2_currents (u_s2_densities (u_s2_dams (u_s2_hour (u_s2_cells w x) 0) 0) [10, 13, 16, 20]) (List.replicate 4 0)) (List.replicate 24 0))) k3, bd_some]
  rw [fill_25 0 (N := 3) (n := n) (by decide) (by omega) (w := (u_s2_thicks (u_s2_tides (u_s2_currents (u_s2_densities (u_s2_dams (u_s2_hour (u_s2_cells w x) 0) 0) [10, 13, 16, 20]) (List.replicate 4 0)) (List.replicate 24 0)) (List.replicate 24 3))) k4, bd_some]
  rfl
theorem X2_sea {n : Nat} (hn : 25 ≤ n) (h : RS w.2.2.2.2.1 w.2.2.2.2.2.1 w.2.2.2.2.2.2.1 f) (x : Int32) : ∃ s t l, Fsea_startAnew_20 n x w = some ((A_sea x f).1, X2 w s t l) ∧ RS s t l (A_sea x f).2 := by
  have e0 : a_s2_cells w = f 0 := h.k (k := 0) (by omega)
  unfold A_sea
  by_cases c : 1 ≤ x ∧ x ≤ 6
  · rw [if_pos c, X2_sea0 hn h.1 x c, e0]
    exact ⟨_, _, _, rfl, RS_beg h.1 (isN_of1 (L := 1) (M := 6) (a := 1) (n := 6) rfl rfl c (by decide))⟩
  · rw [if_neg c]
    unfold Fsea_startAnew_20
    rw [Ff_within_eq, bd_some, ifz, if_neg c]
    exact ⟨_, _, _, rfl, h⟩
end XOP2
/-! the two worlds side by side -/
def RT (w : WX) (m : WM) : Prop := ∃ n : Nat, n ≤ 150 ∧ a_text_length w = nI n ∧ a_m_texted m = nI n ∧ (a_text_bytes w).length = 150 ∧ (a_m_text m).length = 150 ∧ ∀ k, k < n → (a_text_bytes w).getD k 0 = (a_m_text m).getD k 0
def RI (w : WX) (m : WM) : Prop := ∃ k0 k1 : Int32, a_f_imageKept w = [k0, k1] ∧ a_m_isKept m = [k0, k1] ∧ (¬ k0 = 0 → RS w.2.2.2.2.2.2.2.1 w.2.2.2.2.2.2.2.2.1 w.2.2.2.2.2.2.2.2.2.1 (sl (a_m_w m) 149)) ∧ (¬ k1 = 0 → RS w.2.2.2.2.2.2.2.2.2.2.1 w.2.2.2.2.2.2.2.2.2.2.2.1 w.2.2.2.2.2.2.2.2.2.2.2.2.1 (sl (a_m_w m) 298))
def RL (w : WX) : Prop := LSe w.2.2.2.2.1 w.2.2.2.2.2.1 w.2.2.2.2.2.2.1 ∧ LSe w.2.2.2.2.2.2.2.1 w.2.2.2.2.2.2.2.2.1 w.2.2.2.2.2.2.2.2.2.1 ∧ LSe w.2.2.2.2.2.2.2.2.2.2.1 w.2.2.2.2.2.2.2.2.2.2.2.1 w.2.2.2.2.2.2.2.2.2.2.2.2.1
def RC (w : WX) : Prop := (a_f_downs w).length = 6 ∧ (a_text_numbers w).length = 3 ∧ (a_fall_passedThick w).length = 4 ∧ (a_spread_amounts w).length = 6 ∧ (a_spread_gifts w).length = 6 ∧ (a_ways_reached w).length = 24
def RD (m : WM) : Prop := (a_m_numbers m).length = 3 ∧ (a_m_far m).length = 60 ∧ (a_m_there m).length = 6 ∧ (a_m_gives m).length = 6
def R (w : WX) (m : WM) : Prop := (a_m_w m).length = 596 ∧ RS w.2.1 w.2.2.1 w.2.2.2.1 (sl (a_m_w m) 0) ∧ (RL w ∧ 0 ≤ a_s2_cells w ∧ 0 ≤ sl (a_m_w m) 447 0) ∧ RI w m ∧ RT w m ∧ a_m_refused m = [a_f_refusedBad w, a_f_refusedNo w, a_f_refusedFull w] ∧ (a_m_above m = a_f_above w ∧ a_m_below m = a_f_below w) ∧ RC w ∧ RD m
theorem R.w {w : WX} {m : WM} (h : R w m) : (a_m_w m).length = 596 := h.1
theorem R.s {w : WX} {m : WM} (h : R w m) : RS w.2.1 w.2.2.1 w.2.2.2.1 (sl (a_m_w m) 0) := h.2.1
/-- an answer alike, and the worlds side by side again; a fuel that is enough -/
def Ok {α : Type} (fx : Nat → Option (α × WX)) (fm : Nat → Option (α × WM)) : Prop := ∃ N, ∀ n, N ≤ n → ∃ r w' m', fx n = some (r, w') ∧ fm n = some (r, m') ∧ R w' m'
/-- the same, the answers being free -/
def Og {α : Type} (fx : Nat → Option (α × WX)) (fm : Nat → Option (α × WM)) : Prop := ∃ N, ∀ n, N ≤ n → ∃ r s w' m', fx n = some (r, w') ∧ fm n = some (s, m') ∧ R w' m'
theorem Ok.g {α : Type} {fx : Nat → Option (α × WX)} {fm : Nat → Option (α × WM)} (h : Ok fx fm) : Og fx fm := by
  obtain ⟨N, h⟩ := h
  exact ⟨N, fun n hn => by obtain ⟨r, w', m', a, b, c⟩ := h n hn; exact ⟨r, r, w', m', a, b, c⟩⟩
theorem Ok.of {α : Type} {fx : Nat → Option (α × WX)} {fm : Nat → Option (α × WM)} (N : Nat) (h : ∀ n, N ≤ n → ∃ r w' m', fx n = some (r, w') ∧ fm n = some (r, m') ∧ R w' m') : Ok fx fm := ⟨N, h⟩
section REL
variable {w : WX} {m : WM}
/-- the sea that is now, told anew in both -/
theorem R_now (h : R w m) {s : TS} {t : TT} {l : TL} {m' : WM} {f : Nat → Int32} (hM : MW m m' 0 f) (hS : RS s t l f) : R (X1 w s t l) m' := by
  obtain ⟨v, rfl, v1, v2, v3⟩ := hM
  obtain ⟨h1, h2, ⟨h3, h31, h32⟩, ⟨k0, k1, i1, i2, i3, i4⟩, h5, h6, h7, h8, h9⟩ := h
  have c : ∀ r, 149 ≤ r → ∀ k, k < 149 → sl (a_m_w m) r k = sl v r k := fun r hr k _ => (v3 (r + k) (Or.inr (by omega))).symm
  exact ⟨v1.trans h1, RS_congr (fun k hk => (v2 k hk).symm) hS, ⟨h3, h31, by rw [← c 447 (by omega) 0 (by omega)]; exact h32⟩, ⟨k0, k1, i1, i2, fun q => RS_congr (c 149 (by omega)) (i3 q), fun q => RS_congr (c 298 (by omega)) (i4 q)⟩, h5, h6, h7, h8, h9⟩
theorem R_met (h : R w m) (x : Int32) : ∃ w' m', Ff_counted_0 x w = some (x, w') ∧ Fm_met_89 x m = some (x, m') ∧ R w' m' := by
  obtain ⟨h1, h2, h3, h4, h5, h6, h7, h8, h9⟩ := h
  unfold Ff_counted_0 Fm_met_89
  rw [h6]
  by_cases c2 : x = -2
  · subst c2
    exact ⟨_, _, rfl, rfl, h1, h2, h3, h4, h5, rfl, h7, h8, h9⟩
  rw [if_neg c2, if_neg c2]
  by_cases c3 : x = -3
  · subst c3
    exact ⟨_, _, rfl, rfl, h1, h2, h3, h4, h5, rfl, h7, h8, h9⟩
  rw [if_neg c3, if_neg c3]
  by_cases c4 : x = -4
  · subst c4
    exact ⟨_, _, rfl, rfl, h1, h2, h3, h4, h5, rfl, h7, h8, h9⟩
  rw [if_neg c4, if_neg c4]
  exact ⟨_, _, rfl, rfl, h1, h2, h3, h4, h5, h6, h7, h8, h9⟩
theorem cnt_id {x : Int32} (h2 : ¬ x = -2) (h3 : ¬ x = -3) (h4 : ¬ x = -4) (w : WX) : Ff_counted_0 x w = some (x, w) := by
  unfold Ff_counted_0
  rw [if_neg h2, if_neg h3, if_neg h4]
theorem cnt_nI {k : Nat} (hk : k < 2 ^ 31) (w : WX) : Ff_counted_0 (nI k) w = some (nI k, w) := by
  have g : ∀ y : Int32, y < 0 → ¬ nI k = y := fun y hy e => nI_pos hk (by rw [e]; exact hy)
  exact cnt_id (g _ (by decide)) (g _ (by decide)) (g _ (by decide)) w
theorem R_badAs (h : R w m) (x : Int32) : ∃ w' m', Ff_bad_0 x w = some (x, w') ∧ Fm_badAs_89 x m = some (x, m') ∧ R w' m' := by
  obtain ⟨h1, h2, h3, h4, h5, h6, h7, h8, h9⟩ := h
  unfold Ff_bad_0 Fm_badAs_89
  rw [h6]
  exact ⟨_, _, rfl, rfl, h1, h2, h3, h4, h5, rfl, h7, h8, h9⟩
theorem R_bad (h : R w m) : ∃ w' m', Ff_bad_0 (-2) w = some (-2, w') ∧ Fm_bad_89 m = some (-2, m') ∧ R w' m' := by
  obtain ⟨h1, h2, h3, h4, h5, h6, h7, h8, h9⟩ := h
  unfold Ff_bad_0 Fm_bad_89 Fm_met_89
  rw [h6]
  exact ⟨_, _, rfl, rfl, h1, h2, h3, h4, h5, rfl, h7, h8, h9⟩
/-- a change of the sea that is now whose answer both count -/
theorem R_op (h : R w m) {ox : Option (Int32 × WX)} {om : Option (Int32 × WM)} {A : Int32 × (Nat → Int32)} (hx : ∃ s t l, ox = some (A.1, X1 w s t l) ∧ RS s t l A.2) (hm : ∃ m', om = some (A.1, m') ∧ MW m m' 0 A.2) : ∃ r w' m', (ai_bd ox fun c => ai_bd (Ff_counted_0 c.1 c.2) fun d => some (d.1, d.2)) = some (r, w') ∧ (ai_bd om fun c => ai_bd (Fm_met_89 c.1 c.2) fun d => some (d.1, d.2)) = some (r, m') ∧ R w' m' := by
  obtain ⟨s, t, l, rfl, hS⟩ := hx
  obtain ⟨m', rfl, hM⟩ := hm
  obtain ⟨w2, m2, e1, e2, hR⟩ := R_met (R_now h hM hS) A.1
  refine ⟨A.1, w2, m2, ?_, ?_, hR⟩
  · simp only [bd_some, e1]
  · simp only [bd_some, e2]
theorem C_sea (h : R w m) (a : Int32) : Ok (fun n => Ff_sea_0 n a w) (fun n => Fm_sea_89 n a m) := Ok.of 200 fun n hn => R_op h (X1_sea (by omega) h.s a) (M_sea (by omega) rfl h.w (by omega))
theorem C_water (h : R w m) (a b : Int32) : Ok (fun _ => Ff_water_0 a b w) (fun _ => Fm_water_89 a b m) := Ok.of 0 fun n hn => R_op h (X1_water h.s a b) (M_water rfl h.w (by omega))
theorem C_thick (h : R w m) (a b c : Int32) : Ok (fun _ => Ff_thick_0 a b c w) (fun _ => Fm_thick_89 a b c m) := Ok.of 0 fun n hn => R_op h (X1_thick h.s a b c) (M_thick rfl h.w (by omega) h.s.c0)
theorem C_skin (h : R w m) (a b : Int32) : Ok (fun _ => Ff_skin_0 a b w) (fun _ => Fm_skin_89 a b m) := Ok.of 0 fun n hn => R_op h (X1_skin h.s a b) (M_skin rfl h.w (by omega))
theorem C_thing (h : R w m) (a b c : Int32) : Ok (fun _ => Ff_thing_0 a b c w) (fun _ => Fm_thing_89 a b c m) := Ok.of 0 fun n hn => R_op h (X1_thing h.s a b c) (M_thing rfl h.w (by omega) h.s.c2)
theorem C_lift (h : R w m) (a b c : Int32) : Ok (fun _ => Ff_lift_0 a b c w) (fun _ => Fm_lift_89 a b c m) := Ok.of 0 fun n hn => R_op h (X1_lift h.s a b c) (M_lift rfl h.w (by omega) h.s.c3)
theorem C_town (h : R w m) (a : Int32) : Ok (fun n => Ff_town_0 n a w) (fun n => Fm_town_89 n a m) := Ok.of 20 fun n hn => R_op h (X1_town (by omega) h.s a) (M_town (by omega) rfl h.w (by omega) h.s.c4)
theorem C_dam (h : R w m) (a b : Int32) (hb : b = 0 ∨ b = 1) : Ok (fun _ => Ff_dam_0 a b w) (fun _ => Fm_dam_89 a b m) := Ok.of 0 fun n hn => R_op h (X1_dam h.s a b hb) (M_dam rfl h.w (by omega))
theorem C_tide (h : R w m) (a b c : Int32) : Ok (fun _ => Ff_tide_0 a b c w) (fun _ => Fm_tide_89 a b c m) := Ok.of 0 fun n hn => by
  obtain ⟨w2, m2, e1, e2, hR⟩ := R_badAs h (-10)
  simp only [Ff_tide_0, Fm_tide_89, Ff_isLayer_eq, Fm_isLayer_eq, Ff_within_eq, Fm_in_eq b (lo := 0) (hi := 5) 0 5 rfl rfl, Fm_in_eq c (lo := -2) (hi := 2) (-2) 2 rfl rfl, bd_some, ifz, e1, e2]
  by_cases h1 : C_lay a
  · simp only [if_pos h1]
    by_cases h2 : 0 ≤ b ∧ b ≤ 5
    · simp only [if_pos h2]
      by_cases h3 : -2 ≤ c ∧ c ≤ 2
      · simp only [if_pos h3]
        obtain ⟨j, hj, rfl⟩ := lay_N h1
        obtain ⟨k, hk, rfl⟩ := in0 5 rfl h2
        have e3 : nI j * 6 + nI k = nI (6 * j + k) := by rw [show (6 : Int32) = nI 6 from rfl, pk_mul, nI_add, Nat.mul_comm]
        have e4 : (16 + (6 * nI j)) + nI k = nI (0 + (16 + (6 * j + k))) := by rw [show (6 : Int32) = nI 6 from rfl, show (16 : Int32) = nI 16 from rfl, pk_mul, nI_add, nI_add]; congr 1; omega
        have hL : (a_s1_tides w).length = 24 := LSe_tides h.s.1
        rw [ix_e (l := a_s1_tides w) (6 * j + k) e3 (by omega) (by omega), bd_some, up_e (l := a_s1_tides w) c (6 * j + k) e3 (by omega) (by omega), bd_some, M_becomes (r := 0) c (16 + (6 * j + k)) e4 h.w (by omega) (by omega), bd_some]
        refine ⟨_, _, _, rfl, ?_, R_now h (MW_set h.w (by omega) (by omega)) (RS_upd h.s (j := 16 + (6 * j + k)) (Or.inl (by omega)) (LSe_set_tides h.s.1 _ _) (flset_tides _ _ _ _ (by omega) hL) (fun _ => by rw [okv_r16 _ _ (by omega) (by omega)]; exact rgI_of rfl rfl h3))⟩
        rw [← h.s.tides (by omega)]
      · simp only [if_neg h3]; exact ⟨_, _, _, rfl, rfl, hR⟩
    · simp only [if_neg h2]; exact ⟨_, _, _, rfl, rfl, hR⟩
  · simp only [if_neg h1]; exact ⟨_, _, _, rfl, rfl, hR⟩
theorem C_current (h : R w m) (a c : Int32) : Ok (fun _ => Ff_current_0 a c w) (fun _ => Fm_current_89 a c m) := Ok.of 0 fun n hn => by
  obtain ⟨w2, m2, e1, e2, hR⟩ := R_badAs h (-10)
  simp only [Ff_current_0, Fm_current_89, Ff_isLayer_eq, Fm_isLayer_eq, Ff_within_eq, Fm_in_eq c (lo := -1) (hi := 1) (-1) 1 rfl rfl, bd_some, ifz, e1, e2]
  by_cases h1 : C_lay a
  · simp only [if_pos h1]
    by_cases h3 : -1 ≤ c ∧ c ≤ 1
    · simp only [if_pos h3]
      obtain ⟨j, hj, rfl⟩ := lay_N h1
      have e4 : 12 + nI j = nI (0 + (12 + j)) := by rw [show (12 : Int32) = nI 12 from rfl, nI_add, Nat.zero_add]
      have hL : (a_s1_currents w).length = 4 := LSe_cur h.s.1
      rw [ix_e (l := a_s1_currents w) j rfl (by omega) (by omega), bd_some, up_e (l := a_s1_currents w) c j rfl (by omega) (by omega), bd_some, M_becomes (r := 0) c (12 + j) e4 h.w (by omega) (by omega), bd_some]
      refine ⟨_, _, _, rfl, ?_, R_now h (MW_set h.w (by omega) (by omega)) (RS_upd h.s (j := 12 + j) (Or.inl (by omega)) (LSe_set_cur h.s.1 _ _) (flset_cur _ _ _ _ (by omega) hL) (fun _ => by rw [okv_r12 _ _ (by omega) (by omega)]; exact rgI_of rfl rfl h3))⟩
      rw [← h.s.cur (by omega)]
    · simp only [if_neg h3]; exact ⟨_, _, _, rfl, rfl, hR⟩
  · simp only [if_neg h1]; exact ⟨_, _, _, rfl, rfl, hR⟩
/-- is there such a thing -/
abbrev C_th (c x : Int32) : Prop := 0 ≤ x ∧ x ≤ c - 1
theorem th_N {c x : Int32} {n : Nat} (hc : isN c 0 n) (hn : n < 2 ^ 31) (h : C_th c x) : ∃ j, j < Nn c ∧ x = nI j := by
  obtain ⟨h1, h2, h3⟩ := hc
  by_cases z : Nn c = 0
  · exfalso
    have e : c - 1 = -1 := by rw [h3, z]; rfl
    have a := Int32.le_iff_toInt_le.mp h.1
    have b := Int32.le_iff_toInt_le.mp h.2
    rw [e] at b
    have q : (-1 : Int32).toInt = -1 := rfl
    have q0 : (0 : Int32).toInt = 0 := rfl
    rw [q] at b
    rw [q0] at a
    omega
  · exact cell_N ⟨by omega, h2, h3⟩ hn h
theorem has_7 (x : Int32) (w : WX) : Fthg_has_7 x w = some (if C_th (a_s1things_count w) x then 1 else 0, w) := by
  unfold Fthg_has_7
  rw [Ff_within_eq, bd_some, ifz2]
theorem M_isThing (hw : (a_m_w m).length = 596) (x : Int32) : Fm_isThing_89 x m = some (if C_th (sl (a_m_w m) 0 2) x then 1 else 0, m) := by
  unfold Fm_isThing_89
  rw [M_ix (r := 0) (x := 2) 2 rfl hw (by omega) (by omega), bd_some, Fm_in_eq x (lo := 0) 0 (sl (a_m_w m) 0 2 - 1) rfl rfl, bd_some, ifz2]
theorem RS.th {s : TS} {t : TT} {l : TL} {f : Nat → Int32} (h : RS s t l f) {i : Nat} (hi : i < Nn (f 2)) : (q_kinds t).getD i 0 = f (67 + i) ∧ (q_weights t).getD i 0 = f (73 + i) ∧ (q_volumes t).getD i 0 = f (79 + i) ∧ (q_ballasts t).getD i 0 = f (85 + i) := by
  have h6 := h.c2.2.1
  have g : ∀ b : Nat, b < 4 → fl s t l (67 + 6 * b + i) = f (67 + 6 * b + i) := fun b hb => h.2.1 _ (by omega) (Or.inr (Or.inl ⟨by omega, by omega, by omega⟩))
  refine ⟨?_, ?_, ?_, ?_⟩
  · rw [← fl_kinds s t l (by omega)]; exact g 0 (by omega)
  · rw [← fl_weights s t l (by omega)]; exact g 1 (by omega)
  · rw [← fl_volumes s t l (by omega)]; exact g 2 (by omega)
  · rw [← fl_ballasts s t l (by omega)]; exact g 3 (by omega)
theorem C_ballast (h : R w m) (a c : Int32) : Ok (fun _ => Ff_ballast_0 a c w) (fun _ => Fm_ballast_89 a c m) := Ok.of 0 fun n hn => by
  obtain ⟨w2, m2, e1, e2, hR⟩ := R_bad h
  have e0 : a_s1things_count w = sl (a_m_w m) 0 2 := h.s.k (k := 2) (by omega)
  simp only [Ff_ballast_0, Fm_ballast_89, has_7, M_isThing h.w, Ff_within_eq, Fm_in_eq c (lo := 0) (hi := 99) 0 99 rfl rfl, bd_some, ifz, e1, e2, e0]
  by_cases h1 : C_th (sl (a_m_w m) 0 2) a
  · simp only [if_pos h1]
    by_cases h3 : 0 ≤ c ∧ c ≤ 99
    · simp only [if_pos h3]
      obtain ⟨j, hj, rfl⟩ := th_N h.s.c2 (by decide) h1
      have h6 := h.s.c2.2.1
      have e4 : 85 + nI j = nI (0 + (85 + j)) := by rw [show (85 : Int32) = nI 85 from rfl, nI_add, Nat.zero_add]
      have hL : (a_s1things_ballasts w).length = 6 := LSe_ballasts h.s.1
      rw [ix_e (l := a_s1things_ballasts w) j rfl (by omega) (by omega), bd_some, up_e (l := a_s1things_ballasts w) c j rfl (by omega) (by omega), bd_some, M_becomes (r := 0) c (85 + j) e4 h.w (by omega) (by omega), bd_some]
      refine ⟨_, _, _, rfl, ?_, R_now h (MW_set h.w (by omega) (by omega)) (RS_upd h.s (j := 85 + j) (Or.inl (by omega)) (LSe_set_ballasts h.s.1 _ _) (flset_ballasts _ _ _ _ (by omega) hL) (fun _ => by rw [okv_r67 _ _ (by omega) (by omega)]; trivial))⟩
      rw [← (h.s.th hj).2.2.2]
    · simp only [if_neg h3]; exact ⟨_, _, _, rfl, rfl, hR⟩
  · simp only [if_neg h1]; exact ⟨_, _, _, rfl, rfl, hR⟩
end REL
/-! more calls that change the sea, the text, the images -/
section CALLS
variable {w : WX} {m : WM}
theorem m_ix0 {m : WM} (hw : (a_m_w m).length = 596) {x : Int32} (k : Nat) (hx : x = nI k) (hk : k < 149) : ai_ix (a_m_w m) x = some (sl (a_m_w m) 0 k) := M_ix (r := 0) k (by rw [Nat.zero_add]; exact hx) hw (by omega) hk
theorem sl0 (v : List Int32) (k : Nat) : v.getD k 0 = sl v 0 k := by unfold sl; rw [Nat.zero_add]
theorem sl0_set {v : List Int32} {k : Nat} (x : Int32) (h : k < v.length) : sl (v.set k x) 0 = upd (sl v 0) k x := by
  have := sl_set (v := v) (r := 0) (j := k) x (by omega)
  rw [Nat.zero_add] at this
  exact this
theorem LSe_dr {s : TS} {t : TT} {l : TL} (h : LSe s t l) (x : Int32) : LSe (p_drops s x) t l := h
theorem RS_drop {s : TS} {t : TT} {l : TL} {f : Nat → Int32} (h : RS s t l f) {a b : Int32} (ha : isN a 0 3) (hb : b = 0 ∨ b = 1) {n : Nat} (hn : f 6 = nI n) (h6 : n < 6) : RS (p_drops (p_dropFloats (p_dropLayers s ((q_dropLayers s).set n a)) ((q_dropFloats s).set n b)) (f 6 + 1)) t l (upd (upd (upd f (127 + n) a) (133 + n) b) 6 (f 6 + 1)) := by
  have e2 : Nn (f 6) = n := by rw [hn]; exact Nn_nI (by omega)
  have h1 := RS_upd h (j := 127 + n) (x := a) (Or.inl (by omega)) (LSe_set_dropLayers h.1 n a) (flset_dropLayers s t l a h6 (LSe_dropLayers h.1)) (fun _ => by rw [okv_r127 _ _ (by omega) (by omega)]; exact ha)
  have h2 := RS_upd h1 (j := 133 + n) (x := b) (Or.inl (by omega)) (LSe_set_dropFloats h1.1 n b) (flset_dropFloats _ t l b h6 (LSe_dropFloats h1.1)) (fun _ => by rw [okv_r133 _ _ (by omega) (by omega)]; exact hb)
  have hF : fl (p_dropFloats (p_dropLayers s ((q_dropLayers s).set n a)) ((q_dropFloats s).set n b)) t l = upd (upd (fl s t l) (127 + n) a) (133 + n) b := by
    rw [← flset_dropLayers s t l a h6 (LSe_dropLayers h.1), ← flset_dropFloats _ t l b h6 (LSe_dropFloats h1.1)]
  have u : ∀ j, j < 8 → upd (upd f (127 + n) a) (133 + n) b j = f j := fun j hj => by rw [pk_un (by omega), pk_un (by omega)]
  refine RS_cnt h2 (j := 6) (by omega) (by omega) (LSe_dr h2.1 _) (flset_drops _ t l _) ?_ ?_
  · rw [okv_6, hn, nI_1]
    exact isN_nI (by omega) (by omega) (by decide)
  · intro k hk hk2 hl
    have g2 : upd (upd (upd f (127 + n) a) (133 + n) b) 6 (f 6 + 1) 6 = nI (n + 1) := by rw [pk_us, hn, nI_1]
    rw [lv_upd (by omega), lv_upd (by omega)]
    by_cases hr : 127 ≤ k ∧ k < 139
    · unfold lv at hl
      rw [g2, Nn_nI (by omega)] at hl
      by_cases hq : (k - 127) % 6 = n
      · right
        rw [hF, u 0 (by omega)]
        unfold upd
        by_cases k2 : k = 133 + n
        · rw [if_pos k2, if_pos k2]
          exact ⟨rfl, by rw [okv_r133 _ _ (by omega) (by omega)]; exact hb⟩
        by_cases k1 : k = 127 + n
        · rw [if_neg k2, if_neg k2, if_pos k1, if_pos k1]
          exact ⟨rfl, by rw [okv_r127 _ _ (by omega) (by omega)]; exact ha⟩
        omega
      · left
        unfold lv
        rw [e2]
        omega
    · left
      unfold lv at hl ⊢
      rw [pk_un (f := upd (upd f (127 + n) a) (133 + n) b) (k := 6) (j := 2) (by omega), pk_un (f := upd (upd f (127 + n) a) (133 + n) b) (k := 6) (j := 3) (by omega), pk_un (f := upd (upd f (127 + n) a) (133 + n) b) (k := 6) (j := 4) (by omega), pk_un (f := upd (upd f (127 + n) a) (133 + n) b) (k := 6) (j := 7) (by omega)] at hl
      rw [u 2 (by omega), u 3 (by omega), u 4 (by omega), u 7 (by omega)] at hl
      rcases hl with v | ⟨v1, v2, v3⟩ | ⟨v1, v2, v3⟩ | ⟨v1, v2, v3⟩ | ⟨v1, v2, v3⟩ | ⟨v1, v2, v3⟩
      · exact Or.inl v
      · exact Or.inr (Or.inl ⟨v1, v2, by omega⟩)
      · exact Or.inr (Or.inr (Or.inl ⟨v1, v2, by omega⟩))
      · exact Or.inr (Or.inr (Or.inr (Or.inl ⟨v1, v2, by omega⟩)))
      · exact Or.inr (Or.inr (Or.inr (Or.inr (Or.inl ⟨v1, v2, by omega⟩))))
      · exact Or.inr (Or.inr (Or.inr (Or.inr (Or.inr ⟨v1, v2, by omega⟩))))
theorem C_drop (h : R w m) (a b : Int32) : Ok (fun _ => Ff_drop_0 a b w) (fun _ => Fm_drop_89 a b m) := Ok.of 0 fun n hn => by
  obtain ⟨w2, m2, e1, e2, hR⟩ := R_bad h
  obtain ⟨w3, m3, e3, e4, hR3⟩ := R_met h (-4)
  obtain ⟨w5, m5, e5, e6, hR5⟩ := R_met h (-2)
  have e0 : a_s1_drops w = sl (a_m_w m) 0 6 := h.s.k (k := 6) (by omega)
  have e6b : Fm_bad_89 m = some (-2, m5) := by unfold Fm_bad_89; rw [e6, bd_some]
  simp only [Ff_drop_0, Fsea_addDrop_1, Fm_drop_89, Ff_isLayer_eq, Fm_isLayer_eq, bd_some, ifz, e4, e0, e6b]
  by_cases h1 : C_lay a
  · simp only [if_pos h1]
    rw [m_ix0 h.w (x := 6) 6 rfl (by omega)]
    simp only [bd_some]
    have hs := h.s
    have h6 := hs.c6
    have q2 := h6.2.2
    have q3 := h6.2.1
    have ha : isN a 0 3 := isN_of rfl h1 (by decide)
    generalize hf : sl (a_m_w m) 0 = f at *
    generalize hn : Nn (f 6) = k at *
    have hw := h.w
    by_cases c6 : k = 6
    · rw [if_neg (show ¬ f 6 < 6 by rw [q2, c6]; decide), if_pos (show f 6 = 6 by rw [q2, c6]; rfl)]
      simp only [bd_some, e3]
      exact ⟨_, _, _, rfl, rfl, hR3⟩
    · rw [if_pos (show f 6 < 6 by rw [q2]; exact nI_lt (b := 6) (by omega) (by decide)), if_neg (show ¬ f 6 = 6 from fun q => c6 ((nI_eq (a := k) (b := 6) (by omega) (by decide)).mp (by rw [← q2, q]; rfl)))]
      have l1 : (a_s1_dropLayers w).length = 6 := LSe_dropLayers hs.1
      have l2 : (a_s1_dropFloats w).length = 6 := LSe_dropFloats hs.1
      have k1 : 127 + f 6 = nI (127 + k) := by rw [q2, show (127 : Int32) = nI 127 from rfl, nI_add]
      have k2 : 133 + f 6 = nI (133 + k) := by rw [q2, show (133 : Int32) = nI 133 from rfl, nI_add]
      rw [up_e (l := a_s1_dropLayers w) a k q2 (by omega) (by omega), bd_some, up_e (l := a_m_w m) a (127 + k) k1 (by omega) (by omega), bd_some]
      have g6 : ai_ix ((a_m_w m).set (127 + k) a) 6 = some (f 6) := by
        rw [ix_e (l := (a_m_w m).set (127 + k) a) (i := 6) 6 rfl (by rw [List.length_set]; omega) (by omega), sl0, sl0_set _ (by omega), hf, pk_un (by omega)]
      rw [g6]
      simp only [bd_some]
      have key : ∀ y : Int32, (y = 0 ∨ y = 1) → ∃ r w' m', (ai_bd (ai_bd (ai_up (a_s1_dropFloats w) (f 6) y) fun q1156 => some (((f 6) + 1), (u_s1_drops (u_s1_dropFloats (u_s1_dropLayers w ((a_s1_dropLayers w).set k a)) q1156) ((f 6) + 1)))) fun c => ai_bd (Ff_counted_0 c.1 c.2) fun d => some (d.1, d.2)) = some (r, w') ∧ (ai_bd (ai_up ((a_m_w m).set (127 + k) a) (133 + f 6) y) fun q192 => ai_bd (ai_ix q192 6) fun v193 => ai_bd (ai_up q192 6 (v193 + 1)) fun q194 => ai_bd (ai_ix q194 6) fun v195 => some (v195, (u_m_w (u_m_w (u_m_w m ((a_m_w m).set (127 + k) a)) q192) q194))) = some (r, m') ∧ R w' m' := by
        intro y hy
        have g7 : ai_ix (((a_m_w m).set (127 + k) a).set (133 + k) y) 6 = some (f 6) := by
          rw [ix_e (l := ((a_m_w m).set (127 + k) a).set (133 + k) y) (i := 6) 6 rfl (by rw [List.length_set, List.length_set]; omega) (by omega), sl0, sl0_set _ (by rw [List.length_set]; omega), sl0_set _ (by omega), hf, pk_un (by omega), pk_un (by omega)]
        have g8 : ai_ix ((((a_m_w m).set (127 + k) a).set (133 + k) y).set 6 (f 6 + 1)) 6 = some (f 6 + 1) := by
          rw [ix_e (l := (((a_m_w m).set (127 + k) a).set (133 + k) y).set 6 (f 6 + 1)) (i := 6) 6 rfl (by rw [List.length_set, List.length_set, List.length_set]; omega) (by omega), gD_set _ _ _ _ (by rw [List.length_set, List.length_set]; omega), if_pos rfl]
        rw [up_e (l := a_s1_dropFloats w) y k q2 (by omega) (by omega), up_e (l := (a_m_w m).set (127 + k) a) y (133 + k) k2 (by rw [List.length_set]; omega) (by omega)]
        simp only [bd_some]
        rw [g7, bd_some, up_e (l := ((a_m_w m).set (127 + k) a).set (133 + k) y) (i := 6) (f 6 + 1) 6 rfl (by rw [List.length_set, List.length_set]; omega) (by omega), bd_some, g8, bd_some]
        have hid : f 6 + 1 = nI (k + 1) := by rw [q2, nI_1]
        rw [hid, cnt_nI (by omega), bd_some]
        refine ⟨_, _, _, rfl, rfl, R_now h (f := upd (upd (upd f (127 + k) a) (133 + k) y) 6 (nI (k + 1))) ⟨_, rfl, by rw [List.length_set, List.length_set, List.length_set], fun j hj => ?_, fun j hj => ?_⟩ (hid ▸ RS_drop hs ha hy q2 (by omega))⟩
        · rw [sl0_set _ (by rw [List.length_set, List.length_set]; omega), sl0_set _ (by rw [List.length_set]; omega), sl0_set _ (by omega), hf]
        · rw [gD_set _ _ _ _ (by rw [List.length_set, List.length_set]; omega), if_neg (by omega), gD_set _ _ _ _ (by rw [List.length_set]; omega), if_neg (by omega), gD_set _ _ _ _ (by omega), if_neg (by omega)]
      by_cases cb : b = 0
      · rw [if_pos cb, if_pos cb]
        exact key 0 (Or.inl rfl)
      · rw [if_neg cb, if_neg cb]
        exact key 1 (Or.inr rfl)
  · simp only [if_neg h1, bd_some, e5]
    exact ⟨_, _, _, rfl, rfl, hR5⟩
/-- a count set to nothing -/
theorem RS_zero {s s' : TS} {t t' : TT} {l l' : TL} {f : Nat → Int32} (h : RS s t l f) {j : Nat} (hj : j = 2 ∨ j = 3 ∨ j = 4 ∨ j = 6) (hL : LSe s' t' l') (hf : fl s' t' l' = upd (fl s t l) j 0) : RS s' t' l' (upd f j 0) := by
  refine RS_cnt h (by omega) (by omega) hL hf ?_ ?_
  · have z6 : isN 0 0 6 := ⟨by decide, by decide, by decide⟩
    have z10 : isN 0 0 10 := ⟨by decide, by decide, by decide⟩
    rcases hj with rfl | rfl | rfl | rfl
    · exact z6
    · exact z10
    · exact z6
    · exact z6
  · intro k hk hkj hl
    left
    have z : Nn (upd f j 0 j) = 0 := by rw [pk_us]; rfl
    unfold lv at hl ⊢
    rcases hj with rfl | rfl | rfl | rfl
    · rw [z, pk_un (f := f) (k := 2) (j := 3) (by omega), pk_un (f := f) (k := 2) (j := 4) (by omega), pk_un (f := f) (k := 2) (j := 6) (by omega), pk_un (f := f) (k := 2) (j := 7) (by omega)] at hl
      rcases hl with v | ⟨v1, v2, v3⟩ | ⟨v1, v2, v3⟩ | ⟨v1, v2, v3⟩ | ⟨v1, v2, v3⟩ | ⟨v1, v2, v3⟩
      · exact Or.inl v
      · exact Or.inr (Or.inl ⟨v1, v2, by omega⟩)
      · exact Or.inr (Or.inr (Or.inl ⟨v1, v2, by omega⟩))
      · exact Or.inr (Or.inr (Or.inr (Or.inl ⟨v1, v2, by omega⟩)))
      · exact Or.inr (Or.inr (Or.inr (Or.inr (Or.inl ⟨v1, v2, by omega⟩))))
      · exact Or.inr (Or.inr (Or.inr (Or.inr (Or.inr ⟨v1, v2, by omega⟩))))
    · rw [z, pk_un (f := f) (k := 3) (j := 2) (by omega), pk_un (f := f) (k := 3) (j := 4) (by omega), pk_un (f := f) (k := 3) (j := 6) (by omega), pk_un (f := f) (k := 3) (j := 7) (by omega)] at hl
      rcases hl with v | ⟨v1, v2, v3⟩ | ⟨v1, v2, v3⟩ | ⟨v1, v2, v3⟩ | ⟨v1, v2, v3⟩ | ⟨v1, v2, v3⟩
      · exact Or.inl v
      · exact Or.inr (Or.inl ⟨v1, v2, by omega⟩)
      · exact Or.inr (Or.inr (Or.inl ⟨v1, v2, by omega⟩))
      · exact Or.inr (Or.inr (Or.inr (Or.inl ⟨v1, v2, by omega⟩)))
      · exact Or.inr (Or.inr (Or.inr (Or.inr (Or.inl ⟨v1, v2, by omega⟩))))
      · exact Or.inr (Or.inr (Or.inr (Or.inr (Or.inr ⟨v1, v2, by omega⟩))))
    · rw [z, pk_un (f := f) (k := 4) (j := 2) (by omega), pk_un (f := f) (k := 4) (j := 3) (by omega), pk_un (f := f) (k := 4) (j := 6) (by omega), pk_un (f := f) (k := 4) (j := 7) (by omega)] at hl
      rcases hl with v | ⟨v1, v2, v3⟩ | ⟨v1, v2, v3⟩ | ⟨v1, v2, v3⟩ | ⟨v1, v2, v3⟩ | ⟨v1, v2, v3⟩
      · exact Or.inl v
      · exact Or.inr (Or.inl ⟨v1, v2, by omega⟩)
      · exact Or.inr (Or.inr (Or.inl ⟨v1, v2, by omega⟩))
      · exact Or.inr (Or.inr (Or.inr (Or.inl ⟨v1, v2, by omega⟩)))
      · exact Or.inr (Or.inr (Or.inr (Or.inr (Or.inl ⟨v1, v2, by omega⟩))))
      · exact Or.inr (Or.inr (Or.inr (Or.inr (Or.inr ⟨v1, v2, by omega⟩))))
    · rw [z, pk_un (f := f) (k := 6) (j := 2) (by omega), pk_un (f := f) (k := 6) (j := 3) (by omega), pk_un (f := f) (k := 6) (j := 4) (by omega), pk_un (f := f) (k := 6) (j := 7) (by omega)] at hl
      rcases hl with v | ⟨v1, v2, v3⟩ | ⟨v1, v2, v3⟩ | ⟨v1, v2, v3⟩ | ⟨v1, v2, v3⟩ | ⟨v1, v2, v3⟩
      · exact Or.inl v
      · exact Or.inr (Or.inl ⟨v1, v2, by omega⟩)
      · exact Or.inr (Or.inr (Or.inl ⟨v1, v2, by omega⟩))
      · exact Or.inr (Or.inr (Or.inr (Or.inl ⟨v1, v2, by omega⟩)))
      · exact Or.inr (Or.inr (Or.inr (Or.inr (Or.inl ⟨v1, v2, by omega⟩))))
      · exact Or.inr (Or.inr (Or.inr (Or.inr (Or.inr ⟨v1, v2, by omega⟩))))
theorem m_bec0 {m : WM} (hw : (a_m_w m).length = 596) {x : Int32} (y : Int32) (k : Nat) (hx : x = nI k) (hk : k < 149) : Fm_becomes_89 x y m = some (sl (a_m_w m) 0 k, u_m_w m ((a_m_w m).set (0 + k) y)) := M_becomes (r := 0) y k (by rw [Nat.zero_add]; exact hx) hw (by omega) hk
theorem C_clean (h : R w m) (a : Int32) : Ok (fun _ => Ff_clean_0 a w) (fun _ => Fm_clean_89 a m) := Ok.of 0 fun n hn => by
  obtain ⟨w5, m5, e5, e6, hR5⟩ := R_met h (-2)
  have e6b : Fm_bad_89 m = some (-2, m5) := by unfold Fm_bad_89; rw [e6, bd_some]
  have g : ∀ {k : Nat} {b : Nat}, isN (sl (a_m_w m) 0 k) 0 b → b < 2 ^ 31 → ∀ w : WX, Ff_counted_0 (sl (a_m_w m) 0 k) w = some (sl (a_m_w m) 0 k, w) := fun q hb w => by
    have q1 := q.2.1
    rw [q.2.2]
    exact cnt_nI (by omega) w
  have f2 : a_s1things_count w = sl (a_m_w m) 0 2 := h.s.k (k := 2) (by omega)
  have f3 : a_s1lifts_count w = sl (a_m_w m) 0 3 := h.s.k (k := 3) (by omega)
  have f4 : a_s1_towns w = sl (a_m_w m) 0 4 := h.s.k (k := 4) (by omega)
  have f6 : a_s1_drops w = sl (a_m_w m) 0 6 := h.s.k (k := 6) (by omega)
  simp only [Ff_clean_0, Fsea_empty_1, Fm_clean_89, Ff_within_eq, Fm_in_eq a (lo := 0) (hi := 3) 0 3 rfl rfl, bd_some, ifz, e6b]
  by_cases h1 : 0 ≤ a ∧ a ≤ 3
  · simp only [if_pos h1]
    by_cases a0 : a = 0
    · simp only [if_pos a0]
      rw [m_bec0 h.w (x := 2) 0 2 rfl (by omega)]
      simp only [bd_some, f2, g h.s.c2 (by decide)]
      exact ⟨_, _, _, rfl, rfl, R_now h (MW_set h.w (by omega) (by omega)) (RS_zero h.s (Or.inl rfl) h.s.1 (flset_tcount _ _ _ _))⟩
    simp only [if_neg a0]
    by_cases a1 : a = 1
    · simp only [if_pos a1]
      rw [m_bec0 h.w (x := 3) 0 3 rfl (by omega)]
      simp only [bd_some, f3, g h.s.c3 (by decide)]
      exact ⟨_, _, _, rfl, rfl, R_now h (MW_set h.w (by omega) (by omega)) (RS_zero h.s (Or.inr (Or.inl rfl)) h.s.1 (flset_lcount _ _ _ _))⟩
    simp only [if_neg a1]
    by_cases a2 : a = 2
    · simp only [if_pos a2]
      rw [m_bec0 h.w (x := 4) 0 4 rfl (by omega)]
      simp only [bd_some, f4, g h.s.c4 (by decide)]
      exact ⟨_, _, _, rfl, rfl, R_now h (MW_set h.w (by omega) (by omega)) (RS_zero h.s (Or.inr (Or.inr (Or.inl rfl))) h.s.1 (flset_towns _ _ _ _))⟩
    simp only [if_neg a2]
    rw [m_bec0 h.w (x := 6) 0 6 rfl (by omega)]
    simp only [bd_some, f6, g h.s.c6 (by decide)]
    exact ⟨_, _, _, rfl, rfl, R_now h (MW_set h.w (by omega) (by omega)) (RS_zero h.s (Or.inr (Or.inr (Or.inr rfl))) h.s.1 (flset_drops _ _ _ _))⟩
  · simp only [if_neg h1, bd_some, e5]
    exact ⟨_, _, _, rfl, rfl, hR5⟩
theorem C_type (h : R w m) (a : Int32) : Ok (fun _ => Ff_type_0 a w) (fun _ => Fm_type_89 a m) := Ok.of 0 fun n hn => by
  obtain ⟨w5, m5, e5, e6, hR5⟩ := R_met h (-2)
  obtain ⟨w3, m3, e3, e4, hR3⟩ := R_met h (-4)
  have e6b : Fm_bad_89 m = some (-2, m5) := by unfold Fm_bad_89; rw [e6, bd_some]
  obtain ⟨h1, h2, h3, h4, ⟨t, t1, t2, t3, t4, t5, t6⟩, h6, h7, h8, h9⟩ := h
  simp only [Ff_type_0, Ftxt_add_78, Fm_type_89, Ff_within_eq, Fm_in_eq a (lo := 0) (hi := 127) 0 127 rfl rfl, bd_some, ifz, e6b, e4]
  by_cases c1 : 0 ≤ a ∧ a ≤ 127
  · simp only [if_pos c1]
    rw [t2, t3]
    by_cases c2 : t = 150
    · rw [if_neg (show ¬ nI t < 150 by rw [c2]; decide), if_pos (show nI t = 150 by rw [c2]; rfl)]
      simp only [bd_some, e3]
      exact ⟨_, _, _, rfl, rfl, hR3⟩
    · rw [if_pos (show nI t < 150 from nI_lt (b := 150) (by omega) (by decide)), if_neg (show ¬ nI t = 150 from fun q => c2 ((nI_eq (a := t) (b := 150) (by omega) (by decide)).mp q)), up_e (l := a_text_bytes w) a t rfl (by omega) (by omega), up_e (l := a_m_text m) a t rfl (by omega) (by omega)]
      simp only [bd_some, nI_1]
      rw [cnt_nI (by omega)]
      simp only [bd_some]
      refine ⟨_, _, _, rfl, rfl, h1, h2, h3, h4, ⟨t + 1, by omega, rfl, rfl, by rw [List.length_set]; exact t4, by rw [List.length_set]; exact t5, fun k hk => ?_⟩, h6, h7, h8, h9⟩
      show ((a_text_bytes w).set t a).getD k 0 = ((a_m_text m).set t a).getD k 0
      rw [gD_set _ _ _ _ (by omega), gD_set _ _ _ _ (by omega)]
      by_cases e : k = t
      · rw [if_pos e, if_pos e]
      · rw [if_neg e, if_neg e]
        exact t6 k (by omega)
  · simp only [if_neg c1, bd_some, e5]
    exact ⟨_, _, _, rfl, rfl, hR5⟩
theorem C_clear (h : R w m) : Ok (fun _ => Ff_clear_0 w) (fun _ => Fm_clear_89 m) := Ok.of 0 fun n hn => by
  obtain ⟨h1, h2, h3, h4, ⟨t, t1, t2, t3, t4, t5, t6⟩, h6, h7, h8, h9⟩ := h
  unfold Ff_clear_0 Fm_clear_89
  rw [t2, t3]
  exact ⟨_, _, _, rfl, rfl, h1, h2, h3, h4, ⟨0, by omega, rfl, rfl, t4, t5, fun k hk => absurd hk (by omega)⟩, h6, h7, h8, h9⟩
end CALLS
