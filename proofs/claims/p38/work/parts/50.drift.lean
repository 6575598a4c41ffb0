/-! where a thing that sinks drifts to -/
theorem ps_dec : ∀ (q : Fin 16) (i : Fin 4), (nI q.val ||| (1 <<< (nI i.val &&& 31))) = nI (q.val ||| 2 ^ i.val) ∧ (q.val ||| 2 ^ i.val) < 16 := by decide +kernel
theorem pb_dec : ∀ (q : Fin 16) (i j : Fin 4), C_bit (nI (q.val ||| 2 ^ i.val)) (nI j.val) ↔ (C_bit (nI q.val) (nI j.val) ∨ j.val = i.val) := by decide +kernel
/-- what a fall says it passed, in two ways -/
def pInv (f : Nat → Int32) (c h : Nat) (ps : Int32) (p : List Int32) : Prop := (∃ q, q < 16 ∧ ps = nI q) ∧ p.length = 4 ∧ ∀ j, j < 4 → p.getD j 0 = if C_bit ps (nI j) then Tk f j c h else 0
theorem pInv_set {f : Nat → Int32} {c h : Nat} {ps : Int32} {p : List Int32} (H : pInv f c h ps p) {i : Nat} (hi : i < 4) : pInv f c h (ps ||| (1 <<< (nI i &&& 31))) (p.set i (Tk f i c h)) := by
  obtain ⟨⟨q, hq, e⟩, hl, hj⟩ := H
  obtain ⟨d1, d2⟩ := ps_dec ⟨q, hq⟩ ⟨i, hi⟩
  have d1 : (nI q ||| (1 <<< (nI i &&& 31))) = nI (q ||| 2 ^ i) := d1
  have d2 : (q ||| 2 ^ i) < 16 := d2
  rw [e, d1]
  refine ⟨⟨_, d2, rfl⟩, by rw [List.length_set]; exact hl, fun j hj4 => ?_⟩
  have b := pb_dec ⟨q, hq⟩ ⟨i, hi⟩ ⟨j, hj4⟩
  have b : C_bit (nI (q ||| 2 ^ i)) (nI j) ↔ (C_bit (nI q) (nI j) ∨ j = i) := b
  rw [gD_set _ _ _ _ (by omega)]
  by_cases z : j = i
  · rw [if_pos z, if_pos (b.mpr (Or.inr z)), z]
  · rw [if_neg z, hj j hj4, e]
    by_cases y : C_bit (nI q) (nI j)
    · rw [if_pos y, if_pos (b.mpr (Or.inl y))]
    · rw [if_neg y, if_neg (fun o => (b.mp o).elim y z)]
theorem fS_inv (f : Nat → Int32) (c h : Nat) (to We Rm Fc : Int32) : ∀ (k i : Nat) (la d b ps : Int32) (p : List Int32), i + k = 4 → pInv f c h ps p → pInv f c h (fS f c h to We Rm Fc k i la d b ps p).2.2.2.2.1 (fS f c h to We Rm Fc k i la d b ps p).2.2.2.2.2 := by
  intro k
  induction k with
  | zero => intro i la d b ps p hi hp; exact hp
  | succ k ih =>
    intro i la d b ps p hi hp
    have hs := pInv_set hp (i := i) (by omega)
    unfold fS
    by_cases t0 : Tk f i c h = 0
    · rw [if_pos t0]; exact ih _ _ _ _ _ _ (by omega) hp
    rw [if_neg t0]
    by_cases q : Rm * f (8 + i) < We
    · simp only [if_pos q]
      by_cases l0 : la = -1
      · rw [if_pos l0]; exact ih _ _ _ _ _ _ (by omega) hs
      rw [if_neg l0]
      by_cases cb : C_bit to (nI (i - 1))
      · rw [if_pos cb]; exact ih _ _ _ _ _ _ (by omega) hs
      rw [if_neg cb]
      by_cases cf : f (64 + (i - 1)) < Fc
      · rw [if_pos cf]; exact ih _ _ _ _ _ _ (by omega) hs
      · rw [if_neg cf]; exact hp
    · simp only [if_neg q]
      by_cases l0 : la = -1
      · rw [if_pos l0]; exact hp
      rw [if_neg l0]
      by_cases cb : C_bit to (nI (i - 1))
      · rw [if_pos cb]; exact hp
      rw [if_neg cb]
      by_cases cf : f (64 + (i - 1)) < Fc
      · rw [if_pos cf]; exact hp
      · rw [if_neg cf]; exact hp
theorem bit0_dec : ∀ j : Fin 4, ¬ C_bit 0 (nI j.val) := by decide +kernel
theorem fT_inv (f : Nat → Int32) (t c h : Nat) (b to : Int32) : pInv f c h (fT f t c h b to).2.2.2.2.1 (fT f t c h b to).2.2.2.2.2 := by
  refine fS_inv f c h to _ _ _ 4 0 (-1) 0 0 0 [0, 0, 0, 0] (by omega) ⟨⟨0, by omega, by rw [nI_0]⟩, rfl, fun j hj => ?_⟩
  rw [if_neg (bit0_dec ⟨j, hj⟩)]
  match j, hj with
  | 0, _ => rfl
  | 1, _ => rfl
  | 2, _ => rfl
  | 3, _ => rfl
theorem dr_dec : ∀ (c : Fin 7) (a : Fin 6) (u : Fin 3), a.val < c.val → (if 0 < (if (nI a.val + (nI u.val - 1)) < (nI c.val - 1) then (nI a.val + (nI u.val - 1)) else (nI c.val - 1)) then (if (nI a.val + (nI u.val - 1)) < (nI c.val - 1) then (nI a.val + (nI u.val - 1)) else (nI c.val - 1)) else 0) = (if C_cell (nI c.val) (nI a.val + (nI u.val - 1)) then nI a.val + (nI u.val - 1) else nI a.val) ∧ ∃ a2 : Fin 6, a2.val < c.val ∧ (if C_cell (nI c.val) (nI a.val + (nI u.val - 1)) then nI a.val + (nI u.val - 1) else nI a.val) = nI a2.val := by decide +kernel
theorem cur_u {x : Int32} (h : rgI x (-1) 1) : ∃ u, u < 3 ∧ x = nI u - 1 := by
  obtain ⟨h1, h2⟩ := h
  rcases (by omega : x.toInt = -1 ∨ x.toInt = 0 ∨ x.toInt = 1) with e | e | e
  · exact ⟨0, by omega, Int32.toInt_inj.mp (by rw [e]; decide)⟩
  · exact ⟨1, by omega, Int32.toInt_inj.mp (by rw [e]; decide)⟩
  · exact ⟨2, by omega, Int32.toInt_inj.mp (by rw [e]; decide)⟩
/-- so many steps by a current -/
def dN (c cur : Int32) : Nat → Int32 → Int32
  | 0, p => p
  | k + 1, p => dN c cur k (if C_cell c (p + cur) then p + cur else p)
theorem dr_one {c a : Nat} (hc : c ≤ 6) (ha : a < c) {cur : Int32} (hu : rgI cur (-1) 1) : (if 0 < (if (nI a + cur) < (nI c - 1) then (nI a + cur) else (nI c - 1)) then (if (nI a + cur) < (nI c - 1) then (nI a + cur) else (nI c - 1)) else 0) = (if C_cell (nI c) (nI a + cur) then nI a + cur else nI a) ∧ ∃ a2, a2 < c ∧ (if C_cell (nI c) (nI a + cur) then nI a + cur else nI a) = nI a2 := by
  obtain ⟨u, hu3, rfl⟩ := cur_u hu
  obtain ⟨d1, a2, d2, d3⟩ := dr_dec ⟨c, by omega⟩ ⟨a, by omega⟩ ⟨u, hu3⟩ ha
  exact ⟨d1, a2.val, d2, d3⟩
theorem dN_rng {c : Nat} (hc : c ≤ 6) {cur : Int32} (hu : rgI cur (-1) 1) : ∀ (k a : Nat), a < c → ∃ a2, a2 < c ∧ dN (nI c) cur k (nI a) = nI a2
  | 0, a, ha => ⟨a, ha, rfl⟩
  | k + 1, a, ha => by
    obtain ⟨-, a2, h2, e⟩ := dr_one hc ha hu
    rw [dN, e]
    exact dN_rng hc hu k a2 h2
section C50
variable {W : WX} {M : WM} {f : Nat → Int32}
theorem X_dr1 (hs : RS W.2.1 W.2.2.1 W.2.2.2.1 f) {p : List Int32} (hp : a_fall_passedThick W = p) (hl : p.length = 4) (x : Int32) {j z : Nat} (hj : j < 4) (hz : z ≤ 11) (ez : p.getD j 0 = nI z) : ∀ (d y n a : Nat), y + d = z → d + 1 < n → a < Nn (f 0) → Gfall_driftFrom_81_1 n 1 x (nI a) (nI j) (nI y) W = Gfall_driftFrom_81_1 (n - d - 1) 0 x (dN (f 0) (f (12 + j)) d (nI a)) (nI (j + 1)) 0 W := by
  have h7 := hs.c0.2.1
  have e0 : a_s1_cells W = f 0 := hs.k (k := 0) (by omega)
  have q0 := hs.c0.2.2
  have l1 : (a_s1_currents W).length = 4 := LSe_cur hs.1
  have t1 : (a_s1_currents W).getD j 0 = f (12 + j) := hs.cur hj
  have hu := hs.ok (k := 12 + j) (by omega)
  rw [okv_r12 _ _ (by omega) (by omega)] at hu
  obtain ⟨C, hC⟩ : ∃ C, Nn (f 0) = C := ⟨_, rfl⟩
  rw [hC] at q0 h7 ⊢
  intro d
  induction d with
  | zero =>
    intro y n a hy hn ha
    obtain ⟨n, rfl⟩ : ∃ k, n = k + 1 := ⟨n - 1, by omega⟩
    rw [Gfall_driftFrom_81_1, hp, ix_e (l := p) (i := nI j) j rfl (by omega) (by omega), bd_some, ez, if_pos (nI_le (by omega) (by omega)), nI_1]
    rfl
  | succ d ih =>
    intro y n a hy hn ha
    obtain ⟨n, rfl⟩ : ∃ k, n = k + 1 := ⟨n - 1, by omega⟩
    rw [Gfall_driftFrom_81_1, hp, ix_e (l := p) (i := nI j) j rfl (by omega) (by omega), bd_some, ez, if_neg (nI_ge (by omega) (by omega)), ix_e (l := a_s1_currents W) (i := nI j) j rfl (by omega) (by omega), bd_some, t1, e0, nI_1, q0]
    obtain ⟨d1, a2, h2, e⟩ := dr_one (c := C) (a := a) (by omega) ha hu
    rw [d1, dN, e]
    have := ih (y + 1) n a2 (by omega) (by omega) h2
    rw [q0] at this
    rw [this, show n - d - 1 = n + 1 - (d + 1) - 1 by omega]
theorem M_dr1 (hw : (a_m_w M).length = 596) (hf : sl (a_m_w M) 0 = f) (h0 : isN (f 0) 1 6) (x : Int32) {j z : Nat} (hj : j < 4) (hz : z ≤ 11) (hu : rgI (f (12 + j)) (-1) 1) : ∀ (d y n a : Nat), y + d = z → d + 1 < n → a < Nn (f 0) → Gm_driftsTo_89 n 1 x (nI a) (nI j) (nI z) (nI y) M = Gm_driftsTo_89 (n - d - 1) 0 x (dN (f 0) (f (12 + j)) d (nI a)) (nI (j + 1)) 0 0 M := by
  have h7 := h0.2.1
  have q0 := h0.2.2
  have k1 : ai_ix (a_m_w M) (12 + nI j) = some (f (12 + j)) := by rw [m_ix0 hw (x := 12 + nI j) (12 + j) (by rw [show (12 : Int32) = nI 12 from rfl, nI_add]) (by omega), hf]
  obtain ⟨C, hC⟩ : ∃ C, Nn (f 0) = C := ⟨_, rfl⟩
  rw [hC] at q0 h7 ⊢
  intro d
  induction d with
  | zero =>
    intro y n a hy hn ha
    obtain ⟨n, rfl⟩ : ∃ k, n = k + 1 := ⟨n - 1, by omega⟩
    rw [Gm_driftsTo_89, if_pos (nI_le (by omega) (by omega)), nI_1]
    rfl
  | succ d ih =>
    intro y n a hy hn ha
    obtain ⟨n, rfl⟩ : ∃ k, n = k + 1 := ⟨n - 1, by omega⟩
    rw [Gm_driftsTo_89, if_neg (nI_ge (by omega) (by omega)), k1, bd_some, M_isCell hw, hf]
    simp only [bd_some, ifz, k1]
    obtain ⟨-, a2, h2, e⟩ := dr_one (c := C) (a := a) (by omega) ha hu
    have := ih (y + 1) n a2 (by omega) (by omega) h2
    rw [← e, ← q0] at this
    rw [nI_1, show n + 1 - (d + 1) - 1 = n - d - 1 by omega, dN]
    by_cases z : C_cell (f 0) (nI a + f (12 + j))
    · rw [if_pos z, if_pos z]
      rw [if_pos z] at this
      exact this
    · rw [if_neg z, if_neg z]
      rw [if_neg z] at this
      exact this
end C50
