/-! the two worlds side by side -/
def RT (w : WX) (m : WM) : Prop := ∃ n : Nat, n ≤ 150 ∧ a_text_length w = nI n ∧ a_m_texted m = nI n ∧ (a_text_bytes w).length = 150 ∧ (a_m_text m).length = 150 ∧ ∀ k, k < n → (a_text_bytes w).getD k 0 = (a_m_text m).getD k 0
def RI (w : WX) (m : WM) : Prop := ∃ k0 k1 : Int32, a_f_imageKept w = [k0, k1] ∧ a_m_isKept m = [k0, k1] ∧ (¬ k0 = 0 → RS w.2.2.2.2.2.2.2.1 w.2.2.2.2.2.2.2.2.1 w.2.2.2.2.2.2.2.2.2.1 (sl (a_m_w m) 149)) ∧ (¬ k1 = 0 → RS w.2.2.2.2.2.2.2.2.2.2.1 w.2.2.2.2.2.2.2.2.2.2.2.1 w.2.2.2.2.2.2.2.2.2.2.2.2.1 (sl (a_m_w m) 298))
def RL (w : WX) : Prop := LSe w.2.2.2.2.1 w.2.2.2.2.2.1 w.2.2.2.2.2.2.1 ∧ LSe w.2.2.2.2.2.2.2.1 w.2.2.2.2.2.2.2.2.1 w.2.2.2.2.2.2.2.2.2.1 ∧ LSe w.2.2.2.2.2.2.2.2.2.2.1 w.2.2.2.2.2.2.2.2.2.2.2.1 w.2.2.2.2.2.2.2.2.2.2.2.2.1
def RC (w : WX) : Prop := (a_f_downs w).length = 6 ∧ (a_text_numbers w).length = 3 ∧ (a_fall_passedThick w).length = 4 ∧ (a_spread_amounts w).length = 6 ∧ (a_spread_gifts w).length = 6 ∧ (a_ways_reached w).length = 24
def RD (m : WM) : Prop := (a_m_numbers m).length = 3 ∧ (a_m_far m).length = 60 ∧ (a_m_there m).length = 6 ∧ (a_m_gives m).length = 6
def R (w : WX) (m : WM) : Prop := (a_m_w m).length = 596 ∧ RS w.2.1 w.2.2.1 w.2.2.2.1 (sl (a_m_w m) 0) ∧ (RL w ∧ 0 ≤ a_s2_cells w ∧ 0 ≤ sl (a_m_w m) 447 0) ∧ RI w m ∧ RT w m ∧ a_m_refused m = [a_f_refusedBad w, a_f_refusedNo w, a_f_refusedFull w] ∧ (a_m_above m = a_f_above w ∧ a_m_below m = a_f_below w) ∧ RC w ∧ RD m
theorem R.w {w : WX} {m : WM} (h : R w m) : (a_m_w m).length = 596 := h.1
theorem R.s {w : WX} {m : WM} (h : R w m) : RS w.2.1 w.2.2.1 w.2.2.2.1 (sl (a_m_w m) 0) := h.2.1
/-- an answer alike, and the worlds side by side again; a fuel that is enough -/
def Ok {α : Type} (fx : Nat → Option (α × WX)) (fm : Nat → Option (α × WM)) : Prop := ∃ N, ∀ n, N ≤ n → ∃ r w' m', fx n = some (r, w') ∧ fm n = some (r, m') ∧ R w' m'
/-- the same, the answers being free -/
def Og {α : Type} (fx : Nat → Option (α × WX)) (fm : Nat → Option (α × WM)) : Prop := ∃ N, ∀ n, N ≤ n → ∃ r s w' m', fx n = some (r, w') ∧ fm n = some (s, m') ∧ R w' m'
theorem Ok.g {α : Type} {fx : Nat → Option (α × WX)} {fm : Nat → Option (α × WM)} (h : Ok fx fm) : Og fx fm := by
  obtain ⟨N, h⟩ := h
  exact ⟨N, fun n hn => by obtain ⟨r, w', m', a, b, c⟩ := h n hn; exact ⟨r, r, w', m', a, b, c⟩⟩
theorem Ok.of {α : Type} {fx : Nat → Option (α × WX)} {fm : Nat → Option (α × WM)} (N : Nat) (h : ∀ n, N ≤ n → ∃ r w' m', fx n = some (r, w') ∧ fm n = some (r, m') ∧ R w' m') : Ok fx fm := ⟨N, h⟩
section REL
variable {w : WX} {m : WM}
/-- the sea that is now, told anew in both -/
theorem R_now (h : R w m) {s : TS} {t : TT} {l : TL} {m' : WM} {f : Nat → Int32} (hM : MW m m' 0 f) (hS : RS s t l f) : R (X1 w s t l) m' := by
  obtain ⟨v, rfl, v1, v2, v3⟩ := hM
  obtain ⟨h1, h2, ⟨h3, h31, h32⟩, ⟨k0, k1, i1, i2, i3, i4⟩, h5, h6, h7, h8, h9⟩ := h
  have c : ∀ r, 149 ≤ r → ∀ k, k < 149 → sl (a_m_w m) r k = sl v r k := fun r hr k _ => (v3 (r + k) (Or.inr (by omega))).symm
  exact ⟨v1.trans h1, RS_congr (fun k hk => (v2 k hk).symm) hS, ⟨h3, h31, by rw [← c 447 (by omega) 0 (by omega)]; exact h32⟩, ⟨k0, k1, i1, i2, fun q => RS_congr (c 149 (by omega)) (i3 q), fun q => RS_congr (c 298 (by omega)) (i4 q)⟩, h5, h6, h7, h8, h9⟩
theorem R_met (h : R w m) (x : Int32) : ∃ w' m', Ff_counted_0 x w = some (x, w') ∧ Fm_met_89 x m = some (x, m') ∧ R w' m' := by
  obtain ⟨h1, h2, h3, h4, h5, h6, h7, h8, h9⟩ := h
  unfold Ff_counted_0 Fm_met_89
  rw [h6]
  by_cases c2 : x = -2
  · subst c2
    exact ⟨_, _, rfl, rfl, h1, h2, h3, h4, h5, rfl, h7, h8, h9⟩
  rw [if_neg c2, if_neg c2]
  by_cases c3 : x = -3
  · subst c3
    exact ⟨_, _, rfl, rfl, h1, h2, h3, h4, h5, rfl, h7, h8, h9⟩
  rw [if_neg c3, if_neg c3]
  by_cases c4 : x = -4
  · subst c4
    exact ⟨_, _, rfl, rfl, h1, h2, h3, h4, h5, rfl, h7, h8, h9⟩
  rw [if_neg c4, if_neg c4]
  exact ⟨_, _, rfl, rfl, h1, h2, h3, h4, h5, h6, h7, h8, h9⟩
theorem cnt_id {x : Int32} (h2 : ¬ x = -2) (h3 : ¬ x = -3) (h4 : ¬ x = -4) (w : WX) : Ff_counted_0 x w = some (x, w) := by
  unfold Ff_counted_0
  rw [if_neg h2, if_neg h3, if_neg h4]
theorem cnt_nI {k : Nat} (hk : k < 2 ^ 31) (w : WX) : Ff_counted_0 (nI k) w = some (nI k, w) := by
  have g : ∀ y : Int32, y < 0 → ¬ nI k = y := fun y hy e => nI_pos hk (by rw [e]; exact hy)
  exact cnt_id (g _ (by decide)) (g _ (by decide)) (g _ (by decide)) w
theorem R_badAs (h : R w m) (x : Int32) : ∃ w' m', Ff_bad_0 x w = some (x, w') ∧ Fm_badAs_89 x m = some (x, m') ∧ R w' m' := by
  obtain ⟨h1, h2, h3, h4, h5, h6, h7, h8, h9⟩ := h
  unfold Ff_bad_0 Fm_badAs_89
  rw [h6]
  exact ⟨_, _, rfl, rfl, h1, h2, h3, h4, h5, rfl, h7, h8, h9⟩
theorem R_bad (h : R w m) : ∃ w' m', Ff_bad_0 (-2) w = some (-2, w') ∧ Fm_bad_89 m = some (-2, m') ∧ R w' m' := by
  obtain ⟨h1, h2, h3, h4, h5, h6, h7, h8, h9⟩ := h
  unfold Ff_bad_0 Fm_bad_89 Fm_met_89
  rw [h6]
  exact ⟨_, _, rfl, rfl, h1, h2, h3, h4, h5, rfl, h7, h8, h9⟩
/-- a change of the sea that is now whose answer both count -/
theorem R_op (h : R w m) {ox : Option (Int32 × WX)} {om : Option (Int32 × WM)} {A : Int32 × (Nat → Int32)} (hx : ∃ s t l, ox = some (A.1, X1 w s t l) ∧ RS s t l A.2) (hm : ∃ m', om = some (A.1, m') ∧ MW m m' 0 A.2) : ∃ r w' m', (ai_bd ox fun c => ai_bd (Ff_counted_0 c.1 c.2) fun d => some (d.1, d.2)) = some (r, w') ∧ (ai_bd om fun c => ai_bd (Fm_met_89 c.1 c.2) fun d => some (d.1, d.2)) = some (r, m') ∧ R w' m' := by
  obtain ⟨s, t, l, rfl, hS⟩ := hx
  obtain ⟨m', rfl, hM⟩ := hm
  obtain ⟨w2, m2, e1, e2, hR⟩ := R_met (R_now h hM hS) A.1
  refine ⟨A.1, w2, m2, ?_, ?_, hR⟩
  · simp only [bd_some, e1]
  · simp only [bd_some, e2]
theorem C_sea (h : R w m) (a : Int32) : Ok (fun n => Ff_sea_0 n a w) (fun n => Fm_sea_89 n a m) := Ok.of 200 fun n hn => R_op h (X1_sea (by omega) h.s a) (M_sea (by omega) rfl h.w (by omega))
theorem C_water (h : R w m) (a b : Int32) : Ok (fun _ => Ff_water_0 a b w) (fun _ => Fm_water_89 a b m) := Ok.of 0 fun n hn => R_op h (X1_water h.s a b) (M_water rfl h.w (by omega))
theorem C_thick (h : R w m) (a b c : Int32) : Ok (fun _ => Ff_thick_0 a b c w) (fun _ => Fm_thick_89 a b c m) := Ok.of 0 fun n hn => R_op h (X1_thick h.s a b c) (M_thick rfl h.w (by omega) h.s.c0)
theorem C_skin (h : R w m) (a b : Int32) : Ok (fun _ => Ff_skin_0 a b w) (fun _ => Fm_skin_89 a b m) := Ok.of 0 fun n hn => R_op h (X1_skin h.s a b) (M_skin rfl h.w (by omega))
theorem C_thing (h : R w m) (a b c : Int32) : Ok (fun _ => Ff_thing_0 a b c w) (fun _ => Fm_thing_89 a b c m) := Ok.of 0 fun n hn => R_op h (X1_thing h.s a b c) (M_thing rfl h.w (by omega) h.s.c2)
theorem C_lift (h : R w m) (a b c : Int32) : Ok (fun _ => Ff_lift_0 a b c w) (fun _ => Fm_lift_89 a b c m) := Ok.of 0 fun n hn => R_op h (X1_lift h.s a b c) (M_lift rfl h.w (by omega) h.s.c3)
theorem C_town (h : R w m) (a : Int32) : Ok (fun n => Ff_town_0 n a w) (fun n => Fm_town_89 n a m) := Ok.of 20 fun n hn => R_op h (X1_town (by omega) h.s a) (M_town (by omega) rfl h.w (by omega) h.s.c4)
theorem C_dam (h : R w m) (a b : Int32) (hb : b = 0 ∨ b = 1) : Ok (fun _ => Ff_dam_0 a b w) (fun _ => Fm_dam_89 a b m) := Ok.of 0 fun n hn => R_op h (X1_dam h.s a b hb) (M_dam rfl h.w (by omega))
theorem C_tide (h : R w m) (a b c : Int32) : Ok (fun _ => Ff_tide_0 a b c w) (fun _ => Fm_tide_89 a b c m) := Ok.of 0 fun n hn => by
  obtain ⟨w2, m2, e1, e2, hR⟩ := R_badAs h (-10)
  simp only [Ff_tide_0, Fm_tide_89, Ff_isLayer_eq, Fm_isLayer_eq, Ff_within_eq, Fm_in_eq b (lo := 0) (hi := 5) 0 5 rfl rfl, Fm_in_eq c (lo := -2) (hi := 2) (-2) 2 rfl rfl, bd_some, ifz, e1, e2]
  by_cases h1 : C_lay a
  · simp only [if_pos h1]
    by_cases h2 : 0 ≤ b ∧ b ≤ 5
    · simp only [if_pos h2]
      by_cases h3 : -2 ≤ c ∧ c ≤ 2
      · simp only [if_pos h3]
        obtain ⟨j, hj, rfl⟩ := lay_N h1
        obtain ⟨k, hk, rfl⟩ := in0 5 rfl h2
        have e3 : nI j * 6 + nI k = nI (6 * j + k) := by rw [show (6 : Int32) = nI 6 from rfl, pk_mul, nI_add, Nat.mul_comm]
        have e4 : (16 + (6 * nI j)) + nI k = nI (0 + (16 + (6 * j + k))) := by rw [show (6 : Int32) = nI 6 from rfl, show (16 : Int32) = nI 16 from rfl, pk_mul, nI_add, nI_add]; congr 1; omega
        have hL : (a_s1_tides w).length = 24 := LSe_tides h.s.1
        rw [ix_e (l := a_s1_tides w) (6 * j + k) e3 (by omega) (by omega), bd_some, up_e (l := a_s1_tides w) c (6 * j + k) e3 (by omega) (by omega), bd_some, M_becomes (r := 0) c (16 + (6 * j + k)) e4 h.w (by omega) (by omega), bd_some]
        refine ⟨_, _, _, rfl, ?_, R_now h (MW_set h.w (by omega) (by omega)) (RS_upd h.s (j := 16 + (6 * j + k)) (Or.inl (by omega)) (LSe_set_tides h.s.1 _ _) (flset_tides _ _ _ _ (by omega) hL) (fun _ => by rw [okv_r16 _ _ (by omega) (by omega)]; exact rgI_of rfl rfl h3))⟩
        rw [← h.s.tides (by omega)]
      · simp only [if_neg h3]; exact ⟨_, _, _, rfl, rfl, hR⟩
    · simp only [if_neg h2]; exact ⟨_, _, _, rfl, rfl, hR⟩
  · simp only [if_neg h1]; exact ⟨_, _, _, rfl, rfl, hR⟩
theorem C_current (h : R w m) (a c : Int32) : Ok (fun _ => Ff_current_0 a c w) (fun _ => Fm_current_89 a c m) := Ok.of 0 fun n hn => by
  obtain ⟨w2, m2, e1, e2, hR⟩ := R_badAs h (-10)
  simp only [Ff_current_0, Fm_current_89, Ff_isLayer_eq, Fm_isLayer_eq, Ff_within_eq, Fm_in_eq c (lo := -1) (hi := 1) (-1) 1 rfl rfl, bd_some, ifz, e1, e2]
  by_cases h1 : C_lay a
  · simp only [if_pos h1]
    by_cases h3 : -1 ≤ c ∧ c ≤ 1
    · simp only [if_pos h3]
      obtain ⟨j, hj, rfl⟩ := lay_N h1
      have e4 : 12 + nI j = nI (0 + (12 + j)) := by rw [show (12 : Int32) = nI 12 from rfl, nI_add, Nat.zero_add]
      have hL : (a_s1_currents w).length = 4 := LSe_cur h.s.1
      rw [ix_e (l := a_s1_currents w) j rfl (by omega) (by omega), bd_some, up_e (l := a_s1_currents w) c j rfl (by omega) (by omega), bd_some, M_becomes (r := 0) c (12 + j) e4 h.w (by omega) (by omega), bd_some]
      refine ⟨_, _, _, rfl, ?_, R_now h (MW_set h.w (by omega) (by omega)) (RS_upd h.s (j := 12 + j) (Or.inl (by omega)) (LSe_set_cur h.s.1 _ _) (flset_cur _ _ _ _ (by omega) hL) (fun _ => by rw [okv_r12 _ _ (by omega) (by omega)]; exact rgI_of rfl rfl h3))⟩
      rw [← h.s.cur (by omega)]
    · simp only [if_neg h3]; exact ⟨_, _, _, rfl, rfl, hR⟩
  · simp only [if_neg h1]; exact ⟨_, _, _, rfl, rfl, hR⟩
/-- is there such a thing -/
abbrev C_th (c x : Int32) : Prop := 0 ≤ x ∧ x ≤ c - 1
theorem th_N {c x : Int32} {n : Nat} (hc : isN c 0 n) (hn : n < 2 ^ 31) (h : C_th c x) : ∃ j, j < Nn c ∧ x = nI j := by
  obtain ⟨h1, h2, h3⟩ := hc
  by_cases z : Nn c = 0
  · exfalso
    have e : c - 1 = -1 := by rw [h3, z]; rfl
    have a := Int32.le_iff_toInt_le.mp h.1
    have b := Int32.le_iff_toInt_le.mp h.2
    rw [e] at b
    have q : (-1 : Int32).toInt = -1 := rfl
    have q0 : (0 : Int32).toInt = 0 := rfl
    rw [q] at b
    rw [q0] at a
    omega
  · exact cell_N ⟨by omega, h2, h3⟩ hn h
theorem has_7 (x : Int32) (w : WX) : Fthg_has_7 x w = some (if C_th (a_s1things_count w) x then 1 else 0, w) := by
  unfold Fthg_has_7
  rw [Ff_within_eq, bd_some, ifz2]
theorem M_isThing (hw : (a_m_w m).length = 596) (x : Int32) : Fm_isThing_89 x m = some (if C_th (sl (a_m_w m) 0 2) x then 1 else 0, m) := by
  unfold Fm_isThing_89
  rw [M_ix (r := 0) (x := 2) 2 rfl hw (by omega) (by omega), bd_some, Fm_in_eq x (lo := 0) 0 (sl (a_m_w m) 0 2 - 1) rfl rfl, bd_some, ifz2]
theorem RS.th {s : TS} {t : TT} {l : TL} {f : Nat → Int32} (h : RS s t l f) {i : Nat} (hi : i < Nn (f 2)) : (q_kinds t).getD i 0 = f (67 + i) ∧ (q_weights t).getD i 0 = f (73 + i) ∧ (q_volumes t).getD i 0 = f (79 + i) ∧ (q_ballasts t).getD i 0 = f (85 + i) := by
  have h6 := h.c2.2.1
  have g : ∀ b : Nat, b < 4 → fl s t l (67 + 6 * b + i) = f (67 + 6 * b + i) := fun b hb => h.2.1 _ (by omega) (Or.inr (Or.inl ⟨by omega, by omega, by omega⟩))
  refine ⟨?_, ?_, ?_, ?_⟩
  · rw [← fl_kinds s t l (by omega)]; exact g 0 (by omega)
  · rw [← fl_weights s t l (by omega)]; exact g 1 (by omega)
  · rw [← fl_volumes s t l (by omega)]; exact g 2 (by omega)
  · rw [← fl_ballasts s t l (by omega)]; exact g 3 (by omega)
theorem C_ballast (h : R w m) (a c : Int32) : Ok (fun _ => Ff_ballast_0 a c w) (fun _ => Fm_ballast_89 a c m) := Ok.of 0 fun n hn => by
  obtain ⟨w2, m2, e1, e2, hR⟩ := R_bad h
  have e0 : a_s1things_count w = sl (a_m_w m) 0 2 := h.s.k (k := 2) (by omega)
  simp only [Ff_ballast_0, Fm_ballast_89, has_7, M_isThing h.w, Ff_within_eq, Fm_in_eq c (lo := 0) (hi := 99) 0 99 rfl rfl, bd_some, ifz, e1, e2, e0]
  by_cases h1 : C_th (sl (a_m_w m) 0 2) a
  · simp only [if_pos h1]
    by_cases h3 : 0 ≤ c ∧ c ≤ 99
    · simp only [if_pos h3]
      obtain ⟨j, hj, rfl⟩ := th_N h.s.c2 (by decide) h1
      have h6 := h.s.c2.2.1
      have e4 : 85 + nI j = nI (0 + (85 + j)) := by rw [show (85 : Int32) = nI 85 from rfl, nI_add, Nat.zero_add]
      have hL : (a_s1things_ballasts w).length = 6 := LSe_ballasts h.s.1
      rw [ix_e (l := a_s1things_ballasts w) j rfl (by omega) (by omega), bd_some, up_e (l := a_s1things_ballasts w) c j rfl (by omega) (by omega), bd_some, M_becomes (r := 0) c (85 + j) e4 h.w (by omega) (by omega), bd_some]
      refine ⟨_, _, _, rfl, ?_, R_now h (MW_set h.w (by omega) (by omega)) (RS_upd h.s (j := 85 + j) (Or.inl (by omega)) (LSe_set_ballasts h.s.1 _ _) (flset_ballasts _ _ _ _ (by omega) hL) (fun _ => by rw [okv_r67 _ _ (by omega) (by omega)]; trivial))⟩
      rw [← (h.s.th hj).2.2.2]
    · simp only [if_neg h3]; exact ⟨_, _, _, rfl, rfl, hR⟩
  · simp only [if_neg h1]; exact ⟨_, _, _, rfl, rfl, hR⟩
end REL
