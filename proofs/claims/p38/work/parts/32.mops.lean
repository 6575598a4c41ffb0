/-! the reference's own changes of a sea, as changes of the numbers of that sea -/
def sl (v : List Int32) (r : Nat) : Nat → Int32 := fun k => v.getD (r + k) 0
theorem sl_set {v : List Int32} {r j : Nat} (x : Int32) (h : r + j < v.length) : sl (v.set (r + j) x) r = upd (sl v r) j x := by
  funext k
  unfold sl upd
  rw [gD_set _ _ _ _ h]
  by_cases e : k = j
  · rw [if_pos e, if_pos (by omega)]
  · rw [if_neg e, if_neg (by omega)]
theorem ifz {α : Type} (c : Prop) [Decidable c] (A B : α) : (if (if c then (1 : Int32) else 0) = 0 then A else B) = if c then B else A := by
  by_cases h : c
  · rw [if_pos h, if_pos h, if_neg (by decide)]
  · rw [if_neg h, if_neg h, if_pos rfl]
theorem ifz2 {α : Type} (c : Prop) [Decidable c] (A B : α) : (if (if c then (1 : Int32) else 0) = 0 ∨ (if c then (1 : Int32) else 0) = 1 then A else B) = A := if_pos (i10 c)
theorem nIadd (a : Nat) (b : Int32) (c : Nat) (hb : b = nI c) : nI a + b = nI (a + c) := by rw [hb, nI_add]
/-- a range test whose end is one less than a number -/
abbrev C_cell (c x : Int32) : Prop := 0 ≤ x ∧ x ≤ c - 1
abbrev C_lay (x : Int32) : Prop := 0 ≤ x ∧ x ≤ 3
abbrev C_pl (c x : Int32) : Prop := ¬ x < 0 ∧ C_cell c (x / 10) ∧ C_lay (x - x / 10 * 10)
theorem cell_N {c x : Int32} {n : Nat} (hc : isN c 1 n) (hn : n < 2 ^ 31) (h : C_cell c x) : ∃ j, j < Nn c ∧ x = nI j := by
  obtain ⟨h1, h2, h3⟩ := hc
  have e : c - 1 = nI (Nn c - 1) := by
    have h4 : c - 1 = nI (Nn c) - nI 1 := by rw [← h3]; rfl
    rw [h4]
    exact pk_sub h1
  obtain ⟨j, hj, hx⟩ := in0 (Nn c - 1) (by rw [e, nI_toInt (by omega)]) h
  exact ⟨j, by omega, hx⟩
theorem lay_N {x : Int32} (h : C_lay x) : ∃ j, j < 4 ∧ x = nI j := by
  obtain ⟨j, hj, hx⟩ := in0 3 rfl h
  exact ⟨j, by omega, hx⟩
theorem div10 {x : Int32} {k : Nat} (hk : k < 2 ^ 31) (e : x = nI k) : x / 10 = nI (k / 10) ∧ x - x / 10 * 10 = nI (k % 10) := by
  subst e
  exact ⟨pk_div (d := 10) hk (by decide) (by decide), pk_rem (d := 10) hk (by decide) (by decide)⟩
theorem pl_N {c x : Int32} {n : Nat} (hc : isN c 1 n) (hn : n < 2 ^ 31) (h : C_pl c x) : plc (Nn c) x := by
  obtain ⟨h1, h2, h3⟩ := h
  obtain ⟨k, hk, e⟩ := nI_of h1
  obtain ⟨d1, d2⟩ := div10 hk e
  obtain ⟨a, ha, ea⟩ := cell_N hc hn h2
  obtain ⟨b, hb, eb⟩ := lay_N h3
  rw [d1] at ea
  rw [d2] at eb
  have hA : Nn c ≤ n := hc.2.1
  have e1 : k / 10 = a := (nI_eq (by omega) (by omega)).mp ea
  have e2 : k % 10 = b := (nI_eq (by omega) (by omega)).mp eb
  refine ⟨a, b, ?_, ha, hb⟩
  rw [e]
  congr 1
  omega
section MOPS
variable {m : WM} {r : Nat}
theorem M_ix {x : Int32} (k : Nat) (hx : x = nI (r + k)) (hw : (a_m_w m).length = 596) (hr : r + 149 ≤ 596) (hk : k < 149) : ai_ix (a_m_w m) x = some (sl (a_m_w m) r k) := ix_e (r + k) hx (by omega) (by omega)
theorem M_up {x : Int32} (y : Int32) (k : Nat) (hx : x = nI (r + k)) (hw : (a_m_w m).length = 596) (hr : r + 149 ≤ 596) (hk : k < 149) : ai_up (a_m_w m) x y = some ((a_m_w m).set (r + k) y) := up_e y (r + k) hx (by omega) (by omega)
theorem M_becomes {x : Int32} (y : Int32) (k : Nat) (hx : x = nI (r + k)) (hw : (a_m_w m).length = 596) (hr : r + 149 ≤ 596) (hk : k < 149) : Fm_becomes_89 x y m = some (sl (a_m_w m) r k, u_m_w m ((a_m_w m).set (r + k) y)) := by
  unfold Fm_becomes_89
  rw [M_ix k hx hw hr hk, bd_some, M_up y k hx hw hr hk, bd_some]
theorem M_isCellOf {x b : Int32} (hx : x = nI r) (hw : (a_m_w m).length = 596) (hr : r + 149 ≤ 596) : Fm_isCellOf_89 x b m = some (if C_cell (sl (a_m_w m) r 0) b then 1 else 0, m) := by
  unfold Fm_isCellOf_89
  rw [M_ix 0 (by rw [hx]; exact nIadd r 0 0 rfl) hw hr (by omega), bd_some, Fm_in_eq b (lo := 0) 0 (sl (a_m_w m) r 0 - 1) rfl rfl, bd_some, ifz2]
theorem M_isPlaceOf {x b : Int32} (hx : x = nI r) (hw : (a_m_w m).length = 596) (hr : r + 149 ≤ 596) : Fm_isPlaceOf_89 x b m = some (if C_pl (sl (a_m_w m) r 0) b then 1 else 0, m) := by
  unfold Fm_isPlaceOf_89
  by_cases h1 : b < 0
  · rw [if_pos h1, if_neg (fun h => h.1 h1)]
  · rw [if_neg h1, M_isCellOf hx hw hr, bd_some]
    simp only [ifz]
    by_cases h2 : C_cell (sl (a_m_w m) r 0) (b / 10)
    · rw [if_pos h2, Fm_isLayer_eq, bd_some, ifz]
      by_cases h3 : C_lay (b - b / 10 * 10)
      · rw [if_pos h3, if_pos ⟨h1, h2, h3⟩]
      · rw [if_neg h3, if_neg (fun h => h3 h.2.2)]
    · rw [if_neg h2, if_neg (fun h => h2 h.2.1)]
/-- the reference's world with another row of numbers, the sea at r told anew, the rest as it was -/
def MW (m m' : WM) (r : Nat) (f : Nat → Int32) : Prop := ∃ v : List Int32, m' = u_m_w m v ∧ v.length = (a_m_w m).length ∧ (∀ k, k < 149 → sl v r k = f k) ∧ ∀ j, (j < r ∨ r + 149 ≤ j) → v.getD j 0 = (a_m_w m).getD j 0
theorem MW_rf (m : WM) (r : Nat) : MW m m r (sl (a_m_w m) r) := ⟨a_m_w m, rfl, rfl, fun _ _ => rfl, fun _ _ => rfl⟩
theorem MW_set {x : Int32} {k : Nat} (hw : (a_m_w m).length = 596) (hr : r + 149 ≤ 596) (hk : k < 149) : MW m (u_m_w m ((a_m_w m).set (r + k) x)) r (upd (sl (a_m_w m) r) k x) := by
  refine ⟨_, rfl, List.length_set, fun j _ => by rw [sl_set x (by omega)], fun j hj => ?_⟩
  rw [gD_set _ _ _ _ (by omega), if_neg (by omega)]
theorem MW_trans {m' m'' : WM} {f : Nat → Int32} (h1 : MW m m' r f) {g : Nat → Int32} (h2 : MW m' m'' r g) : MW m m'' r g := by
  obtain ⟨v, rfl, a1, a2, a3⟩ := h1
  obtain ⟨v2, rfl, b1, b2, b3⟩ := h2
  exact ⟨v2, rfl, b1.trans a1, b2, fun j hj => (b3 j hj).trans (a3 j hj)⟩
/-- the changes themselves -/
def A_thick (a b c : Int32) (f : Nat → Int32) : Int32 × (Nat → Int32) := if C_lay a then if C_cell (f 0) b then if 0 ≤ c ∧ c ≤ 9 then (f (40 + (6 * Nn a + Nn b)), upd f (40 + (6 * Nn a + Nn b)) c) else (-2, f) else (-2, f) else (-2, f)
theorem M_thick {x a b c : Int32} (hx : x = nI r) (hw : (a_m_w m).length = 596) (hr : r + 149 ≤ 596) (h0 : isN (sl (a_m_w m) r 0) 1 6) : ∃ m', Fm_thickTo_89 x a b c m = some ((A_thick a b c (sl (a_m_w m) r)).1, m') ∧ MW m m' r (A_thick a b c (sl (a_m_w m) r)).2 := by
  unfold A_thick
  simp only [Fm_thickTo_89, Fm_isLayer_eq, M_isCellOf hx hw hr, Fm_in_eq c (lo := 0) (hi := 9) 0 9 rfl rfl, bd_some, ifz]
  by_cases h1 : C_lay a
  · simp only [if_pos h1]
    by_cases h2 : C_cell (sl (a_m_w m) r 0) b
    · simp only [if_pos h2]
      by_cases h3 : 0 ≤ c ∧ c ≤ 9
      · simp only [if_pos h3]
        obtain ⟨j, hj, rfl⟩ := lay_N h1
        obtain ⟨k, hk, rfl⟩ := cell_N h0 (by decide) h2
        have h6 := h0.2.1
        rw [Nn_nI (by omega), Nn_nI (by omega)]
        rw [M_becomes c (40 + (6 * j + k)) (by rw [hx, nIadd r 40 40 rfl, show (6 : Int32) = nI 6 from rfl, pk_mul, nI_add, nI_add]; congr 1; omega) hw hr (by omega)]
        exact ⟨_, rfl, MW_set hw hr (by omega)⟩
      · simp only [if_neg h3]; exact ⟨_, rfl, MW_rf m r⟩
    · simp only [if_neg h2]; exact ⟨_, rfl, MW_rf m r⟩
  · simp only [if_neg h1]; exact ⟨_, rfl, MW_rf m r⟩
def A_skin (a c : Int32) (f : Nat → Int32) : Int32 × (Nat → Int32) := if 0 ≤ a ∧ a ≤ 2 then if 0 ≤ c ∧ c ≤ 99 then (f (64 + Nn a), upd f (64 + Nn a) c) else (-2, f) else (-2, f)
theorem M_skin {x a c : Int32} (hx : x = nI r) (hw : (a_m_w m).length = 596) (hr : r + 149 ≤ 596) : ∃ m', Fm_skinTo_89 x a c m = some ((A_skin a c (sl (a_m_w m) r)).1, m') ∧ MW m m' r (A_skin a c (sl (a_m_w m) r)).2 := by
  unfold A_skin
  simp only [Fm_skinTo_89, Fm_in_eq a (lo := 0) (hi := 2) 0 2 rfl rfl, Fm_in_eq c (lo := 0) (hi := 99) 0 99 rfl rfl, bd_some, ifz]
  by_cases h1 : 0 ≤ a ∧ a ≤ 2
  · simp only [if_pos h1]
    by_cases h3 : 0 ≤ c ∧ c ≤ 99
    · simp only [if_pos h3]
      obtain ⟨j, hj, rfl⟩ := in0 2 rfl h1
      rw [Nn_nI (by omega)]
      rw [M_becomes c (64 + j) (by rw [hx, nIadd r 64 64 rfl, nI_add]; congr 1; omega) hw hr (by omega)]
      exact ⟨_, rfl, MW_set hw hr (by omega)⟩
    · simp only [if_neg h3]; exact ⟨_, rfl, MW_rf m r⟩
  · simp only [if_neg h1]; exact ⟨_, rfl, MW_rf m r⟩
def A_water (a d : Int32) (f : Nat → Int32) : Int32 × (Nat → Int32) := if C_lay a then if 1 ≤ d ∧ d ≤ 99 then if (Nn a = 0 ∨ f (8 + (Nn a - 1)) < d) ∧ (Nn a = 3 ∨ d < f (8 + (Nn a + 1))) then (f (8 + Nn a), upd f (8 + Nn a) d) else (-3, f) else (-2, f) else (-2, f)
theorem M_water {x a d : Int32} (hx : x = nI r) (hw : (a_m_w m).length = 596) (hr : r + 149 ≤ 596) : ∃ m', Fm_waterTo_89 x a d m = some ((A_water a d (sl (a_m_w m) r)).1, m') ∧ MW m m' r (A_water a d (sl (a_m_w m) r)).2 := by
  unfold A_water
  simp only [Fm_waterTo_89, Fm_isLayer_eq, Fm_in_eq d (lo := 1) (hi := 99) 1 99 rfl rfl, bd_some, ifz]
  by_cases h1 : C_lay a
  · simp only [if_pos h1]
    by_cases h2 : 1 ≤ d ∧ d ≤ 99
    · simp only [if_pos h2]
      obtain ⟨j, hj, rfl⟩ := lay_N h1
      have e0 : Nn (nI j) = j := Nn_nI (by omega)
      rw [e0]
      have hb : Fm_becomes_89 ((x + 8) + nI j) d m = some (sl (a_m_w m) r (8 + j), u_m_w m ((a_m_w m).set (r + (8 + j)) d)) := M_becomes d (8 + j) (by rw [hx, nIadd r 8 8 rfl, nI_add]; congr 1; omega) hw hr (by omega)
      rw [hb]
      have hp : ai_ix (a_m_w m) (((x + 8) + nI j) + 1) = some (sl (a_m_w m) r (8 + (j + 1))) := M_ix (8 + (j + 1)) (by rw [hx, nIadd r 8 8 rfl, nI_add, show (1 : Int32) = nI 1 from rfl, nI_add]; congr 1; omega) hw hr (by omega)
      rw [hp]
      simp only [bd_some]
      by_cases j0 : j = 0
      · subst j0
        rw [if_pos (show nI 0 = 0 from rfl), if_neg (show ¬ nI 0 = 3 by decide)]
        by_cases h3 : sl (a_m_w m) r (8 + (0 + 1)) ≤ d
        · rw [if_pos h3, if_neg (fun q => by rcases q.2 with q | q; · omega
                                             · exact absurd q (Int32.not_lt.mpr h3))]
          exact ⟨_, rfl, MW_rf m r⟩
        · rw [if_neg h3, if_pos ⟨Or.inl rfl, Or.inr (Int32.not_le.mp h3)⟩]
          exact ⟨_, rfl, MW_set hw hr (by omega)⟩
      · rw [if_neg (show ¬ nI j = 0 from nI_ne0 (by omega) (by omega))]
        have hq : ai_ix (a_m_w m) (((x + 8) + nI j) - 1) = some (sl (a_m_w m) r (8 + (j - 1))) := M_ix (8 + (j - 1)) (by rw [hx, nIadd r 8 8 rfl, nI_add, show (1 : Int32) = nI 1 from rfl, pk_sub (by omega)]; congr 1; omega) hw hr (by omega)
        rw [hq]
        simp only [bd_some]
        by_cases h4 : d ≤ sl (a_m_w m) r (8 + (j - 1))
        · rw [if_pos h4, if_neg (fun q => by rcases q.1 with q | q; · omega
                                             · exact absurd q (Int32.not_lt.mpr h4))]
          exact ⟨_, rfl, MW_rf m r⟩
        · rw [if_neg h4]
          by_cases j3 : j = 3
          · subst j3
            rw [if_pos (show nI 3 = 3 from rfl), if_pos ⟨Or.inr (Int32.not_le.mp h4), Or.inl rfl⟩]
            exact ⟨_, rfl, MW_set hw hr (by omega)⟩
          · rw [if_neg (show ¬ nI j = 3 from fun q => j3 ((nI_eq (by omega) (by decide)).mp q))]
            by_cases h3 : sl (a_m_w m) r (8 + (j + 1)) ≤ d
            · rw [if_pos h3, if_neg (fun q => by rcases q.2 with q | q; · omega
                                                 · exact absurd q (Int32.not_lt.mpr h3))]
              exact ⟨_, rfl, MW_rf m r⟩
            · rw [if_neg h3, if_pos ⟨Or.inr (Int32.not_le.mp h4), Or.inr (Int32.not_le.mp h3)⟩]
              exact ⟨_, rfl, MW_set hw hr (by omega)⟩
    · simp only [if_neg h2]; exact ⟨_, rfl, MW_rf m r⟩
  · simp only [if_neg h1]; exact ⟨_, rfl, MW_rf m r⟩
def A_thing (a b c : Int32) (f : Nat → Int32) : Int32 × (Nat → Int32) := if 0 ≤ a ∧ a ≤ 5 then if 1 ≤ b ∧ b ≤ 99 then if 1 ≤ c ∧ c ≤ 9 then if Nn (f 2) = 6 then (-4, f) else (f 2, upd (upd (upd (upd (upd f (67 + Nn (f 2)) a) (73 + Nn (f 2)) b) (79 + Nn (f 2)) c) (85 + Nn (f 2)) 0) 2 (f 2 + 1)) else (-2, f) else (-2, f) else (-2, f)
theorem M_thing {x a b c : Int32} (hx : x = nI r) (hw : (a_m_w m).length = 596) (hr : r + 149 ≤ 596) (h2 : isN (sl (a_m_w m) r 2) 0 6) : ∃ m', Fm_thingTo_89 x a b c m = some ((A_thing a b c (sl (a_m_w m) r)).1, m') ∧ MW m m' r (A_thing a b c (sl (a_m_w m) r)).2 := by
  unfold A_thing
  simp only [Fm_thingTo_89, Fm_in_eq a (lo := 0) (hi := 5) 0 5 rfl rfl, Fm_in_eq b (lo := 1) (hi := 99) 1 99 rfl rfl, Fm_in_eq c (lo := 1) (hi := 9) 1 9 rfl rfl, bd_some, ifz]
  by_cases c1 : 0 ≤ a ∧ a ≤ 5
  · simp only [if_pos c1]
    by_cases c2 : 1 ≤ b ∧ b ≤ 99
    · simp only [if_pos c2]
      by_cases c3 : 1 ≤ c ∧ c ≤ 9
      · simp only [if_pos c3]
        rw [M_ix 2 (by rw [hx]; exact nIadd r 2 2 rfl) hw hr (by omega), bd_some]
        have e0 := h2.2.2
        have e1 := h2.2.1
        generalize hf : sl (a_m_w m) r = f at *
        generalize Nn (f 2) = t at *
        by_cases c4 : t = 6
        · rw [if_pos (by rw [e0, c4]; rfl), if_pos c4]
          exact ⟨_, rfl, by rw [← hf]; exact MW_rf m r⟩
        · rw [if_neg (fun q => c4 ((nI_eq (a := t) (b := 6) (by omega) (by decide)).mp (by rw [← e0, q]; rfl))), if_neg c4]
          have hk : ∀ k : Nat, (x + nI k) + f 2 = nI (r + (k + t)) := fun k => by rw [e0, hx, nI_add, nI_add]; congr 1; omega
          rw [up_e (l := a_m_w m) (i := x + 67 + f 2) a (r + (67 + t)) (hk 67) (by omega) (by omega), bd_some, up_e (l := (a_m_w m).set (r + (67 + t)) a) (i := x + 73 + f 2) b (r + (73 + t)) (hk 73) (by rw [List.length_set]; omega) (by omega), bd_some, up_e (l := ((a_m_w m).set (r + (67 + t)) a).set (r + (73 + t)) b) (i := x + 79 + f 2) c (r + (79 + t)) (hk 79) (by rw [List.length_set, List.length_set]; omega) (by omega), bd_some, up_e (l := (((a_m_w m).set (r + (67 + t)) a).set (r + (73 + t)) b).set (r + (79 + t)) c) (i := x + 85 + f 2) 0 (r + (85 + t)) (hk 85) (by rw [List.length_set, List.length_set, List.length_set]; omega) (by omega), bd_some]
          generalize hv : ((((a_m_w m).set (r + (67 + t)) a).set (r + (73 + t)) b).set (r + (79 + t)) c).set (r + (85 + t)) 0 = v
          have hvl : v.length = 596 := by rw [← hv, List.length_set, List.length_set, List.length_set, List.length_set]; exact hw
          have hvs : sl v r = upd (upd (upd (upd f (67 + t) a) (73 + t) b) (79 + t) c) (85 + t) 0 := by
            rw [← hv, sl_set _ (by rw [List.length_set, List.length_set, List.length_set]; omega), sl_set _ (by rw [List.length_set, List.length_set]; omega), sl_set _ (by rw [List.length_set]; omega), sl_set _ (by omega), hf]
          have h22 : v.getD (r + 2) 0 = f 2 := by
            have : sl v r 2 = f 2 := by
              rw [hvs, pk_un (by omega), pk_un (by omega), pk_un (by omega), pk_un (by omega)]
            exact this
          rw [ix_e (r + 2) (by rw [hx]; exact nIadd r 2 2 rfl) (by omega) (by omega), bd_some, h22, up_e _ (r + 2) (by rw [hx]; exact nIadd r 2 2 rfl) (by omega) (by omega), bd_some]
          refine ⟨_, rfl, v.set (r + 2) (f 2 + 1), rfl, by rw [List.length_set, hvl, hw], fun k _ => by rw [sl_set _ (by omega), hvs], fun j hj => ?_⟩
          rw [gD_set _ _ _ _ (by omega), if_neg (by omega), ← hv, gD_set _ _ _ _ (by rw [List.length_set, List.length_set, List.length_set]; omega), if_neg (by omega), gD_set _ _ _ _ (by rw [List.length_set, List.length_set]; omega), if_neg (by omega), gD_set _ _ _ _ (by rw [List.length_set]; omega), if_neg (by omega), gD_set _ _ _ _ (by omega), if_neg (by omega)]
      · simp only [if_neg c3]; exact ⟨_, rfl, MW_rf m r⟩
    · simp only [if_neg c2]; exact ⟨_, rfl, MW_rf m r⟩
  · simp only [if_neg c1]; exact ⟨_, rfl, MW_rf m r⟩
def A_lift (a b c : Int32) (f : Nat → Int32) : Int32 × (Nat → Int32) := if C_pl (f 0) a then if C_pl (f 0) b then if a = b then (-2, f) else if 1 ≤ c ∧ c ≤ 9 then if Nn (f 3) = 10 then (-4, f) else (f 3, upd (upd (upd (upd f (91 + Nn (f 3)) a) (101 + Nn (f 3)) b) (111 + Nn (f 3)) c) 3 (f 3 + 1)) else (-2, f) else (-2, f) else (-2, f)
theorem M_lift {x a b c : Int32} (hx : x = nI r) (hw : (a_m_w m).length = 596) (hr : r + 149 ≤ 596) (h3 : isN (sl (a_m_w m) r 3) 0 10) : ∃ m', Fm_liftTo_89 x a b c m = some ((A_lift a b c (sl (a_m_w m) r)).1, m') ∧ MW m m' r (A_lift a b c (sl (a_m_w m) r)).2 := by
  unfold A_lift
  simp only [Fm_liftTo_89, M_isPlaceOf hx hw hr, Fm_in_eq c (lo := 1) (hi := 9) 1 9 rfl rfl, bd_some, ifz]
  by_cases c1 : C_pl (sl (a_m_w m) r 0) a
  · simp only [if_pos c1]
    by_cases c2 : C_pl (sl (a_m_w m) r 0) b
    · simp only [if_pos c2]
      by_cases c0 : a = b
      · simp only [if_pos c0]; exact ⟨_, rfl, MW_rf m r⟩
      simp only [if_neg c0]
      by_cases c3 : 1 ≤ c ∧ c ≤ 9
      · simp only [if_pos c3]
        rw [M_ix 3 (by rw [hx]; exact nIadd r 3 3 rfl) hw hr (by omega), bd_some]
        have e0 := h3.2.2
        have e1 := h3.2.1
        generalize hf : sl (a_m_w m) r = f at *
        generalize Nn (f 3) = t at *
        by_cases c4 : t = 10
        · rw [if_pos (by rw [e0, c4]; rfl), if_pos c4]
          exact ⟨_, rfl, by rw [← hf]; exact MW_rf m r⟩
        · rw [if_neg (fun q => c4 ((nI_eq (a := t) (b := 10) (by omega) (by decide)).mp (by rw [← e0, q]; rfl))), if_neg c4]
          have hk : ∀ k : Nat, (x + nI k) + f 3 = nI (r + (k + t)) := fun k => by rw [e0, hx, nI_add, nI_add]; congr 1; omega
          rw [up_e (l := a_m_w m) (i := x + 91 + f 3) a (r + (91 + t)) (hk 91) (by omega) (by omega), bd_some, up_e (l := (a_m_w m).set (r + (91 + t)) a) (i := x + 101 + f 3) b (r + (101 + t)) (hk 101) (by rw [List.length_set]; omega) (by omega), bd_some, up_e (l := ((a_m_w m).set (r + (91 + t)) a).set (r + (101 + t)) b) (i := x + 111 + f 3) c (r + (111 + t)) (hk 111) (by rw [List.length_set, List.length_set]; omega) (by omega), bd_some]
          generalize hv : (((a_m_w m).set (r + (91 + t)) a).set (r + (101 + t)) b).set (r + (111 + t)) c = v
          have hvl : v.length = 596 := by rw [← hv, List.length_set, List.length_set, List.length_set]; exact hw
          have hvs : sl v r = upd (upd (upd f (91 + t) a) (101 + t) b) (111 + t) c := by
            rw [← hv, sl_set _ (by rw [List.length_set, List.length_set]; omega), sl_set _ (by rw [List.length_set]; omega), sl_set _ (by omega), hf]
          have h22 : v.getD (r + 3) 0 = f 3 := by
            have : sl v r 3 = f 3 := by
              rw [hvs, pk_un (by omega), pk_un (by omega), pk_un (by omega)]
            exact this
          rw [ix_e (r + 3) (by rw [hx]; exact nIadd r 3 3 rfl) (by omega) (by omega), bd_some, h22, up_e _ (r + 3) (by rw [hx]; exact nIadd r 3 3 rfl) (by omega) (by omega), bd_some]
          refine ⟨_, rfl, v.set (r + 3) (f 3 + 1), rfl, by rw [List.length_set, hvl, hw], fun k _ => by rw [sl_set _ (by omega), hvs], fun j hj => ?_⟩
          rw [gD_set _ _ _ _ (by omega), if_neg (by omega), ← hv, gD_set _ _ _ _ (by rw [List.length_set, List.length_set]; omega), if_neg (by omega), gD_set _ _ _ _ (by rw [List.length_set]; omega), if_neg (by omega), gD_set _ _ _ _ (by omega), if_neg (by omega)]
      · simp only [if_neg c3]; exact ⟨_, rfl, MW_rf m r⟩
    · simp only [if_neg c2]; exact ⟨_, rfl, MW_rf m r⟩
  · simp only [if_neg c1]; exact ⟨_, rfl, MW_rf m r⟩
/-- is there a town there among the first k, looked for from place e on -/
def twn (f : Nat → Int32) (p : Int32) (k : Nat) : Bool := (List.range k).any (fun e => decide (f (121 + e) = p))
theorem twn_iff {f : Nat → Int32} {p : Int32} {k : Nat} : twn f p k = true ↔ ∃ e, e < k ∧ f (121 + e) = p := by
  unfold twn
  rw [List.any_eq_true]
  constructor
  · rintro ⟨e, h1, h2⟩
    exact ⟨e, List.mem_range.mp h1, of_decide_eq_true h2⟩
  · rintro ⟨e, h1, h2⟩
    exact ⟨e, List.mem_range.mpr h1, decide_eq_true h2⟩
def A_town (p : Int32) (f : Nat → Int32) : Int32 × (Nat → Int32) := if C_pl (f 0) p then if twn f p (Nn (f 4)) = true then (-3, f) else if Nn (f 4) = 6 then (-4, f) else (f 4, upd (upd f (121 + Nn (f 4)) p) 4 (f 4 + 1)) else (-2, f)
theorem M_townG {x p : Int32} (hx : x = nI r) (hw : (a_m_w m).length = 596) (hr : r + 149 ≤ 596) (h4 : isN (sl (a_m_w m) r 4) 0 6) : ∀ (d e n : Nat), e + d = Nn (sl (a_m_w m) r 4) → d < n → (∀ i, i < e → ¬ sl (a_m_w m) r (121 + i) = p) → ∃ m', Gm_townTo_89 n 0 x p (sl (a_m_w m) r 4) (nI e) m = some ((if twn (sl (a_m_w m) r) p (Nn (sl (a_m_w m) r 4)) = true then (-3, sl (a_m_w m) r) else if Nn (sl (a_m_w m) r 4) = 6 then (-4, sl (a_m_w m) r) else (sl (a_m_w m) r 4, upd (upd (sl (a_m_w m) r) (121 + Nn (sl (a_m_w m) r 4)) p) 4 (sl (a_m_w m) r 4 + 1)) : Int32 × (Nat → Int32)).1, m') ∧ MW m m' r (if twn (sl (a_m_w m) r) p (Nn (sl (a_m_w m) r 4)) = true then (-3, sl (a_m_w m) r) else if Nn (sl (a_m_w m) r 4) = 6 then (-4, sl (a_m_w m) r) else (sl (a_m_w m) r 4, upd (upd (sl (a_m_w m) r) (121 + Nn (sl (a_m_w m) r 4)) p) 4 (sl (a_m_w m) r 4 + 1)) : Int32 × (Nat → Int32)).2 := by
  intro d
  have e0 := h4.2.2
  have e1 := h4.2.1
  generalize hf : sl (a_m_w m) r = f at *
  generalize Nn (f 4) = t at *
  induction d with
  | zero =>
    intro e n he hn hi
    obtain ⟨n, rfl⟩ : ∃ k, n = k + 1 := ⟨n - 1, by omega⟩
    have he : e = t := by omega
    subst he
    have ht : ¬ twn f p e = true := fun q => by
      obtain ⟨i, h1, h2⟩ := twn_iff.mp q
      exact hi i h1 h2
    rw [Gm_townTo_89, e0, if_pos (Int32.le_refl _), if_neg ht]
    by_cases c4 : e = 6
    · rw [if_pos (by rw [c4]; rfl), if_pos c4]
      exact ⟨_, rfl, by rw [← hf]; exact MW_rf m r⟩
    · rw [if_neg (show ¬ nI e = 6 from fun q => c4 ((nI_eq (a := e) (b := 6) (by omega) (by decide)).mp q)), if_neg c4]
      rw [up_e p (r + (121 + e)) (by rw [hx, nIadd r 121 121 rfl, nI_add]; congr 1; omega) (by omega) (by omega), bd_some]
      generalize hv : (a_m_w m).set (r + (121 + e)) p = v
      have hvl : v.length = 596 := by rw [← hv, List.length_set]; exact hw
      have hvs : sl v r = upd f (121 + e) p := by rw [← hv, sl_set _ (by omega), hf]
      have h22 : v.getD (r + 4) 0 = f 4 := by
        have : sl v r 4 = f 4 := by rw [hvs, pk_un (by omega)]
        exact this
      rw [ix_e (r + 4) (by rw [hx]; exact nIadd r 4 4 rfl) (by omega) (by omega), bd_some, h22, up_e _ (r + 4) (by rw [hx]; exact nIadd r 4 4 rfl) (by omega) (by omega), bd_some]
      refine ⟨_, by rw [e0], v.set (r + 4) (f 4 + 1), rfl, by rw [List.length_set, hvl, hw], fun k _ => by rw [sl_set _ (by omega), hvs, e0], fun j hj => ?_⟩
      rw [gD_set _ _ _ _ (by omega), if_neg (by omega), ← hv, gD_set _ _ _ _ (by omega), if_neg (by omega)]
  | succ d ih =>
    intro e n he hn hi
    obtain ⟨n, rfl⟩ : ∃ k, n = k + 1 := ⟨n - 1, by omega⟩
    rw [Gm_townTo_89, e0, if_neg (nI_ge (by omega) (by omega))]
    have hix : ai_ix (a_m_w m) ((x + 121) + nI e) = some (f (121 + e)) := by
      rw [← hf]
      exact M_ix (121 + e) (by rw [hx, nIadd r 121 121 rfl, nI_add]; congr 1; omega) hw hr (by omega)
    rw [hix, bd_some]
    by_cases hp : f (121 + e) = p
    · have ht : twn f p t = true := twn_iff.mpr ⟨e, by omega, hp⟩
      rw [if_pos hp, if_pos ht]
      exact ⟨_, rfl, by rw [← hf]; exact MW_rf m r⟩
    · rw [if_neg hp, nI_1]
      have := ih (e + 1) n (by omega) (by omega) (fun i h => by
        by_cases q : i = e
        · rw [q]; exact hp
        · exact hi i (by omega))
      rw [e0] at this
      exact this
theorem M_town {x p : Int32} {n : Nat} (hn : 7 ≤ n) (hx : x = nI r) (hw : (a_m_w m).length = 596) (hr : r + 149 ≤ 596) (h4 : isN (sl (a_m_w m) r 4) 0 6) : ∃ m', Fm_townTo_89 n x p m = some ((A_town p (sl (a_m_w m) r)).1, m') ∧ MW m m' r (A_town p (sl (a_m_w m) r)).2 := by
  unfold A_town
  simp only [Fm_townTo_89, M_isPlaceOf hx hw hr, bd_some, ifz]
  by_cases c1 : C_pl (sl (a_m_w m) r 0) p
  · simp only [if_pos c1]
    rw [M_ix 4 (by rw [hx]; exact nIadd r 4 4 rfl) hw hr (by omega), bd_some]
    have h5 := h4.2.1
    exact M_townG hx hw hr h4 (Nn (sl (a_m_w m) r 4)) 0 n (by omega) (by omega) (fun i h => absurd h (by omega))
  · simp only [if_neg c1]; exact ⟨_, rfl, MW_rf m r⟩
abbrev C_bit (x k : Int32) : Prop := ((x >>> (k &&& 31)) &&& 1) = 1
theorem Fm_has_eq (x k : Int32) : Fm_has x k = some (if C_bit x k then 1 else 0) := by
  unfold Fm_has
  by_cases h : C_bit x k
  · rw [if_pos h, if_pos h]
  · rw [if_neg h, if_neg h]
def A_dam (k b : Int32) (f : Nat → Int32) : Int32 × (Nat → Int32) := if 0 ≤ k ∧ k ≤ f 0 - 2 then if (if C_bit (f 5) k then (1 : Int32) else 0) = b then (-3, f) else (1, upd f 5 (f 5 ^^^ (1 <<< (k &&& 31)))) else (-2, f)
theorem M_dam {x k b : Int32} (hx : x = nI r) (hw : (a_m_w m).length = 596) (hr : r + 149 ≤ 596) : ∃ m', Fm_damTo_89 x k b m = some ((A_dam k b (sl (a_m_w m) r)).1, m') ∧ MW m m' r (A_dam k b (sl (a_m_w m) r)).2 := by
  unfold A_dam
  have h5 : ai_ix (a_m_w m) (x + 5) = some (sl (a_m_w m) r 5) := M_ix 5 (by rw [hx]; exact nIadd r 5 5 rfl) hw hr (by omega)
  simp only [Fm_damTo_89, M_ix (m := m) (r := r) (x := x + 0) 0 (by rw [hx]; exact nIadd r 0 0 rfl) hw hr (by omega), Fm_in_eq k (lo := 0) 0 (sl (a_m_w m) r 0 - 2) rfl rfl, h5, Fm_has_eq, bd_some, ifz]
  by_cases c1 : 0 ≤ k ∧ k ≤ sl (a_m_w m) r 0 - 2
  · simp only [if_pos c1]
    by_cases c2 : (if C_bit (sl (a_m_w m) r 5) k then (1 : Int32) else 0) = b
    · simp only [if_pos c2]; exact ⟨_, rfl, MW_rf m r⟩
    · simp only [if_neg c2]
      rw [M_up _ 5 (by rw [hx]; exact nIadd r 5 5 rfl) hw hr (by omega), bd_some]
      exact ⟨_, rfl, MW_set hw hr (by omega)⟩
  · simp only [if_neg c1]; exact ⟨_, rfl, MW_rf m r⟩
end MOPS
