theorem in_le (x lo hi : Int32) (c : Prop) (h : c ↔ (lo ≤ x ∧ x ≤ hi)) [Decidable c] : (if c then (1 : Int32) else 0) = if lo ≤ x ∧ x ≤ hi then 1 else 0 := by
  by_cases hc : c
  · rw [if_pos hc, if_pos (h.mp hc)]
  · rw [if_neg hc, if_neg (fun z => hc (h.mpr z))]
theorem Ff_within_eq (x lo hi : Int32) : Ff_within x lo hi = some (if lo ≤ x ∧ x ≤ hi then 1 else 0) := by
  unfold Ff_within
  by_cases h1 : x < lo
  · rw [if_pos h1, if_neg (fun h => absurd h.1 (Int32.not_le.mpr h1))]
  · rw [if_neg h1]
    by_cases h2 : hi < x
    · rw [if_pos h2, if_neg (fun h => absurd h.2 (Int32.not_le.mpr h2))]
    · rw [if_neg h2, if_pos ⟨Int32.not_lt.mp h1, Int32.not_lt.mp h2⟩]
theorem Fm_in_eqL (x lo hi : Int64) : Fm_in x lo hi = some (if lo ≤ x ∧ x ≤ hi then 1 else 0) := by
  unfold Fm_in
  by_cases h1 : x < lo
  · rw [if_pos ((lg_cmp_lt x lo).mpr h1), if_neg (fun h => absurd h.1 (Int64.not_le.mpr h1))]
  · rw [if_neg (fun z => h1 ((lg_cmp_lt x lo).mp z))]
    by_cases h2 : hi < x
    · rw [if_pos ((lg_cmp_gt x hi).mpr h2), if_neg (fun h => absurd h.2 (Int64.not_le.mpr h2))]
    · rw [if_neg (fun z => h2 ((lg_cmp_gt x hi).mp z)), if_pos ⟨Int64.not_lt.mp h1, Int64.not_lt.mp h2⟩]
theorem wide_le (a b : Int32) : a.toInt64 ≤ b.toInt64 ↔ a ≤ b := by rw [Int64.le_iff_toInt_le, Int32.le_iff_toInt_le, Int32.toInt_toInt64, Int32.toInt_toInt64]
theorem Fm_in_eq (x : Int32) {lo hi : Int64} (l u : Int32) (hl : lo = l.toInt64) (hu : hi = u.toInt64) : Fm_in x.toInt64 lo hi = some (if l ≤ x ∧ x ≤ u then 1 else 0) := by
  rw [Fm_in_eqL, hl, hu]
  simp only [wide_le]
theorem rg32 {a L U : Int32} (h : L ≤ a ∧ a ≤ U) (lo : Int) (n : Nat) (hl : L.toInt = lo) (hu : U.toInt = lo + n - 1) : a ∈ (List.range n).map (fun (k : Nat) => Int32.ofInt (lo + (k : Int))) := by
  have h1 := Int32.le_iff_toInt_le.mp h.1
  have h2 := Int32.le_iff_toInt_le.mp h.2
  refine List.mem_map.mpr ⟨(a.toInt - lo).toNat, List.mem_range.mpr (by omega), ?_⟩
  rw [show lo + ((a.toInt - lo).toNat : Int) = a.toInt by omega]
  exact Int32.ofInt_toInt a
def rgl (lo : Int) (n : Nat) : List Int32 := (List.range n).map (fun (k : Nat) => Int32.ofInt (lo + (k : Int)))
def eqv {α β γ : Type} [DecidableEq α] (o : Option (α × β)) (p : Option (α × γ)) : Bool := match o, p with
  | some a, some b => decide (a.1 = b.1)
  | _, _ => false
theorem eqvE {α β γ : Type} [DecidableEq α] {o : Option (α × β)} {p : Option (α × γ)} (h : eqv o p = true) : ∃ r w m, o = some (r, w) ∧ p = some (r, m) := by
  cases o with
  | none => cases h
  | some a =>
    cases p with
    | none => cases h
    | some b =>
      have e : a.1 = b.1 := of_decide_eq_true h
      exact ⟨a.1, a.2, b.2, rfl, by rw [e]⟩
theorem eqv_some {α β γ : Type} [DecidableEq α] (r : α) (w : β) (m : γ) : eqv (some (r, w)) (some (r, m)) = true := decide_eq_true rfl
theorem i10 (c : Prop) [Decidable c] : ((if c then (1 : Int32) else 0) = 0 ∨ (if c then (1 : Int32) else 0) = 1) := by
  by_cases h : c
  · rw [if_pos h]; exact Or.inr rfl
  · rw [if_neg h]; exact Or.inl rfl
theorem i1z (c : Prop) [Decidable c] : ((if c then (1 : Int32) else 0) = 0) = ¬ c := by
  by_cases h : c
  · rw [if_pos h]; simp [h]
  · rw [if_neg h]; simp [h]
theorem bd_some {α β : Type} (a : α) (f : α → Option β) : ai_bd (some a) f = f a := rfl
theorem Ff_isLayer_eq (x : Int32) : Ff_isLayer x = some (if 0 ≤ x ∧ x ≤ 3 then 1 else 0) := by
  unfold Ff_isLayer
  rw [Ff_within_eq, bd_some, if_pos (i10 _)]
theorem Fm_isLayer_eq (x : Int32) : Fm_isLayer x = some (if 0 ≤ x ∧ x ≤ 3 then 1 else 0) := by
  unfold Fm_isLayer
  rw [Fm_in_eq x (lo := 0) (hi := 3) 0 3 rfl rfl, bd_some, if_pos (i10 _)]
theorem Fsea_hasCell_1_eq (x : Int32) (w : WX) : Fsea_hasCell_1 x w = some (if 0 ≤ x ∧ x ≤ a_s1_cells w - 1 then 1 else 0, w) := by
  unfold Fsea_hasCell_1
  rw [Ff_within_eq, bd_some, if_pos (i10 _)]
theorem hasCell0 (x : Int32) : Fsea_hasCell_1 x wx0 = some (if 0 ≤ x ∧ x ≤ 3 then 1 else 0, wx0) := Fsea_hasCell_1_eq x wx0
theorem isCellOf0 (x : Int32) : Fm_isCellOf_89 0 x wm0 = some (if 0 ≤ x ∧ x ≤ 3 then 1 else 0, wm0) := by
  unfold Fm_isCellOf_89
  rw [show ai_ix (a_m_w wm0) (0 + 0) = some 4 from by decide +kernel, bd_some, Fm_in_eq x (lo := 0) (hi := (4 - 1 : Int32).toInt64) 0 3 rfl rfl, bd_some, if_pos (i10 _)]
theorem isCell0 (x : Int32) : Fm_isCell_89 x wm0 = some (if 0 ≤ x ∧ x ≤ 3 then 1 else 0, wm0) := by
  unfold Fm_isCell_89
  rw [isCellOf0, bd_some, if_pos (i10 _)]
theorem no_m1 (x : Int32) : ¬ (0 ≤ x ∧ x ≤ -1) := by
  intro h
  have h1 := Int32.le_iff_toInt_le.mp h.1
  have h2 := Int32.le_iff_toInt_le.mp h.2
  have e1 : (0 : Int32).toInt = 0 := by decide
  have e2 : (-1 : Int32).toInt = -1 := by decide
  omega
theorem hasThing0 (x : Int32) : Fthg_has_7 x wx0 = some (0, wx0) := by
  unfold Fthg_has_7
  rw [Ff_within_eq, bd_some, if_pos (i10 _), show (a_s1things_count wx0) - 1 = -1 from by decide, if_neg (no_m1 x)]
theorem isThing0 (x : Int32) : Fm_isThing_89 x wm0 = some (0, wm0) := by
  unfold Fm_isThing_89
  rw [show ai_ix (a_m_w wm0) 2 = some 0 from by decide +kernel, bd_some, Fm_in_eq x (lo := 0) (hi := (0 - 1 : Int32).toInt64) 0 (-1) rfl (by decide), bd_some, if_pos (i10 _), if_neg (no_m1 x)]
theorem fbad (r : Int32) (w : WX) : ∃ w', Ff_bad_0 r w = some (r, w') := ⟨_, rfl⟩
theorem mbadAs0 (r : Int32) : ∃ m', Fm_badAs_89 r wm0 = some (r, m') := ⟨_, by
  unfold Fm_badAs_89
  rw [show ai_ix (a_m_refused wm0) 0 = some 0 from by decide +kernel, bd_some, show ai_up (a_m_refused wm0) 0 (0 + 1) = some [1, 0, 0] from by decide +kernel, bd_some]⟩
theorem mbad0 : ∃ m', Fm_bad_89 wm0 = some (-2, m') := ⟨_, by
  show Fm_bad_89 wm0 = some (-2, u_m_refused wm0 [1, 0, 0])
  rfl⟩
theorem mmet0 : ∃ m', Fm_met_89 (-2) wm0 = some (-2, m') := ⟨_, by
  show Fm_met_89 (-2) wm0 = some (-2, u_m_refused wm0 [1, 0, 0])
  rfl⟩
theorem fcnt0 : ∃ w', Ff_counted_0 (-2) wx0 = some (-2, w') := ⟨_, rfl⟩
def PL (x : Int32) : Prop := ¬ x < 0 ∧ (0 ≤ x / 10 ∧ x / 10 ≤ 3) ∧ (0 ≤ x - x / 10 * 10 ∧ x - x / 10 * 10 ≤ 3)
theorem hasPlace0 (x : Int32) (h : ¬ PL x) : Fsea_hasPlace_1 x wx0 = some (0, wx0) := by
  unfold Fsea_hasPlace_1
  by_cases h1 : x < 0
  · rw [if_pos h1]
  · rw [if_neg h1, hasCell0, bd_some]
    by_cases h2 : 0 ≤ x / 10 ∧ x / 10 ≤ 3
    · simp only [if_pos h2]
      rw [if_neg (by decide), Ff_isLayer_eq, bd_some, if_neg (fun h3 => h ⟨h1, h2, h3⟩), if_pos rfl]
    · simp only [if_neg h2, if_true]
theorem hasPlace1 (x : Int32) (h : PL x) : Fsea_hasPlace_1 x wx0 = some (1, wx0) := by
  unfold Fsea_hasPlace_1
  rw [if_neg h.1, hasCell0, bd_some]
  simp only [if_pos h.2.1]
  rw [if_neg (by decide), Ff_isLayer_eq, bd_some, if_pos h.2.2, if_neg (by decide)]
theorem isPlace0 (x : Int32) (h : ¬ PL x) : Fm_isPlaceOf_89 0 x wm0 = some (0, wm0) := by
  unfold Fm_isPlaceOf_89
  by_cases h1 : x < 0
  · rw [if_pos h1]
  · rw [if_neg h1, isCellOf0, bd_some]
    by_cases h2 : 0 ≤ x / 10 ∧ x / 10 ≤ 3
    · simp only [if_pos h2]
      rw [if_neg (by decide), Fm_isLayer_eq, bd_some, if_neg (fun h3 => h ⟨h1, h2, h3⟩), if_pos rfl]
    · simp only [if_neg h2, if_true]
theorem isPlace1 (x : Int32) (h : PL x) : Fm_isPlaceOf_89 0 x wm0 = some (1, wm0) := by
  unfold Fm_isPlaceOf_89
  rw [if_neg h.1, isCellOf0, bd_some]
  simp only [if_pos h.2.1]
  rw [if_neg (by decide), Fm_isLayer_eq, bd_some, if_pos h.2.2, if_neg (by decide)]
def pll : List Int32 := [0, 1, 2, 3, 10, 11, 12, 13, 20, 21, 22, 23, 30, 31, 32, 33]
theorem PL_mem {x : Int32} (h : PL x) : x ∈ pll := by
  obtain ⟨h0, ⟨h1, h2⟩, h3, h4⟩ := h
  obtain ⟨j, hj, rfl⟩ := nI_of h0
  rw [show (10 : Int32) = nI 10 from rfl, pk_div hj (by decide) (by decide)] at h2
  have h5 : j / 10 ≤ 3 := (nI_leI (by omega) (by decide)).mp h2
  have h6 : j < 40 := by omega
  have key : ∀ j : Nat, j < 40 → (nI j - nI j / 10 * 10 ≤ 3) → nI j ∈ pll := by decide +kernel
  exact key j h6 h4
