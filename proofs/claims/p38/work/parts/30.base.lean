/-! numbers, rows, ranges -/
theorem in_le (x lo hi : Int32) (c : Prop) (h : c ↔ (lo ≤ x ∧ x ≤ hi)) [Decidable c] : (if c then (1 : Int32) else 0) = if lo ≤ x ∧ x ≤ hi then 1 else 0 := by
  by_cases hc : c
  · rw [if_pos hc, if_pos (h.mp hc)]
  · rw [if_neg hc, if_neg (fun z => hc (h.mpr z))]
theorem Ff_within_eq (x lo hi : Int32) : Ff_within x lo hi = some (if lo ≤ x ∧ x ≤ hi then 1 else 0) := by
  unfold Ff_within
  by_cases h1 : x < lo
  · rw [if_pos h1, if_neg (fun h => absurd h.1 (Int32.not_le.mpr h1))]
  · rw [if_neg h1]
    by_cases h2 : hi < x
    · rw [if_pos h2, if_neg (fun h => absurd h.2 (Int32.not_le.mpr h2))]
    · rw [if_neg h2, if_pos ⟨Int32.not_lt.mp h1, Int32.not_lt.mp h2⟩]
theorem Fm_in_eqL (x lo hi : Int64) : Fm_in x lo hi = some (if lo ≤ x ∧ x ≤ hi then 1 else 0) := by
  unfold Fm_in
  by_cases h1 : x < lo
  · rw [if_pos ((lg_cmp_lt x lo).mpr h1), if_neg (fun h => absurd h.1 (Int64.not_le.mpr h1))]
  · rw [if_neg (fun z => h1 ((lg_cmp_lt x lo).mp z))]
    by_cases h2 : hi < x
    · rw [if_pos ((lg_cmp_gt x hi).mpr h2), if_neg (fun h => absurd h.2 (Int64.not_le.mpr h2))]
    · rw [if_neg (fun z => h2 ((lg_cmp_gt x hi).mp z)), if_pos ⟨Int64.not_lt.mp h1, Int64.not_lt.mp h2⟩]
theorem wide_le (a b : Int32) : a.toInt64 ≤ b.toInt64 ↔ a ≤ b := by rw [Int64.le_iff_toInt_le, Int32.le_iff_toInt_le, Int32.toInt_toInt64, Int32.toInt_toInt64]
theorem Fm_in_eq (x : Int32) {lo hi : Int64} (l u : Int32) (hl : lo = l.toInt64) (hu : hi = u.toInt64) : Fm_in x.toInt64 lo hi = some (if l ≤ x ∧ x ≤ u then 1 else 0) := by
  rw [Fm_in_eqL, hl, hu]
  simp only [wide_le]
theorem i10 (c : Prop) [Decidable c] : ((if c then (1 : Int32) else 0) = 0 ∨ (if c then (1 : Int32) else 0) = 1) := by
  by_cases h : c
  · rw [if_pos h]; exact Or.inr rfl
  · rw [if_neg h]; exact Or.inl rfl
theorem i1z (c : Prop) [Decidable c] : ((if c then (1 : Int32) else 0) = 0) = ¬ c := by
  by_cases h : c
  · rw [if_pos h]; simp [h]
  · rw [if_neg h]; simp [h]
theorem bd_some {α β : Type} (a : α) (f : α → Option β) : ai_bd (some a) f = f a := rfl
theorem Ff_isLayer_eq (x : Int32) : Ff_isLayer x = some (if 0 ≤ x ∧ x ≤ 3 then 1 else 0) := by
  unfold Ff_isLayer
  rw [Ff_within_eq, bd_some, if_pos (i10 _)]
theorem Fm_isLayer_eq (x : Int32) : Fm_isLayer x = some (if 0 ≤ x ∧ x ≤ 3 then 1 else 0) := by
  unfold Fm_isLayer
  rw [Fm_in_eq x (lo := 0) (hi := 3) 0 3 rfl rfl, bd_some, if_pos (i10 _)]
theorem ix_e {l : List Int32} {i : Int32} (k : Nat) (e : i = nI k) (h : k < l.length) (hk : k < 2 ^ 31) : ai_ix l i = some (l.getD k 0) := by
  subst e
  unfold ai_ix
  rw [if_neg (nI_pos hk), nI_clamp hk, ai_nth_eq, List.getD_eq_getElem?_getD, List.getElem?_eq_getElem h]
  rfl
theorem up_e {l : List Int32} {i : Int32} (x : Int32) (k : Nat) (e : i = nI k) (h : k < l.length) (hk : k < 2 ^ 31) : ai_up l i x = some (l.set k x) := by
  subst e
  unfold ai_up
  rw [if_neg (nI_pos hk), nI_clamp hk]
  have hb : Nat.blt k l.length = true := Nat.ble_eq_true_of_le h
  rw [hb]
theorem gD_set (l : List Int32) (k j : Nat) (x : Int32) (h : k < l.length) : (l.set k x).getD j 0 = if j = k then x else l.getD j 0 := by
  rw [List.getD_eq_getElem?_getD, List.getD_eq_getElem?_getD]
  by_cases e : j = k
  · subst e
    rw [if_pos rfl, List.getElem?_set_self h]
    rfl
  · rw [if_neg e, List.getElem?_set_ne (fun q => e q.symm)]
theorem in0 {x M : Int32} (n : Nat) (hM : M.toInt = n) (h : 0 ≤ x ∧ x ≤ M) : ∃ j, j ≤ n ∧ x = nI j := nI_of2 hM (Int32.not_lt.mpr h.1) h.2
/-- the number that x is, and x between two numbers -/
def Nn (x : Int32) : Nat := x.toNatClampNeg
def isN (x : Int32) (a b : Nat) : Prop := a ≤ Nn x ∧ Nn x ≤ b ∧ x = nI (Nn x)
def rgI (x : Int32) (a b : Int) : Prop := a ≤ x.toInt ∧ x.toInt ≤ b
theorem Nn_nI {k : Nat} (h : k < 2 ^ 31) : Nn (nI k) = k := nI_clamp h
theorem isN_nI {k a b : Nat} (h1 : a ≤ k) (h2 : k ≤ b) (hb : b < 2 ^ 31) : isN (nI k) a b := by
  have h : Nn (nI k) = k := Nn_nI (by omega)
  exact ⟨by omega, by omega, by rw [h]⟩
theorem isN_of {x M : Int32} {n : Nat} (hM : M.toInt = n) (h : 0 ≤ x ∧ x ≤ M) (hn : n < 2 ^ 31) : isN x 0 n := by
  obtain ⟨j, hj, rfl⟩ := in0 n hM h
  exact isN_nI (Nat.zero_le _) hj hn
theorem isN_of1 {x L M : Int32} {a n : Nat} (hL : L.toInt = a) (hM : M.toInt = n) (h : L ≤ x ∧ x ≤ M) (hn : n < 2 ^ 31) : isN x a n := by
  have h1 := Int32.le_iff_toInt_le.mp h.1
  have h2 := Int32.le_iff_toInt_le.mp h.2
  rw [hL] at h1
  rw [hM] at h2
  have e : x = nI x.toInt.toNat := Int32.toInt_inj.mp (by rw [nI_toInt (by omega)]; omega)
  rw [e]
  exact isN_nI (by omega) (by omega) hn
theorem rgI_of {x L M : Int32} {a b : Int} (hL : L.toInt = a) (hM : M.toInt = b) (h : L ≤ x ∧ x ≤ M) : rgI x a b := by
  have h1 := Int32.le_iff_toInt_le.mp h.1
  have h2 := Int32.le_iff_toInt_le.mp h.2
  exact ⟨by omega, by omega⟩
theorem isN.ge {x : Int32} {a b : Nat} (h : isN x a b) (hb : b < 2 ^ 31) : 0 ≤ x := by
  rw [h.2.2]
  exact nI_pos' (by have := h.2.1; omega)
theorem isN.int {x : Int32} {a b : Nat} (h : isN x a b) (hb : b < 2 ^ 31) : x.toInt = (Nn x : Int) := by
  have h1 := h.2.1
  have := nI_toInt (n := Nn x) (by omega)
  rw [← h.2.2] at this
  exact this
theorem bd_if {α β : Type} (c : Prop) [Decidable c] (a b : Option α) (f : α → Option β) : ai_bd (if c then a else b) f = if c then ai_bd a f else ai_bd b f := by
  by_cases h : c
  · rw [if_pos h, if_pos h]
  · rw [if_neg h, if_neg h]
/-- what a place means: a cell below c and a layer -/
def plc (c : Nat) (x : Int32) : Prop := ∃ a b : Nat, x = nI (10 * a + b) ∧ a < c ∧ b < 4
