/-! nets: which are fish, how deep they come, what a net catches -/
def fiB (f : Nat → Int32) (mk : Int32) : Nat → Nat → Bool
  | 0, _ => true
  | d + 1, i => if C_bit mk (nI i) then (if f (67 + i) = 5 then fiB f mk d (i + 1) else false) else fiB f mk d (i + 1)
section C55
variable {W : WX} {m : WM} {f : Nat → Int32}
theorem X_fish (hs : RS W.2.1 W.2.2.1 W.2.2.2.1 f) (mk : Int32) : ∀ (d i n : Nat), i + d = Nn (f 2) → d < n → Gf_areFish_0 n 0 mk (nI i) W = some (if fiB f mk d i = true then 1 else 0, W) := by
  have h6 := hs.c2.2.1
  have e2 : a_s1things_count W = nI (Nn (f 2)) := (hs.k (k := 2) (by omega)).trans hs.c2.2.2
  have l1 : (a_s1things_kinds W).length = 6 := LSe_kinds hs.1
  intro d
  induction d with
  | zero =>
    intro i n hi hn
    obtain ⟨n, rfl⟩ : ∃ k, n = k + 1 := ⟨n - 1, by omega⟩
    rw [Gf_areFish_0, e2, if_pos (nI_le (by omega) (by omega))]
    rfl
  | succ d ih =>
    intro i n hi hn
    obtain ⟨n, rfl⟩ : ∃ k, n = k + 1 := ⟨n - 1, by omega⟩
    have t1 : (a_s1things_kinds W).getD i 0 = f (67 + i) := (hs.th (i := i) (by omega)).1
    rw [Gf_areFish_0, e2, if_neg (nI_ge (by omega) (by omega)), ix_e (l := a_s1things_kinds W) (i := nI i) i rfl (by omega) (by omega), t1, nI_1, fiB]
    simp only [bd_some]
    have go := ih (i + 1) n (by omega) (by omega)
    by_cases cb : C_bit mk (nI i)
    · rw [if_pos cb, if_pos cb]
      by_cases k5 : f (67 + i) = 5
      · rw [if_pos k5, if_pos k5]
        exact go
      · rw [if_neg k5, if_neg k5]
        rfl
    · rw [if_neg cb, if_neg cb]
      exact go
theorem M_fish (hw : (a_m_w m).length = 596) (hf : sl (a_m_w m) 0 = f) (h2 : isN (f 2) 0 6) (c mk q : Int32) : ∀ (d i n : Nat), i + d = Nn (f 2) → d < n → Gm_nets_89 n 0 c mk q (nI i) 0 0 0 0 0 0 m = if fiB f mk d i = true then Gm_nets_89 (n - d - 1) 1 c mk q 0 (-1) 0 0 0 0 0 m else (ai_bd (Fm_badAs_89 (-10) m) fun c763 => some (c763.1, c763.2)) := by
  have h6 := h2.2.1
  have e2 : ai_ix (a_m_w m) 2 = some (nI (Nn (f 2))) := by rw [m_ix0 hw (x := 2) 2 rfl (by omega), hf, ← h2.2.2]
  intro d
  induction d with
  | zero =>
    intro i n hi hn
    obtain ⟨n, rfl⟩ : ∃ k, n = k + 1 := ⟨n - 1, by omega⟩
    rw [Gm_nets_89, e2, bd_some, if_pos (nI_le (by omega) (by omega)), if_pos (show fiB f mk 0 i = true from rfl)]
    rfl
  | succ d ih =>
    intro i n hi hn
    obtain ⟨n, rfl⟩ : ∃ k, n = k + 1 := ⟨n - 1, by omega⟩
    have k1 : ai_ix (a_m_w m) (67 + nI i) = some (f (67 + i)) := by rw [m_ix0 hw (x := 67 + nI i) (67 + i) (by rw [show (67 : Int32) = nI 67 from rfl, nI_add]) (by omega), hf]
    rw [Gm_nets_89, e2, bd_some, if_neg (nI_ge (by omega) (by omega)), Fm_has_eq, k1, nI_1, fiB, show n + 1 - (d + 1) - 1 = n - d - 1 by omega]
    simp only [bd_some, ifz]
    have go := ih (i + 1) n (by omega) (by omega)
    by_cases cb : C_bit mk (nI i)
    · rw [if_pos cb, if_pos cb]
      by_cases k5 : f (67 + i) = 5
      · rw [if_pos k5, if_pos k5]
        exact go
      · rw [if_neg k5, if_neg k5, if_neg Bool.false_ne_true]
    · rw [if_neg cb, if_neg cb]
      exact go
end C55
