/-! the worlds at the law's beginning stand side by side; the law as a whole -/
theorem LS0 : LSe wx0.2.1 wx0.2.2.1 wx0.2.2.2.1 := by unfold LSe; decide
theorem LS2 : LSe wx0.2.2.2.2.1 wx0.2.2.2.2.2.1 wx0.2.2.2.2.2.2.1 := by unfold LSe; decide
theorem LS3 : LSe wx0.2.2.2.2.2.2.2.1 wx0.2.2.2.2.2.2.2.2.1 wx0.2.2.2.2.2.2.2.2.2.1 := by unfold LSe; decide
theorem LS4 : LSe wx0.2.2.2.2.2.2.2.2.2.2.1 wx0.2.2.2.2.2.2.2.2.2.2.2.1 wx0.2.2.2.2.2.2.2.2.2.2.2.2.1 := by unfold LSe; decide
theorem beg0 : ∀ k, k < 149 → beg 4 k = sl (a_m_w wm0) 0 k := by decide +kernel
theorem RS0 : RS wx0.2.1 wx0.2.2.1 wx0.2.2.2.1 (sl (a_m_w wm0) 0) := by
  have h := RS_beg LS0 (x := 4) (isN_nI (k := 4) (a := 1) (b := 6) (by decide) (by decide) (by decide))
  exact RS_congr beg0 h
theorem R0 : R wx0 wm0 := ⟨by decide +kernel, RS0, ⟨⟨LS2, LS3, LS4⟩, by decide +kernel, by decide +kernel⟩, ⟨0, 0, rfl, rfl, fun q => absurd rfl q, fun q => absurd rfl q⟩, ⟨0, by decide, rfl, rfl, by decide +kernel, by decide +kernel, fun k hk => absurd hk (Nat.not_lt_zero k)⟩, rfl, ⟨rfl, rfl⟩, ⟨rfl, rfl, rfl, rfl, rfl, rfl⟩, ⟨rfl, rfl, rfl, rfl⟩⟩
theorem law_pure (xs : List Int32) (hl : xs.length ≤ 384) : ∃ h', ai_ev [[10, 13, 16, 20], xs] mlaw 0 [some (.retAddr 1), none, none, none] [] [] 0 0 (some (.int 1), h') := by
  obtain ⟨h', e⟩ := law_loop xs hl 65 0 wx0 wm0 (by omega) (by omega) R0
  exact ⟨h', law_begin xs e⟩
