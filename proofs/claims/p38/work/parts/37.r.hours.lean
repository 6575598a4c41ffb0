section C37f
variable {w : WX} {m : WM}
theorem C_hours (h : R w m) (a : Int32) : Ok (fun _ => Ff_hours_0 a w) (fun n => Fm_hours_89 n a m) := Ok.of 20 fun n hn => by
  by_cases c1 : 1 ≤ a ∧ a ≤ 99
  · by_cases c2 : sl (a_m_w m) 0 1 + a ≤ 999
    · have ha := isN_of1 (L := 1) (M := 99) (a := 1) (n := 99) rfl rfl c1 (by decide)
      have hh := h.s.c1
      have okH : isN (sl (a_m_w m) 0 1 + a) 0 999 := by
        have x1 := ha.2.1
        have x2 := hh.2.1
        have e : sl (a_m_w m) 0 1 + a = nI (Nn (sl (a_m_w m) 0 1) + Nn a) := by
          have y1 := ha.2.2
          have y2 := hh.2.2
          rw [← nI_add, ← y1, ← y2]
        rw [e] at c2 ⊢
        have := (nI_leI (a := Nn (sl (a_m_w m) 0 1) + Nn a) (b := 999) (by omega) (by decide)).mp c2
        exact isN_nI (by omega) this (by decide)
      obtain ⟨s, x1, x2⟩ := X_goOn h.s c1 c2 okH
      obtain ⟨m', y1, y2⟩ := M_hours (n := n) hn h.w c1 c2 h.s.c7
      refine ⟨_, _, _, ?_, y1, R_now h y2 x2⟩
      show (ai_bd (Fsea_goOn_1 a w) fun c => ai_bd (Ff_counted_0 c.1 c.2) fun d => some (d.1, d.2)) = _
      rw [x1, bd_some]
      show (ai_bd (Ff_counted_0 (sl (a_m_w m) 0 1 + a) (X1 w s w.2.2.1 w.2.2.2.1)) fun d => some (d.1, d.2)) = _
      have z := okH.2.1
      rw [okH.2.2, cnt_nI (by omega), bd_some]
    · obtain ⟨w3, m3, e3, e4, hR3⟩ := R_met h (-3)
      have e1 : a_s1_hour w = sl (a_m_w m) 0 1 := h.s.k (k := 1) (by omega)
      refine ⟨-3, w3, m3, ?_, ?_, hR3⟩
      · show (ai_bd (Fsea_goOn_1 a w) fun c => ai_bd (Ff_counted_0 c.1 c.2) fun d => some (d.1, d.2)) = _
        unfold Fsea_goOn_1
        rw [Ff_within_eq, bd_some, ifz, if_pos c1, e1, if_neg c2, bd_some, e3, bd_some]
      · show Fm_hours_89 n a m = _
        unfold Fm_hours_89
        rw [Fm_in_eq a (lo := 1) (hi := 99) 1 99 rfl rfl, bd_some, ifz, if_pos c1, m_ix0 h.w (x := 1) 1 rfl (by omega), bd_some, if_neg c2, e4, bd_some]
  · obtain ⟨w5, m5, e5, e6, hR5⟩ := R_met h (-2)
    refine ⟨-2, w5, m5, ?_, ?_, hR5⟩
    · show (ai_bd (Fsea_goOn_1 a w) fun c => ai_bd (Ff_counted_0 c.1 c.2) fun d => some (d.1, d.2)) = _
      unfold Fsea_goOn_1
      rw [Ff_within_eq, bd_some, ifz, if_neg c1, bd_some, e5, bd_some]
    · show Fm_hours_89 n a m = _
      unfold Fm_hours_89 Fm_bad_89
      rw [Fm_in_eq a (lo := 1) (hi := 99) 1 99 rfl rfl, bd_some, ifz, if_neg c1, e6, bd_some, bd_some]
end C37f
