section C37e
variable {w : WX} {m : WM}
theorem M_hours {a : Int32} {n : Nat} (hn : 20 ≤ n) (hw : (a_m_w m).length = 596) (c1 : 1 ≤ a ∧ a ≤ 99) (c2 : sl (a_m_w m) 0 1 + a ≤ 999) (h7 : isN (sl (a_m_w m) 0 7) 0 10) : ∃ m', Fm_hours_89 n a m = some (sl (a_m_w m) 0 1 + a, m') ∧ MW m m' 0 (A_h (sl (a_m_w m) 0) (sl (a_m_w m) 0 1 + a)) := by
  unfold Fm_hours_89 A_h
  rw [Fm_in_eq a (lo := 1) (hi := 99) 1 99 rfl rfl, bd_some, ifz, if_pos c1, m_ix0 hw (x := 7) 7 rfl (by omega), m_ix0 hw (x := 1) 1 rfl (by omega)]
  simp only [bd_some]
  have q2 := h7.2.2
  have q3 := h7.2.1
  rw [if_pos c2]
  generalize hf : sl (a_m_w m) 0 = f at *
  generalize hk : Nn (f 7) = k at *
  by_cases c3 : k = 10
  · have f7 : f 7 = 10 := by rw [q2, c3]; rfl
    rw [if_pos f7, if_pos c3]
    obtain ⟨v, v1, v2, v3⟩ := M_shift (x := a) 9 0 m (by omega) hw
    have v3 := v3 (n - 9)
    rw [show n - 9 + 9 = n by omega] at v3
    have v3 : Gm_hours_89 n 0 a 0 m = Gm_hours_89 (n - 9) 0 a (nI 9) (u_m_w m v) := v3
    have vk : ∀ j, j < 139 → v.getD j 0 = f j := fun j hj => by
      rw [v2 j, if_neg (by omega), sl0, hf]
    obtain ⟨n', hn'⟩ : ∃ n', n - 9 = n' + 1 := ⟨n - 10, by omega⟩
    rw [v3, hn', M_hoursE]
    rw [ix_e (l := v) (i := 7) 7 rfl (by omega) (by omega), bd_some, vk 7 (by omega), f7, show (10 : Int32) - 1 = 9 from rfl, up_e (l := v) (i := 7) 9 7 rfl (by omega) (by omega), bd_some]
    rw [ix_e (l := v.set 7 9) (i := 7) 7 rfl (by rw [List.length_set]; omega) (by omega), bd_some, gD_set _ _ _ _ (by omega), if_pos rfl, ix_e (l := v.set 7 9) (i := 1) 1 rfl (by rw [List.length_set]; omega) (by omega), bd_some, gD_set _ _ _ _ (by omega), if_neg (by omega), vk 1 (by omega), up_e (l := v.set 7 9) (i := 139 + 9) (f 1) 148 rfl (by rw [List.length_set]; omega) (by omega), bd_some]
    rw [ix_e (l := (v.set 7 9).set 148 (f 1)) (i := 7) 7 rfl (by rw [List.length_set, List.length_set]; omega) (by omega), bd_some, gD_set _ _ _ _ (by rw [List.length_set]; omega), if_neg (by omega), gD_set _ _ _ _ (by omega), if_pos rfl, show (9 : Int32) + 1 = 10 from rfl, up_e (l := (v.set 7 9).set 148 (f 1)) (i := 7) 10 7 rfl (by rw [List.length_set, List.length_set]; omega) (by omega), bd_some]
    rw [ix_e (l := ((v.set 7 9).set 148 (f 1)).set 7 10) (i := 1) 1 rfl (by rw [List.length_set, List.length_set, List.length_set]; omega) (by omega), bd_some, gD_set _ _ _ _ (by rw [List.length_set, List.length_set]; omega), if_neg (by omega), gD_set _ _ _ _ (by rw [List.length_set]; omega), if_neg (by omega), gD_set _ _ _ _ (by omega), if_neg (by omega), vk 1 (by omega), up_e (l := ((v.set 7 9).set 148 (f 1)).set 7 10) (i := 1) (f 1 + a) 1 rfl (by rw [List.length_set, List.length_set, List.length_set]; omega) (by omega), bd_some]
    rw [ix_e (l := (((v.set 7 9).set 148 (f 1)).set 7 10).set 1 (f 1 + a)) (i := 1) 1 rfl (by rw [List.length_set, List.length_set, List.length_set, List.length_set]; omega) (by omega), bd_some, gD_set _ _ _ _ (by rw [List.length_set, List.length_set, List.length_set]; omega), if_pos rfl, M_u2, M_u2, M_u2, M_u2]
    have hV : ∀ j, ((((v.set 7 9).set 148 (f 1)).set 7 10).set 1 (f 1 + a)).getD j 0 = if j = 1 then f 1 + a else if j = 148 then f 1 else if 139 ≤ j ∧ j < 148 then (a_m_w m).getD (j + 1) 0 else (a_m_w m).getD j 0 := by
      intro j
      rw [gD_set _ _ _ _ (by rw [List.length_set, List.length_set, List.length_set]; omega), gD_set _ _ _ _ (by rw [List.length_set, List.length_set]; omega), gD_set _ _ _ _ (by rw [List.length_set]; omega), gD_set _ _ _ _ (by omega), v2 j]
      by_cases j1 : j = 1
      · rw [if_pos j1, if_pos j1]
      rw [if_neg j1, if_neg j1]
      by_cases j7 : j = 7
      · rw [if_pos j7, if_neg (by omega), if_neg (by omega), j7, sl0, hf, f7]
      rw [if_neg j7, if_neg j7]
    refine ⟨_, rfl, _, rfl, by rw [List.length_set, List.length_set, List.length_set, List.length_set, v1, hw], fun j hj => ?_, fun j hj => ?_⟩
    · show ((((v.set 7 9).set 148 (f 1)).set 7 10).set 1 (f 1 + a)).getD (0 + j) 0 = sh f (f 1 + a) j
      rw [Nat.zero_add, hV j, sl0, sl0, hf]
      rfl
    · rw [hV j, if_neg (by omega), if_neg (by omega), if_neg (by omega)]
  · rw [if_neg (show ¬ f 7 = 10 from fun q => c3 ((nI_eq (a := k) (b := 10) (by omega) (by decide)).mp (by rw [← q2, q]; rfl))), if_neg c3, up_e (l := a_m_w m) (i := 139 + f 7) (f 1) (139 + k) (by rw [q2, show (139 : Int32) = nI 139 from rfl, nI_add]) (by omega) (by omega), bd_some]
    rw [ix_e (l := (a_m_w m).set (139 + k) (f 1)) (i := 7) 7 rfl (by rw [List.length_set]; omega) (by omega), bd_some, gD_set _ _ _ _ (by omega), if_neg (by omega), sl0, hf, up_e (l := (a_m_w m).set (139 + k) (f 1)) (i := 7) (f 7 + 1) 7 rfl (by rw [List.length_set]; omega) (by omega), bd_some]
    rw [ix_e (l := ((a_m_w m).set (139 + k) (f 1)).set 7 (f 7 + 1)) (i := 1) 1 rfl (by rw [List.length_set, List.length_set]; omega) (by omega), bd_some, gD_set _ _ _ _ (by rw [List.length_set]; omega), if_neg (by omega), gD_set _ _ _ _ (by omega), if_neg (by omega), sl0, hf, up_e (l := ((a_m_w m).set (139 + k) (f 1)).set 7 (f 7 + 1)) (i := 1) (f 1 + a) 1 rfl (by rw [List.length_set, List.length_set]; omega) (by omega), bd_some]
    rw [ix_e (l := (((a_m_w m).set (139 + k) (f 1)).set 7 (f 7 + 1)).set 1 (f 1 + a)) (i := 1) 1 rfl (by rw [List.length_set, List.length_set, List.length_set]; omega) (by omega), bd_some, gD_set _ _ _ _ (by rw [List.length_set, List.length_set]; omega), if_pos rfl, M_h3]
    refine ⟨_, rfl, _, rfl, by rw [List.length_set, List.length_set, List.length_set], fun j hj => ?_, fun j hj => ?_⟩
    · rw [sl0_set _ (by rw [List.length_set, List.length_set]; omega), sl0_set _ (by rw [List.length_set]; omega), sl0_set _ (by omega), hf]
    · rw [gD_set _ _ _ _ (by rw [List.length_set, List.length_set]; omega), if_neg (by omega), gD_set _ _ _ _ (by rw [List.length_set]; omega), if_neg (by omega), gD_set _ _ _ _ (by omega), if_neg (by omega)]
end C37e
