section C37c
variable {w : WX} {m : WM}
theorem X_goOn {f : Nat → Int32} (hs : RS w.2.1 w.2.2.1 w.2.2.2.1 f) {a : Int32} (c1 : 1 ≤ a ∧ a ≤ 99) (c2 : f 1 + a ≤ 999) (okH : isN (f 1 + a) 0 999) : ∃ s, Fsea_goOn_1 a w = some (f 1 + a, X1 w s w.2.2.1 w.2.2.2.1) ∧ RS s w.2.2.1 w.2.2.2.1 (A_h f (f 1 + a)) := by
  have e0 : a_s1_undos w = f 7 := hs.k (k := 7) (by omega)
  have e1 : a_s1_hour w = f 1 := hs.k (k := 1) (by omega)
  have l1 : (a_s1_hoursBefore w).length = 10 := LSe_hoursBefore hs.1
  have q2 := hs.c7.2.2
  have q3 := hs.c7.2.1
  unfold Fsea_goOn_1 A_h
  rw [Ff_within_eq, bd_some, ifz, if_pos c1, e0, e1, if_pos c2]
  by_cases c3 : Nn (f 7) = 10
  · have f7 : f 7 = 10 := by rw [q2, c3]; rfl
    rw [if_neg (show ¬ f 7 < 10 by rw [f7]; decide), if_pos c3]
    obtain ⟨q, t1, t2, t3, t4⟩ := shift10 l1 (f 1)
    rw [t1, bd_some, t2, bd_some, X_hb10, p_hb2]
    exact ⟨_, rfl, RS_shift hs t3 okH f7 t4⟩
  · rw [if_pos (show f 7 < 10 by rw [q2]; exact nI_lt (b := 10) (by omega) (by decide)), if_neg c3, up_e (l := a_s1_hoursBefore w) (f 1) (Nn (f 7)) q2 (by omega) (by omega), bd_some, X_hb1]
    exact ⟨_, rfl, RS_hours hs okH q2 (by omega)⟩
end C37c
