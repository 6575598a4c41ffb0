section C37d
variable {w : WX} {m : WM}
theorem M_u2 (m : WM) (a b : List Int32) : u_m_w (u_m_w m a) b = u_m_w m b := rfl
theorem M_h3 (m : WM) (a b d : List Int32) : u_m_w (u_m_w (u_m_w m a) b) d = u_m_w m d := by rw [M_u2, M_u2]
theorem M_hoursE (n' : Nat) (a : Int32) (m : WM) (v : List Int32) : Gm_hours_89 (n' + 1) 0 a (nI 9) (u_m_w m v) = (ai_bd (ai_ix v 7) fun v335 => ai_bd (ai_up v 7 (v335 - 1)) fun q336 => ai_bd (ai_ix q336 7) fun v337 => ai_bd (ai_ix q336 1) fun v338 => ai_bd (ai_up q336 (139 + v337) v338) fun q339 => ai_bd (ai_ix q339 7) fun v340 => ai_bd (ai_up q339 7 (v340 + 1)) fun q341 => ai_bd (ai_ix q341 1) fun v342 => ai_bd (ai_up q341 1 (v342 + a)) fun q343 => ai_bd (ai_ix q343 1) fun v344 => some (v344, u_m_w (u_m_w (u_m_w (u_m_w (u_m_w m v) q336) q339) q341) q343)) := by
  rw [Gm_hours_89]
  exact if_pos (show (9 : Int32) ≤ nI 9 from Int32.le_refl _)
end C37d
