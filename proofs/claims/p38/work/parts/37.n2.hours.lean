section C37b2
variable {w : WX} {m : WM}
/-- hours go on, in words of a sea -/
def A_h (f : Nat → Int32) (x : Int32) : Nat → Int32 := if Nn (f 7) = 10 then sh f x else upd (upd (upd f (139 + Nn (f 7)) (f 1)) 7 (f 7 + 1)) 1 x
theorem LSe_un {s : TS} {t : TT} {l : TL} (h : LSe s t l) (x : Int32) : LSe (p_undos s x) t l := h
theorem LSe_ho {s : TS} {t : TT} {l : TL} (h : LSe s t l) (x : Int32) : LSe (p_hour s x) t l := h
theorem RS_hours {s : TS} {t : TT} {l : TL} {f : Nat → Int32} (hs : RS s t l f) {x : Int32} (hx : isN x 0 999) {k : Nat} (q2 : f 7 = nI k) (hk : k < 10) : RS (p_hour (p_undos (p_hoursBefore s ((q_hoursBefore s).set k (f 1))) (f 7 + 1)) x) t l (upd (upd (upd f (139 + k) (f 1)) 7 (f 7 + 1)) 1 x) := by
  have l1 := LSe_hoursBefore hs.1
  have hn : Nn (f 7) = k := by rw [q2]; exact Nn_nI (by omega)
  have r0 : RS (p_hoursBefore s ((q_hoursBefore s).set k (f 1))) t l (upd f (139 + k) (f 1)) := RS_upd hs (j := 139 + k) (Or.inl (by omega)) (LSe_set_hoursBefore hs.1 _ _) (flset_hoursBefore _ _ _ _ (by omega) l1) (fun _ => by rw [okv_r139 _ _ (by omega) (by omega)]; exact hs.c1)
  have hF : fl (p_hoursBefore s ((q_hoursBefore s).set k (f 1))) t l = upd (fl s t l) (139 + k) (f 1) := flset_hoursBefore _ _ _ _ (by omega) l1
  have r1 : RS (p_undos (p_hoursBefore s ((q_hoursBefore s).set k (f 1))) (f 7 + 1)) t l (upd (upd f (139 + k) (f 1)) 7 (f 7 + 1)) := by
    refine RS_cnt r0 (j := 7) (by omega) (by omega) (LSe_un r0.1 _) (flset_undos _ _ _ _) ?_ ?_
    · rw [okv_7, q2, nI_1]; exact isN_nI (by omega) (by omega) (by decide)
    · intro i hi hi7 hl
      rw [lv_upd (by omega)]
      unfold lv at hl
      rw [pk_us, q2, nI_1, Nn_nI (by omega), pk_un (f := upd f (139 + k) (f 1)) (k := 7) (j := 2) (by omega), pk_un (f := upd f (139 + k) (f 1)) (k := 7) (j := 3) (by omega), pk_un (f := upd f (139 + k) (f 1)) (k := 7) (j := 4) (by omega), pk_un (f := upd f (139 + k) (f 1)) (k := 7) (j := 6) (by omega), pk_un (f := f) (j := 2) (by omega), pk_un (f := f) (j := 3) (by omega), pk_un (f := f) (j := 4) (by omega), pk_un (f := f) (j := 6) (by omega)] at hl
      by_cases ik : i = 139 + k
      · right
        rw [hF, ik, pk_us, pk_us, pk_un (f := f) (j := 0) (by omega), okv_r139 _ _ (by omega) (by omega)]
        exact ⟨rfl, hs.c1⟩
      · left
        unfold lv
        rw [hn]
        rcases hl with h | h | h | h | h | ⟨h1, h2, h3⟩
        · exact Or.inl h
        · exact Or.inr (Or.inl h)
        · exact Or.inr (Or.inr (Or.inl h))
        · exact Or.inr (Or.inr (Or.inr (Or.inl h)))
        · exact Or.inr (Or.inr (Or.inr (Or.inr (Or.inl h))))
        · exact Or.inr (Or.inr (Or.inr (Or.inr (Or.inr ⟨h1, h2, by omega⟩))))
  exact RS_upd r1 (j := 1) (Or.inr (Or.inl rfl)) (LSe_ho r1.1 _) (flset_hour _ _ _ _) (fun _ => by rw [okv_1]; exact hx)
theorem p_hb2 (s : TS) (a b : List Int32) (x y : Int32) : p_hour (p_undos (p_hoursBefore (p_undos (p_hoursBefore s a) x) b) 10) y = p_hour (p_undos (p_hoursBefore s b) 10) y := by
  dsimp only [p_hour, p_undos, p_hoursBefore]
theorem U1_hb (w : WX) (a : List Int32) : u_s1_hoursBefore w a = X1 w (p_hoursBefore w.2.1 a) w.2.2.1 w.2.2.2.1 := rfl
theorem U1x_hb (w : WX) (s : TS) (t : TT) (l : TL) (a : List Int32) : u_s1_hoursBefore (X1 w s t l) a = X1 w (p_hoursBefore s a) t l := rfl
theorem U1x_un (w : WX) (s : TS) (t : TT) (l : TL) (a : Int32) : u_s1_undos (X1 w s t l) a = X1 w (p_undos s a) t l := rfl
theorem U1x_ho (w : WX) (s : TS) (t : TT) (l : TL) (a : Int32) : u_s1_hour (X1 w s t l) a = X1 w (p_hour s a) t l := rfl
theorem X_hb10 (w : WX) (a b : List Int32) (x y : Int32) : u_s1_hour (u_s1_undos (u_s1_hoursBefore (u_s1_undos (u_s1_hoursBefore w a) x) b) 10) y = X1 w (p_hour (p_undos (p_hoursBefore (p_undos (p_hoursBefore w.2.1 a) x) b) 10) y) w.2.2.1 w.2.2.2.1 := by
  rw [U1_hb w a, U1x_un, U1x_hb, U1x_un, U1x_ho]
theorem X_hb1 (w : WX) (a : List Int32) (x y : Int32) : u_s1_hour (u_s1_undos (u_s1_hoursBefore w a) x) y = X1 w (p_hour (p_undos (p_hoursBefore w.2.1 a) x) y) w.2.2.1 w.2.2.2.1 := by
  rw [U1_hb w a, U1x_un, U1x_ho]
end C37b2
