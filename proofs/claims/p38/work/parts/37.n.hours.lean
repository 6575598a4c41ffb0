section C37b
variable {w : WX} {m : WM}
theorem fl_hb_ne (s : TS) (t : TT) (l : TL) (q : List Int32) {i : Nat} (h : i < 139) : fl (p_hoursBefore s q) t l i = fl s t l i := by
  obtain ⟨s1, s2, s3, s4, s5, s6, s7, s8, s9, s10, s11, s12, s13, s14, s15⟩ := s
  unfold fl
  by_cases d0 : i < 8
  · simp only [if_pos d0]
  simp only [if_neg d0]
  by_cases d1 : i < 12
  · simp only [if_pos d1]
  simp only [if_neg d1]
  by_cases d2 : i < 16
  · simp only [if_pos d2]
  simp only [if_neg d2]
  by_cases d3 : i < 40
  · simp only [if_pos d3]
  simp only [if_neg d3]
  by_cases d4 : i < 64
  · simp only [if_pos d4]
  simp only [if_neg d4]
  by_cases d5 : i < 67
  · simp only [if_pos d5]
  simp only [if_neg d5]
  by_cases d6 : i < 73
  · simp only [if_pos d6]
  simp only [if_neg d6]
  by_cases d7 : i < 79
  · simp only [if_pos d7]
  simp only [if_neg d7]
  by_cases d8 : i < 85
  · simp only [if_pos d8]
  simp only [if_neg d8]
  by_cases d9 : i < 91
  · simp only [if_pos d9]
  simp only [if_neg d9]
  by_cases d10 : i < 101
  · simp only [if_pos d10]
  simp only [if_neg d10]
  by_cases d11 : i < 111
  · simp only [if_pos d11]
  simp only [if_neg d11]
  by_cases d12 : i < 121
  · simp only [if_pos d12]
  simp only [if_neg d12]
  by_cases d13 : i < 127
  · simp only [if_pos d13]
  simp only [if_neg d13]
  by_cases d14 : i < 133
  · simp only [if_pos d14]
  simp only [if_neg d14]
  rw [if_pos h, if_pos h]
def sh (f : Nat → Int32) (x : Int32) (j : Nat) : Int32 := if j = 1 then x else if j = 148 then f 1 else if 139 ≤ j ∧ j < 148 then f (j + 1) else f j
theorem RS_shift {s : TS} {t : TT} {l : TL} {f : Nat → Int32} (hs : RS s t l f) {q : List Int32} {x : Int32} (hq : q.length = 10) (hx : isN x 0 999) (f7 : f 7 = 10) (t4 : ∀ i, i < 10 → q.getD i 0 = if i < 9 then (q_hoursBefore s).getD (i + 1) 0 else f 1) : RS (p_hour (p_undos (p_hoursBefore s q) 10) x) t l (sh f x) := by
  have lvE : ∀ k, lv (sh f x) k = lv f k := fun k => rfl
  have n7 : Nn (f 7) = 10 := by rw [f7]; rfl
  have hF : fl (p_hour (p_undos (p_hoursBefore s q) 10) x) t l = upd (upd (fl (p_hoursBefore s q) t l) 7 10) 1 x := by
    rw [← flset_undos, ← flset_hour]
  obtain ⟨z1, z2, z3, z4, z5, z6, z7, z8, z9, za, zb, zc, zd, ze, zf, -⟩ := hs.1
  refine ⟨⟨z1, z2, z3, z4, z5, z6, z7, z8, z9, za, zb, zc, zd, ze, zf, hq⟩, fun i hi hl => ?_, fun i hi hl => ?_⟩
  · rw [lvE] at hl
    rw [hF]
    unfold upd sh
    by_cases i1 : i = 1
    · rw [if_pos i1, if_pos i1]
    rw [if_neg i1, if_neg i1]
    by_cases i7 : i = 7
    · rw [if_pos i7, if_neg (by omega), if_neg (by omega), i7, f7]
    rw [if_neg i7]
    by_cases i139 : i < 139
    · rw [fl_hb_ne s t l q i139, if_neg (by omega), if_neg (by omega)]
      exact hs.2.1 i hi hl
    · obtain ⟨j, rfl⟩ : ∃ j, i = 139 + j := ⟨i - 139, by omega⟩
      rw [fl_hoursBefore _ _ _ (by omega)]
      show q.getD j 0 = _
      rw [t4 _ (by omega)]
      by_cases i9 : j < 9
      · rw [if_pos i9, if_neg (by omega), if_pos (by omega), show 139 + j + 1 = 139 + (j + 1) by omega]
        exact (hs.hb (by omega)).1
      · rw [if_neg i9, if_pos (by omega)]
  · rw [lvE] at hl
    show okv (Nn (f 0)) i (sh f x i)
    unfold sh
    by_cases i1 : i = 1
    · rw [if_pos i1, i1, okv_1]; exact hx
    rw [if_neg i1]
    by_cases i8 : i = 148
    · rw [if_pos i8, i8, okv_r139 _ _ (by omega) (by omega)]; exact hs.c1
    rw [if_neg i8]
    by_cases i9 : 139 ≤ i ∧ i < 148
    · rw [if_pos i9, okv_r139 _ _ (by omega) (by omega), show i + 1 = 139 + (i - 139 + 1) by omega]
      exact (hs.hb (by omega)).2
    · rw [if_neg i9]
      exact hs.2.2 i hi hl
end C37b
