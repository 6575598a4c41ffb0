/-! what a town pays -/
theorem RS.tw {s : TS} {t : TT} {l : TL} {f : Nat → Int32} (h : RS s t l f) {i : Nat} (hi : i < Nn (f 4)) : (q_townPlaces s).getD i 0 = f (121 + i) ∧ plc (Nn (f 0)) (f (121 + i)) := by
  have h6 := h.c4.2.1
  have lvk : lv f (121 + i) := Or.inr (Or.inr (Or.inr (Or.inl ⟨by omega, by omega, by omega⟩)))
  have e := h.2.1 (121 + i) (by omega) lvk
  have o := h.2.2 (121 + i) (by omega) lvk
  rw [okv_r121 _ _ (by omega) (by omega)] at o
  rw [fl_townPlaces s t l (by omega)] at e
  exact ⟨e, o⟩
/-- the town that is the ceiling of place p -/
def clS (f : Nat → Int32) (p : Int32) : Nat → Nat → Int32 → Int32
  | 0, _, be => be
  | d + 1, i, be => if f (121 + i) / 10 = p / 10 then (if p ≤ f (121 + i) then clS f p d (i + 1) be else if be = -1 then clS f p d (i + 1) (nI i) else if f (121 + i) ≤ f (121 + Nn be) then clS f p d (i + 1) be else clS f p d (i + 1) (nI i)) else clS f p d (i + 1) be
theorem X_clG {W : WX} {f : Nat → Int32} (hs : RS W.2.1 W.2.2.1 W.2.2.2.1 f) (x p : Int32) : ∀ (d i n : Nat) (be bp : Int32), i + d = Nn (f 4) → d < n → ((be = -1 ∧ bp = -1) ∨ ∃ j, j < Nn (f 4) ∧ be = nI j ∧ bp = f (121 + j)) → Gsea_ceilingOf_1 n 0 x p be bp (nI i) W = some (clS f p d i be, W) := by
  have h6 := hs.c4.2.1
  have e4 : a_s1_towns W = nI (Nn (f 4)) := (hs.k (k := 4) (by omega)).trans hs.c4.2.2
  have l1 : (a_s1_townPlaces W).length = 6 := LSe_townPlaces hs.1
  intro d
  induction d with
  | zero =>
    intro i n be bp hi hn hb
    obtain ⟨n, rfl⟩ : ∃ k, n = k + 1 := ⟨n - 1, by omega⟩
    rw [Gsea_ceilingOf_1, e4, if_pos (nI_le (by omega) (by omega))]
    rfl
  | succ d ih =>
    intro i n be bp hi hn hb
    obtain ⟨n, rfl⟩ : ∃ k, n = k + 1 := ⟨n - 1, by omega⟩
    obtain ⟨t1, t2⟩ := hs.tw (i := i) (by omega)
    have t1 : (a_s1_townPlaces W).getD i 0 = f (121 + i) := t1
    rw [Gsea_ceilingOf_1, e4, if_neg (nI_ge (by omega) (by omega)), ix_e (l := a_s1_townPlaces W) (i := nI i) i rfl (by omega) (by omega), bd_some, t1, nI_1, clS]
    have go := ih (i + 1) n be bp (by omega) (by omega) hb
    have go2 := ih (i + 1) n (nI i) (f (121 + i)) (by omega) (by omega) (Or.inr ⟨i, by omega, rfl, rfl⟩)
    by_cases c1 : f (121 + i) / 10 = p / 10
    · rw [if_pos c1, if_pos c1]
      by_cases c2 : p ≤ f (121 + i)
      · rw [if_pos c2, if_pos c2]
        exact go
      · rw [if_neg c2, if_neg c2]
        rcases hb with ⟨b1, b2⟩ | ⟨j, hj, b1, b2⟩
        · obtain ⟨a, b, e, ha, hb⟩ := t2
          have h7 := hs.c0.2.1
          have c3 : ¬ f (121 + i) ≤ bp := by
            rw [b2, e]
            exact fun q => nI_pos (n := 10 * a + b) (by omega) (Int32.lt_of_le_of_lt q (by decide))
          rw [if_neg c3, if_pos b1]
          exact go2
        · have b3 : ¬ be = -1 := by
            rw [b1]
            exact fun q => nI_pos (n := j) (by omega) (by rw [q]; decide)
          rw [if_neg b3, b1, Nn_nI (by omega), ← b2]
          rw [b1] at go
          by_cases c3 : f (121 + i) ≤ bp
          · rw [if_pos c3, if_pos c3]
            exact go
          · rw [if_neg c3, if_neg c3]
            exact go2
    · rw [if_neg c1, if_neg c1]
      exact go
theorem M_clG {m : WM} (hw : (a_m_w m).length = 596) {f : Nat → Int32} (hf : sl (a_m_w m) 0 = f) (h4 : isN (f 4) 0 6) (x p : Int32) : ∀ (d i n : Nat) (be : Int32), i + d = Nn (f 4) → d < n → (be = -1 ∨ ∃ j, j < Nn (f 4) ∧ be = nI j) → Gm_ceilingOf_89 n 0 x be p (nI i) m = some (clS f p d i be, m) := by
  have h6 := h4.2.1
  have e4 : ai_ix (a_m_w m) 4 = some (nI (Nn (f 4))) := by rw [m_ix0 hw (x := 4) 4 rfl (by omega), hf, ← h4.2.2]
  have ea : ∀ j : Nat, j < 6 → ai_ix (a_m_w m) (121 + nI j) = some (f (121 + j)) := fun j hj => by rw [m_ix0 hw (x := 121 + nI j) (121 + j) (by rw [show (121 : Int32) = nI 121 from rfl, nI_add]) (by omega), hf]
  intro d
  induction d with
  | zero =>
    intro i n be hi hn hb
    obtain ⟨n, rfl⟩ : ∃ k, n = k + 1 := ⟨n - 1, by omega⟩
    rw [Gm_ceilingOf_89, e4, bd_some, if_pos (nI_le (by omega) (by omega))]
    rfl
  | succ d ih =>
    intro i n be hi hn hb
    obtain ⟨n, rfl⟩ : ∃ k, n = k + 1 := ⟨n - 1, by omega⟩
    rw [Gm_ceilingOf_89, e4, bd_some, if_neg (nI_ge (by omega) (by omega)), ea i (by omega), bd_some, nI_1, clS]
    have go := ih (i + 1) n be (by omega) (by omega) hb
    have go2 := ih (i + 1) n (nI i) (by omega) (by omega) (Or.inr ⟨i, by omega, rfl⟩)
    by_cases c1 : f (121 + i) / 10 = p / 10
    · rw [if_pos c1, if_pos c1]
      by_cases c2 : p ≤ f (121 + i)
      · rw [if_pos c2, if_pos c2]
        exact go
      · rw [if_neg c2, if_neg c2]
        by_cases b0 : be = -1
        · rw [if_pos b0, if_pos b0]
          exact go2
        · rw [if_neg b0, if_neg b0]
          rcases hb with b1 | ⟨j, hj, b1⟩
          · exact absurd b1 b0
          rw [b1] at go ⊢
          rw [ea j (by omega), bd_some, Nn_nI (by omega)]
          by_cases c3 : f (121 + i) ≤ f (121 + j)
          · rw [if_pos c3, if_pos c3]
            exact go
          · rw [if_neg c3, if_neg c3]
            exact go2
    · rw [if_neg c1, if_neg c1]
      exact go
/-- the ceiling of town i, and its dues -/
def clT (f : Nat → Int32) (i : Nat) : Int32 := clS f (f (121 + i)) (Nn (f 4)) 0 (-1)
def duS (f : Nat → Int32) (i : Nat) : Int32 := Tk f (Nn (f (121 + i)) % 10) (Nn (f (121 + i)) / 10) (Nn (f 1))
theorem X_ceil {W : WX} {f : Nat → Int32} (hs : RS W.2.1 W.2.2.1 W.2.2.2.1 f) {i n : Nat} (hi : i < Nn (f 4)) (hn : 8 ≤ n) : Fsea_ceilingOf_1 n (nI i) W = some (clT f i, W) := by
  have h6 := hs.c4.2.1
  have l1 : (a_s1_townPlaces W).length = 6 := LSe_townPlaces hs.1
  have t1 : (a_s1_townPlaces W).getD i 0 = f (121 + i) := (hs.tw hi).1
  unfold Fsea_ceilingOf_1 clT
  rw [ix_e (l := a_s1_townPlaces W) (i := nI i) i rfl (by omega) (by omega), bd_some, t1]
  have q := X_clG hs (nI i) (f (121 + i)) (Nn (f 4)) 0 n (-1) (-1) (by omega) (by omega) (Or.inl ⟨rfl, rfl⟩)
  rw [nI_0] at q
  exact q
theorem M_ceil {m : WM} (hw : (a_m_w m).length = 596) {f : Nat → Int32} (hf : sl (a_m_w m) 0 = f) (h4 : isN (f 4) 0 6) {i n : Nat} (hi : i < Nn (f 4)) (hn : 8 ≤ n) : Fm_ceilingOf_89 n (nI i) m = some (clT f i, m) := by
  have h6 := h4.2.1
  unfold Fm_ceilingOf_89 clT
  rw [m_ix0 hw (x := 121 + nI i) (121 + i) (by rw [show (121 : Int32) = nI 121 from rfl, nI_add]) (by omega), bd_some, hf]
  have q := M_clG hw hf h4 (nI i) (f (121 + i)) (Nn (f 4)) 0 n (-1) (by omega) (by omega) (Or.inl rfl)
  rw [nI_0] at q
  exact q
theorem plc_div {c : Nat} {x : Int32} (h : plc c x) (hc : c ≤ 6) : x / 10 = nI (Nn x / 10) ∧ x - x / 10 * 10 = nI (Nn x % 10) ∧ Nn x / 10 < c ∧ Nn x % 10 < 4 := by
  obtain ⟨a, b, e, ha, hb⟩ := h
  have en : Nn x = 10 * a + b := by rw [e]; exact Nn_nI (by omega)
  obtain ⟨d1, d2⟩ := div10 (k := 10 * a + b) (by omega) e
  rw [en]
  exact ⟨d1, d2, by omega, by omega⟩
theorem X_dues {W : WX} {f : Nat → Int32} (hs : RS W.2.1 W.2.2.1 W.2.2.2.1 f) {i : Nat} (hi : i < Nn (f 4)) : Fsea_duesOf_1 (nI i) W = some (duS f i, W) := by
  have h6 := hs.c4.2.1
  have l1 : (a_s1_townPlaces W).length = 6 := LSe_townPlaces hs.1
  have t1 : (a_s1_townPlaces W).getD i 0 = f (121 + i) := (hs.tw hi).1
  obtain ⟨d1, d2, d3, d4⟩ := plc_div (hs.tw hi).2 hs.c0.2.1
  have h7 := hs.c0.2.1
  have h8 := hs.c1.2.1
  have e1 : a_s1_hour W = nI (Nn (f 1)) := (hs.k (k := 1) (by omega)).trans hs.c1.2.2
  unfold Fsea_duesOf_1 duS
  rw [ix_e (l := a_s1_townPlaces W) (i := nI i) i rfl (by omega) (by omega), bd_some, t1, d2, d1, e1, X_thickAt hs (by omega) (by omega) (by omega), bd_some]
theorem M_dues {m : WM} (hw : (a_m_w m).length = 596) {f : Nat → Int32} (hf : sl (a_m_w m) 0 = f) (h1 : isN (f 1) 0 999) (h4 : isN (f 4) 0 6) (h0 : isN (f 0) 1 6) {i : Nat} (hi : i < Nn (f 4)) (hp : plc (Nn (f 0)) (f (121 + i))) : Fm_duesOf_89 (nI i) m = some (duS f i, m) := by
  have h6 := h4.2.1
  have h7 := h0.2.1
  have h8 := h1.2.1
  obtain ⟨d1, d2, d3, d4⟩ := plc_div hp h7
  unfold Fm_duesOf_89 duS
  rw [m_ix0 hw (x := 121 + nI i) (121 + i) (by rw [show (121 : Int32) = nI 121 from rfl, nI_add]) (by omega), bd_some, m_ix0 hw (x := 1) 1 rfl (by omega), bd_some, hf, d2, d1]
  have q := M_thickIn hw (l := Nn (f (121 + i)) % 10) (c := Nn (f (121 + i)) / 10) (h := Nn (f 1)) (by omega) (by omega) (by omega)
  rw [← h1.2.2, hf] at q
  rw [q, bd_some]
section C45
variable {w : WX} {m : WM}
theorem net_step (h : R w m) {f : Nat → Int32} (hf : sl (a_m_w m) 0 = f) (hs : RS w.2.1 w.2.2.1 w.2.2.2.1 f) {x : Nat} (hx : x < Nn (f 4)) : ∀ (d i n : Nat) (xa ma : Int32), i + d = Nn (f 4) → d + 10 < n → (xa = if i ≤ x ∧ ¬ clT f x = -1 then ma + duS f x else ma) → ∃ r, Gf_net_0 n 0 (nI x) xa (nI i) w = some (r, w) ∧ Gm_net_89 n 0 (nI x) ma (nI i) m = some (r, m) := by
  have h6 := hs.c4.2.1
  have e4 : a_s1_towns w = nI (Nn (f 4)) := (hs.k (k := 4) (by omega)).trans hs.c4.2.2
  have m4 : ai_ix (a_m_w m) 4 = some (nI (Nn (f 4))) := by rw [m_ix0 h.w (x := 4) 4 rfl (by omega), hf, ← hs.c4.2.2]
  intro d
  induction d with
  | zero =>
    intro i n xa ma hi hn ha
    obtain ⟨n, rfl⟩ : ∃ k, n = k + 1 := ⟨n - 1, by omega⟩
    rw [if_neg (show ¬ (i ≤ x ∧ ¬ clT f x = -1) from fun q => by have := q.1; omega)] at ha
    rw [Gf_net_0, Gm_net_89, e4, m4, bd_some, if_pos (nI_le (by omega) (by omega)), if_pos (nI_le (by omega) (by omega)), ha]
    exact ⟨_, rfl, rfl⟩
  | succ d ih =>
    intro i n xa ma hi hn ha
    obtain ⟨n, rfl⟩ : ∃ k, n = k + 1 := ⟨n - 1, by omega⟩
    have hxn : ¬ (-1 : Int32) = nI x := fun q => nI_pos (n := x) (by omega) (by rw [← q]; decide)
    have hix : (nI i = nI x) = (i = x) := propext (nI_eq (by omega) (by omega))
    rw [Gf_net_0, Gm_net_89, e4, m4, bd_some, if_neg (nI_ge (by omega) (by omega)), if_neg (nI_ge (by omega) (by omega)), X_ceil hs (by omega) (by omega), M_ceil h.w hf hs.c4 (by omega) (by omega)]
    simp only [bd_some, X_dues hs (show i < Nn (f 4) by omega), M_dues h.w hf hs.c1 hs.c4 hs.c0 (show i < Nn (f 4) by omega) (hs.tw (by omega)).2, nI_1, hix, Int32.add_zero]
    by_cases c0 : clT f i = -1
    · rw [if_pos c0, if_neg (show ¬ clT f i = nI x by rw [c0]; exact hxn)]
      refine ih (i + 1) n xa ma (by omega) (by omega) ?_
      rw [ha]
      by_cases e : i = x
      · subst e
        rw [if_neg (fun q => q.2 c0), if_neg (fun q => q.2 c0)]
      · by_cases z : i ≤ x ∧ ¬ clT f x = -1
        · rw [if_pos z, if_pos ⟨by omega, z.2⟩]
        · rw [if_neg z, if_neg (fun q => z ⟨by omega, q.2⟩)]
    · rw [if_neg c0]
      by_cases c2 : clT f i = nI x
      · rw [if_pos c2, if_pos c2]
        by_cases e : i = x
        · rw [if_pos e]
          refine ih (i + 1) n _ _ (by omega) (by omega) ?_
          rw [if_neg (fun q => by have := q.1; omega), ha]
          subst e
          rw [if_pos ⟨Nat.le_refl _, c0⟩, Int32.add_sub_cancel]
        · rw [if_neg e]
          refine ih (i + 1) n _ _ (by omega) (by omega) ?_
          rw [ha]
          by_cases z : i ≤ x ∧ ¬ clT f x = -1
          · rw [if_pos z, if_pos ⟨by omega, z.2⟩, Int32.add_assoc, Int32.add_assoc, Int32.add_comm (duS f x)]
          · rw [if_neg z, if_neg (fun q => z ⟨by omega, q.2⟩)]
      · rw [if_neg c2, if_neg c2]
        by_cases e : i = x
        · rw [if_pos e]
          refine ih (i + 1) n _ _ (by omega) (by omega) ?_
          rw [if_neg (fun q => by have := q.1; omega), ha]
          subst e
          rw [if_pos ⟨Nat.le_refl _, c0⟩, Int32.add_sub_cancel]
        · rw [if_neg e]
          refine ih (i + 1) n _ _ (by omega) (by omega) ?_
          rw [ha]
          by_cases z : i ≤ x ∧ ¬ clT f x = -1
          · rw [if_pos z, if_pos ⟨by omega, z.2⟩]
          · rw [if_neg z, if_neg (fun q => z ⟨by omega, q.2⟩)]
theorem C_net (h : R w m) (a : Int32) : Ok (fun n => Ff_net_0 n a w) (fun n => Fm_net_89 n a m) := Ok.of 50 fun n hn => by
  obtain ⟨w2, m2, e1, e2, hR⟩ := R_badAs h (-1000)
  obtain ⟨f, hf⟩ : ∃ f, sl (a_m_w m) 0 = f := ⟨_, rfl⟩
  have hs := h.s
  rw [hf] at hs
  have f4 : a_s1_towns w = f 4 := hs.k (k := 4) (by omega)
  have m4 : ai_ix (a_m_w m) 4 = some (f 4) := by rw [m_ix0 h.w (x := 4) 4 rfl (by omega), hf]
  simp only [Ff_net_0, Fm_net_89, Ff_within_eq, m4, bd_some, Fm_in_eq a (lo := 0) 0 (f 4 - 1) rfl rfl, ifz, e1, e2, f4]
  by_cases c1 : 0 ≤ a ∧ a ≤ f 4 - 1
  · simp only [if_pos c1]
    obtain ⟨x, hx, rfl⟩ := th_N hs.c4 (by decide) c1
    have h6 := hs.c4.2.1
    rw [M_ceil h.w hf hs.c4 hx (by omega)]
    simp only [bd_some, M_dues h.w hf hs.c1 hs.c4 hs.c0 hx (hs.tw hx).2]
    by_cases c0 : clT f x = -1
    · rw [if_pos c0]
      obtain ⟨r, q1, q2⟩ := net_step h hf hs hx (Nn (f 4)) 0 n 0 0 (by omega) (by omega) (by rw [if_neg (fun q => q.2 c0)])
      rw [nI_0] at q1 q2
      exact ⟨r, w, m, q1, q2, h⟩
    · rw [if_neg c0]
      obtain ⟨r, q1, q2⟩ := net_step h hf hs hx (Nn (f 4)) 0 n 0 (-duS f x) (by omega) (by omega) (by rw [if_pos ⟨Nat.zero_le _, c0⟩, Int32.add_left_neg])
      rw [nI_0] at q1 q2
      exact ⟨r, w, m, q1, q2, h⟩
  · simp only [if_neg c1]; exact ⟨_, _, _, rfl, rfl, hR⟩
end C45
