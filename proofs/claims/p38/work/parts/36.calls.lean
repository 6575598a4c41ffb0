/-! more calls that change the sea, the text, the images -/
section CALLS
variable {w : WX} {m : WM}
theorem m_ix0 {m : WM} (hw : (a_m_w m).length = 596) {x : Int32} (k : Nat) (hx : x = nI k) (hk : k < 149) : ai_ix (a_m_w m) x = some (sl (a_m_w m) 0 k) := M_ix (r := 0) k (by rw [Nat.zero_add]; exact hx) hw (by omega) hk
theorem sl0 (v : List Int32) (k : Nat) : v.getD k 0 = sl v 0 k := by unfold sl; rw [Nat.zero_add]
theorem sl0_set {v : List Int32} {k : Nat} (x : Int32) (h : k < v.length) : sl (v.set k x) 0 = upd (sl v 0) k x := by
  have := sl_set (v := v) (r := 0) (j := k) x (by omega)
  rw [Nat.zero_add] at this
  exact this
theorem LSe_dr {s : TS} {t : TT} {l : TL} (h : LSe s t l) (x : Int32) : LSe (p_drops s x) t l := h
theorem RS_drop {s : TS} {t : TT} {l : TL} {f : Nat → Int32} (h : RS s t l f) {a b : Int32} (ha : isN a 0 3) (hb : b = 0 ∨ b = 1) {n : Nat} (hn : f 6 = nI n) (h6 : n < 6) : RS (p_drops (p_dropFloats (p_dropLayers s ((q_dropLayers s).set n a)) ((q_dropFloats s).set n b)) (f 6 + 1)) t l (upd (upd (upd f (127 + n) a) (133 + n) b) 6 (f 6 + 1)) := by
  have e2 : Nn (f 6) = n := by rw [hn]; exact Nn_nI (by omega)
  have h1 := RS_upd h (j := 127 + n) (x := a) (Or.inl (by omega)) (LSe_set_dropLayers h.1 n a) (flset_dropLayers s t l a h6 (LSe_dropLayers h.1)) (fun _ => by rw [okv_r127 _ _ (by omega) (by omega)]; exact ha)
  have h2 := RS_upd h1 (j := 133 + n) (x := b) (Or.inl (by omega)) (LSe_set_dropFloats h1.1 n b) (flset_dropFloats _ t l b h6 (LSe_dropFloats h1.1)) (fun _ => by rw [okv_r133 _ _ (by omega) (by omega)]; exact hb)
  have hF : fl (p_dropFloats (p_dropLayers s ((q_dropLayers s).set n a)) ((q_dropFloats s).set n b)) t l = upd (upd (fl s t l) (127 + n) a) (133 + n) b := by
    rw [← flset_dropLayers s t l a h6 (LSe_dropLayers h.1), ← flset_dropFloats _ t l b h6 (LSe_dropFloats h1.1)]
  have u : ∀ j, j < 8 → upd (upd f (127 + n) a) (133 + n) b j = f j := fun j hj => by rw [pk_un (by omega), pk_un (by omega)]
  refine RS_cnt h2 (j := 6) (by omega) (by omega) (LSe_dr h2.1 _) (flset_drops _ t l _) ?_ ?_
  · rw [okv_6, hn, nI_1]
    exact isN_nI (by omega) (by omega) (by decide)
  · intro k hk hk2 hl
    have g2 : upd (upd (upd f (127 + n) a) (133 + n) b) 6 (f 6 + 1) 6 = nI (n + 1) := by rw [pk_us, hn, nI_1]
    rw [lv_upd (by omega), lv_upd (by omega)]
    by_cases hr : 127 ≤ k ∧ k < 139
    · unfold lv at hl
      rw [g2, Nn_nI (by omega)] at hl
      by_cases hq : (k - 127) % 6 = n
      · right
        rw [hF, u 0 (by omega)]
        unfold upd
        by_cases k2 : k = 133 + n
        · rw [if_pos k2, if_pos k2]
          exact ⟨rfl, by rw [okv_r133 _ _ (by omega) (by omega)]; exact hb⟩
        by_cases k1 : k = 127 + n
        · rw [if_neg k2, if_neg k2, if_pos k1, if_pos k1]
          exact ⟨rfl, by rw [okv_r127 _ _ (by omega) (by omega)]; exact ha⟩
        omega
      · left
        unfold lv
        rw [e2]
        omega
    · left
      unfold lv at hl ⊢
      rw [pk_un (f := upd (upd f (127 + n) a) (133 + n) b) (k := 6) (j := 2) (by omega), pk_un (f := upd (upd f (127 + n) a) (133 + n) b) (k := 6) (j := 3) (by omega), pk_un (f := upd (upd f (127 + n) a) (133 + n) b) (k := 6) (j := 4) (by omega), pk_un (f := upd (upd f (127 + n) a) (133 + n) b) (k := 6) (j := 7) (by omega)] at hl
      rw [u 2 (by omega), u 3 (by omega), u 4 (by omega), u 7 (by omega)] at hl
      rcases hl with v | ⟨v1, v2, v3⟩ | ⟨v1, v2, v3⟩ | ⟨v1, v2, v3⟩ | ⟨v1, v2, v3⟩ | ⟨v1, v2, v3⟩
      · exact Or.inl v
      · exact Or.inr (Or.inl ⟨v1, v2, by omega⟩)
      · exact Or.inr (Or.inr (Or.inl ⟨v1, v2, by omega⟩))
      · exact Or.inr (Or.inr (Or.inr (Or.inl ⟨v1, v2, by omega⟩)))
      · exact Or.inr (Or.inr (Or.inr (Or.inr (Or.inl ⟨v1, v2, by omega⟩))))
      · exact Or.inr (Or.inr (Or.inr (Or.inr (Or.inr ⟨v1, v2, by omega⟩))))
theorem C_drop (h : R w m) (a b : Int32) : Ok (fun _ => Ff_drop_0 a b w) (fun _ => Fm_drop_89 a b m) := Ok.of 0 fun n hn => by
  obtain ⟨w2, m2, e1, e2, hR⟩ := R_bad h
  obtain ⟨w3, m3, e3, e4, hR3⟩ := R_met h (-4)
  obtain ⟨w5, m5, e5, e6, hR5⟩ := R_met h (-2)
  have e0 : a_s1_drops w = sl (a_m_w m) 0 6 := h.s.k (k := 6) (by omega)
  have e6b : Fm_bad_89 m = some (-2, m5) := by unfold Fm_bad_89; rw [e6, bd_some]
  simp only [Ff_drop_0, Fsea_addDrop_1, Fm_drop_89, Ff_isLayer_eq, Fm_isLayer_eq, bd_some, ifz, e4, e0, e6b]
  by_cases h1 : C_lay a
  · simp only [if_pos h1]
    rw [m_ix0 h.w (x := 6) 6 rfl (by omega)]
    simp only [bd_some]
    have hs := h.s
    have h6 := hs.c6
    have q2 := h6.2.2
    have q3 := h6.2.1
    have ha : isN a 0 3 := isN_of rfl h1 (by decide)
    generalize hf : sl (a_m_w m) 0 = f at *
    generalize hn : Nn (f 6) = k at *
    have hw := h.w
    by_cases c6 : k = 6
    · rw [if_neg (show ¬ f 6 < 6 by rw [q2, c6]; decide), if_pos (show f 6 = 6 by rw [q2, c6]; rfl)]
      simp only [bd_some, e3]
      exact ⟨_, _, _, rfl, rfl, hR3⟩
    · rw [if_pos (show f 6 < 6 by rw [q2]; exact nI_lt (b := 6) (by omega) (by decide)), if_neg (show ¬ f 6 = 6 from fun q => c6 ((nI_eq (a := k) (b := 6) (by omega) (by decide)).mp (by rw [← q2, q]; rfl)))]
      have l1 : (a_s1_dropLayers w).length = 6 := LSe_dropLayers hs.1
      have l2 : (a_s1_dropFloats w).length = 6 := LSe_dropFloats hs.1
      have k1 : 127 + f 6 = nI (127 + k) := by rw [q2, show (127 : Int32) = nI 127 from rfl, nI_add]
      have k2 : 133 + f 6 = nI (133 + k) := by rw [q2, show (133 : Int32) = nI 133 from rfl, nI_add]
      rw [up_e (l := a_s1_dropLayers w) a k q2 (by omega) (by omega), bd_some, up_e (l := a_m_w m) a (127 + k) k1 (by omega) (by omega), bd_some]
      have g6 : ai_ix ((a_m_w m).set (127 + k) a) 6 = some (f 6) := by
        rw [ix_e (l := (a_m_w m).set (127 + k) a) (i := 6) 6 rfl (by rw [List.length_set]; omega) (by omega), sl0, sl0_set _ (by omega), hf, pk_un (by omega)]
      rw [g6]
      simp only [bd_some]
      have key : ∀ y : Int32, (y = 0 ∨ y = 1) → ∃ r w' m', (ai_bd (ai_bd (ai_up (a_s1_dropFloats w) (f 6) y) fun q1156 => some (((f 6) + 1), (u_s1_drops (u_s1_dropFloats (u_s1_dropLayers w ((a_s1_dropLayers w).set k a)) q1156) ((f 6) + 1)))) fun c => ai_bd (Ff_counted_0 c.1 c.2) fun d => some (d.1, d.2)) = some (r, w') ∧ (ai_bd (ai_up ((a_m_w m).set (127 + k) a) (133 + f 6) y) fun q192 => ai_bd (ai_ix q192 6) fun v193 => ai_bd (ai_up q192 6 (v193 + 1)) fun q194 => ai_bd (ai_ix q194 6) fun v195 => some (v195, (u_m_w (u_m_w (u_m_w m ((a_m_w m).set (127 + k) a)) q192) q194))) = some (r, m') ∧ R w' m' := by
        intro y hy
        have g7 : ai_ix (((a_m_w m).set (127 + k) a).set (133 + k) y) 6 = some (f 6) := by
          rw [ix_e (l := ((a_m_w m).set (127 + k) a).set (133 + k) y) (i := 6) 6 rfl (by rw [List.length_set, List.length_set]; omega) (by omega), sl0, sl0_set _ (by rw [List.length_set]; omega), sl0_set _ (by omega), hf, pk_un (by omega), pk_un (by omega)]
        have g8 : ai_ix ((((a_m_w m).set (127 + k) a).set (133 + k) y).set 6 (f 6 + 1)) 6 = some (f 6 + 1) := by
          rw [ix_e (l := (((a_m_w m).set (127 + k) a).set (133 + k) y).set 6 (f 6 + 1)) (i := 6) 6 rfl (by rw [List.length_set, List.length_set, List.length_set]; omega) (by omega), gD_set _ _ _ _ (by rw [List.length_set, List.length_set]; omega), if_pos rfl]
        rw [up_e (l := a_s1_dropFloats w) y k q2 (by omega) (by omega), up_e (l := (a_m_w m).set (127 + k) a) y (133 + k) k2 (by rw [List.length_set]; omega) (by omega)]
        simp only [bd_some]
        rw [g7, bd_some, up_e (l := ((a_m_w m).set (127 + k) a).set (133 + k) y) (i := 6) (f 6 + 1) 6 rfl (by rw [List.length_set, List.length_set]; omega) (by omega), bd_some, g8, bd_some]
        have hid : f 6 + 1 = nI (k + 1) := by rw [q2, nI_1]
        rw [hid, cnt_nI (by omega), bd_some]
        refine ⟨_, _, _, rfl, rfl, R_now h (f := upd (upd (upd f (127 + k) a) (133 + k) y) 6 (nI (k + 1))) ⟨_, rfl, by rw [List.length_set, List.length_set, List.length_set], fun j hj => ?_, fun j hj => ?_⟩ (hid ▸ RS_drop hs ha hy q2 (by omega))⟩
        · rw [sl0_set _ (by rw [List.length_set, List.length_set]; omega), sl0_set _ (by rw [List.length_set]; omega), sl0_set _ (by omega), hf]
        · rw [gD_set _ _ _ _ (by rw [List.length_set, List.length_set]; omega), if_neg (by omega), gD_set _ _ _ _ (by rw [List.length_set]; omega), if_neg (by omega), gD_set _ _ _ _ (by omega), if_neg (by omega)]
      by_cases cb : b = 0
      · rw [if_pos cb, if_pos cb]
        exact key 0 (Or.inl rfl)
      · rw [if_neg cb, if_neg cb]
        exact key 1 (Or.inr rfl)
  · simp only [if_neg h1, bd_some, e5]
    exact ⟨_, _, _, rfl, rfl, hR5⟩
/-- a count set to nothing -/
theorem RS_zero {s s' : TS} {t t' : TT} {l l' : TL} {f : Nat → Int32} (h : RS s t l f) {j : Nat} (hj : j = 2 ∨ j = 3 ∨ j = 4 ∨ j = 6) (hL : LSe s' t' l') (hf : fl s' t' l' = upd (fl s t l) j 0) : RS s' t' l' (upd f j 0) := by
  refine RS_cnt h (by omega) (by omega) hL hf ?_ ?_
  · have z6 : isN 0 0 6 := ⟨by decide, by decide, by decide⟩
    have z10 : isN 0 0 10 := ⟨by decide, by decide, by decide⟩
    rcases hj with rfl | rfl | rfl | rfl
    · exact z6
    · exact z10
    · exact z6
    · exact z6
  · intro k hk hkj hl
    left
    have z : Nn (upd f j 0 j) = 0 := by rw [pk_us]; rfl
    unfold lv at hl ⊢
    rcases hj with rfl | rfl | rfl | rfl
    · rw [z, pk_un (f := f) (k := 2) (j := 3) (by omega), pk_un (f := f) (k := 2) (j := 4) (by omega), pk_un (f := f) (k := 2) (j := 6) (by omega), pk_un (f := f) (k := 2) (j := 7) (by omega)] at hl
      rcases hl with v | ⟨v1, v2, v3⟩ | ⟨v1, v2, v3⟩ | ⟨v1, v2, v3⟩ | ⟨v1, v2, v3⟩ | ⟨v1, v2, v3⟩
      · exact Or.inl v
      · exact Or.inr (Or.inl ⟨v1, v2, by omega⟩)
      · exact Or.inr (Or.inr (Or.inl ⟨v1, v2, by omega⟩))
      · exact Or.inr (Or.inr (Or.inr (Or.inl ⟨v1, v2, by omega⟩)))
      · exact Or.inr (Or.inr (Or.inr (Or.inr (Or.inl ⟨v1, v2, by omega⟩))))
      · exact Or.inr (Or.inr (Or.inr (Or.inr (Or.inr ⟨v1, v2, by omega⟩))))
    · rw [z, pk_un (f := f) (k := 3) (j := 2) (by omega), pk_un (f := f) (k := 3) (j := 4) (by omega), pk_un (f := f) (k := 3) (j := 6) (by omega), pk_un (f := f) (k := 3) (j := 7) (by omega)] at hl
      rcases hl with v | ⟨v1, v2, v3⟩ | ⟨v1, v2, v3⟩ | ⟨v1, v2, v3⟩ | ⟨v1, v2, v3⟩ | ⟨v1, v2, v3⟩
      · exact Or.inl v
      · exact Or.inr (Or.inl ⟨v1, v2, by omega⟩)
      · exact Or.inr (Or.inr (Or.inl ⟨v1, v2, by omega⟩))
      · exact Or.inr (Or.inr (Or.inr (Or.inl ⟨v1, v2, by omega⟩)))
      · exact Or.inr (Or.inr (Or.inr (Or.inr (Or.inl ⟨v1, v2, by omega⟩))))
      · exact Or.inr (Or.inr (Or.inr (Or.inr (Or.inr ⟨v1, v2, by omega⟩))))
    · rw [z, pk_un (f := f) (k := 4) (j := 2) (by omega), pk_un (f := f) (k := 4) (j := 3) (by omega), pk_un (f := f) (k := 4) (j := 6) (by omega), pk_un (f := f) (k := 4) (j := 7) (by omega)] at hl
      rcases hl with v | ⟨v1, v2, v3⟩ | ⟨v1, v2, v3⟩ | ⟨v1, v2, v3⟩ | ⟨v1, v2, v3⟩ | ⟨v1, v2, v3⟩
      · exact Or.inl v
      · exact Or.inr (Or.inl ⟨v1, v2, by omega⟩)
      · exact Or.inr (Or.inr (Or.inl ⟨v1, v2, by omega⟩))
      · exact Or.inr (Or.inr (Or.inr (Or.inl ⟨v1, v2, by omega⟩)))
      · exact Or.inr (Or.inr (Or.inr (Or.inr (Or.inl ⟨v1, v2, by omega⟩))))
      · exact Or.inr (Or.inr (Or.inr (Or.inr (Or.inr ⟨v1, v2, by omega⟩))))
    · rw [z, pk_un (f := f) (k := 6) (j := 2) (by omega), pk_un (f := f) (k := 6) (j := 3) (by omega), pk_un (f := f) (k := 6) (j := 4) (by omega), pk_un (f := f) (k := 6) (j := 7) (by omega)] at hl
      rcases hl with v | ⟨v1, v2, v3⟩ | ⟨v1, v2, v3⟩ | ⟨v1, v2, v3⟩ | ⟨v1, v2, v3⟩ | ⟨v1, v2, v3⟩
      · exact Or.inl v
      · exact Or.inr (Or.inl ⟨v1, v2, by omega⟩)
      · exact Or.inr (Or.inr (Or.inl ⟨v1, v2, by omega⟩))
      · exact Or.inr (Or.inr (Or.inr (Or.inl ⟨v1, v2, by omega⟩)))
      · exact Or.inr (Or.inr (Or.inr (Or.inr (Or.inl ⟨v1, v2, by omega⟩))))
      · exact Or.inr (Or.inr (Or.inr (Or.inr (Or.inr ⟨v1, v2, by omega⟩))))
theorem m_bec0 {m : WM} (hw : (a_m_w m).length = 596) {x : Int32} (y : Int32) (k : Nat) (hx : x = nI k) (hk : k < 149) : Fm_becomes_89 x y m = some (sl (a_m_w m) 0 k, u_m_w m ((a_m_w m).set (0 + k) y)) := M_becomes (r := 0) y k (by rw [Nat.zero_add]; exact hx) hw (by omega) hk
theorem C_clean (h : R w m) (a : Int32) : Ok (fun _ => Ff_clean_0 a w) (fun _ => Fm_clean_89 a m) := Ok.of 0 fun n hn => by
  obtain ⟨w5, m5, e5, e6, hR5⟩ := R_met h (-2)
  have e6b : Fm_bad_89 m = some (-2, m5) := by unfold Fm_bad_89; rw [e6, bd_some]
  have g : ∀ {k : Nat} {b : Nat}, isN (sl (a_m_w m) 0 k) 0 b → b < 2 ^ 31 → ∀ w : WX, Ff_counted_0 (sl (a_m_w m) 0 k) w = some (sl (a_m_w m) 0 k, w) := fun q hb w => by
    have q1 := q.2.1
    rw [q.2.2]
    exact cnt_nI (by omega) w
  have f2 : a_s1things_count w = sl (a_m_w m) 0 2 := h.s.k (k := 2) (by omega)
  have f3 : a_s1lifts_count w = sl (a_m_w m) 0 3 := h.s.k (k := 3) (by omega)
  have f4 : a_s1_towns w = sl (a_m_w m) 0 4 := h.s.k (k := 4) (by omega)
  have f6 : a_s1_drops w = sl (a_m_w m) 0 6 := h.s.k (k := 6) (by omega)
  simp only [Ff_clean_0, Fsea_empty_1, Fm_clean_89, Ff_within_eq, Fm_in_eq a (lo := 0) (hi := 3) 0 3 rfl rfl, bd_some, ifz, e6b]
  by_cases h1 : 0 ≤ a ∧ a ≤ 3
  · simp only [if_pos h1]
    by_cases a0 : a = 0
    · simp only [if_pos a0]
      rw [m_bec0 h.w (x := 2) 0 2 rfl (by omega)]
      simp only [bd_some, f2, g h.s.c2 (by decide)]
      exact ⟨_, _, _, rfl, rfl, R_now h (MW_set h.w (by omega) (by omega)) (RS_zero h.s (Or.inl rfl) h.s.1 (flset_tcount _ _ _ _))⟩
    simp only [if_neg a0]
    by_cases a1 : a = 1
    · simp only [if_pos a1]
      rw [m_bec0 h.w (x := 3) 0 3 rfl (by omega)]
      simp only [bd_some, f3, g h.s.c3 (by decide)]
      exact ⟨_, _, _, rfl, rfl, R_now h (MW_set h.w (by omega) (by omega)) (RS_zero h.s (Or.inr (Or.inl rfl)) h.s.1 (flset_lcount _ _ _ _))⟩
    simp only [if_neg a1]
    by_cases a2 : a = 2
    · simp only [if_pos a2]
      rw [m_bec0 h.w (x := 4) 0 4 rfl (by omega)]
      simp only [bd_some, f4, g h.s.c4 (by decide)]
      exact ⟨_, _, _, rfl, rfl, R_now h (MW_set h.w (by omega) (by omega)) (RS_zero h.s (Or.inr (Or.inr (Or.inl rfl))) h.s.1 (flset_towns _ _ _ _))⟩
    simp only [if_neg a2]
    rw [m_bec0 h.w (x := 6) 0 6 rfl (by omega)]
    simp only [bd_some, f6, g h.s.c6 (by decide)]
    exact ⟨_, _, _, rfl, rfl, R_now h (MW_set h.w (by omega) (by omega)) (RS_zero h.s (Or.inr (Or.inr (Or.inr rfl))) h.s.1 (flset_drops _ _ _ _))⟩
  · simp only [if_neg h1, bd_some, e5]
    exact ⟨_, _, _, rfl, rfl, hR5⟩
theorem C_type (h : R w m) (a : Int32) : Ok (fun _ => Ff_type_0 a w) (fun _ => Fm_type_89 a m) := Ok.of 0 fun n hn => by
  obtain ⟨w5, m5, e5, e6, hR5⟩ := R_met h (-2)
  obtain ⟨w3, m3, e3, e4, hR3⟩ := R_met h (-4)
  have e6b : Fm_bad_89 m = some (-2, m5) := by unfold Fm_bad_89; rw [e6, bd_some]
  obtain ⟨h1, h2, h3, h4, ⟨t, t1, t2, t3, t4, t5, t6⟩, h6, h7, h8, h9⟩ := h
  simp only [Ff_type_0, Ftxt_add_78, Fm_type_89, Ff_within_eq, Fm_in_eq a (lo := 0) (hi := 127) 0 127 rfl rfl, bd_some, ifz, e6b, e4]
  by_cases c1 : 0 ≤ a ∧ a ≤ 127
  · simp only [if_pos c1]
    rw [t2, t3]
    by_cases c2 : t = 150
    · rw [if_neg (show ¬ nI t < 150 by rw [c2]; decide), if_pos (show nI t = 150 by rw [c2]; rfl)]
      simp only [bd_some, e3]
      exact ⟨_, _, _, rfl, rfl, hR3⟩
    · rw [if_pos (show nI t < 150 from nI_lt (b := 150) (by omega) (by decide)), if_neg (show ¬ nI t = 150 from fun q => c2 ((nI_eq (a := t) (b := 150) (by omega) (by decide)).mp q)), up_e (l := a_text_bytes w) a t rfl (by omega) (by omega), up_e (l := a_m_text m) a t rfl (by omega) (by omega)]
      simp only [bd_some, nI_1]
      rw [cnt_nI (by omega)]
      simp only [bd_some]
      refine ⟨_, _, _, rfl, rfl, h1, h2, h3, h4, ⟨t + 1, by omega, rfl, rfl, by rw [List.length_set]; exact t4, by rw [List.length_set]; exact t5, fun k hk => ?_⟩, h6, h7, h8, h9⟩
      show ((a_text_bytes w).set t a).getD k 0 = ((a_m_text m).set t a).getD k 0
      rw [gD_set _ _ _ _ (by omega), gD_set _ _ _ _ (by omega)]
      by_cases e : k = t
      · rw [if_pos e, if_pos e]
      · rw [if_neg e, if_neg e]
        exact t6 k (by omega)
  · simp only [if_neg c1, bd_some, e5]
    exact ⟨_, _, _, rfl, rfl, hR5⟩
theorem C_clear (h : R w m) : Ok (fun _ => Ff_clear_0 w) (fun _ => Fm_clear_89 m) := Ok.of 0 fun n hn => by
  obtain ⟨h1, h2, h3, h4, ⟨t, t1, t2, t3, t4, t5, t6⟩, h6, h7, h8, h9⟩ := h
  unfold Ff_clear_0 Fm_clear_89
  rw [t2, t3]
  exact ⟨_, _, _, rfl, rfl, h1, h2, h3, h4, ⟨0, by omega, rfl, rfl, t4, t5, fun k hk => absurd hk (by omega)⟩, h6, h7, h8, h9⟩
end CALLS
