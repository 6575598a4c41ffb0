/-! what lies in a layer -/
def lS (f : Nat → Int32) (c h : Nat) (v : Int32) (k : Nat) : FR := fS f c h 0 (Wt 4 (nI k) 0 (nI h)) (Ro 4 v (nI h)) (Fo 4 (Wt 4 (nI k) 0 (nI h))) 4 0 (-1) 0 0 0 [0, 0, 0, 0]
def tL (f : Nat → Int32) (c h : Nat) (v : Int32) (k : Nat) : TF := (Wt 4 (nI k) 0 (nI h), Ro 4 v (nI h), Fo 4 (Wt 4 (nI k) 0 (nI h)), (lS f c h v k).1, (lS f c h v k).2.1, (lS f c h v k).2.2.1, (lS f c h v k).2.2.2.1, (lS f c h v k).2.2.2.2.2)
def mL (m : WM) (f : Nat → Int32) (c h : Nat) (v : Int32) (k : Nat) : WM := mkF (mkK m 4 (nI k) v 0 (nI h) 0) (lS f c h v k).1 (lS f c h v k).2.1 (lS f c h v k).2.2.1 (lS f c h v k).2.2.2.2.1 (lS f c h v k).2.2.2.1
theorem tL_len (f : Nat → Int32) (c h : Nat) (v : Int32) (k : Nat) : (tL f c h v k).2.2.2.2.2.2.2.length = 4 := fS_len f c h 0 _ _ _ 4 0 (-1) 0 0 0 [0, 0, 0, 0] rfl
theorem tL_la (w : WX) (f : Nat → Int32) (c h : Nat) (v : Int32) (k : Nat) : a_fall_layer (mkX w (tL f c h v k)) = (lS f c h v k).1 := by dsimp only [mkX, tL, a_fall_layer]
theorem mL_la (m : WM) (f : Nat → Int32) (c h : Nat) (v : Int32) (k : Nat) : a_m_restsIn (mL m f c h v k) = (lS f c h v k).1 := by dsimp only [mL, mkF, mkK, a_m_restsIn]
theorem X_lies1 {α : Type} {W : WX} {f : Nat → Int32} (hs : RS W.2.1 W.2.2.1 W.2.2.2.1 f) {c h n : Nat} (hn : 6 ≤ n) (hc : c < 6) (hh : h < 2 ^ 31) (v : Int32) (k : Nat) {fa : TF} (hp : fa.2.2.2.2.2.2.2.length = 4) (g : WX → Option α) : (ai_bd (Ffall_shape_81 4 (nI k) v 0 (nI h) (mkX W fa)) fun c1717 => ai_bd (Ffall_letGo_81_1 n (nI c) (nI h) 0 c1717) g) = g (mkX W (tL f c h v k)) := by
  obtain ⟨f1, f2, f3, f4, f5, f6, f7, f8⟩ := fa
  have hp : f8.length = 4 := hp
  unfold tL lS
  rw [X_shape, bd_some, X_letGo hs hn hc hh 0 _ _ _ _ _ _ _ hp, bd_some]
theorem M_lies1 {m : WM} (hw : (a_m_w m).length = 596) {f : Nat → Int32} (hf : sl (a_m_w m) 0 = f) {c h n : Nat} (hn : 6 ≤ n) (hc : c < 6) (hh : h < 2 ^ 31) (hsk : ∀ i, i < 3 → isN (f (64 + i)) 0 99) (v we : Int32) (k : Nat) (i j p l o : Int32) : Fm_comesDown_89 n (nI c) (u_m_weight (mkF (mkK m 4 we v 0 (nI h) 0) i j p l o) (nI k)) = some (mL m f c h v k) := by
  rw [mKu_weight]
  unfold mL lS
  exact M_comes hw hf hn hc hh hsk 4 (nI k) v 0 0 i j p l o
theorem mK_lies (m : WM) (v hh : Int32) : u_m_torn (u_m_hour (u_m_load (u_m_volume (u_m_kind m 4) v) 0) hh) 0 = mkF (mkK m 4 (a_m_weight m) v 0 hh 0) (a_m_restsIn m) (a_m_down m) (a_m_broken m) (a_m_passes m) (a_m_stops m) := by dsimp only [u_m_torn, u_m_hour, u_m_load, u_m_volume, u_m_kind, mkF, mkK, a_m_weight, a_m_restsIn, a_m_down, a_m_broken, a_m_passes, a_m_stops]
section C47
variable {w : WX} {m : WM}
theorem lies_step (h : R w m) {c hh : Nat} (hc : c < 6) (hhh : hh < 2 ^ 31) (v L q : Int32) : ∀ (d k n : Nat) (cnt lo hi : Int32) (fa : TF) (we i j p l o : Int32), k + d = 100 → d + 10 < n → fa.2.2.2.2.2.2.2.length = 4 → ∃ r w' m', Gf_lies_0 n 0 v (nI c) L (nI hh) q cnt lo hi (nI k) (mkX w fa) = some (r, w') ∧ Gm_lies_89 n 0 v (nI c) L (nI hh) q cnt lo hi (nI k) (mkF (mkK m 4 we v 0 (nI hh) 0) i j p l o) = some (r, m') ∧ R w' m' := by
  intro d
  induction d with
  | zero =>
    intro k n cnt lo hi fa we i j p l o hk hn hp
    obtain ⟨n, rfl⟩ : ∃ k, n = k + 1 := ⟨n - 1, by omega⟩
    have : k = 100 := by omega
    subst this
    rw [Gf_lies_0, Gm_lies_89, if_pos (show (99 : Int32) < nI 100 by decide), if_pos (show (100 : Int32) ≤ nI 100 by decide)]
    by_cases q0 : q = 0
    · rw [if_pos q0, if_pos q0]
      exact ⟨_, _, _, rfl, rfl, R_fall h hp _ _ _ _ _ _ _ _ _ _ _⟩
    rw [if_neg q0, if_neg q0]
    by_cases q1 : q = 1
    · rw [if_pos q1, if_pos q1]
      exact ⟨_, _, _, rfl, rfl, R_fall h hp _ _ _ _ _ _ _ _ _ _ _⟩
    · rw [if_neg q1, if_neg q1]
      exact ⟨_, _, _, rfl, rfl, R_fall h hp _ _ _ _ _ _ _ _ _ _ _⟩
  | succ d ih =>
    intro k n cnt lo hi fa we i j p l o hk hn hp
    obtain ⟨n, rfl⟩ : ∃ k, n = k + 1 := ⟨n - 1, by omega⟩
    rw [Gf_lies_0, Gm_lies_89, if_neg (show ¬ (99 : Int32) < nI k from nI_nlt (a := 99) (by omega) (by decide)), if_neg (show ¬ (100 : Int32) ≤ nI k from nI_ge (b := 100) (by omega) (by decide)), X_lies1 h.s (by omega) hc hhh v k hp, M_lies1 h.w rfl (by omega) hc hhh h.sk v we k, bd_some, tL_la, mL_la, nI_1]
    have go := fun cnt lo hi => ih (k + 1) n cnt lo hi (tL (sl (a_m_w m) 0) c hh v k) (nI k) (lS (sl (a_m_w m) 0) c hh v k).1 (lS (sl (a_m_w m) 0) c hh v k).2.1 (lS (sl (a_m_w m) 0) c hh v k).2.2.1 (lS (sl (a_m_w m) 0) c hh v k).2.2.2.2.1 (lS (sl (a_m_w m) 0) c hh v k).2.2.2.1 (by omega) (by omega) (tL_len _ _ _ _ _)
    unfold mL
    by_cases c1 : (lS (sl (a_m_w m) 0) c hh v k).1 = L
    · rw [if_pos c1, if_pos c1]
      by_cases c2 : lo = -1
      · rw [if_pos c2, if_pos c2]
        exact go _ _ _
      · rw [if_neg c2, if_neg c2]
        exact go _ _ _
    · rw [if_neg c1, if_neg c1]
      exact go _ _ _
theorem C_lies (h : R w m) (a b d e g : Int32) : Ok (fun n => Ff_lies_0 n a b d e g w) (fun n => Fm_lies_89 n a b d e g m) := Ok.of 200 fun n hn => by
  obtain ⟨w2, m2, e1, e2, hR⟩ := R_badAs h (-10)
  have f0 : a_s1_cells w = sl (a_m_w m) 0 0 := h.s.k (k := 0) (by omega)
  simp only [Ff_lies_0, Fm_lies_89, Ff_within_eq, hasCell_1, M_isCell h.w, Fm_in_eq a (lo := 1) (hi := 9) 1 9 rfl rfl, Fm_in_eq d (lo := 0) (hi := 4) 0 4 rfl rfl, Fm_in_eq e (lo := 0) (hi := 999) 0 999 rfl rfl, Fm_in_eq g (lo := 0) (hi := 2) 0 2 rfl rfl, bd_some, ifz, e1, e2, f0]
  by_cases c1 : 1 ≤ a ∧ a ≤ 9
  · simp only [if_pos c1]
    by_cases c2 : C_cell (sl (a_m_w m) 0 0) b
    · simp only [if_pos c2]
      by_cases c3 : 0 ≤ d ∧ d ≤ 4
      · simp only [if_pos c3]
        by_cases c4 : 0 ≤ e ∧ e ≤ 999
        · simp only [if_pos c4]
          by_cases c5 : 0 ≤ g ∧ g ≤ 2
          · simp only [if_pos c5]
            obtain ⟨c, hc, rfl⟩ := cell_N h.s.c0 (by decide) c2
            obtain ⟨hh, hhh, rfl⟩ := in0 999 rfl c4
            have h7 := h.s.c0.2.1
            rw [mK_lies]
            have q := lies_step h (c := c) (hh := hh) (by omega) (by omega) a d g 99 1 n 0 (-1) (-1) w.2.2.2.2.2.2.2.2.2.2.2.2.2.2.1 (a_m_weight m) (a_m_restsIn m) (a_m_down m) (a_m_broken m) (a_m_passes m) (a_m_stops m) (by omega) (by omega) h.pt
            rw [mX_in] at q
            exact q
          · simp only [if_neg c5]; exact ⟨_, _, _, rfl, rfl, hR⟩
        · simp only [if_neg c4]; exact ⟨_, _, _, rfl, rfl, hR⟩
      · simp only [if_neg c3]; exact ⟨_, _, _, rfl, rfl, hR⟩
    · simp only [if_neg c2]; exact ⟨_, _, _, rfl, rfl, hR⟩
  · simp only [if_neg c1]; exact ⟨_, _, _, rfl, rfl, hR⟩
end C47
