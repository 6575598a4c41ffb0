/-! from which cells a thing comes into a cell -/
/-- the drift through the layers from j on, p being how thick what it passed is -/
def dA (f : Nat → Int32) (p : List Int32) : Nat → Nat → Int32 → Int32
  | 0, _, x => x
  | d + 1, j, x => dA f p d (j + 1) (dN (f 0) (f (12 + j)) (Nn (p.getD j 0)) x)
theorem pInv_z {s : TS} {t : TT} {l : TL} {f : Nat → Int32} (hs : RS s t l f) {c h : Nat} (hc : c < 6) {ps : Int32} {p : List Int32} (H : pInv f c h ps p) {j : Nat} (hj : j < 4) : ∃ z, z ≤ 11 ∧ p.getD j 0 = nI z := by
  rw [H.2.2 j hj]
  by_cases c1 : C_bit ps (nI j)
  · rw [if_pos c1]
    exact Tk_rng hs hj hc h
  · rw [if_neg c1]
    exact ⟨0, by omega, by rw [nI_0]⟩
section C51
variable {W : WX} {M : WM} {f : Nat → Int32}
theorem X_drG (hs : RS W.2.1 W.2.2.1 W.2.2.2.1 f) {p : List Int32} (hp : a_fall_passedThick W = p) (hl : p.length = 4) (hz : ∀ j, j < 4 → ∃ z, z ≤ 11 ∧ p.getD j 0 = nI z) (x : Int32) : ∀ (d j n a : Nat) (z0 : Int32), j + d = 4 → 20 * d < n → a < Nn (f 0) → Gfall_driftFrom_81_1 n 0 x (nI a) (nI j) z0 W = some (dA f p d j (nI a), W) := by
  have h7 := hs.c0.2.1
  have q0 := hs.c0.2.2
  intro d
  induction d with
  | zero =>
    intro j n a z0 hj hn ha
    obtain ⟨n, rfl⟩ : ∃ k, n = k + 1 := ⟨n - 1, by omega⟩
    rw [show j = 4 by omega, Gfall_driftFrom_81_1, if_pos (show (4 : Int32) ≤ nI 4 from Int32.le_refl _)]
    rfl
  | succ d ih =>
    intro j n a z0 hj hn ha
    obtain ⟨n, rfl⟩ : ∃ k, n = k + 1 := ⟨n - 1, by omega⟩
    obtain ⟨z, hz1, ez⟩ := hz j (by omega)
    have hu := hs.ok (k := 12 + j) (by omega)
    rw [okv_r12 _ _ (by omega) (by omega)] at hu
    have q := X_dr1 hs hp hl x (j := j) (z := z) (by omega) hz1 ez z 0 n a (by omega) (by omega) ha
    rw [nI_0] at q
    rw [Gfall_driftFrom_81_1, if_neg (show ¬ (4 : Int32) ≤ nI j from nI_ge (b := 4) (by omega) (by decide)), q, dA, ez, Nn_nI (by omega)]
    obtain ⟨a2, h2, e⟩ := dN_rng (c := Nn (f 0)) h7 hu z a ha
    rw [← q0] at e
    rw [e]
    exact ih (j + 1) (n - z - 1) a2 0 (by omega) (by omega) h2
theorem M_drG {s : TS} {t : TT} {l : TL} (hs : RS s t l f) (hw : (a_m_w M).length = 596) (hf : sl (a_m_w M) 0 = f) {c H : Nat} (hc : c < 6) (hH : H < 2 ^ 31) (eh : a_m_hour M = nI H) {ps : Int32} (ep : a_m_passes M = ps) {p : List Int32} (hI : pInv f c H ps p) : ∀ (d j n a : Nat), j + d = 4 → 20 * d < n → a < Nn (f 0) → Gm_driftsTo_89 n 0 (nI c) (nI a) (nI j) 0 0 M = some (dA f p d j (nI a), M) := by
  have h7 := hs.c0.2.1
  have q0 := hs.c0.2.2
  intro d
  induction d with
  | zero =>
    intro j n a hj hn ha
    obtain ⟨n, rfl⟩ : ∃ k, n = k + 1 := ⟨n - 1, by omega⟩
    rw [show j = 4 by omega, Gm_driftsTo_89, if_pos (show (4 : Int32) ≤ nI 4 from Int32.le_refl _)]
    rfl
  | succ d ih =>
    intro j n a hj hn ha
    obtain ⟨n, rfl⟩ : ∃ k, n = k + 1 := ⟨n - 1, by omega⟩
    obtain ⟨z, hz1, ez⟩ := pInv_z hs hc hI (j := j) (by omega)
    have hu := hs.ok (k := 12 + j) (by omega)
    rw [okv_r12 _ _ (by omega) (by omega)] at hu
    have q := M_dr1 hw hf hs.c0 (nI c) (j := j) (z := z) (by omega) hz1 hu z 0 n a (by omega) (by omega) ha
    rw [nI_0] at q
    have ej := hI.2.2 j (by omega)
    have tk := M_thickIn hw (l := j) (c := c) (h := H) (by omega) hc hH
    rw [hf] at tk
    have go : Gm_driftsTo_89 n 1 (nI c) (nI a) (nI j) (p.getD j 0) 0 M = some (dA f p (d + 1) j (nI a), M) := by
      rw [ez, q, dA, ez, Nn_nI (by omega)]
      obtain ⟨a2, h2, e⟩ := dN_rng (c := Nn (f 0)) h7 hu z a ha
      rw [← q0] at e
      rw [e]
      exact ih (j + 1) (n - z - 1) a2 (by omega) (by omega) h2
    rw [Gm_driftsTo_89, if_neg (show ¬ (4 : Int32) ≤ nI j from nI_ge (b := 4) (by omega) (by decide)), ep, Fm_has_eq, bd_some, ifz]
    by_cases cb : C_bit ps (nI j)
    · rw [if_pos cb] at ej ⊢
      rw [eh, tk, bd_some]
      rw [ej] at go
      exact go
    · rw [if_neg cb] at ej ⊢
      rw [ej] at go
      exact go
end C51
theorem mT_hour (m : WM) (f : Nat → Int32) (t c h : Nat) (b to : Int32) : a_m_hour (mT m f t c h b to) = nI h := by dsimp only [mT, mkF, mkK, a_m_hour]
section C51b
variable {w : WX} {m : WM}
theorem went_step (h : R w m) {f : Nat → Int32} (hf : sl (a_m_w m) 0 = f) (hs : RS w.2.1 w.2.2.1 w.2.2.2.1 f) {t H : Nat} (ht : t < Nn (f 2)) (hH : Nn (f 1) = H) (e : Int32) : ∀ (d k n : Nat) (ac : Int32) (fa : TF) (i j p l o : Int32), k + d = Nn (f 0) → d + 150 < n → fa.2.2.2.2.2.2.2.length = 4 → ∃ r w' m', Gf_wentIn_0 n 0 (nI t) e ac (nI k) (mkX w fa) = some (r, w') ∧ Gm_wentIn_89 n 0 (nI t) e ac (nI k) (mkF (mkK m (f (67 + t)) (f (73 + t)) (f (79 + t)) (f (85 + t)) (nI H) 0) i j p l o) = some (r, m') ∧ R w' m' := by
  have h7 := hs.c0.2.1
  have h8 := hs.c1.2.1
  have hsk : ∀ i, i < 3 → isN (f (64 + i)) 0 99 := by rw [← hf]; exact h.sk
  have e0 : ∀ fa, a_s1_cells (mkX w fa) = nI (Nn (f 0)) := fun fa => (hs.k (k := 0) (by omega)).trans hs.c0.2.2
  have m0 : ai_ix (a_m_w m) 0 = some (nI (Nn (f 0))) := by rw [m_ix0 h.w (x := 0) 0 rfl (by omega), hf, ← hs.c0.2.2]
  intro d
  induction d with
  | zero =>
    intro k n ac fa i j p l o hk hn hp
    obtain ⟨n, rfl⟩ : ∃ k, n = k + 1 := ⟨n - 1, by omega⟩
    rw [Gf_wentIn_0, Gm_wentIn_89, e0, mFK_w, m0, bd_some, if_pos (nI_le (by omega) (by omega)), if_pos (nI_le (by omega) (by omega))]
    exact ⟨_, _, _, rfl, rfl, R_fall h hp _ _ _ _ _ _ _ _ _ _ _⟩
  | succ d ih =>
    intro k n ac fa i j p l o hk hn hp
    obtain ⟨n, rfl⟩ : ∃ k, n = k + 1 := ⟨n - 1, by omega⟩
    have hx := X_goN hs (n := n) (t := t) (c := k) (by omega) ht (by omega) 0 hp
    rw [hH] at hx
    have hm := M_goT h.w hf (n := n) (t := t) (c := k) (h := H) (by omega) (by omega) (by omega) hsk (f (85 + t)) 0 i j p l o
    have hI := fT_inv f t k H (f (85 + t)) 0
    have dx := X_drG (W := mkX w (tT f t k H (f (85 + t)) 0)) (f := f) hs (tT_pt _ _ _ _ _ _ _) hI.2.1 (fun j hj => pInv_z hs (by omega) hI hj) (nI k) 4 0 n k 0 (by omega) (by omega) (by omega)
    have dm := M_drG (M := mT m f t k H (f (85 + t)) 0) hs (by rw [mT_w]; exact h.w) (by rw [mT_w]; exact hf) (c := k) (H := H) (by omega) (by omega) (mT_hour _ _ _ _ _ _ _) (mT_ps _ _ _ _ _ _ _) hI 4 0 n k (by omega) (by omega) (by omega)
    rw [nI_0] at dx dm
    have dx : Ffall_driftFrom_81_1 n (nI k) (mkX w (tT f t k H (f (85 + t)) 0)) = _ := dx
    have dm2 : Fm_driftsTo_89 n (nI k) (mkF (mkK m (f (67 + t)) (f (73 + t)) (f (79 + t)) (f (85 + t)) (nI H) 0) i j p l o) = some (dA f (fT f t k H (f (85 + t)) 0).2.2.2.2.2 4 0 (nI k), mT m f t k H (f (85 + t)) 0) := by
      unfold Fm_driftsTo_89
      rw [hm, bd_some, dm]
    rw [Gf_wentIn_0, Gm_wentIn_89, e0, mFK_w, m0, bd_some, if_neg (nI_ge (by omega) (by omega)), if_neg (nI_ge (by omega) (by omega)), hx, bd_some, dx, dm2, bd_some, bd_some, nI_1, or0]
    have go := fun ac => ih (k + 1) n ac (tT f t k H (f (85 + t)) 0) (fT f t k H (f (85 + t)) 0).1 (fT f t k H (f (85 + t)) 0).2.1 (fT f t k H (f (85 + t)) 0).2.2.1 (fT f t k H (f (85 + t)) 0).2.2.2.2.1 (fT f t k H (f (85 + t)) 0).2.2.2.1 (by omega) (by omega) (tT_len _ _ _ _ _ _)
    unfold mT
    by_cases c1 : dA f (fT f t k H (f (85 + t)) 0).2.2.2.2.2 4 0 (nI k) = e
    · rw [if_pos c1, if_pos c1]
      exact go _
    · rw [if_neg c1, if_neg c1]
      exact go _
theorem C_wentIn (h : R w m) (a b : Int32) : Ok (fun n => Ff_wentIn_0 n a b w) (fun n => Fm_wentIn_89 n a b m) := Ok.of 300 fun n hn => by
  obtain ⟨w2, m2, e1, e2, hR⟩ := R_bad h
  obtain ⟨f, hf⟩ : ∃ f, sl (a_m_w m) 0 = f := ⟨_, rfl⟩
  have hs := h.s
  rw [hf] at hs
  have f2 : a_s1things_count w = f 2 := hs.k (k := 2) (by omega)
  have f0 : a_s1_cells w = f 0 := hs.k (k := 0) (by omega)
  simp only [Ff_wentIn_0, Fm_wentIn_89, has_7, M_isThing h.w, hasCell_1, M_isCell h.w, bd_some, ifz, e1, e2, f2, f0, hf]
  by_cases c1 : C_th (f 2) a
  · simp only [if_pos c1]
    by_cases c2 : C_cell (f 0) b
    · simp only [if_pos c2]
      obtain ⟨t, ht, rfl⟩ := th_N hs.c2 (by decide) c1
      have h6 := hs.c2.2.1
      have h7 := hs.c0.2.1
      obtain ⟨H, hH⟩ : ∃ H, Nn (f 1) = H := ⟨_, rfl⟩
      have q1 := hs.c1.2.2
      rw [hH] at q1
      rw [M_lay h.w hf (by omega), q1, bd_some]
      have q := went_step h hf hs ht hH b (Nn (f 0)) 0 n 0 w.2.2.2.2.2.2.2.2.2.2.2.2.2.2.1 (a_m_restsIn m) (a_m_down m) (a_m_broken m) (a_m_passes m) (a_m_stops m) (by omega) (by omega) h.pt
      rw [mX_in, nI_0] at q
      exact q
    · simp only [if_neg c2]; exact ⟨_, _, _, rfl, rfl, hR⟩
  · simp only [if_neg c1]; exact ⟨_, _, _, rfl, rfl, hR⟩
end C51b
