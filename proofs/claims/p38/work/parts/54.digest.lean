/-! the digest, both sides -/
section C54
variable {w : WX} {m : WM} {f : Nat → Int32}
def enD (m : WM) (h : Int64) : Int64 := 31 * (31 * h + a_m_above m) + a_m_below m
theorem M_di3 (hw : (a_m_w m).length = 596) (hf : sl (a_m_w m) 0 = f) (h6 : isN (f 6) 0 6) : ∀ (d i n : Nat) (h : Int64), i + d = Nn (f 6) → d < n → Gm_digest_89 n 3 (nI i) (mH m h) = some (enD m (drF f d i h), mH m (enD m (drF f d i h))) := by
  have h7 := h6.2.1
  have q6 := h6.2.2
  obtain ⟨T, hT⟩ : ∃ T, Nn (f 6) = T := ⟨_, rfl⟩
  rw [hT] at h7 q6 ⊢
  intro d
  induction d with
  | zero =>
    intro i n h hi hn
    obtain ⟨n, rfl⟩ : ∃ k, n = k + 1 := ⟨n - 1, by omega⟩
    rw [Gm_digest_89, mh_ix hw hf h (x := 6) 6 rfl (by omega), bd_some, q6, if_pos (nI_le (by omega) (by omega)), mH_above, M_mix, bd_some, mH_below, M_mix, bd_some, mH_h]
    rfl
  | succ d ih =>
    intro i n h hi hn
    obtain ⟨n, rfl⟩ : ∃ k, n = k + 1 := ⟨n - 1, by omega⟩
    rw [Gm_digest_89, mh_ix hw hf h (x := 6) 6 rfl (by omega), bd_some, q6, if_neg (nI_ge (by omega) (by omega)), mh_ix hw hf _ (x := 127 + nI i) (127 + i) (by rw [show (127 : Int32) = nI 127 from rfl, nI_add]) (by omega), bd_some, M_mix, bd_some, mh_ix hw hf _ (x := 133 + nI i) (133 + i) (by rw [show (133 : Int32) = nI 133 from rfl, nI_add]) (by omega), bd_some, M_mix, bd_some, nI_1, drF]
    exact ih (i + 1) n _ (by omega) (by omega)
theorem M_di2 (hw : (a_m_w m).length = 596) (hf : sl (a_m_w m) 0 = f) (h4 : isN (f 4) 0 6) (h6 : isN (f 6) 0 6) : ∀ (d i n : Nat) (h : Int64), i + d = Nn (f 4) → d + 10 ≤ n → Gm_digest_89 n 2 (nI i) (mH m h) = some (enD m (drF f (Nn (f 6)) 0 (dg (fun j => f (121 + j)) d i h)), mH m (enD m (drF f (Nn (f 6)) 0 (dg (fun j => f (121 + j)) d i h)))) := by
  have h7 := h4.2.1
  have h8 := h6.2.1
  have q4 := h4.2.2
  obtain ⟨T, hT⟩ : ∃ T, Nn (f 4) = T := ⟨_, rfl⟩
  rw [hT] at h7 q4 ⊢
  intro d
  induction d with
  | zero =>
    intro i n h hi hn
    obtain ⟨n, rfl⟩ : ∃ k, n = k + 1 := ⟨n - 1, by omega⟩
    rw [Gm_digest_89, mh_ix hw hf h (x := 4) 4 rfl (by omega), bd_some, q4, if_pos (nI_le (by omega) (by omega))]
    have q := M_di3 hw hf h6 (Nn (f 6)) 0 n h (by omega) (by omega)
    rw [nI_0] at q
    exact q
  | succ d ih =>
    intro i n h hi hn
    obtain ⟨n, rfl⟩ : ∃ k, n = k + 1 := ⟨n - 1, by omega⟩
    rw [Gm_digest_89, mh_ix hw hf h (x := 4) 4 rfl (by omega), bd_some, q4, if_neg (nI_ge (by omega) (by omega)), mh_ix hw hf _ (x := 121 + nI i) (121 + i) (by rw [show (121 : Int32) = nI 121 from rfl, nI_add]) (by omega), bd_some, M_mix, bd_some, nI_1, dg]
    exact ih (i + 1) n _ (by omega) (by omega)
theorem M_di1 (hw : (a_m_w m).length = 596) (hf : sl (a_m_w m) 0 = f) (h3 : isN (f 3) 0 10) (h4 : isN (f 4) 0 6) (h6 : isN (f 6) 0 6) : ∀ (d i n : Nat) (h : Int64), i + d = Nn (f 3) → d + 20 ≤ n → Gm_digest_89 n 1 (nI i) (mH m h) = some (enD m (drF f (Nn (f 6)) 0 (dg (fun j => f (121 + j)) (Nn (f 4)) 0 (liF f d i h))), mH m (enD m (drF f (Nn (f 6)) 0 (dg (fun j => f (121 + j)) (Nn (f 4)) 0 (liF f d i h))))) := by
  have h7 := h3.2.1
  have h8 := h4.2.1
  have q3 := h3.2.2
  obtain ⟨T, hT⟩ : ∃ T, Nn (f 3) = T := ⟨_, rfl⟩
  rw [hT] at h7 q3 ⊢
  intro d
  induction d with
  | zero =>
    intro i n h hi hn
    obtain ⟨n, rfl⟩ : ∃ k, n = k + 1 := ⟨n - 1, by omega⟩
    rw [Gm_digest_89, mh_ix hw hf h (x := 3) 3 rfl (by omega), bd_some, q3, if_pos (nI_le (by omega) (by omega))]
    have q := M_di2 hw hf h4 h6 (Nn (f 4)) 0 n h (by omega) (by omega)
    rw [nI_0] at q
    exact q
  | succ d ih =>
    intro i n h hi hn
    obtain ⟨n, rfl⟩ : ∃ k, n = k + 1 := ⟨n - 1, by omega⟩
    rw [Gm_digest_89, mh_ix hw hf h (x := 3) 3 rfl (by omega), bd_some, q3, if_neg (nI_ge (by omega) (by omega)), mh_ix hw hf _ (x := 91 + nI i) (91 + i) (by rw [show (91 : Int32) = nI 91 from rfl, nI_add]) (by omega), bd_some, M_mix, bd_some, mh_ix hw hf _ (x := 101 + nI i) (101 + i) (by rw [show (101 : Int32) = nI 101 from rfl, nI_add]) (by omega), bd_some, M_mix, bd_some, mh_ix hw hf _ (x := 111 + nI i) (111 + i) (by rw [show (111 : Int32) = nI 111 from rfl, nI_add]) (by omega), bd_some, M_mix, bd_some, nI_1, liF]
    exact ih (i + 1) n _ (by omega) (by omega)
theorem M_c8 (m : WM) : Fm_countOf_89 (nI 8) m = some (a_m_texted m, m) := rfl
theorem di_step (h : R w m) (hf : sl (a_m_w m) 0 = f) (hs : RS w.2.1 w.2.2.1 w.2.2.2.1 f) : ∀ (d j n : Nat) (x : Int64), j + d = 8 → 400 + d ≤ n → ∃ r, Gf_digest_0 n 0 (nI j) x w = some (r, w) ∧ Gm_digest_89 n 0 (nI j) (mH m x) = some (r, mH m r) := by
  have c2 := hs.c2.2.1
  have c3 := hs.c3.2.1
  obtain ⟨tn, t1, t2, t3, t4⟩ := h.2.2.2.2.1
  obtain ⟨v1, v2⟩ := h.2.2.2.2.2.2.1
  intro d
  induction d with
  | zero =>
    intro j n x hj hn
    obtain ⟨n, rfl⟩ : ∃ k, n = k + 1 + 1 := ⟨n - 2, by omega⟩
    have : j = 8 := by omega
    subst this
    have wx := X_wa0 hs (31 * x + (nI tn).toInt64) 4 0 (n + 1) 0 (31 * x + (nI tn).toInt64) (by omega) (by omega)
    have rx := fun y z => X_ro0 hs y (Nn (f 2)) 0 (n + 1) z (by omega) (by omega)
    have wm := M_mx0 h.w hf hs.c0 hs.c2 4 0 n 0 (31 * x + (nI tn).toInt64) (by omega) (by omega)
    have rm := fun z => M_di1 h.w hf hs.c3 hs.c4 hs.c6 (Nn (f 3)) 0 n z (by omega) (by omega)
    rw [nI_0] at wx wm
    simp only [nI_0] at rx rm
    have wx : Fsea_digestWaters_1 (n + 1) (31 * x + (nI tn).toInt64) w = _ := wx
    have rx : ∀ y, Fsea_digestRows_1 (n + 1) y w = _ := fun y => rx y y
    have wm : Fm_mixSea_89 n (mH m (31 * x + (nI tn).toInt64)) = _ := wm
    rw [Gf_digest_0, Gm_digest_89, if_pos (show (8 : Int32) ≤ nI 8 from Int32.le_refl _), if_neg (show ¬ (9 : Int32) ≤ nI 8 by decide), t2, wx, bd_some, rx, bd_some, M_c8, bd_some, mH_texted, t3, M_mix, bd_some, Gm_digest_89, if_pos (show (9 : Int32) ≤ nI 8 + 1 by decide), wm, bd_some, rm]
    refine ⟨_, rfl, ?_⟩
    rw [← v1, ← v2]
    rfl
  | succ d ih =>
    intro j n x hj hn
    obtain ⟨n, rfl⟩ : ∃ k, n = k + 1 := ⟨n - 1, by omega⟩
    obtain ⟨r, e1, e2⟩ := cOf (R_H h x) j (by omega)
    rw [Gf_digest_0, Gm_digest_89, if_neg (show ¬ (8 : Int32) ≤ nI j from nI_ge (b := 8) (by omega) (by decide)), if_neg (show ¬ (9 : Int32) ≤ nI j from nI_ge (b := 9) (by omega) (by decide)), e1, bd_some, e2, bd_some, M_mix, bd_some, nI_1]
    exact ih (j + 1) n _ (by omega) (by omega)
theorem C_digest (h : R w m) : Ok (fun n => Ff_digest_0 n w) (fun n => Fm_digest_89 n m) := Ok.of 500 fun n hn => by
  obtain ⟨r, q1, q2⟩ := di_step h rfl h.s 8 0 n 887 (by omega) (by omega)
  rw [nI_0] at q1 q2
  exact ⟨r, w, mH m r, q1, q2, R_H h r⟩
end C54
