/-! nets: how deep they come, what a net catches, all nets -/
def dnS (f : Nat → Int32) (c H i : Nat) : Int32 := if f (67 + i) = 5 then (fT f i c H (f (85 + i)) 0).2.1 else -1
def inN (f : Nat → Int32) (c H lo hi i : Nat) : Bool := decide (nI lo ≤ dnS f c H i ∧ dnS f c H i ≤ nI hi)
def cg (P : Nat → Bool) : Nat → Nat → Int32 → Int32
  | 0, _, a => a
  | d + 1, i, a => if P i = true then cg P d (i + 1) (a ||| (1 <<< (nI i &&& 31))) else cg P d (i + 1) a
theorem cg_congr {P Q : Nat → Bool} : ∀ (d i : Nat) (a : Int32), (∀ j, i ≤ j → j < i + d → P j = Q j) → cg P d i a = cg Q d i a := by
  intro d
  induction d with
  | zero => intro i a h; rfl
  | succ d ih =>
    intro i a h
    have e := h i (by omega) (by omega)
    have t : ∀ a, cg P d (i + 1) a = cg Q d (i + 1) a := fun a => ih (i + 1) a (fun j h1 h2 => h j (by omega) (by omega))
    rw [cg, cg, e, t, t]
def six (b0 b1 b2 b3 b4 b5 : Bool) : Nat → Bool
  | 0 => b0 | 1 => b1 | 2 => b2 | 3 => b3 | 4 => b4 | 5 => b5 | _ => false
theorem six_e (P : Nat → Bool) : ∀ j, j < 6 → P j = six (P 0) (P 1) (P 2) (P 3) (P 4) (P 5) j
  | 0, _ => rfl | 1, _ => rfl | 2, _ => rfl | 3, _ => rfl | 4, _ => rfl | 5, _ => rfl
  | n + 6, h => absurd h (by omega)
theorem cg_dec : ∀ (b0 b1 b2 b3 b4 b5 : Bool) (T : Fin 7) (j : Fin 6), j.val < T.val → (C_bit (cg (six b0 b1 b2 b3 b4 b5) T.val 0 0) (nI j.val) ↔ six b0 b1 b2 b3 b4 b5 j.val = true) := by decide +kernel
theorem cg_dec2 : ∀ (T : Fin 7) (q : Fin 64), q.val < 2 ^ T.val → cg (fun i => decide (C_bit (nI q.val) (nI i))) T.val 0 0 = nI q.val := by decide +kernel
theorem pw2_dec : ∀ c : Fin 7, (1 : Int32) <<< (nI c.val &&& 31) - 1 = nI (2 ^ c.val - 1) ∧ 2 ^ c.val ≤ 64 ∧ 1 ≤ 2 ^ c.val := by decide +kernel
theorem cg_iff (P : Nat → Bool) {T q : Nat} (hT : T ≤ 6) (hq : q < 2 ^ T) : cg P T 0 0 = nI q ↔ ∀ j, j < T → (P j = true ↔ C_bit (nI q) (nI j)) := by
  have hq6 : q < 64 := Nat.lt_of_lt_of_le hq (pw2_dec ⟨T, by omega⟩).2.1
  have e : cg P T 0 0 = cg (six (P 0) (P 1) (P 2) (P 3) (P 4) (P 5)) T 0 0 := cg_congr T 0 0 (fun j _ h => six_e P j (by omega))
  constructor
  · intro h j hj
    have d := cg_dec (P 0) (P 1) (P 2) (P 3) (P 4) (P 5) ⟨T, by omega⟩ ⟨j, by omega⟩ hj
    have d : C_bit (cg (six (P 0) (P 1) (P 2) (P 3) (P 4) (P 5)) T 0 0) (nI j) ↔ six (P 0) (P 1) (P 2) (P 3) (P 4) (P 5) j = true := d
    rw [← e, ← six_e P j (by omega), h] at d
    exact d.symm
  · intro h
    have d := cg_dec2 ⟨T, by omega⟩ ⟨q, hq6⟩ hq
    have d : cg (fun i => decide (C_bit (nI q) (nI i))) T 0 0 = nI q := d
    rw [← d]
    refine cg_congr T 0 0 (fun j _ hj => Bool.eq_iff_iff.mpr ?_)
    rw [decide_eq_true_iff]
    exact h j (by omega)
def nok (f : Nat → Int32) (c H lo hi : Nat) (mk : Int32) : Nat → Nat → Bool
  | 0, _ => true
  | d + 1, i => if f (67 + i) = 5 then (if (if nI lo ≤ (fT f i c H (f (85 + i)) 0).2.1 ∧ (fT f i c H (f (85 + i)) 0).2.1 ≤ nI hi then (1 : Int32) else 0) = (if C_bit mk (nI i) then 1 else 0) then nok f c H lo hi mk d (i + 1) else false) else nok f c H lo hi mk d (i + 1)
theorem one_eq (p q : Prop) [Decidable p] [Decidable q] : ((if p then (1 : Int32) else 0) = (if q then 1 else 0)) ↔ (p ↔ q) := by
  by_cases h1 : p
  · by_cases h2 : q
    · rw [if_pos h1, if_pos h2]; exact ⟨fun _ => ⟨fun _ => h2, fun _ => h1⟩, fun _ => rfl⟩
    · rw [if_pos h1, if_neg h2]; exact ⟨fun z => absurd z (by decide), fun z => absurd (z.mp h1) h2⟩
  · by_cases h2 : q
    · rw [if_neg h1, if_pos h2]; exact ⟨fun z => absurd z (by decide), fun z => absurd (z.mpr h2) h1⟩
    · rw [if_neg h1, if_neg h2]; exact ⟨fun _ => ⟨fun z => absurd z h1, fun z => absurd z h2⟩, fun _ => rfl⟩
theorem inB_fish {f : Nat → Int32} {i : Nat} (k : f (67 + i) = 5) (c H lo hi : Nat) : inN f c H lo hi i = true ↔ nI lo ≤ (fT f i c H (f (85 + i)) 0).2.1 ∧ (fT f i c H (f (85 + i)) 0).2.1 ≤ nI hi := by
  unfold inN dnS
  rw [if_pos k, decide_eq_true_iff]
theorem inB_not {f : Nat → Int32} {i : Nat} (k : ¬ f (67 + i) = 5) (c H hi : Nat) {lo : Nat} (hl : lo < 2 ^ 31) : ¬ inN f c H lo hi i = true := by
  unfold inN dnS
  rw [if_neg k, decide_eq_true_iff]
  intro q
  have a := Int32.le_iff_toInt_le.mp q.1
  rw [nI_toInt hl] at a
  have z : (-1 : Int32).toInt = -1 := rfl
  omega
theorem nok_iff (f : Nat → Int32) (c H lo hi : Nat) (mk : Int32) : ∀ d i, nok f c H lo hi mk d i = true ↔ ∀ j, i ≤ j → j < i + d → f (67 + j) = 5 → (inN f c H lo hi j = true ↔ C_bit mk (nI j)) := by
  intro d
  induction d with
  | zero => intro i; exact ⟨fun _ j h1 h2 => absurd h2 (by omega), fun _ => rfl⟩
  | succ d ih =>
    intro i
    rw [nok]
    by_cases k5 : f (67 + i) = 5
    · rw [if_pos k5]
      by_cases e : (if nI lo ≤ (fT f i c H (f (85 + i)) 0).2.1 ∧ (fT f i c H (f (85 + i)) 0).2.1 ≤ nI hi then (1 : Int32) else 0) = (if C_bit mk (nI i) then 1 else 0)
      · rw [if_pos e, ih (i + 1)]
        have e := (one_eq _ _).mp e
        rw [← inB_fish k5] at e
        constructor
        · intro h j h1 h2 h3
          by_cases ji : j = i
          · rw [ji]; exact e
          · exact h j (by omega) (by omega) h3
        · intro h j h1 h2 h3
          exact h j (by omega) (by omega) h3
      · rw [if_neg e]
        constructor
        · intro h; exact absurd h (by decide)
        · intro h
          exfalso
          have := h i (by omega) (by omega) k5
          rw [inB_fish k5] at this
          exact e ((one_eq _ _).mpr this)
    · rw [if_neg k5, ih (i + 1)]
      constructor
      · intro h j h1 h2 h3
        by_cases ji : j = i
        · rw [ji] at h3; exact absurd h3 k5
        · exact h j (by omega) (by omega) h3
      · intro h j h1 h2 h3
        exact h j (by omega) (by omega) h3
theorem fiB_all (f : Nat → Int32) (mk : Int32) : ∀ d i, fiB f mk d i = true → ∀ j, i ≤ j → j < i + d → C_bit mk (nI j) → f (67 + j) = 5 := by
  intro d
  induction d with
  | zero => intro i _ j h1 h2; exact absurd h2 (by omega)
  | succ d ih =>
    intro i h j h1 h2 hb
    rw [fiB] at h
    by_cases ji : j = i
    · subst ji
      rw [if_pos hb] at h
      by_cases k5 : f (67 + j) = 5
      · exact k5
      · rw [if_neg k5] at h; exact absurd h (by decide)
    · refine ih (i + 1) ?_ j (by omega) (by omega) hb
      by_cases cb : C_bit mk (nI i)
      · rw [if_pos cb] at h
        by_cases k5 : f (67 + i) = 5
        · rw [if_pos k5] at h; exact h
        · rw [if_neg k5] at h; exact absurd h (by decide)
      · rw [if_neg cb] at h; exact h
theorem cg_nok {f : Nat → Int32} {c H lo hi T q : Nat} (hl : lo < 2 ^ 31) (hT : T ≤ 6) (hq : q < 2 ^ T) (hF : fiB f (nI q) T 0 = true) : cg (inN f c H lo hi) T 0 0 = nI q ↔ nok f c H lo hi (nI q) T 0 = true := by
  rw [cg_iff _ hT hq, nok_iff]
  constructor
  · intro h j _ h2 _
    exact h j (by omega)
  · intro h j hj
    by_cases k5 : f (67 + j) = 5
    · exact h j (by omega) (by omega) k5
    · exact ⟨fun z => absurd z (inB_not k5 c H hi hl), fun z => absurd (fiB_all f _ T 0 hF j (by omega) (by omega) z) k5⟩
section C56
variable {w : WX} {m : WM} {f : Nat → Int32}
theorem uD_X (w : WX) (l : List Int32) (fa : TF) : u_f_downs (mkX w fa) l = mkX (u_f_downs w l) fa := by dsimp only [mkX, u_f_downs]
theorem uD_D (w : WX) (l k : List Int32) : u_f_downs (u_f_downs w l) k = u_f_downs w k := by dsimp only [u_f_downs]
theorem aD_X (w : WX) (fa : TF) : a_f_downs (mkX w fa) = a_f_downs w := by dsimp only [mkX, a_f_downs]
theorem aD_D (w : WX) (l : List Int32) : a_f_downs (u_f_downs w l) = l := by dsimp only [a_f_downs, u_f_downs]
theorem R_downs (h : R w m) {l : List Int32} (hl : l.length = 6) {fa : TF} (hp : fa.2.2.2.2.2.2.2.length = 4) : R (mkX (u_f_downs w l) fa) m := by
  refine R_falX ?_ hp
  obtain ⟨h1, h2, h3, h4, h5, h6, h7, ⟨c1, c2⟩, h9⟩ := h
  exact ⟨h1, h2, h3, h4, h5, h6, h7, ⟨hl, c2⟩, h9⟩
theorem X_fill (hs : RS w.2.1 w.2.2.1 w.2.2.2.1 f) {c : Nat} (hc : c < 6) : ∀ (d i n : Nat) (l : List Int32) (fa : TF), i + d = Nn (f 2) → d + 8 ≤ n → l.length = 6 → fa.2.2.2.2.2.2.2.length = 4 → (∀ j, j < i → l.getD j 0 = dnS f c (Nn (f 1)) j) → ∃ l' fa', l'.length = 6 ∧ fa'.2.2.2.2.2.2.2.length = 4 ∧ (∀ j, j < Nn (f 2) → l'.getD j 0 = dnS f c (Nn (f 1)) j) ∧ Gf_fillDowns_0 n 0 (nI c) (nI i) (mkX (u_f_downs w l) fa) = some (mkX (u_f_downs w l') fa') := by
  have h6 := hs.c2.2.1
  have e2 : a_s1things_count w = nI (Nn (f 2)) := (hs.k (k := 2) (by omega)).trans hs.c2.2.2
  have e2X : ∀ l fa, a_s1things_count (mkX (u_f_downs w l) fa) = nI (Nn (f 2)) := fun l fa => e2
  have l1 : (a_s1things_kinds w).length = 6 := LSe_kinds hs.1
  intro d
  induction d with
  | zero =>
    intro i n l fa hi hn hl hp hj
    obtain ⟨n, rfl⟩ : ∃ k, n = k + 1 := ⟨n - 1, by omega⟩
    rw [Gf_fillDowns_0, e2X, if_pos (nI_le (by omega) (by omega))]
    exact ⟨l, fa, hl, hp, fun j h => hj j (by omega), rfl⟩
  | succ d ih =>
    intro i n l fa hi hn hl hp hj
    obtain ⟨n, rfl⟩ : ∃ k, n = k + 1 := ⟨n - 1, by omega⟩
    have t1 : (a_s1things_kinds w).getD i 0 = f (67 + i) := (hs.th (i := i) (by omega)).1
    have kX : ∀ l fa, ai_ix (a_s1things_kinds (mkX (u_f_downs w l) fa)) (nI i) = some (f (67 + i)) := fun l fa => by rw [← t1]; exact ix_e (l := a_s1things_kinds w) i rfl (by omega) (by omega)
    rw [Gf_fillDowns_0, e2X, if_neg (nI_ge (by omega) (by omega)), aD_X, aD_D, up_e (l := l) (i := nI i) (-1) i rfl (by omega) (by omega), bd_some, kX, bd_some, nI_1, uD_X, uD_D]
    by_cases k5 : f (67 + i) = 5
    · rw [if_pos k5, X_goN (W := u_f_downs w (l.set i (-1))) (f := f) hs (by omega) (by omega) hc 0 hp, bd_some, aD_X, aD_D, tT_dn, up_e (l := l.set i (-1)) (i := nI i) _ i rfl (by rw [List.length_set]; omega) (by omega), bd_some, uD_X, uD_D]
      refine ih (i + 1) n _ _ (by omega) (by omega) (by rw [List.length_set, List.length_set]; exact hl) (tT_len _ _ _ _ _ _) (fun j h => ?_)
      rw [gD_set _ _ _ _ (by rw [List.length_set]; omega), gD_set _ _ _ _ (by omega)]
      by_cases ji : j = i
      · subst ji
        rw [if_pos rfl]
        unfold dnS
        rw [if_pos k5]
      · rw [if_neg ji, if_neg ji]
        exact hj j (by omega)
    · rw [if_neg k5]
      refine ih (i + 1) n _ _ (by omega) (by omega) (by rw [List.length_set]; exact hl) hp (fun j h => ?_)
      rw [gD_set _ _ _ _ (by omega)]
      by_cases ji : j = i
      · subst ji
        rw [if_pos rfl]
        unfold dnS
        rw [if_neg k5]
      · rw [if_neg ji]
        exact hj j (by omega)
theorem X_caught (hs : RS w.2.1 w.2.2.1 w.2.2.2.1 f) {c H lo hi : Nat} (hl : (a_f_downs w).length = 6) (hd : ∀ j, j < Nn (f 2) → (a_f_downs w).getD j 0 = dnS f c H j) : ∀ (d i n : Nat) (a : Int32), i + d = Nn (f 2) → d < n → Gf_caught_0 n 0 (nI lo) (nI hi) a (nI i) w = some (cg (inN f c H lo hi) d i a, w) := by
  have h6 := hs.c2.2.1
  have e2 : a_s1things_count w = nI (Nn (f 2)) := (hs.k (k := 2) (by omega)).trans hs.c2.2.2
  intro d
  induction d with
  | zero =>
    intro i n a hi hn
    obtain ⟨n, rfl⟩ : ∃ k, n = k + 1 := ⟨n - 1, by omega⟩
    rw [Gf_caught_0, e2, if_pos (nI_le (by omega) (by omega))]
    rfl
  | succ d ih =>
    intro i n a hi' hn
    obtain ⟨n, rfl⟩ : ∃ k, n = k + 1 := ⟨n - 1, by omega⟩
    rw [Gf_caught_0, e2, if_neg (nI_ge (by omega) (by omega)), ix_e (l := a_f_downs w) (i := nI i) i rfl (by omega) (by omega), hd i (by omega), bd_some, Ff_within_eq, bd_some, nI_1, cg]
    simp only [ifz]
    have go := fun a => ih (i + 1) n a (by omega) (by omega)
    by_cases k : nI lo ≤ dnS f c H i ∧ dnS f c H i ≤ nI hi
    · rw [if_pos k, if_pos (show inN f c H lo hi i = true by unfold inN; rw [decide_eq_true_iff]; exact k)]
      exact go _
    · rw [if_neg k, if_neg (show ¬ inN f c H lo hi i = true by unfold inN; rw [decide_eq_true_iff]; exact k)]
      exact go _
theorem M_flag0 (hs : RS w.2.1 w.2.2.1 w.2.2.2.1 f) (c mk q cnt fi y lo hi x : Int32) {n : Nat} {m : WM} (h : R w m) (hf : sl (a_m_w m) 0 = f) : Gm_nets_89 (n + 1) 2 c mk q cnt fi y lo hi 0 x m = Gm_nets_89 n 1 c mk q cnt fi (y + 1) 0 0 0 0 m := by
  have e2 : ai_ix (a_m_w m) 2 = some (f 2) := by rw [m_ix0 h.w (x := 2) 2 rfl (by omega), hf]
  rw [Gm_nets_89, e2, bd_some]
  simp only [if_pos, Int32.add_zero]
  by_cases k : f 2 ≤ x
  · rw [if_pos k]
  · rw [if_neg k]
theorem M_flag (hs : RS w.2.1 w.2.2.1 w.2.2.2.1 f) {c lo hi : Nat} (hc : c < 6) (mk q cnt fi y : Int32) : ∀ (d i n : Nat) (m : WM), R w m → sl (a_m_w m) 0 = f → i + d = Nn (f 2) → d + 10 ≤ n → ∃ n' m', n - d - 2 ≤ n' ∧ R w m' ∧ sl (a_m_w m') 0 = f ∧ Gm_nets_89 n 2 (nI c) mk q cnt fi y (nI lo) (nI hi) 1 (nI i) m = (if nok f c (Nn (f 1)) lo hi mk d i = true then Gm_nets_89 n' 1 (nI c) mk q (cnt + 1) (if cnt = 0 then 100 * nI lo + nI hi else fi) (y + 1) 0 0 0 0 m' else Gm_nets_89 n' 1 (nI c) mk q cnt fi (y + 1) 0 0 0 0 m') := by
  have h6 := hs.c2.2.1
  have q1 := hs.c1.2.2
  have q2 := hs.c1.2.1
  obtain ⟨H, hH⟩ : ∃ H, Nn (f 1) = H := ⟨_, rfl⟩
  rw [hH] at q1 q2 ⊢
  intro d
  induction d with
  | zero =>
    intro i n m h hf hi' hn
    obtain ⟨n, rfl⟩ : ∃ k, n = k + 1 := ⟨n - 1, by omega⟩
    have e2 : ai_ix (a_m_w m) 2 = some (nI (Nn (f 2))) := by rw [m_ix0 h.w (x := 2) 2 rfl (by omega), hf, ← hs.c2.2.2]
    refine ⟨n, m, by omega, h, hf, ?_⟩
    rw [Gm_nets_89, e2, bd_some, if_pos (nI_le (by omega) (by omega)), if_neg (show ¬ (1 : Int32) = 0 by decide), if_pos (show nok f c H lo hi mk 0 i = true from rfl), if_neg (show ¬ (1 : Int32) = 0 by decide), if_neg (show ¬ (1 : Int32) = 0 by decide)]
    by_cases z : cnt = 0
    · rw [if_pos z, if_pos z]
    · rw [if_neg z, if_neg z]
  | succ d ih =>
    intro i n m h hf hi' hn
    obtain ⟨n, rfl⟩ : ∃ k, n = k + 1 := ⟨n - 1, by omega⟩
    have e2 : ai_ix (a_m_w m) 2 = some (nI (Nn (f 2))) := by rw [m_ix0 h.w (x := 2) 2 rfl (by omega), hf, ← hs.c2.2.2]
    have k1 : ai_ix (a_m_w m) (67 + nI i) = some (f (67 + i)) := by rw [m_ix0 h.w (x := 67 + nI i) (67 + i) (by rw [show (67 : Int32) = nI 67 from rfl, nI_add]) (by omega), hf]
    rw [Gm_nets_89, e2, bd_some, if_neg (nI_ge (by omega) (by omega)), if_neg (show ¬ (1 : Int32) = 0 by decide), k1, bd_some, nI_1, nok]
    by_cases k5 : f (67 + i) = 5
    · have hsk := h.sk
      rw [hf] at hsk
      rw [if_pos k5, if_pos k5, M_lay h.w hf (by omega), bd_some, q1, M_goT h.w hf (by omega) hc (by omega) hsk, bd_some, mT_dn, Fm_in_eq _ (nI lo) (nI hi) rfl rfl, bd_some, Fm_has_eq, bd_some]
      have hR : R w (mT m f i c H (f (85 + i)) 0) := by unfold mT; exact R_falM h _ _ _ _ _ _ _ _ _ _ _
      have hf' : sl (a_m_w (mT m f i c H (f (85 + i)) 0)) 0 = f := by rw [mT_w]; exact hf
      by_cases e : (if nI lo ≤ (fT f i c H (f (85 + i)) 0).2.1 ∧ (fT f i c H (f (85 + i)) 0).2.1 ≤ nI hi then (1 : Int32) else 0) = (if C_bit mk (nI i) then 1 else 0)
      · rw [if_pos e, if_pos e]
        obtain ⟨n', m', a1, a2, a3, a4⟩ := ih (i + 1) n _ hR hf' (by omega) (by omega)
        exact ⟨n', m', by omega, a2, a3, a4⟩
      · rw [if_neg e, if_neg e]
        simp only [if_neg Bool.false_ne_true]
        obtain ⟨n, rfl⟩ : ∃ k, n = k + 1 := ⟨n - 1, by omega⟩
        rw [M_flag0 hs (nI c) mk q cnt fi y (nI lo) (nI hi) _ hR hf']
        exact ⟨n, _, by omega, hR, hf', rfl⟩
    · rw [if_neg k5, if_neg k5]
      obtain ⟨n', m', a1, a2, a3, a4⟩ := ih (i + 1) n m h hf (by omega) (by omega)
      exact ⟨n', m', by omega, a2, a3, a4⟩
theorem y_div {lo hi : Nat} (h1 : lo < 62) (h2 : hi < 61) : nI (61 * lo + hi) / 61 = nI lo ∧ nI (61 * lo + hi) - nI (61 * lo + hi) / 61 * 61 = nI hi := by
  have a := pk_div (a := 61 * lo + hi) (d := 61) (by omega) (by decide) (by decide)
  have b := pk_rem (a := 61 * lo + hi) (d := 61) (by omega) (by decide) (by decide)
  have e1 : (61 * lo + hi) / 61 = lo := by omega
  have e2 : (61 * lo + hi) % 61 = hi := by omega
  rw [e1] at a
  rw [e2] at b
  exact ⟨a, b⟩
theorem M_skip (hs : RS w.2.1 w.2.2.1 w.2.2.2.1 f) {m : WM} (h : R w m) (hf : sl (a_m_w m) 0 = f) (c mk q cnt fi : Int32) {lo : Nat} (hlo : lo < 61) : ∀ (d hi n : Nat), hi + d = lo → 2 * d < n → Gm_nets_89 n 1 c mk q cnt fi (nI (61 * lo + hi)) 0 0 0 0 m = Gm_nets_89 (n - 2 * d) 1 c mk q cnt fi (nI (61 * lo + lo)) 0 0 0 0 m := by
  intro d
  induction d with
  | zero => intro hi n h1 h2; rw [show hi = lo by omega, show n - 2 * 0 = n by omega]
  | succ d ih =>
    intro hi n h1 h2
    obtain ⟨n, rfl⟩ : ∃ k, n = k + 1 + 1 := ⟨n - 2, by omega⟩
    obtain ⟨y1, y2⟩ := y_div (lo := lo) (hi := hi) (by omega) (by omega)
    rw [Gm_nets_89, if_neg (show ¬ (3721 : Int32) ≤ nI (61 * lo + hi) from nI_ge (b := 3721) (by omega) (by decide)), y2, y1, if_pos (nI_lt (by omega) (by omega)), M_flag0 hs c mk q cnt fi _ _ _ _ h hf, nI_1, show 61 * lo + hi + 1 = 61 * lo + (hi + 1) by omega, ih (hi + 1) n (by omega) (by omega), show n + 1 + 1 - 2 * (d + 1) = n - 2 * d by omega]
theorem nets_in (hs : RS w.2.1 w.2.2.1 w.2.2.2.1 f) {c lo K q : Nat} (md : Int32) (hc : c < 6) (hlo : lo < 61) (hq : q < 2 ^ Nn (f 2)) (hF : fiB f (nI q) (Nn (f 2)) 0 = true) (hl : (a_f_downs w).length = 6) (hd : ∀ j, j < Nn (f 2) → (a_f_downs w).getD j 0 = dnS f c (Nn (f 1)) j) (cont : ∀ (n n2 : Nat) (z cnt fi : Int32) (m : WM), K ≤ n → K ≤ n2 → R w m → sl (a_m_w m) 0 = f → tIn (61 * (lo + 1)) cnt fi → ∃ r m', Gf_nets_0 n 0 (nI c) (nI q) md cnt fi (nI (lo + 1)) z w = some (r, w) ∧ Gm_nets_89 n2 1 (nI c) (nI q) md cnt fi (nI (61 * (lo + 1))) 0 0 0 0 m = some (r, m') ∧ R w m') : ∀ (d hi n n2 : Nat) (cnt fi : Int32) (m : WM), hi + d = 61 → lo ≤ hi → K + 20 * d + 20 ≤ n → K + 20 * d + 20 ≤ n2 → R w m → sl (a_m_w m) 0 = f → tIn (61 * lo + hi) cnt fi → ∃ r m', Gf_nets_0 n 1 (nI c) (nI q) md cnt fi (nI lo) (nI hi) w = some (r, w) ∧ Gm_nets_89 n2 1 (nI c) (nI q) md cnt fi (nI (61 * lo + hi)) 0 0 0 0 m = some (r, m') ∧ R w m' := by
  have h6 := hs.c2.2.1
  intro d
  induction d with
  | zero =>
    intro hi n n2 cnt fi m h1 h2 hn hn2 hR hf ht
    obtain ⟨n, rfl⟩ : ∃ k, n = k + 1 := ⟨n - 1, by omega⟩
    have : hi = 61 := by omega
    subst this
    rw [Gf_nets_0, if_pos (show (60 : Int32) < nI 61 by decide), nI_1, show 61 * lo + 61 = 61 * (lo + 1) by omega]
    exact cont n n2 0 cnt fi m (by omega) (by omega) hR hf (tIn_up ht (by omega))
  | succ d ih =>
    intro hi n n2 cnt fi m h1 h2 hn hn2 hR hf ht
    obtain ⟨n, rfl⟩ : ∃ k, n = k + 1 := ⟨n - 1, by omega⟩
    obtain ⟨n2, rfl⟩ : ∃ k, n2 = k + 1 := ⟨n2 - 1, by omega⟩
    obtain ⟨y1, y2⟩ := y_div (lo := lo) (hi := hi) (by omega) (by omega)
    have hx := X_caught hs (c := c) (H := Nn (f 1)) (lo := lo) (hi := hi) hl hd (Nn (f 2)) 0 n 0 (by omega) (by omega)
    rw [nI_0] at hx
    have hx : Ff_caught_0 n (nI lo) (nI hi) w = some (cg (inN f c (Nn (f 1)) lo hi) (Nn (f 2)) 0 0, w) := hx
    obtain ⟨n3, m3, a1, a2, a3, a4⟩ := M_flag hs (c := c) (lo := lo) (hi := hi) hc (nI q) md cnt fi (nI (61 * lo + hi)) (Nn (f 2)) 0 n2 m hR hf (by omega) (by omega)
    rw [nI_0, nI_1, show 61 * lo + hi + 1 = 61 * lo + (hi + 1) by omega] at a4
    rw [Gf_nets_0, Gm_nets_89, if_neg (show ¬ (60 : Int32) < nI hi from nI_nlt (a := 60) (by omega) (by decide)), if_neg (show ¬ (3721 : Int32) ≤ nI (61 * lo + hi) from nI_ge (b := 3721) (by omega) (by decide)), y2, y1, if_neg (nI_nlt (by omega) (by omega)), hx, bd_some, a4, nI_1]
    have key := cg_nok (f := f) (c := c) (H := Nn (f 1)) (lo := lo) (hi := hi) (T := Nn (f 2)) (q := q) (by omega) h6 hq hF
    by_cases ck : nok f c (Nn (f 1)) lo hi (nI q) (Nn (f 2)) 0 = true
    · rw [if_pos ck, if_pos (key.mpr ck)]
      obtain ⟨k, t1, t2, t3⟩ := ht
      have hcn : cnt + 1 = nI (k + 1) := by rw [t2, nI_1]
      by_cases z : fi = -1
      · have q0 : k = 0 := t3.mpr z
        have c0 : cnt = 0 := by rw [t2, q0, nI_0]
        rw [if_pos z, if_pos c0]
        have ev : 100 * nI lo + nI hi = nI (100 * lo + hi) := by rw [show (100 : Int32) = nI 100 from rfl, pk_mul, nI_add]
        refine ih (hi + 1) n n3 _ _ m3 (by omega) (by omega) (by omega) (by omega) a2 a3 ⟨k + 1, by omega, hcn, ⟨fun e => absurd e (by omega), fun e => ?_⟩⟩
        exfalso
        rw [ev] at e
        exact nI_pos (n := 100 * lo + hi) (by omega) (by rw [e]; decide)
      · have q0 : ¬ k = 0 := fun e => z (t3.mp e)
        have c0 : ¬ cnt = 0 := by rw [t2]; exact nI_ne0 (by omega) (by omega)
        rw [if_neg z, if_neg c0]
        exact ih (hi + 1) n n3 _ _ m3 (by omega) (by omega) (by omega) (by omega) a2 a3 ⟨k + 1, by omega, hcn, ⟨fun e => absurd e (by omega), fun e => absurd e z⟩⟩
    · rw [if_neg ck, if_neg (fun z => ck (key.mp z))]
      exact ih (hi + 1) n n3 cnt fi m3 (by omega) (by omega) (by omega) (by omega) a2 a3 (tIn_up ht (by omega))
theorem nets_out (hs : RS w.2.1 w.2.2.1 w.2.2.2.1 f) {c q : Nat} (md : Int32) (hc : c < 6) (hq : q < 2 ^ Nn (f 2)) (hF : fiB f (nI q) (Nn (f 2)) 0 = true) (hl : (a_f_downs w).length = 6) (hd : ∀ j, j < Nn (f 2) → (a_f_downs w).getD j 0 = dnS f c (Nn (f 1)) j) : ∀ (d lo n n2 : Nat) (z cnt fi : Int32) (m : WM), lo + d = 61 → 1500 * d + 20 ≤ n → 1500 * d + 20 ≤ n2 → R w m → sl (a_m_w m) 0 = f → tIn (61 * lo) cnt fi → ∃ r m', Gf_nets_0 n 0 (nI c) (nI q) md cnt fi (nI lo) z w = some (r, w) ∧ Gm_nets_89 n2 1 (nI c) (nI q) md cnt fi (nI (61 * lo)) 0 0 0 0 m = some (r, m') ∧ R w m' := by
  intro d
  induction d with
  | zero =>
    intro lo n n2 z cnt fi m h1 hn hn2 hR hf ht
    obtain ⟨n, rfl⟩ : ∃ k, n = k + 1 := ⟨n - 1, by omega⟩
    obtain ⟨n2, rfl⟩ : ∃ k, n2 = k + 1 := ⟨n2 - 1, by omega⟩
    have : lo = 61 := by omega
    subst this
    rw [Gf_nets_0, Gm_nets_89, if_pos (show (60 : Int32) < nI 61 by decide), if_pos (show (3721 : Int32) ≤ nI (61 * 61) by decide)]
    by_cases k : md = 0
    · rw [if_pos k, if_pos k]
      exact ⟨_, _, rfl, rfl, hR⟩
    · rw [if_neg k, if_neg k]
      exact ⟨_, _, rfl, rfl, hR⟩
  | succ d ih =>
    intro lo n n2 z cnt fi m h1 hn hn2 hR hf ht
    obtain ⟨n, rfl⟩ : ∃ k, n = k + 1 := ⟨n - 1, by omega⟩
    have sk := M_skip hs hR hf (nI c) (nI q) md cnt fi (lo := lo) (by omega) lo 0 n2 (by omega) (by omega)
    rw [Nat.add_zero] at sk
    rw [Gf_nets_0, if_neg (show ¬ (60 : Int32) < nI lo from nI_nlt (a := 60) (by omega) (by decide)), sk]
    exact nets_in hs (K := 1500 * d + 20) md hc (by omega) hq hF hl hd (fun n n2 z cnt fi m g1 g2 g3 g4 g5 => ih (lo + 1) n n2 z cnt fi m (by omega) g1 g2 g3 g4 g5) (61 - lo) lo n (n2 - 2 * lo) cnt fi m (by omega) (by omega) (by omega) (by omega) hR hf (tIn_up ht (by omega))
theorem C_nets (h : R w m) (a b d : Int32) : Ok (fun n => Ff_nets_0 n a b d w) (fun n => Fm_nets_89 n a b d m) := Ok.of 100000 fun n hn => by
  obtain ⟨w2, m2, e1, e2, hR⟩ := R_badAs h (-10)
  obtain ⟨f, hf⟩ : ∃ f, sl (a_m_w m) 0 = f := ⟨_, rfl⟩
  have hs := h.s
  rw [hf] at hs
  have h6 := hs.c2.2.1
  have h7 := hs.c0.2.1
  have f0 : a_s1_cells w = f 0 := hs.k (k := 0) (by omega)
  have f2 : a_s1things_count w = nI (Nn (f 2)) := (hs.k (k := 2) (by omega)).trans hs.c2.2.2
  have g2 : ai_ix (a_m_w m) 2 = some (nI (Nn (f 2))) := by rw [m_ix0 h.w (x := 2) 2 rfl (by omega), hf, ← hs.c2.2.2]
  obtain ⟨p1, p2, p3⟩ := pw2_dec ⟨Nn (f 2), by omega⟩
  have p1 : (1 : Int32) <<< (nI (Nn (f 2)) &&& 31) - 1 = nI (2 ^ Nn (f 2) - 1) := p1
  have p2 : 2 ^ Nn (f 2) ≤ 64 := p2
  have p3 : 1 ≤ 2 ^ Nn (f 2) := p3
  generalize hP : 2 ^ Nn (f 2) = P at p1 p2 p3
  simp only [Ff_nets_0, Fm_nets_89, Ff_areFish_0, hasCell_1, M_isCell h.w, hf, Ff_within_eq, g2, f2, p1, bd_some, Fm_in_eq b (lo := 0) 0 (nI (P - 1)) rfl rfl, Fm_in_eq d (lo := 0) (hi := 1) 0 1 rfl rfl, ifz, e1, e2, f0]
  by_cases c1 : C_cell (f 0) a
  · simp only [if_pos c1]
    by_cases c2 : 0 ≤ b ∧ b ≤ nI (P - 1)
    · simp only [if_pos c2]
      obtain ⟨q, hq, rfl⟩ := in0 (P - 1) (nI_toInt (by omega)) c2
      obtain ⟨c, hc, rfl⟩ := cell_N hs.c0 (by decide) c1
      have hx := X_fish (W := w) hs (nI q) (Nn (f 2)) 0 n (by omega) (by omega)
      have hm := M_fish h.w hf hs.c2 (nI c) (nI q) d (Nn (f 2)) 0 n (by omega) (by omega)
      rw [nI_0] at hx hm
      rw [hx, hm]
      simp only [bd_some, ifz, e1, e2]
      by_cases c4 : fiB f (nI q) (Nn (f 2)) 0 = true
      · simp only [if_pos c4]
        by_cases c3 : 0 ≤ d ∧ d ≤ 1
        · simp only [if_pos c3]
          obtain ⟨l, fa, k1, k2, k3, k4⟩ := X_fill hs (c := c) (by omega) (Nn (f 2)) 0 n (a_f_downs w) w.2.2.2.2.2.2.2.2.2.2.2.2.2.2.1 (by omega) (by omega) h.2.2.2.2.2.2.2.1.1 h.pt (fun j hj => absurd hj (by omega))
          rw [nI_0] at k4
          have k4 : Ff_fillDowns_0 n (nI c) w = some (mkX (u_f_downs w l) fa) := k4
          rw [k4, bd_some]
          have hR' := R_downs h k1 k2
          obtain ⟨r, m', q1, q2, q3⟩ := nets_out (w := mkX (u_f_downs w l) fa) (f := f) (c := c) (q := q) hs d (by omega) (by rw [hP]; omega) c4 (by rw [aD_X, aD_D]; exact k1) (by rw [aD_X, aD_D]; exact k3) 61 0 n (n - Nn (f 2) - 1) 0 0 (-1) m (by omega) (by omega) (by omega) hR' hf ⟨0, by omega, by rw [nI_0], ⟨fun _ => rfl, fun _ => rfl⟩⟩
          rw [nI_0] at q1 q2
          exact ⟨r, _, m', q1, q2, q3⟩
        · simp only [if_neg c3]; exact ⟨_, _, _, rfl, rfl, hR⟩
      · simp only [if_neg c4]
        by_cases c3 : 0 ≤ d ∧ d ≤ 1
        · simp only [if_pos c3]; exact ⟨_, _, _, rfl, rfl, hR⟩
        · simp only [if_neg c3]; exact ⟨_, _, _, rfl, rfl, hR⟩
    · simp only [if_neg c2, if_pos, bd_some, e1]
      exact ⟨_, _, _, rfl, rfl, hR⟩
  · simp only [if_neg c1]; exact ⟨_, _, _, rfl, rfl, hR⟩
end C56
