/-! nets: how deep they come, what a net catches, all nets -/
def dnS (f : Nat → Int32) (c H i : Nat) : Int32 := if f (67 + i) = 5 then (fT f i c H (f (85 + i)) 0).2.1 else -1
def inN (f : Nat → Int32) (c H lo hi i : Nat) : Bool := decide (nI lo ≤ dnS f c H i ∧ dnS f c H i ≤ nI hi)
def cg (P : Nat → Bool) : Nat → Nat → Int32 → Int32
  | 0, _, a => a
  | d + 1, i, a => if P i = true then cg P d (i + 1) (a ||| (1 <<< (nI i &&& 31))) else cg P d (i + 1) a
theorem cg_congr {P Q : Nat → Bool} : ∀ (d i : Nat) (a : Int32), (∀ j, i ≤ j → j < i + d → P j = Q j) → cg P d i a = cg Q d i a := by
  intro d
  induction d with
  | zero => intro i a h; rfl
  | succ d ih =>
    intro i a h
    have e := h i (by omega) (by omega)
    have t : ∀ a, cg P d (i + 1) a = cg Q d (i + 1) a := fun a => ih (i + 1) a (fun j h1 h2 => h j (by omega) (by omega))
    rw [cg, cg, e, t, t]
def six (b0 b1 b2 b3 b4 b5 : Bool) : Nat → Bool
  | 0 => b0 | 1 => b1 | 2 => b2 | 3 => b3 | 4 => b4 | 5 => b5 | _ => false
theorem six_e (P : Nat → Bool) : ∀ j, j < 6 → P j = six (P 0) (P 1) (P 2) (P 3) (P 4) (P 5) j
  | 0, _ => rfl | 1, _ => rfl | 2, _ => rfl | 3, _ => rfl | 4, _ => rfl | 5, _ => rfl
  | n + 6, h => absurd h (by omega)
theorem cg_dec : ∀ (b0 b1 b2 b3 b4 b5 : Bool) (T : Fin 7) (j : Fin 6), j.val < T.val → (C_bit (cg (six b0 b1 b2 b3 b4 b5) T.val 0 0) (nI j.val) ↔ six b0 b1 b2 b3 b4 b5 j.val = true) := by decide +kernel
theorem cg_dec2 : ∀ (T : Fin 7) (q : Fin 64), q.val < 2 ^ T.val → cg (fun i => decide (C_bit (nI q.val) (nI i))) T.val 0 0 = nI q.val := by decide +kernel
theorem pw2_dec : ∀ c : Fin 7, (1 : Int32) <<< (nI c.val &&& 31) - 1 = nI (2 ^ c.val - 1) ∧ 2 ^ c.val ≤ 64 ∧ 1 ≤ 2 ^ c.val := by decide +kernel
theorem cg_iff (P : Nat → Bool) {T q : Nat} (hT : T ≤ 6) (hq : q < 2 ^ T) : cg P T 0 0 = nI q ↔ ∀ j, j < T → (P j = true ↔ C_bit (nI q) (nI j)) := by
  have hq6 : q < 64 := Nat.lt_of_lt_of_le hq (pw2_dec ⟨T, by omega⟩).2.1
  have e : cg P T 0 0 = cg (six (P 0) (P 1) (P 2) (P 3) (P 4) (P 5)) T 0 0 := cg_congr T 0 0 (fun j _ h => six_e P j (by omega))
  constructor
  · intro h j hj
    have d := cg_dec (P 0) (P 1) (P 2) (P 3) (P 4) (P 5) ⟨T, by omega⟩ ⟨j, by omega⟩ hj
    have d : C_bit (cg (six (P 0) (P 1) (P 2) (P 3) (P 4) (P 5)) T 0 0) (nI j) ↔ six (P 0) (P 1) (P 2) (P 3) (P 4) (P 5) j = true := d
    rw [← e, ← six_e P j (by omega), h] at d
    exact d.symm
  · intro h
    have d := cg_dec2 ⟨T, by omega⟩ ⟨q, hq6⟩ hq
    have d : cg (fun i => decide (C_bit (nI q) (nI i))) T 0 0 = nI q := d
    rw [← d]
    refine cg_congr T 0 0 (fun j _ hj => Bool.eq_iff_iff.mpr ?_)
    rw [decide_eq_true_iff]
    exact h j (by omega)
def nok (f : Nat → Int32) (c H lo hi : Nat) (mk : Int32) : Nat → Nat → Bool
  | 0, _ => true
  | d + 1, i => if f (67 + i) = 5 then (if (if nI lo ≤ (fT f i c H (f (85 + i)) 0).2.1 ∧ (fT f i c H (f (85 + i)) 0).2.1 ≤ nI hi then (1 : Int32) else 0) = (if C_bit mk (nI i) then 1 else 0) then nok f c H lo hi mk d (i + 1) else false) else nok f c H lo hi mk d (i + 1)
theorem one_eq (p q : Prop) [Decidable p] [Decidable q] : ((if p then (1 : Int32) else 0) = (if q then 1 else 0)) ↔ (p ↔ q) := by
  by_cases h1 : p
  · by_cases h2 : q
    · rw [if_pos h1, if_pos h2]; exact ⟨fun _ => ⟨fun _ => h2, fun _ => h1⟩, fun _ => rfl⟩
    · rw [if_pos h1, if_neg h2]; exact ⟨fun z => absurd z (by decide), fun z => absurd (z.mp h1) h2⟩
  · by_cases h2 : q
    · rw [if_neg h1, if_pos h2]; exact ⟨fun z => absurd z (by decide), fun z => absurd (z.mpr h2) h1⟩
    · rw [if_neg h1, if_neg h2]; exact ⟨fun _ => ⟨fun z => absurd z h1, fun z => absurd z h2⟩, fun _ => rfl⟩
theorem inB_fish {f : Nat → Int32} {i : Nat} (k : f (67 + i) = 5) (c H lo hi : Nat) : inN f c H lo hi i = true ↔ nI lo ≤ (fT f i c H (f (85 + i)) 0).2.1 ∧ (fT f i c H (f (85 + i)) 0).2.1 ≤ nI hi := by
  unfold inN dnS
  rw [if_pos k, decide_eq_true_iff]
theorem inB_not {f : Nat → Int32} {i : Nat} (k : ¬ f (67 + i) = 5) (c H hi : Nat) {lo : Nat} (hl : lo < 2 ^ 31) : ¬ inN f c H lo hi i = true := by
  unfold inN dnS
  rw [if_neg k, decide_eq_true_iff]
  intro q
  have a := Int32.le_iff_toInt_le.mp q.1
  rw [nI_toInt hl] at a
  have z : (-1 : Int32).toInt = -1 := rfl
  omega
theorem nok_iff (f : Nat → Int32) (c H lo hi : Nat) (mk : Int32) : ∀ d i, nok f c H lo hi mk d i = true ↔ ∀ j, i ≤ j → j < i + d → f (67 + j) = 5 → (inN f c H lo hi j = true ↔ C_bit mk (nI j)) := by
  intro d
  induction d with
  | zero => intro i; exact ⟨fun _ j h1 h2 => absurd h2 (by omega), fun _ => rfl⟩
  | succ d ih =>
    intro i
    rw [nok]
    by_cases k5 : f (67 + i) = 5
    · rw [if_pos k5]
      by_cases e : (if nI lo ≤ (fT f i c H (f (85 + i)) 0).2.1 ∧ (fT f i c H (f (85 + i)) 0).2.1 ≤ nI hi then (1 : Int32) else 0) = (if C_bit mk (nI i) then 1 else 0)
      · rw [if_pos e, ih (i + 1)]
        have e := (one_eq _ _).mp e
        rw [← inB_fish k5] at e
        constructor
        · intro h j h1 h2 h3
          by_cases ji : j = i
          · rw [ji]; exact e
          · exact h j (by omega) (by omega) h3
        · intro h j h1 h2 h3
          exact h j (by omega) (by omega) h3
      · rw [if_neg e]
        constructor
        · intro h; exact absurd h (by decide)
        · intro h
          exfalso
          have := h i (by omega) (by omega) k5
          rw [inB_fish k5] at this
          exact e ((one_eq _ _).mpr this)
    · rw [if_neg k5, ih (i + 1)]
      constructor
      · intro h j h1 h2 h3
        by_cases ji : j = i
        · rw [ji] at h3; exact absurd h3 k5
        · exact h j (by omega) (by omega) h3
      · intro h j h1 h2 h3
        exact h j (by omega) (by omega) h3
theorem fiB_all (f : Nat → Int32) (mk : Int32) : ∀ d i, fiB f mk d i = true → ∀ j, i ≤ j → j < i + d → C_bit mk (nI j) → f (67 + j) = 5 := by
  intro d
  induction d with
  | zero => intro i _ j h1 h2; exact absurd h2 (by omega)
  | succ d ih =>
    intro i h j h1 h2 hb
    rw [fiB] at h
    by_cases ji : j = i
    · subst ji
      rw [if_pos hb] at h
      by_cases k5 : f (67 + j) = 5
      · exact k5
      · rw [if_neg k5] at h; exact absurd h (by decide)
    · refine ih (i + 1) ?_ j (by omega) (by omega) hb
      by_cases cb : C_bit mk (nI i)
      · rw [if_pos cb] at h
        by_cases k5 : f (67 + i) = 5
        · rw [if_pos k5] at h; exact h
        · rw [if_neg k5] at h; exact absurd h (by decide)
      · rw [if_neg cb] at h; exact h
theorem cg_nok {f : Nat → Int32} {c H lo hi T q : Nat} (hl : lo < 2 ^ 31) (hT : T ≤ 6) (hq : q < 2 ^ T) (hF : fiB f (nI q) T 0 = true) : cg (inN f c H lo hi) T 0 0 = nI q ↔ nok f c H lo hi (nI q) T 0 = true := by
  rw [cg_iff _ hT hq, nok_iff]
  constructor
  · intro h j _ h2 _
    exact h j (by omega)
  · intro h j hj
    by_cases k5 : f (67 + j) = 5
    · exact h j (by omega) (by omega) k5
    · exact ⟨fun z => absurd z (inB_not k5 c H hi hl), fun z => absurd (fiB_all f _ T 0 hF j (by omega) (by omega) z) k5⟩
section C56
variable {w : WX} {m : WM} {f : Nat → Int32}
theorem uD_X (w : WX) (l : List Int32) (fa : TF) : u_f_downs (mkX w fa) l = mkX (u_f_downs w l) fa := by dsimp only [mkX, u_f_downs]
theorem uD_D (w : WX) (l k : List Int32) : u_f_downs (u_f_downs w l) k = u_f_downs w k := by dsimp only [u_f_downs]
theorem aD_X (w : WX) (fa : TF) : a_f_downs (mkX w fa) = a_f_downs w := by dsimp only [mkX, a_f_downs]
theorem aD_D (w : WX) (l : List Int32) : a_f_downs (u_f_downs w l) = l := by dsimp only [a_f_downs, u_f_downs]
theorem R_downs (h : R w m) {l : List Int32} (hl : l.length = 6) {fa : TF} (hp : fa.2.2.2.2.2.2.2.length = 4) : R (mkX (u_f_downs w l) fa) m := by
  refine R_falX ?_ hp
  obtain ⟨h1, h2, h3, h4, h5, h6, h7, ⟨c1, c2⟩, h9⟩ := h
  exact ⟨h1, h2, h3, h4, h5, h6, h7, ⟨hl, c2⟩, h9⟩
theorem X_fill (hs : RS w.2.1 w.2.2.1 w.2.2.2.1 f) {c : Nat} (hc : c < 6) : ∀ (d i n : Nat) (l : List Int32) (fa : TF), i + d = Nn (f 2) → d + 8 ≤ n → l.length = 6 → fa.2.2.2.2.2.2.2.length = 4 → (∀ j, j < i → l.getD j 0 = dnS f c (Nn (f 1)) j) → ∃ l' fa', l'.length = 6 ∧ fa'.2.2.2.2.2.2.2.length = 4 ∧ (∀ j, j < Nn (f 2) → l'.getD j 0 = dnS f c (Nn (f 1)) j) ∧ Gf_fillDowns_0 n 0 (nI c) (nI i) (mkX (u_f_downs w l) fa) = some (mkX (u_f_downs w l') fa') := by
  have h6 := hs.c2.2.1
  have e2 : a_s1things_count w = nI (Nn (f 2)) := (hs.k (k := 2) (by omega)).trans hs.c2.2.2
  have e2X : ∀ l fa, a_s1things_count (mkX (u_f_downs w l) fa) = nI (Nn (f 2)) := fun l fa => e2
  have l1 : (a_s1things_kinds w).length = 6 := LSe_kinds hs.1
  intro d
  induction d with
  | zero =>
    intro i n l fa hi hn hl hp hj
    obtain ⟨n, rfl⟩ : ∃ k, n = k + 1 := ⟨n - 1, by omega⟩
    rw [Gf_fillDowns_0, e2X, if_pos (nI_le (by omega) (by omega))]
    exact ⟨l, fa, hl, hp, fun j h => hj j (by omega), rfl⟩
  | succ d ih =>
    intro i n l fa hi hn hl hp hj
    obtain ⟨n, rfl⟩ : ∃ k, n = k + 1 := ⟨n - 1, by omega⟩
    have t1 : (a_s1things_kinds w).getD i 0 = f (67 + i) := (hs.th (i := i) (by omega)).1
    have kX : ∀ l fa, ai_ix (a_s1things_kinds (mkX (u_f_downs w l) fa)) (nI i) = some (f (67 + i)) := fun l fa => by rw [← t1]; exact ix_e (l := a_s1things_kinds w) i rfl (by omega) (by omega)
    rw [Gf_fillDowns_0, e2X, if_neg (nI_ge (by omega) (by omega)), aD_X, aD_D, up_e (l := l) (i := nI i) (-1) i rfl (by omega) (by omega), bd_some, kX, bd_some, nI_1, uD_X, uD_D]
    by_cases k5 : f (67 + i) = 5
    · rw [if_pos k5, X_goN (W := u_f_downs w (l.set i (-1))) (f := f) hs (by omega) (by omega) hc 0 hp, bd_some, aD_X, aD_D, tT_dn, up_e (l := l.set i (-1)) (i := nI i) _ i rfl (by rw [List.length_set]; omega) (by omega), bd_some, uD_X, uD_D]
      refine ih (i + 1) n _ _ (by omega) (by omega) (by rw [List.length_set, List.length_set]; exact hl) (tT_len _ _ _ _ _ _) (fun j h => ?_)
      rw [gD_set _ _ _ _ (by rw [List.length_set]; omega), gD_set _ _ _ _ (by omega)]
      by_cases ji : j = i
      · subst ji
        rw [if_pos rfl]
        unfold dnS
        rw [if_pos k5]
      · rw [if_neg ji, if_neg ji]
        exact hj j (by omega)
    · rw [if_neg k5]
      refine ih (i + 1) n _ _ (by omega) (by omega) (by rw [List.length_set]; exact hl) hp (fun j h => ?_)
      rw [gD_set _ _ _ _ (by omega)]
      by_cases ji : j = i
      · subst ji
        rw [if_pos rfl]
        unfold dnS
        rw [if_neg k5]
      · rw [if_neg ji]
        exact hj j (by omega)
theorem X_caught (hs : RS w.2.1 w.2.2.1 w.2.2.2.1 f) {c H lo hi : Nat} (hl : (a_f_downs w).length = 6) (hd : ∀ j, j < Nn (f 2) → (a_f_downs w).getD j 0 = dnS f c H j) : ∀ (d i n : Nat) (a : Int32), i + d = Nn (f 2) → d < n → Gf_caught_0 n 0 (nI lo) (nI hi) a (nI i) w = some (cg (inN f c H lo hi) d i a, w) := by
  have h6 := hs.c2.2.1
  have e2 : a_s1things_count w = nI (Nn (f 2)) := (hs.k (k := 2) (by omega)).trans hs.c2.2.2
  intro d
  induction d with
  | zero =>
    intro i n a hi hn
    obtain ⟨n, rfl⟩ : ∃ k, n = k + 1 := ⟨n - 1, by omega⟩
    rw [Gf_caught_0, e2, if_pos (nI_le (by omega) (by omega))]
    rfl
  | succ d ih =>
    intro i n a hi' hn
    obtain ⟨n, rfl⟩ : ∃ k, n = k + 1 := ⟨n - 1, by omega⟩
    rw [Gf_caught_0, e2, if_neg (nI_ge (by omega) (by omega)), ix_e (l := a_f_downs w) (i := nI i) i rfl (by omega) (by omega), hd i (by omega), bd_some, Ff_within_eq, bd_some, nI_1, cg]
    simp only [ifz]
    have go := fun a => ih (i + 1) n a (by omega) (by omega)
    by_cases k : nI lo ≤ dnS f c H i ∧ dnS f c H i ≤ nI hi
    · rw [if_pos k, if_pos (show inN f c H lo hi i = true by unfold inN; rw [decide_eq_true_iff]; exact k)]
      exact go _
    · rw [if_neg k, if_neg (show ¬ inN f c H lo hi i = true by unfold inN; rw [decide_eq_true_iff]; exact k)]
      exact go _
theorem M_flag0 (hs : RS w.2.1 w.2.2.1 w.2.2.2.1 f) (c mk q cnt fi y lo hi x : Int32) {n : Nat} {m : WM} (h : R w m) (hf : sl (a_m_w m) 0 = f) : Gm_nets_89 (n + 1) 2 c mk q cnt fi y lo hi 0 x m = Gm_nets_89 n 1 c mk q cnt fi (y + 1) 0 0 0 0 m := by
  have e2 : ai_ix (a_m_w m) 2 = some (f 2) := by rw [m_ix0 h.w (x := 2) 2 rfl (by omega), hf]
  rw [Gm_nets_89, e2, bd_some]
  simp only [if_pos, Int32.add_zero]
  by_cases k : f 2 ≤ x
  · rw [if_pos k]
  · rw [if_neg k]
theorem M_flag (hs : RS w.2.1 w.2.2.1 w.2.2.2.1 f) {c lo hi : Nat} (hc : c < 6) (mk q cnt fi y : Int32) : ∀ (d i n : Nat) (m : WM), R w m → sl (a_m_w m) 0 = f → i + d = Nn (f 2) → d + 10 ≤ n → ∃ n' m', n - d - 2 ≤ n' ∧ R w m' ∧ sl (a_m_w m') 0 = f ∧ Gm_nets_89 n 2 (nI c) mk q cnt fi y (nI lo) (nI hi) 1 (nI i) m = (if nok f c (Nn (f 1)) lo hi mk d i = true then Gm_nets_89 n' 1 (nI c) mk q (cnt + 1) (if cnt = 0 then 100 * nI lo + nI hi else fi) (y + 1) 0 0 0 0 m' else Gm_nets_89 n' 1 (nI c) mk q cnt fi (y + 1) 0 0 0 0 m') := by
  have h6 := hs.c2.2.1
  have q1 := hs.c1.2.2
  have q2 := hs.c1.2.1
  obtain ⟨H, hH⟩ : ∃ H, Nn (f 1) = H := ⟨_, rfl⟩
  rw [hH] at q1 q2 ⊢
  intro d
  induction d with
  | zero =>
    intro i n m h hf hi' hn
    obtain ⟨n, rfl⟩ : ∃ k, n = k + 1 := ⟨n - 1, by omega⟩
    have e2 : ai_ix (a_m_w m) 2 = some (nI (Nn (f 2))) := by rw [m_ix0 h.w (x := 2) 2 rfl (by omega), hf, ← hs.c2.2.2]
    refine ⟨n, m, by omega, h, hf, ?_⟩
    rw [Gm_nets_89, e2, bd_some, if_pos (nI_le (by omega) (by omega)), if_neg (show ¬ (1 : Int32) = 0 by decide), if_pos (show nok f c H lo hi mk 0 i = true from rfl), if_neg (show ¬ (1 : Int32) = 0 by decide), if_neg (show ¬ (1 : Int32) = 0 by decide)]
    by_cases z : cnt = 0
    · rw [if_pos z, if_pos z]
    · rw [if_neg z, if_neg z]
  | succ d ih =>
    intro i n m h hf hi' hn
    obtain ⟨n, rfl⟩ : ∃ k, n = k + 1 := ⟨n - 1, by omega⟩
    have e2 : ai_ix (a_m_w m) 2 = some (nI (Nn (f 2))) := by rw [m_ix0 h.w (x := 2) 2 rfl (by omega), hf, ← hs.c2.2.2]
    have k1 : ai_ix (a_m_w m) (67 + nI i) = some (f (67 + i)) := by rw [m_ix0 h.w (x := 67 + nI i) (67 + i) (by rw [show (67 : Int32) = nI 67 from rfl, nI_add]) (by omega), hf]
    rw [Gm_nets_89, e2, bd_some, if_neg (nI_ge (by omega) (by omega)), if_neg (show ¬ (1 : Int32) = 0 by decide), k1, bd_some, nI_1, nok]
    by_cases k5 : f (67 + i) = 5
    · have hsk := h.sk
      rw [hf] at hsk
      rw [if_pos k5, if_pos k5, M_lay h.w hf (by omega), bd_some, q1, M_goT h.w hf (by omega) hc (by omega) hsk, bd_some, mT_dn, Fm_in_eq _ (nI lo) (nI hi) rfl rfl, bd_some, Fm_has_eq, bd_some]
      have hR : R w (mT m f i c H (f (85 + i)) 0) := by unfold mT; exact R_falM h _ _ _ _ _ _ _ _ _ _ _
      have hf' : sl (a_m_w (mT m f i c H (f (85 + i)) 0)) 0 = f := by rw [mT_w]; exact hf
      by_cases e : (if nI lo ≤ (fT f i c H (f (85 + i)) 0).2.1 ∧ (fT f i c H (f (85 + i)) 0).2.1 ≤ nI hi then (1 : Int32) else 0) = (if C_bit mk (nI i) then 1 else 0)
      · rw [if_pos e, if_pos e]
        obtain ⟨n', m', a1, a2, a3, a4⟩ := ih (i + 1) n _ hR hf' (by omega) (by omega)
        exact ⟨n', m', by omega, a2, a3, a4⟩
      · rw [if_neg e, if_neg e]
        simp only [if_neg Bool.false_ne_true]
        obtain ⟨n, rfl⟩ : ∃ k, n = k + 1 := ⟨n - 1, by omega⟩
        rw [M_flag0 hs (nI c) mk q cnt fi y (nI lo) (nI hi) _ hR hf']
        exact ⟨n, _, by omega, hR, hf', rfl⟩
    · rw [if_neg k5, if_neg k5]
      obtain ⟨n', m', a1, a2, a3, a4⟩ := ih (i + 1) n m h hf (by omega) (by omega)
      exact ⟨n', m', by omega, a2, a3, a4⟩
theorem y_div {lo hi : Nat} (h1 : lo < 62) (h2 : hi < 61) : nI (61 * lo + hi) / 61 = nI lo ∧ nI (61 * lo + hi) - nI (61 * lo + hi) / 61 * 61 = nI hi := by
  have a := pk_div (a := 61 * lo + hi) (d := 61) (by omega) (by decide) (by decide)
  have b := pk_rem (a := 61 * lo + hi) (d := 61) (by omega) (by decide) (by decide)
  have e1 : (61 * lo + hi) / 61 = lo := by omega
  have e2 : (61 * lo + hi) % 61 = hi := by omega
  rw [e1] at a
  rw [e2] at b
  exact ⟨a, b⟩
theorem M_skip (hs : RS w.2.1 w.2.2.1 w.2.2.2.1 f) {m : WM} (h : R w m) (hf : sl (a_m_w m) 0 = f) (c mk q cnt fi : Int32) {lo : Nat} (hlo : lo < 61) : ∀ (d hi n : Nat), hi + d = lo → 2 * d < n → Gm_nets_89 n 1 c mk q cnt fi (nI (61 * lo + hi)) 0 0 0 0 m = Gm_nets_89 (n - 2 * d) 1 c mk q cnt fi (nI (61 * lo + lo)) 0 0 0 0 m := by
  intro d
  induction d with
  | zero => intro hi n h1 h2; rw [show hi = lo by omega, show n - 2 * 0 = n by omega]
  | succ d ih =>
    intro hi n h1 h2
    obtain ⟨n, rfl⟩ : ∃ k, n = k + 1 + 1 := ⟨n - 2, by omega⟩
    obtain ⟨y1, y2⟩ := y_div (lo := lo) (hi := hi) (by omega) (by omega)
    rw [Gm_nets_89, if_neg (show ¬ (3721 : Int32) ≤ nI (61 * lo + hi) from nI_ge (b := 3721) (by omega) (by decide)), y2, y1, if_pos (nI_lt (by omega) (by omega)), M_flag0 hs c mk q cnt fi _ _ _ _ h hf, nI_1, show 61 * lo + hi + 1 = 61 * lo + (hi + 1) by omega, ih (hi + 1) n (by omega) (by omega), show n + 1 + 1 - 2 * (d + 1) = n - 2 * d by omega]
theorem nets_in (hs : RS w.2.1 w.2.2.1 w.2.2.2.1 f) {c lo K q : Nat} (md : Int32) (hc : c < 6) (hlo : lo < 61) (hq : q < 2 ^ Nn (f 2)) (hF : fiB f (nI q) (Nn (f 2)) 0 = true) (hl : (a_f_downs w).length = 6) (hd : ∀ j, j < Nn (f 2) → (a_f_downs w).getD j 0 = dnS f c (Nn (f 1)) j) (cont : ∀ (n n2 : Nat) (z cnt fi : Int32) (m : WM), K ≤ n → K ≤ n2 → R w m → sl (a_m_w m) 0 = f → tIn (61 * (lo + 1)) cnt fi → ∃ r m', Gf_nets_0 n 0 (nI c) (nI q) md cnt fi (nI (lo + 1)) z w = some (r, w) ∧ Gm_nets_89 n2 1 (nI c) (nI q) md cnt fi (nI (61 * (lo + 1))) 0 0 0 0 m = some (r, m') ∧ R w m') : ∀ (d hi n n2 : Nat) (cnt fi : Int32) (m : WM), hi + d = 61 → lo ≤ hi → K + 20 * d + 20 ≤ n → K + 20 * d + 20 ≤ n2 → R w m → sl (a_m_w m) 0 = f → tIn (61 * lo + hi) cnt fi → ∃ r m', Gf_nets_0 n 1 (nI c) (nI q) md cnt fi (nI lo) (nI hi) w = some (r, w) ∧ Gm_nets_89 n2 1 (nI c) (nI q) md cnt fi (nI (61 * lo + hi)) 0 0 0 0 m = some (r, m') ∧ R w m' := by
  have h6 := hs.c2.2.1
  intro d
  induction d with
  | zero =>
    intro hi n n2 cnt fi m h1 h2 hn hn2 hR hf ht
    obtain ⟨n, rfl⟩ : ∃ k, n = k + 1 := ⟨n - 1, by omega⟩
    have : hi = 61 := by omega
    subst this
    rw [Gf_nets_0, if_pos (show (60 : Int32) < nI 61 by decide), nI_1, show 61 * lo + 61 = 61 * (lo + 1) by omega]
    exact cont n n2 0 cnt fi m (by omega) (by omega) hR hf (tIn_up ht (by omega))
  | succ d ih =>
    intro hi n n2 cnt fi m h1 h2 hn hn2 hR hf ht
    obtain ⟨n, rfl⟩ : ∃ k, n = k + 1 := ⟨n - 1, by omega⟩
    obtain ⟨n2, rfl⟩ : ∃ k, n2 = k + 1 := ⟨n2 - 1, by omega⟩
    obtain ⟨y1, y2⟩ := y_div (lo := lo) (hi := hi) (by omega) (by omega)
    have hx := X_caught hs (c := c) (H := Nn (f 1)) (lo := lo) (hi := hi) hl hd (Nn (f 2)) 0 n 0 (by omega) (by omega)
    rw [nI_0] at hx
    have hx : Ff_caught_0 n (nI lo) (nI hi) w = some (cg (inN f c (Nn (f 1)) lo hi) (Nn (f 2)) 0 0, w) := hx
    obtain ⟨n3, m3, a1, a2, a3, a4⟩ := M_flag hs (c := c) (lo := lo) (hi := hi) hc (nI q) md cnt fi (nI (61 * lo + hi)) (Nn (f 2)) 0 n2 m hR hf (by omega) (by omega)
    rw [nI_0, nI_1, show 61 * lo + hi + 1 = 61 * lo + (hi + 1) by omega] at a4
    rw [Gf_nets_0, Gm_nets_89, if_neg (show ¬ (60 : Int32) < nI hi from nI_nlt (a := 60) (by omega) (by decide)), if_neg (show ¬ (3721 : Int32) ≤ nI (61 * lo + hi) from nI_ge (b := 3721) (by omega) (by decide)), y2, y1, if_neg (nI_nlt (by omega) (by omega)), hx, bd_some, a4, nI_1]
    have key := cg_nok (f := f) (c := c) (H := Nn (f 1)) (lo := lo) (hi := hi) (T := Nn (f 2)) (q := q) (by omega) h6 hq hF
    by_cases ck : nok f c (Nn (f 1)) lo hi (nI q) (Nn (f 2)) 0 = true
    · rw [if_pos ck, if_pos (key.mpr ck)]
      obtain ⟨k, t1, t2, t3⟩ := ht
      have hcn : cnt + 1 = nI (k + 1) := by rw [t2, nI_1]
      by_cases z : fi = -1
      · have q0 : k = 0 := t3.mpr z
        have c0 : cnt = 0 := by rw [t2, q0, nI_0]
        rw [if_pos z, if_pos c0]
        have ev : 100 * nI lo + nI hi = nI (100 * lo + hi) := by rw [show (100 : Int32) = nI 100 from rfl, pk_mul, nI_add]
        refine ih (hi + 1) n n3 _ _ m3 (by omega) (by omega) (by omega) (by omega) a2 a3 ⟨k + 1, by omega, hcn, ⟨fun e => absurd e (by omega), fun e => ?_⟩⟩
        exfalso
        rw [ev] at e
        exact nI_pos (n := 100 * lo + hi) (by omega) (by rw [e]; decide)
      · have q0 : ¬ k = 0 := fun e => z (t3.mp e)
        have c0 : ¬ cnt = 0 := by rw [t2]; exact nI_ne0 (by omega) (by omega)
        rw [if_neg z, if_neg c0]
        exact ih (hi + 1) n n3 _ _ m3 (by omega) (by omega) (by omega) (by omega) a2 a3 ⟨k + 1, by omega, hcn, ⟨fun e => absurd e (by omega), fun e => absurd e z⟩⟩
    · rw [if_neg ck, if_neg (fun z => ck (key.mp z))]
      exact ih (hi + 1) n n3 cnt fi m3 (by omega) (by omega) (by omega) (by omega) a2 a3 (tIn_up ht (by omega))
theorem nets_out (hs : RS w.2.1 w.2.2.1 w.2.2.2.1 f) {c q : Nat} (md : Int32) (hc : c < 6) (hq : q < 2 ^ Nn (f 2)) (hF : fiB f (nI q) (Nn (f 2)) 0 = true) (hl : (a_f_downs w).length = 6) (hd : ∀ j, j < Nn (f 2) → (a_f_downs w).getD j 0 = dnS f c (Nn (f 1)) j) : ∀ (d lo n n2 : Nat) (z cnt fi : Int32) (m : WM), lo + d = 61 → 1500 * d + 20 ≤ n → 1500 * d + 20 ≤ n2 → R w m → sl (a_m_w m) 0 = f → tIn (61 * lo) cnt fi → ∃ r m', Gf_nets_0 n 0 (nI c) (nI q) md cnt fi (nI lo) z w = some (r, w) ∧ Gm_nets_89 n2 1 (nI c) (nI q) md cnt fi (nI (61 * lo)) 0 0 0 0 m = some (r, m') ∧ R w m' := by
  intro d
  induction d with
  | zero =>
    intro lo n n2 z cnt fi m h1 hn hn2 hR hf ht
    obtain ⟨n, rfl⟩ : ∃ k, n = k + 1 := ⟨n - 1, by omega⟩
    obtain ⟨n2, rfl⟩ : ∃ k, n2 = k + 1 := ⟨n2 - 1, by omega⟩
    have : lo = 61 := by omega
    subst this
    rw [Gf_nets_0, Gm_nets_89, if_pos (show (60 : Int32) < nI 61 by decide), if_pos (show (3721 : Int32) ≤ nI (61 * 61) by decide)]
    by_cases k : md = 0
    · rw [if_pos k, if_pos k]
      exact ⟨_, _, rfl, rfl, hR⟩
    · rw [if_neg k, if_neg k]
      exact ⟨_, _, rfl, rfl, hR⟩
  | succ d ih =>
    intro lo n n2 z cnt fi m h1 hn hn2 hR hf ht
    obtain ⟨n, rfl⟩ : ∃ k, n = k + 1 := ⟨n - 1, by omega⟩
    have sk := M_skip hs hR hf (nI c) (nI q) md cnt fi (lo := lo) (by omega) lo 0 n2 (by omega) (by omega)
    rw [Nat.add_zero] at sk
    rw [Gf_nets_0, if_neg (show ¬ (60 : Int32) < nI lo from nI_nlt (a := 60) (by omega) (by decide)), sk]
    exact nets_in hs (K := 1500 * d + 20) md hc (by omega) hq hF hl hd (fun n n2 z cnt fi m g1 g2 g3 g4 g5 => ih (lo + 1) n n2 z cnt fi m (by omega) g1 g2 g3 g4 g5) (61 - lo) lo n (n2 - 2 * lo) cnt fi m (by omega) (by omega) (by omega) (by omega) hR hf (tIn_up ht (by omega))
theorem C_nets (h : R w m) (a b d : Int32) : Ok (fun n => Ff_nets_0 n a b d w) (fun n => Fm_nets_89 n a b d m) := Ok.of 100000 fun n hn => by
  obtain ⟨w2, m2, e1, e2, hR⟩ := R_badAs h (-10)
  obtain ⟨f, hf⟩ : ∃ f, sl (a_m_w m) 0 = f := ⟨_, rfl⟩
  have hs := h.s
  rw [hf] at hs
  have h6 := hs.c2.2.1
  have h7 := hs.c0.2.1
  have f0 : a_s1_cells w = f 0 := hs.k (k := 0) (by omega)
  have f2 : a_s1things_count w = nI (Nn (f 2)) := (hs.k (k := 2) (by omega)).trans hs.c2.2.2
  have g2 : ai_ix (a_m_w m) 2 = some (nI (Nn (f 2))) := by rw [m_ix0 h.w (x := 2) 2 rfl (by omega), hf, ← hs.c2.2.2]
  obtain ⟨p1, p2, p3⟩ := pw2_dec ⟨Nn (f 2), by omega⟩
  have p1 : (1 : Int32) <<< (nI (Nn (f 2)) &&& 31) - 1 = nI (2 ^ Nn (f 2) - 1) := p1
  have p2 : 2 ^ Nn (f 2) ≤ 64 := p2
  have p3 : 1 ≤ 2 ^ Nn (f 2) := p3
  generalize hP : 2 ^ Nn (f 2) = P at p1 p2 p3
  simp only [Ff_nets_0, Fm_nets_89, Ff_areFish_0, hasCell_1, M_isCell h.w, hf, Ff_within_eq, g2, f2, p1, bd_some, Fm_in_eq b (lo := 0) 0 (nI (P - 1)) rfl rfl, Fm_in_eq d (lo := 0) (hi := 1) 0 1 rfl rfl, ifz, e1, e2, f0]
  by_cases c1 : C_cell (f 0) a
  · simp only [if_pos c1]
    by_cases c2 : 0 ≤ b ∧ b ≤ nI (P - 1)
    · simp only [if_pos c2]
      obtain ⟨q, hq, rfl⟩ := in0 (P - 1) (nI_toInt (by omega)) c2
      obtain ⟨c, hc, rfl⟩ := cell_N hs.c0 (by decide) c1
      have hx := X_fish (W := w) hs (nI q) (Nn (f 2)) 0 n (by omega) (by omega)
      have hm := M_fish h.w hf hs.c2 (nI c) (nI q) d (Nn (f 2)) 0 n (by omega) (by omega)
      rw [nI_0] at hx hm
      rw [hx, hm]
      simp only [bd_some, ifz, e1, e2]
      by_cases c4 : fiB f (nI q) (Nn (f 2)) 0 = true
      · simp only [if_pos c4]
        by_cases c3 : 0 ≤ d ∧ d ≤ 1
        · simp only [if_pos c3]
          obtain ⟨l, fa, k1, k2, k3, k4⟩ := X_fill hs (c := c) (by omega) (Nn (f 2)) 0 n (a_f_downs w) w.2.2.2.2.2.2.2.2.2.2.2.2.2.2.1 (by omega) (by omega) h.2.2.2.2.2.2.2.1.1 h.pt (fun j hj => absurd hj (by omega))
          rw [nI_0] at k4
          have k4 : Ff_fillDowns_0 n (nI c) w = some (mkX (u_f_downs w l) fa) := k4
          rw [k4, bd_some]
          have hR' := R_downs h k1 k2
          obtain ⟨r, m', q1, q2, q3⟩ := nets_out (w := mkX (u_f_downs w l) fa) (f := f) (c := c) (q := q) hs d (by omega) (by rw [hP]; omega) c4 (by rw [aD_X, aD_D]; exact k1) (by rw [aD_X, aD_D]; exact k3) 61 0 n (n - Nn (f 2) - 1) 0 0 (-1) m (by omega) (by omega) (by omega) hR' hf ⟨0, by omega, by rw [nI_0], ⟨fun _ => rfl, fun _ => rfl⟩⟩
          rw [nI_0] at q1 q2
          exact ⟨r, _, m', q1, q2, q3⟩
        · simp only [if_neg c3]; exact ⟨_, _, _, rfl, rfl, hR⟩
      · simp only [if_neg c4]
        by_cases c3 : 0 ≤ d ∧ d ≤ 1
        · simp only [if_pos c3]; exact ⟨_, _, _, rfl, rfl, hR⟩
        · simp only [if_neg c3]; exact ⟨_, _, _, rfl, rfl, hR⟩
    · simp only [if_neg c2, if_pos, bd_some, e1]
      exact ⟨_, _, _, rfl, rfl, hR⟩
  · simp only [if_neg c1]; exact ⟨_, _, _, rfl, rfl, hR⟩
end C56
/-! storms by odds -/
theorem cmp0 (x y : Int64) : lg_cmp x y = 0 ↔ x = y := by
  constructor
  · intro h
    have a : ¬ x < y := fun z => by have t := (lg_cmp_lt x y).mpr z; rw [h] at t; exact absurd t (by decide)
    have b : ¬ y < x := fun z => by have t := (lg_cmp_gt x y).mpr z; rw [h] at t; exact absurd t (by decide)
    exact Int64.le_antisymm (Int64.not_lt.mp b) (Int64.not_lt.mp a)
  · intro h
    subst h
    have a : ¬ lg_cmp x x < 0 := fun z => absurd ((lg_cmp_lt x x).mp z) Int64.lt_irrefl
    have b : ¬ 0 < lg_cmp x x := fun z => absurd ((lg_cmp_gt x x).mp z) Int64.lt_irrefl
    exact Int32.le_antisymm (Int32.not_lt.mp b) (Int32.not_lt.mp a)
theorem lN_z {a : Nat} (h : a < 2 ^ 63) : lN a = 0 ↔ a = 0 := pk_lEQ (a := a) (b := 0) h (by decide)
theorem cmpN {a : Nat} (h : a < 2 ^ 63) : lg_cmp (lN a) 0 = 0 ↔ a = 0 := by
  rw [cmp0]
  exact lN_z h
theorem gcd_st (x y : Nat) : Nat.gcd x y = Nat.gcd y (x % y) := by rw [Nat.gcd_comm x y, Nat.gcd_rec y x, Nat.gcd_comm]
section C57
variable {w : WX} {m : WM} {f : Nat → Int32}
theorem X_gEnd (S D : Int64) {x i n : Nat} (hx : x < 2 ^ 63) (h0 : 0 < x) (w : WX) : Gf_putFraction_0 (n + 1) 0 (nI i) S D (lN x) (lN 0) w = some (u_f_below (u_f_above w (S / lN x)) (D / lN x)) := by
  have c1 : ¬ lg_cmp (lN x) 0 = 0 := fun z => by have := (cmpN hx).mp z; omega
  have c2 : ¬ lN x = 0 := fun z => by have := (lN_z hx).mp z; omega
  have c3 : lg_cmp (lN 0) 0 = 0 := (cmpN (by decide)).mpr rfl
  rw [Gf_putFraction_0]
  simp only [if_neg c1, if_neg c2, if_pos c3]
  by_cases k : (1000 : Int32) ≤ nI i
  · rw [if_pos k]
  · rw [if_neg k]
theorem X_gStep (S D : Int64) {x y i n : Nat} (hx : x < 2 ^ 63) (hy : y < 2 ^ 63) (h0 : 0 < y) (hi : i < 1000) (w : WX) : Gf_putFraction_0 (n + 1) 0 (nI i) S D (lN x) (lN y) w = Gf_putFraction_0 n 0 (nI (i + 1)) S D (lN y) (lN (x % y)) w := by
  have c1 : ¬ lg_cmp (lN y) 0 = 0 := fun z => by have := (cmpN hy).mp z; omega
  have c2 : ¬ lN y = 0 := fun z => by have := (lN_z hy).mp z; omega
  rw [Gf_putFraction_0, if_neg (show ¬ (1000 : Int32) ≤ nI i from nI_ge (b := 1000) hi (by decide)), if_neg c1, if_neg c2, pk_lRem hx h0 hy, nI_1]
theorem X_gcd (S D : Int64) (w : WX) : ∀ (k x y i n : Nat), x < 2 ^ 63 → y < 2 ^ 63 → y < 2 ^ k → 0 < x ∨ 0 < y → i + 2 * k ≤ 1000 → 2 * k + 2 ≤ n → Gf_putFraction_0 n 0 (nI i) S D (lN x) (lN y) w = some (u_f_below (u_f_above w (S / lN (Nat.gcd x y))) (D / lN (Nat.gcd x y))) := by
  intro k
  induction k with
  | zero =>
    intro x y i n hx hy hk h0 hi hn
    have : y = 0 := by omega
    subst this
    obtain ⟨n, rfl⟩ : ∃ k, n = k + 1 := ⟨n - 1, by omega⟩
    rw [X_gEnd S D hx (by omega), Nat.gcd_zero_right]
  | succ k ih =>
    intro x y i n hx hy hk h0 hi hn
    obtain ⟨n, rfl⟩ : ∃ k, n = k + 1 := ⟨n - 1, by omega⟩
    by_cases y0 : y = 0
    · subst y0
      rw [X_gEnd S D hx (by omega), Nat.gcd_zero_right]
    obtain ⟨n, rfl⟩ : ∃ k, n = k + 1 := ⟨n - 1, by omega⟩
    have r1 : x % y < y := Nat.mod_lt _ (by omega)
    rw [X_gStep S D hx hy (by omega) (by omega), gcd_st x y]
    by_cases r0 : x % y = 0
    · rw [r0, X_gEnd S D hy (by omega), Nat.gcd_zero_right]
    have r2 : y % (x % y) < x % y := Nat.mod_lt _ (by omega)
    have r3 : y % (x % y) ≤ y - x % y := by
      have := Nat.mod_add_div y (x % y)
      have q1 : 1 ≤ y / (x % y) := (Nat.le_div_iff_mul_le (by omega)).mpr (by omega)
      have q2 : x % y * 1 ≤ x % y * (y / (x % y)) := Nat.mul_le_mul_left _ q1
      omega
    have p2 : 2 ^ (k + 1) = 2 * 2 ^ k := by rw [Nat.pow_succ, Nat.mul_comm]
    rw [X_gStep S D hy (by omega) (by omega) (by omega), gcd_st y (x % y)]
    exact ih (x % y) (y % (x % y)) (i + 1 + 1) n (by omega) (by omega) (by omega) (by omega) (by omega) (by omega)
theorem M_gEnd (S D : Int64) {x n : Nat} (hx : x < 2 ^ 63) (h0 : 0 < x) (m : WM) : Gm_tells_89 (n + 1) 0 S D (lN x) (lN 0) m = some (u_m_below (u_m_above m (S / lN x)) (D / lN x)) := by
  have c2 : ¬ lN x = 0 := fun z => by have := (lN_z hx).mp z; omega
  have c3 : lg_cmp (lN 0) 0 = 0 := (cmpN (by decide)).mpr rfl
  rw [Gm_tells_89, if_pos c3, if_neg c2, if_neg c2]
theorem M_gStep (S D : Int64) {x y n : Nat} (hx : x < 2 ^ 63) (hy : y < 2 ^ 63) (h0 : 0 < y) (m : WM) : Gm_tells_89 (n + 1) 0 S D (lN x) (lN y) m = Gm_tells_89 n 0 S D (lN y) (lN (x % y)) m := by
  have c1 : ¬ lg_cmp (lN y) 0 = 0 := fun z => by have := (cmpN hy).mp z; omega
  have c2 : ¬ lN y = 0 := fun z => by have := (lN_z hy).mp z; omega
  rw [Gm_tells_89, if_neg c1, if_neg c2, pk_lRem hx h0 hy]
theorem M_gcd (S D : Int64) (m : WM) : ∀ (k x y n : Nat), x < 2 ^ 63 → y < 2 ^ 63 → y < 2 ^ k → 0 < x ∨ 0 < y → 2 * k + 2 ≤ n → Gm_tells_89 n 0 S D (lN x) (lN y) m = some (u_m_below (u_m_above m (S / lN (Nat.gcd x y))) (D / lN (Nat.gcd x y))) := by
  intro k
  induction k with
  | zero =>
    intro x y n hx hy hk h0 hn
    have : y = 0 := by omega
    subst this
    obtain ⟨n, rfl⟩ : ∃ k, n = k + 1 := ⟨n - 1, by omega⟩
    rw [M_gEnd S D hx (by omega), Nat.gcd_zero_right]
  | succ k ih =>
    intro x y n hx hy hk h0 hn
    obtain ⟨n, rfl⟩ : ∃ k, n = k + 1 := ⟨n - 1, by omega⟩
    by_cases y0 : y = 0
    · subst y0
      rw [M_gEnd S D hx (by omega), Nat.gcd_zero_right]
    obtain ⟨n, rfl⟩ : ∃ k, n = k + 1 := ⟨n - 1, by omega⟩
    have r1 : x % y < y := Nat.mod_lt _ (by omega)
    rw [M_gStep S D hx hy (by omega), gcd_st x y]
    by_cases r0 : x % y = 0
    · rw [r0, M_gEnd S D hy (by omega), Nat.gcd_zero_right]
    have r2 : y % (x % y) < x % y := Nat.mod_lt _ (by omega)
    have r3 : y % (x % y) ≤ y - x % y := by
      have := Nat.mod_add_div y (x % y)
      have q1 : 1 ≤ y / (x % y) := (Nat.le_div_iff_mul_le (by omega)).mpr (by omega)
      have q2 : x % y * 1 ≤ x % y * (y / (x % y)) := Nat.mul_le_mul_left _ q1
      omega
    have p2 : 2 ^ (k + 1) = 2 * 2 ^ k := by rw [Nat.pow_succ, Nat.mul_comm]
    rw [M_gStep S D hy (by omega) (by omega), gcd_st y (x % y)]
    exact ih (x % y) (y % (x % y)) n (by omega) (by omega) (by omega) (by omega) (by omega)
/-- the chance that just these skins are torn -/
def chN (A B : Nat) (k : Int32) : Nat → Nat → Nat → Nat
  | 0, _, a => a
  | d + 1, i, a => if C_bit k (nI i) then chN A B k d (i + 1) (a * (A - B)) else chN A B k d (i + 1) (a * B)
theorem chN_le {A B : Nat} (hB : B ≤ A) (k : Int32) : ∀ d i a, chN A B k d i a ≤ a * A ^ d := by
  intro d
  induction d with
  | zero => intro i a; rw [chN, Nat.pow_zero, Nat.mul_one]; exact Nat.le_refl _
  | succ d ih =>
    intro i a
    rw [chN]
    by_cases c : C_bit k (nI i)
    · rw [if_pos c]
      refine Nat.le_trans (ih (i + 1) _) ?_
      rw [Nat.pow_succ, Nat.mul_comm (A ^ d) A, ← Nat.mul_assoc]
      exact Nat.mul_le_mul_right _ (Nat.mul_le_mul_left _ (Nat.sub_le _ _))
    · rw [if_neg c]
      refine Nat.le_trans (ih (i + 1) _) ?_
      rw [Nat.pow_succ, Nat.mul_comm (A ^ d) A, ← Nat.mul_assoc]
      exact Nat.mul_le_mul_right _ (Nat.mul_le_mul_left _ hB)
theorem X_chance {A B : Nat} (hB : B ≤ A) (k : Int32) : ∀ (d i n a : Nat), i + d = 3 → d < n → Gf_chanceOf n 0 k (nI i) (lN A) (lN B) (lN a) = some (lN (chN A B k d i a)) := by
  intro d
  induction d with
  | zero =>
    intro i n a hi hn
    obtain ⟨n, rfl⟩ : ∃ k, n = k + 1 := ⟨n - 1, by omega⟩
    rw [show i = 3 by omega, Gf_chanceOf, if_pos (show (3 : Int32) ≤ nI 3 by decide)]
    rfl
  | succ d ih =>
    intro i n a hi hn
    obtain ⟨n, rfl⟩ : ∃ k, n = k + 1 := ⟨n - 1, by omega⟩
    rw [Gf_chanceOf, if_neg (show ¬ (3 : Int32) ≤ nI i from nI_ge (b := 3) (by omega) (by decide)), nI_1, lN_sub hB, lN_mul, lN_mul, chN]
    by_cases c : C_bit k (nI i)
    · rw [if_pos c, if_pos c]
      exact ih (i + 1) n _ (by omega) (by omega)
    · rw [if_neg c, if_neg c]
      exact ih (i + 1) n _ (by omega) (by omega)
theorem M_chance {A B : Nat} (hB : B ≤ A) (a1 a2 a3 a4 a5 k : Int32) (S : Int64) (m : WM) : ∀ (d i n a : Nat), i + d = 3 → d < n → Gm_storm_89 n 2 a1 a2 a3 a4 a5 k (nI i) (lN A) (lN B) S (lN a) m = Gm_storm_89 (n - d) 2 a1 a2 a3 a4 a5 k (nI 3) (lN A) (lN B) S (lN (chN A B k d i a)) m := by
  intro d
  induction d with
  | zero =>
    intro i n a hi hn
    rw [show i = 3 by omega, Nat.sub_zero]
    rfl
  | succ d ih =>
    intro i n a hi hn
    obtain ⟨n, rfl⟩ : ∃ k, n = k + 1 := ⟨n - 1, by omega⟩
    rw [Gm_storm_89, if_neg (show ¬ (3 : Int32) ≤ nI i from nI_ge (b := 3) (by omega) (by decide)), Fm_has_eq, bd_some, nI_1, lN_sub hB, lN_mul, lN_mul, chN, show n + 1 - (d + 1) = n - d by omega]
    simp only [ifz]
    by_cases c : C_bit k (nI i)
    · rw [if_pos c, if_pos c]
      exact ih (i + 1) n _ (by omega) (by omega)
    · rw [if_neg c, if_neg c]
      exact ih (i + 1) n _ (by omega) (by omega)
theorem X_odds {o K : Nat} (ho : o ≤ 10) (hK : K ≤ 5) (a1 a2 : Int32) (w : WX) : ∀ (d j n A B : Nat), j + d = K → d < n → Gf_storm_0 n 0 a1 a2 (nI K) (nI o) (nI j) 0 (lN A) (lN B) 0 w = Gf_storm_0 (n - d) 0 a1 a2 (nI K) (nI o) (nI K) 0 (lN (A * 10 ^ d)) (lN (B * (10 - o) ^ d)) 0 w := by
  intro d
  induction d with
  | zero => intro j n A B hj hn; rw [show j = K by omega, Nat.pow_zero, Nat.pow_zero, Nat.mul_one, Nat.mul_one, Nat.sub_zero]
  | succ d ih =>
    intro j n A B hj hn
    obtain ⟨n, rfl⟩ : ∃ k, n = k + 1 := ⟨n - 1, by omega⟩
    rw [Gf_storm_0, if_neg (nI_ge (by omega) (by omega)), nI_1, show (10 : Int32) - nI o = nI (10 - o) from pk_sub (a := 10) (b := o) ho, nI_l (by omega), show (10 : Int64) = lN 10 from rfl, lN_mul, lN_mul, ih (j + 1) n _ _ (by omega) (by omega), show n + 1 - (d + 1) = n - d by omega, Nat.pow_succ, Nat.pow_succ, Nat.mul_assoc, Nat.mul_assoc, Nat.mul_comm 10, Nat.mul_comm (10 - o) ((10 - o) ^ d)]
theorem M_odds {o K : Nat} (ho : o ≤ 10) (hK : K ≤ 5) (a1 a2 : Int32) (m : WM) : ∀ (d j n A B : Nat), j + d = K → d < n → Gm_storm_89 n 0 a1 a2 (nI K) (nI o) (nI j) 0 0 (lN A) (lN B) 0 0 m = Gm_storm_89 (n - d) 0 a1 a2 (nI K) (nI o) (nI K) 0 0 (lN (A * 10 ^ d)) (lN (B * (10 - o) ^ d)) 0 0 m := by
  intro d
  induction d with
  | zero => intro j n A B hj hn; rw [show j = K by omega, Nat.pow_zero, Nat.pow_zero, Nat.mul_one, Nat.mul_one, Nat.sub_zero]
  | succ d ih =>
    intro j n A B hj hn
    obtain ⟨n, rfl⟩ : ∃ k, n = k + 1 := ⟨n - 1, by omega⟩
    rw [Gm_storm_89, if_neg (nI_ge (by omega) (by omega)), nI_1, show (10 : Int32) - nI o = nI (10 - o) from pk_sub (a := 10) (b := o) ho, nI_l (by omega), show (10 : Int64) = lN 10 from rfl, lN_mul, lN_mul, ih (j + 1) n _ _ (by omega) (by omega), show n + 1 - (d + 1) = n - d by omega, Nat.pow_succ, Nat.pow_succ, Nat.mul_assoc, Nat.mul_assoc, Nat.mul_comm 10, Nat.mul_comm (10 - o) ((10 - o) ^ d)]
theorem mT_torn (m : WM) (f : Nat → Int32) (t c h : Nat) (b to x : Int32) : u_m_torn (mT m f t c h b to) x = mkF (mkK m (f (67 + t)) (f (73 + t)) (f (79 + t)) b (nI h) x) (fT f t c h b to).1 (fT f t c h b to).2.1 (fT f t c h b to).2.2.1 (fT f t c h b to).2.2.2.2.1 (fT f t c h b to).2.2.2.1 := by
  unfold mT
  rw [mKu_torn]
theorem R_odds (h : R w m) (a b : Int64) : R (u_f_below (u_f_above w a) b) (u_m_below (u_m_above m a) b) := by
  obtain ⟨h1, h2, h3, h4, h5, h6, h7, h8, h9⟩ := h
  exact ⟨h1, h2, h3, h4, h5, h6, ⟨rfl, rfl⟩, h8, h9⟩
theorem st_loop (h : R w m) (hf : sl (a_m_w m) 0 = f) (hs : RS w.2.1 w.2.2.1 w.2.2.2.1 f) {t c A B : Nat} (ht : t < Nn (f 2)) (hc : c < 6) (hB : B ≤ A) (hA0 : 0 < A) (hA : A ≤ 100000) (a3 a4 L : Int32) (Q : Nat) (hQ : Q = 1000000000000000) : ∀ (d j n n2 s : Nat) (to : Int32), j + d = 8 → s ≤ j * Q → 400 + 20 * d ≤ n → 400 + 20 * d ≤ n2 → ∃ w' m', Gf_storm_0 n 1 (nI t) (nI c) a3 a4 L (nI j) (lN A) (lN B) (lN s) (mkX w (tT f t c (Nn (f 1)) (f (85 + t)) to)) = some (1, w') ∧ Gm_storm_89 n2 1 (nI t) (nI c) a3 a4 L (nI j) 0 (lN A) (lN B) (lN s) 0 (mT m f t c (Nn (f 1)) (f (85 + t)) to) = some (1, m') ∧ R w' m' := by
  have h6 := hs.c2.2.1
  have q2 := hs.c1.2.1
  have hsk := h.sk
  rw [hf] at hsk
  have e3 : A ^ 3 = A * A * A := by rw [Nat.pow_succ, Nat.pow_succ, Nat.pow_one]
  have c3 : A * A * A ≤ 100000 * 100000 * 100000 := Nat.mul_le_mul (Nat.mul_le_mul hA hA) hA
  have c0 : 0 < A * A * A := Nat.mul_pos (Nat.mul_pos hA0 hA0) hA0
  intro d
  induction d with
  | zero =>
    intro j n n2 s to hj hss hn hn2
    obtain ⟨n, rfl⟩ : ∃ k, n = k + 1 := ⟨n - 1, by omega⟩
    obtain ⟨n2, rfl⟩ : ∃ k, n2 = k + 1 := ⟨n2 - 1, by omega⟩
    have : j = 8 := by omega
    subst this
    rw [Gf_storm_0, Gm_storm_89, if_pos (show (8 : Int32) ≤ nI 8 by decide), if_pos (show (8 : Int32) ≤ nI 8 by decide), lN_mul, lN_mul]
    unfold Ff_putFraction_0 Fm_tells_89
    have gx := X_gcd (lN s) (lN (A * A * A)) (mkX w (tT f t c (Nn (f 1)) (f (85 + t)) to)) 53 (A * A * A) s 0 n (by omega) (by omega) (by omega) (by omega) (by omega) (by omega)
    rw [nI_0] at gx
    rw [gx, M_gcd (lN s) (lN (A * A * A)) _ 53 s (A * A * A) n2 (by omega) (by omega) (by omega) (by omega) (by omega), bd_some, bd_some, Nat.gcd_comm]
    refine ⟨_, _, rfl, rfl, R_odds ?_ _ _⟩
    rw [mT_torn]
    exact R_fall h (tT_len _ _ _ _ _ _) _ _ _ _ _ _ _ _ _ _ _
  | succ d ih =>
    intro j n n2 s to hj hss hn hn2
    obtain ⟨n, rfl⟩ : ∃ k, n = k + 1 := ⟨n - 1, by omega⟩
    obtain ⟨n2, rfl⟩ : ∃ k, n2 = k + 1 := ⟨n2 - 1, by omega⟩
    have mc := M_chance hB (nI t) (nI c) a3 a4 L (nI j) (lN s) (mT m f t c (Nn (f 1)) (f (85 + t)) to) 3 0 n2 1 (by omega) (by omega)
    rw [nI_0] at mc
    have mc : Gm_storm_89 n2 2 (nI t) (nI c) a3 a4 L (nI j) 0 (lN A) (lN B) (lN s) 1 (mT m f t c (Nn (f 1)) (f (85 + t)) to) = _ := mc
    have xc := X_chance hB (nI j) 3 0 n 1 (by omega) (by omega)
    rw [nI_0] at xc
    have xc : Ff_chanceOf n (nI j) (lN A) (lN B) = some (lN (chN A B (nI j) 3 0 1)) := xc
    have cl := chN_le hB (nI j) 3 0 1
    rw [e3, Nat.one_mul] at cl
    obtain ⟨n3, e4⟩ : ∃ k, n2 - 3 = k + 1 := ⟨n2 - 3 - 1, by omega⟩
    rw [Gf_storm_0, Gm_storm_89, if_neg (show ¬ (8 : Int32) ≤ nI j from nI_ge (b := 8) (by omega) (by decide)), if_neg (show ¬ (8 : Int32) ≤ nI j from nI_ge (b := 8) (by omega) (by decide)), mc, e4, Gm_storm_89, if_pos (show (3 : Int32) ≤ nI 3 by decide), mT_torn, M_goT h.w hf (by omega) hc (by omega) hsk, X_goN hs (by omega) ht hc (nI j) (tT_len _ _ _ _ _ _)]
    simp only [bd_some]
    rw [mT_la, tT_la, nI_1, xc, bd_some, Int64.add_zero, lN_add]
    by_cases k : (fT f t c (Nn (f 1)) (f (85 + t)) (nI j)).1 ≤ L
    · rw [if_pos k, if_pos k]
      exact ih (j + 1) n n3 s (nI j) (by omega) (by rw [Nat.succ_mul]; omega) (by omega) (by omega)
    · rw [if_neg k, if_neg k]
      exact ih (j + 1) n n3 _ (nI j) (by omega) (by rw [Nat.succ_mul]; omega) (by omega) (by omega)
theorem pw10 {K o : Nat} (hK : K ≤ 5) : (10 - o) ^ K ≤ 10 ^ K ∧ 0 < 10 ^ K ∧ 10 ^ K ≤ 100000 := ⟨Nat.pow_le_pow_left (Nat.sub_le _ _) K, Nat.pow_pos (by decide), Nat.pow_le_pow_right (n := 10) (by decide) hK⟩
theorem C_storm (h : R w m) (a b k o : Int32) : Ok (fun n => Ff_storm_0 n a b k o w) (fun n => Fm_storm_89 n a b k o m) := Ok.of 1000 fun n hn => by
  obtain ⟨w2, m2, e1, e2, hR⟩ := R_bad h
  obtain ⟨f, hf⟩ : ∃ f, sl (a_m_w m) 0 = f := ⟨_, rfl⟩
  have hs := h.s
  rw [hf] at hs
  have h6 := hs.c2.2.1
  have h7 := hs.c0.2.1
  have f0 : a_s1_cells w = f 0 := hs.k (k := 0) (by omega)
  have f2 : a_s1things_count w = f 2 := hs.k (k := 2) (by omega)
  simp only [Ff_storm_0, Fm_storm_89, has_7, M_isThing h.w, hasCell_1, M_isCell h.w, hf, Ff_within_eq, Fm_in_eq k (lo := 0) (hi := 5) 0 5 rfl rfl, Fm_in_eq o (lo := 0) (hi := 10) 0 10 rfl rfl, bd_some, ifz, e1, e2, f0, f2]
  by_cases c1 : C_th (f 2) a
  · simp only [if_pos c1]
    by_cases c2 : C_cell (f 0) b
    · simp only [if_pos c2]
      by_cases c3 : 0 ≤ k ∧ k ≤ 5
      · simp only [if_pos c3]
        by_cases c4 : 0 ≤ o ∧ o ≤ 10
        · simp only [if_pos c4]
          obtain ⟨t, ht, rfl⟩ := th_N hs.c2 (by decide) c1
          obtain ⟨c, hc, rfl⟩ := cell_N hs.c0 (by decide) c2
          obtain ⟨K, hK, rfl⟩ := in0 5 rfl c3
          obtain ⟨O, hO, rfl⟩ := in0 10 rfl c4
          have hx := X_odds hO hK (nI t) (nI c) w K 0 n 1 1 (by omega) (by omega)
          have hm := M_odds hO hK (nI t) (nI c) m K 0 n 1 1 (by omega) (by omega)
          rw [nI_0, Nat.one_mul, Nat.one_mul] at hx hm
          have hx : Gf_storm_0 n 0 (nI t) (nI c) (nI K) (nI O) 0 0 1 1 0 w = _ := hx
          have hm : Gm_storm_89 n 0 (nI t) (nI c) (nI K) (nI O) 0 0 0 1 1 0 0 m = _ := hm
          obtain ⟨n3, e4⟩ : ∃ k, n - K = k + 1 := ⟨n - K - 1, by omega⟩
          have hg := X_goN hs (n := n3) (t := t) (c := c) (by omega) ht (by omega) 0 (fa := w.2.2.2.2.2.2.2.2.2.2.2.2.2.2.1) h.pt
          rw [mX_in] at hg
          have hsk := h.sk
          rw [hf] at hsk
          have q1 := hs.c1.2.2
          have q2 := hs.c1.2.1
          obtain ⟨p1, p2, p3⟩ := pw10 (K := K) (o := O) hK
          have fin := st_loop h hf hs ht (c := c) (by omega) p1 p2 p3 (nI K) (nI O) (fT f t c (Nn (f 1)) (f (85 + t)) 0).1 1000000000000000 rfl 8 0 n3 n3 0 0 (by omega) (by omega) (by omega) (by omega)
          rw [nI_0] at fin
          obtain ⟨w', m', g1, g2, g3⟩ := fin
          obtain ⟨H, hH⟩ : ∃ H, Nn (f 1) = H := ⟨_, rfl⟩
          rw [hH] at q1 q2 hg g1 g2
          rw [hx, hm, e4, Gf_storm_0, Gm_storm_89, if_pos (Int32.le_refl _), if_pos (Int32.le_refl _), hg, M_lay h.w hf (by omega), bd_some, bd_some, q1, M_goT h.w hf (by omega) (by omega) (by omega) hsk, bd_some, mT_la, tT_la]
          exact ⟨1, w', m', g1, g2, g3⟩
        · simp only [if_neg c4]; exact ⟨_, _, _, rfl, rfl, hR⟩
      · simp only [if_neg c3]; exact ⟨_, _, _, rfl, rfl, hR⟩
    · simp only [if_neg c2]; exact ⟨_, _, _, rfl, rfl, hR⟩
  · simp only [if_neg c1]; exact ⟨_, _, _, rfl, rfl, hR⟩
end C57
/-! the soonest way: both come to an end -/
theorem RS.li2 {s : TS} {t : TT} {l : TL} {f : Nat → Int32} (h : RS s t l f) {i : Nat} (hi : i < Nn (f 3)) : plc (Nn (f 0)) (f (91 + i)) ∧ plc (Nn (f 0)) (f (101 + i)) ∧ isN (f (111 + i)) 1 9 := by
  have h3 := h.c3.2.1
  have g : ∀ k, 91 ≤ k → k < 121 → (k - 91) % 10 = i → okv (Nn (f 0)) k (f k) := fun k h1 h2 e => h.2.2 k (by omega) (Or.inr (Or.inr (Or.inl ⟨h1, h2, by omega⟩)))
  refine ⟨?_, ?_, ?_⟩
  · have := g (91 + i) (by omega) (by omega) (by omega)
    rw [okv_r91 _ _ (by omega) (by omega)] at this
    exact this
  · have := g (101 + i) (by omega) (by omega) (by omega)
    rw [okv_r91 _ _ (by omega) (by omega)] at this
    exact this
  · have := g (111 + i) (by omega) (by omega) (by omega)
    rw [okv_r111 _ _ (by omega) (by omega)] at this
    exact this
section C58
variable {w : WX} {m : WM} {f : Nat → Int32}
theorem uW_W (w : WX) (l k : List Int32) : u_ways_reached (u_ways_reached w l) k = u_ways_reached w k := by dsimp only [u_ways_reached]
theorem aW_W (w : WX) (l : List Int32) : a_ways_reached (u_ways_reached w l) = l := by dsimp only [a_ways_reached, u_ways_reached]
theorem uW_in (w : WX) : u_ways_reached w (a_ways_reached w) = w := by dsimp only [a_ways_reached, u_ways_reached]
theorem X_fillW (w : WX) (x : Int32) : ∀ (d i n : Nat) (l : List Int32), i + d = 24 → d < n → l.length = 24 → ∃ l', l'.length = 24 ∧ Garr_fill_87 n 0 x (nI i) (nI 24) (u_ways_reached w l) = some (u_ways_reached w l') := by
  intro d
  induction d with
  | zero =>
    intro i n l hi hn hl
    obtain ⟨n, rfl⟩ : ∃ k, n = k + 1 := ⟨n - 1, by omega⟩
    rw [Garr_fill_87, if_pos (nI_le (by omega) (by omega))]
    exact ⟨l, hl, rfl⟩
  | succ d ih =>
    intro i n l hi hn hl
    obtain ⟨n, rfl⟩ : ∃ k, n = k + 1 := ⟨n - 1, by omega⟩
    rw [Garr_fill_87, if_neg (nI_ge (by omega) (by omega)), aW_W, up_e (l := l) (i := nI i) x i rfl (by omega) (by omega), bd_some, uW_W, nI_1]
    exact ih (i + 1) n _ (by omega) (by omega) (by rw [List.length_set]; exact hl)
theorem X_join (w : WX) {i j : Nat} (hi : i < 24) (hj : j < 24) (t : Int32) {l : List Int32} (hl : l.length = 24) : ∃ l', l'.length = 24 ∧ Fway_join_86 (nI i) (nI j) t (u_ways_reached w l) = some (u_ways_reached w l') := by
  unfold Fway_join_86
  rw [aW_W, ix_e (l := l) (i := nI i) i rfl (by omega) (by omega), bd_some, ix_e (l := l) (i := nI j) j rfl (by omega) (by omega), bd_some]
  generalize (if l.getD j 0 + t < l.getD i 0 then l.getD j 0 + t else l.getD i 0) = y
  have l2 : (l.set i y).length = 24 := by rw [List.length_set]; exact hl
  rw [up_e (l := l) (i := nI i) y i rfl (by omega) (by omega), bd_some, ix_e (l := l.set i y) (i := nI j) j rfl (by omega) (by omega), bd_some, ix_e (l := l.set i y) (i := nI i) i rfl (by omega) (by omega), bd_some]
  rw [up_e (l := l.set i y) (i := nI j) _ j rfl (by omega) (by omega), bd_some, uW_W, uW_W]
  exact ⟨_, by rw [List.length_set]; exact l2, rfl⟩
theorem X_num {c : Nat} {x : Int32} (h : plc c x) (hc : c ≤ 6) : ∃ i, i < 24 ∧ Fway_numberOf x = some (nI i) := by
  obtain ⟨d1, d2, d3, d4⟩ := plc_div h hc
  unfold Fway_numberOf
  rw [d2, d1, show (4 : Int32) = nI 4 from rfl, pk_mul, nI_add]
  exact ⟨_, by omega, rfl⟩
theorem X_lifts (hs : RS w.2.1 w.2.2.1 w.2.2.2.1 f) : ∀ (d i n : Nat) (l : List Int32), i + d = Nn (f 3) → d < n → l.length = 24 → ∃ l', l'.length = 24 ∧ Gway_goByLifts_86_1 n 0 (nI i) (u_ways_reached w l) = some (u_ways_reached w l') := by
  have h6 := hs.c3.2.1
  have h7 := hs.c0.2.1
  have e3 : ∀ l, a_s1lifts_count (u_ways_reached w l) = nI (Nn (f 3)) := fun l => (hs.k (k := 3) (by omega)).trans hs.c3.2.2
  have l1 : (a_s1lifts_froms w).length = 10 := LSe_froms hs.1
  have l2 : (a_s1lifts_tos w).length = 10 := LSe_tos hs.1
  have l3 : (a_s1lifts_times w).length = 10 := LSe_times hs.1
  intro d
  induction d with
  | zero =>
    intro i n l hi hn hl
    obtain ⟨n, rfl⟩ : ∃ k, n = k + 1 := ⟨n - 1, by omega⟩
    rw [Gway_goByLifts_86_1, e3, if_pos (nI_le (by omega) (by omega))]
    exact ⟨l, hl, rfl⟩
  | succ d ih =>
    intro i n l hi hn hl
    obtain ⟨n, rfl⟩ : ∃ k, n = k + 1 := ⟨n - 1, by omega⟩
    obtain ⟨t1, t2, t3⟩ := hs.li (i := i) (by omega)
    obtain ⟨p1, p2, p3⟩ := hs.li2 (i := i) (by omega)
    have g1 : ∀ l, ai_ix (a_s1lifts_froms (u_ways_reached w l)) (nI i) = some (f (91 + i)) := fun l => by rw [← t1]; exact ix_e (l := a_s1lifts_froms w) i rfl (by omega) (by omega)
    have g2 : ∀ l, ai_ix (a_s1lifts_tos (u_ways_reached w l)) (nI i) = some (f (101 + i)) := fun l => by rw [← t2]; exact ix_e (l := a_s1lifts_tos w) i rfl (by omega) (by omega)
    have g3 : ∀ l, ai_ix (a_s1lifts_times (u_ways_reached w l)) (nI i) = some (f (111 + i)) := fun l => by rw [← t3]; exact ix_e (l := a_s1lifts_times w) i rfl (by omega) (by omega)
    obtain ⟨a, ha, ea⟩ := X_num p1 h7
    obtain ⟨b, hb, eb⟩ := X_num p2 h7
    obtain ⟨l', hl', ej⟩ := X_join w ha hb (f (111 + i)) hl
    rw [Gway_goByLifts_86_1, e3, if_neg (nI_ge (by omega) (by omega)), g1, bd_some, ea, bd_some, g2, bd_some, eb, bd_some, g3, bd_some, ej, bd_some, nI_1]
    exact ih (i + 1) n l' (by omega) (by omega) hl'
theorem X_bes1 (hs : RS w.2.1 w.2.2.1 w.2.2.2.1 f) {c : Nat} (hc : c + 1 < Nn (f 0)) : ∀ (d y n : Nat) (l : List Int32), y + d = 4 → d < n → l.length = 24 → ∃ n' l', n - d - 1 ≤ n' ∧ l'.length = 24 ∧ Gway_goBeside_86_1 n 1 (nI c) (nI y) (u_ways_reached w l) = Gway_goBeside_86_1 n' 0 (nI (c + 1)) 0 (u_ways_reached w l') := by
  have h7 := hs.c0.2.1
  have h8 := hs.c1.2.1
  have e1 : ∀ l, a_s1_hour (u_ways_reached w l) = nI (Nn (f 1)) := fun l => (hs.k (k := 1) (by omega)).trans hs.c1.2.2
  intro d
  induction d with
  | zero =>
    intro y n l hy hn hl
    obtain ⟨n, rfl⟩ : ∃ k, n = k + 1 := ⟨n - 1, by omega⟩
    rw [show y = 4 by omega, Gway_goBeside_86_1, if_pos (show (4 : Int32) ≤ nI 4 by decide), nI_1]
    exact ⟨n, l, by omega, hl, rfl⟩
  | succ d ih =>
    intro y n l hy hn hl
    obtain ⟨n, rfl⟩ : ∃ k, n = k + 1 := ⟨n - 1, by omega⟩
    have hx : ∀ l c, c < 6 → Fsea_thickAt_1 (nI y) (nI c) (nI (Nn (f 1))) (u_ways_reached w l) = some (Tk f y c (Nn (f 1)), u_ways_reached w l) := fun l c hc => X_thickAt (W := u_ways_reached w l) (f := f) hs (by omega) hc (by omega)
    have ei : nI c * 4 + nI y = nI (c * 4 + y) := by rw [show (4 : Int32) = nI 4 from rfl, pk_mul, nI_add]
    have ej : nI (c + 1) * 4 + nI y = nI ((c + 1) * 4 + y) := by rw [show (4 : Int32) = nI 4 from rfl, pk_mul, nI_add]
    obtain ⟨l', hl', ejn⟩ := X_join w (i := c * 4 + y) (j := (c + 1) * 4 + y) (by omega) (by omega) 3 hl
    rw [Gway_goBeside_86_1, if_neg (show ¬ (4 : Int32) ≤ nI y from nI_ge (b := 4) (by omega) (by decide)), e1, hx l c (by omega)]
    simp only [bd_some]
    rw [nI_1, nI_1, e1, hx l (c + 1) (by omega)]
    simp only [bd_some]
    rw [ei, ej, ejn, bd_some]
    by_cases k1 : Tk f y c (Nn (f 1)) ≤ 0
    · rw [if_pos k1]
      obtain ⟨n', l2, a1, a2, a3⟩ := ih (y + 1) n l (by omega) (by omega) hl
      exact ⟨n', l2, by omega, a2, a3⟩
    · rw [if_neg k1]
      by_cases k2 : Tk f y (c + 1) (Nn (f 1)) ≤ 0
      · rw [if_pos k2]
        obtain ⟨n', l2, a1, a2, a3⟩ := ih (y + 1) n l (by omega) (by omega) hl
        exact ⟨n', l2, by omega, a2, a3⟩
      · rw [if_neg k2]
        obtain ⟨n', l2, a1, a2, a3⟩ := ih (y + 1) n l' (by omega) (by omega) hl'
        exact ⟨n', l2, by omega, a2, a3⟩
theorem X_bes0 (hs : RS w.2.1 w.2.2.1 w.2.2.2.1 f) : ∀ (d c n : Nat) (l : List Int32), c + d + 1 = Nn (f 0) → 8 * d + 1 ≤ n → l.length = 24 → ∃ l', l'.length = 24 ∧ Gway_goBeside_86_1 n 0 (nI c) 0 (u_ways_reached w l) = some (u_ways_reached w l') := by
  have h7 := hs.c0.2.1
  have e0 : ∀ l, a_s1_cells (u_ways_reached w l) = nI (Nn (f 0)) := fun l => (hs.k (k := 0) (by omega)).trans hs.c0.2.2
  intro d
  induction d with
  | zero =>
    intro c n l hc hn hl
    obtain ⟨n, rfl⟩ : ∃ k, n = k + 1 := ⟨n - 1, by omega⟩
    rw [Gway_goBeside_86_1, e0, show nI (Nn (f 0)) - 1 = nI (Nn (f 0) - 1) from pk_sub (b := 1) (by omega), if_pos (nI_le (by omega) (by omega))]
    exact ⟨l, hl, rfl⟩
  | succ d ih =>
    intro c n l hc hn hl
    obtain ⟨n, rfl⟩ : ∃ k, n = k + 1 := ⟨n - 1, by omega⟩
    obtain ⟨n', l', a1, a2, a3⟩ := X_bes1 hs (c := c) (by omega) 4 0 n l (by omega) (by omega) hl
    rw [nI_0] at a3
    rw [Gway_goBeside_86_1, e0, show nI (Nn (f 0)) - 1 = nI (Nn (f 0) - 1) from pk_sub (b := 1) (by omega), if_neg (nI_ge (by omega) (by omega)), a3]
    exact ih (c + 1) n' l' (by omega) (by omega) a2
theorem X_rounds (hs : RS w.2.1 w.2.2.1 w.2.2.2.1 f) {b : Int32} (hb : plc (Nn (f 0)) b) (a : Int32) : ∀ (d i n : Nat) (l : List Int32), i + d = 24 → d + 80 ≤ n → l.length = 24 → ∃ r l', l'.length = 24 ∧ Gway_soonestWay_86_1 n 0 a b (nI i) (u_ways_reached w l) = some (r, u_ways_reached w l') := by
  have h7 := hs.c0.2.1
  have h70 := hs.c0.1
  have h6 := hs.c3.2.1
  intro d
  induction d with
  | zero =>
    intro i n l hi hn hl
    obtain ⟨n, rfl⟩ : ∃ k, n = k + 1 := ⟨n - 1, by omega⟩
    obtain ⟨q, hq, eq⟩ := X_num hb h7
    rw [show i = 24 by omega, Gway_soonestWay_86_1, if_pos (show (24 : Int32) ≤ nI 24 by decide), eq, bd_some, aW_W, ix_e (l := l) (i := nI q) q rfl (by omega) (by omega), bd_some]
    by_cases k : l.getD q 0 < 1000000
    · rw [if_pos k]; exact ⟨_, l, hl, rfl⟩
    · rw [if_neg k]; exact ⟨_, l, hl, rfl⟩
  | succ d ih =>
    intro i n l hi hn hl
    obtain ⟨n, rfl⟩ : ∃ k, n = k + 1 := ⟨n - 1, by omega⟩
    obtain ⟨l1, hl1, e1⟩ := X_lifts hs (Nn (f 3)) 0 n l (by omega) (by omega) hl
    obtain ⟨l2, hl2, e2⟩ := X_bes0 hs (Nn (f 0) - 1) 0 n l1 (by omega) (by omega) hl1
    rw [nI_0] at e1 e2
    have e1 : Fway_goByLifts_86_1 n (u_ways_reached w l) = some (u_ways_reached w l1) := e1
    have e2 : Fway_goBeside_86_1 n (u_ways_reached w l1) = some (u_ways_reached w l2) := e2
    rw [Gway_soonestWay_86_1, if_neg (show ¬ (24 : Int32) ≤ nI i from nI_ge (b := 24) (by omega) (by decide)), e1, bd_some, e2, bd_some, nI_1]
    exact ih (i + 1) n l2 (by omega) (by omega) hl2
theorem X_soon (hs : RS w.2.1 w.2.2.1 w.2.2.2.1 f) {a b : Int32} (ha : plc (Nn (f 0)) a) (hb : plc (Nn (f 0)) b) (hl : (a_ways_reached w).length = 24) {n : Nat} (hn : 200 ≤ n) : ∃ r l', l'.length = 24 ∧ Fway_soonestWay_86_1 n a b w = some (r, u_ways_reached w l') := by
  obtain ⟨l1, h1, e1⟩ := X_fillW w 1000000 24 0 n (a_ways_reached w) (by omega) (by omega) hl
  rw [nI_0, uW_in] at e1
  obtain ⟨q, hq, eq⟩ := X_num ha hs.c0.2.1
  unfold Fway_soonestWay_86_1 Farr_fill_87
  rw [hl]
  have e1 : Garr_fill_87 n 0 1000000 0 (Int32.ofNat 24) w = some (u_ways_reached w l1) := e1
  rw [e1, bd_some, eq, bd_some, aW_W, up_e (l := l1) (i := nI q) 0 q rfl (by omega) (by omega), bd_some, uW_W]
  exact X_rounds hs hb a 23 1 n _ (by omega) (by omega) (by rw [List.length_set]; exact h1)
/-- all that is told of ways is a number up to a million -/
def FB (l : List Int32) : Prop := l.length = 60 ∧ ∀ k, k < 60 → ∃ a, a ≤ 1000000 ∧ l.getD k 0 = nI a
def fs (l : List Int32) : Nat → Nat
  | 0 => 0
  | k + 1 => fs l k + Nn (l.getD k 0)
theorem fs_set {l : List Int32} (hl : l.length = 60) {j : Nat} (hj : j < 60) (x : Int32) : ∀ k, k ≤ 60 → (k ≤ j → fs (l.set j x) k = fs l k) ∧ (j < k → fs (l.set j x) k + Nn (l.getD j 0) = fs l k + Nn x) := by
  intro k
  induction k with
  | zero => intro _; exact ⟨fun _ => rfl, fun h => absurd h (by omega)⟩
  | succ k ih =>
    intro hk
    obtain ⟨i1, i2⟩ := ih (by omega)
    rw [fs, fs, gD_set _ _ _ _ (by omega)]
    constructor
    · intro h
      rw [if_neg (by omega), i1 (by omega)]
    · intro h
      by_cases e : k = j
      · rw [if_pos e, i1 (by omega), e]; omega
      · rw [if_neg e]
        have := i2 (by omega)
        omega
theorem FB_set {l : List Int32} (h : FB l) {j a : Nat} (hj : j < 60) (ha : a ≤ 1000000) : FB (l.set j (nI a)) := by
  refine ⟨by rw [List.length_set]; exact h.1, fun k hk => ?_⟩
  rw [gD_set _ _ _ _ (by rw [h.1]; exact hj)]
  by_cases e : k = j
  · rw [if_pos e]; exact ⟨a, ha, rfl⟩
  · rw [if_neg e]; exact h.2 k hk
theorem fs_le {l : List Int32} (h : FB l) : ∀ k, k ≤ 60 → fs l k ≤ k * 1000000 := by
  intro k
  induction k with
  | zero => intro _; exact Nat.le_refl _
  | succ k ih =>
    intro hk
    obtain ⟨a, ha, e⟩ := h.2 k (by omega)
    rw [fs, e, Nn_nI (by omega)]
    have := ih (by omega)
    omega
theorem uR_R (m : WM) (l k : List Int32) : u_m_far (u_m_far m l) k = u_m_far m k := by dsimp only [u_m_far]
theorem aR_R (m : WM) (l : List Int32) : a_m_far (u_m_far m l) = l := by dsimp only [a_m_far, u_m_far]
theorem uR_in (m : WM) : u_m_far m (a_m_far m) = m := by dsimp only [a_m_far, u_m_far]
theorem M_to (m : WM) {l : List Int32} (hB : FB l) {i j t : Nat} (hi : i < 60) (hj : j < 60) (ht : t ≤ 9) : ∃ e l', FB l' ∧ (e = 0 ∧ fs l' 60 ≤ fs l 60 ∨ e = 1 ∧ fs l' 60 < fs l 60) ∧ Fm_comesTo_89 (nI i) (nI j) (nI t) (u_m_far m l) = some (e, u_m_far m l') := by
  have hl := hB.1
  obtain ⟨a, ha, ea⟩ := hB.2 i hi
  obtain ⟨b, hb, eb⟩ := hB.2 j hj
  unfold Fm_comesTo_89
  rw [aR_R, ix_e (l := l) (i := nI i) i rfl (by omega) (by omega), ix_e (l := l) (i := nI j) j rfl (by omega) (by omega), ea, eb]
  simp only [bd_some, uR_R]
  have same := (fs_set hl hj (nI b) 60 (by omega)).2 hj
  rw [eb] at same
  rw [up_e (l := l) (i := nI j) (nI b) j rfl (by omega) (by omega), nI_add, up_e (l := l) (i := nI j) (nI (a + t)) j rfl (by omega) (by omega)]
  simp only [bd_some]
  by_cases c1 : (1000000 : Int32) ≤ nI a
  · rw [if_pos c1]
    exact ⟨0, _, FB_set hB hj hb, Or.inl ⟨rfl, by omega⟩, rfl⟩
  · rw [if_neg c1]
    have a1 : a < 1000000 := Nat.lt_of_not_le fun q => c1 (nI_le (a := 1000000) q (by omega))
    by_cases c2 : nI b ≤ nI (a + t)
    · rw [if_pos c2]
      exact ⟨0, _, FB_set hB hj hb, Or.inl ⟨rfl, by omega⟩, rfl⟩
    · rw [if_neg c2]
      have a2 : a + t < b := Nat.lt_of_not_le fun q => c2 (nI_le q (by omega))
      have less := (fs_set hl hj (nI (a + t)) 60 (by omega)).2 hj
      rw [eb, Nn_nI (by omega), Nn_nI (by omega)] at less
      exact ⟨1, _, FB_set hB hj (by omega), Or.inr ⟨rfl, by omega⟩, rfl⟩
/-- the flag, and the sum against what it was -/
def flg (S : Nat) (e : Int32) (l : List Int32) : Prop := e = 0 ∧ fs l 60 ≤ S ∨ e = 1 ∧ fs l 60 < S
theorem flg_or {S : Nat} {e e2 : Int32} {l l2 : List Int32} (h : flg S e l) (h2 : e2 = 0 ∧ fs l2 60 ≤ fs l 60 ∨ e2 = 1 ∧ fs l2 60 < fs l 60) : flg S (e ||| e2) l2 := by
  rcases h with ⟨rfl, h⟩ | ⟨rfl, h⟩
  · rcases h2 with ⟨rfl, k⟩ | ⟨rfl, k⟩
    · exact Or.inl ⟨rfl, by omega⟩
    · exact Or.inr ⟨rfl, by omega⟩
  · rcases h2 with ⟨rfl, k⟩ | ⟨rfl, k⟩
    · exact Or.inr ⟨rfl, by omega⟩
    · exact Or.inr ⟨rfl, by omega⟩
theorem plc60 {c : Nat} {x : Int32} (h : plc c x) (hc : c ≤ 6) : ∃ i, i < 60 ∧ x = nI i := by
  obtain ⟨a, b, e, h1, h2⟩ := h
  exact ⟨10 * a + b, by omega, e⟩
theorem M_lifts (hw : (a_m_w m).length = 596) (hf : sl (a_m_w m) 0 = f) (hs : RS w.2.1 w.2.2.1 w.2.2.2.1 f) (a b : Int32) (S : Nat) : ∀ (d i n : Nat) (l : List Int32) (e : Int32), i + d = Nn (f 3) → d < n → FB l → flg S e l → ∃ l' e', FB l' ∧ flg S e' l' ∧ Gm_soonest_89 n 2 a b e (nI i) (u_m_far m l) = Gm_soonest_89 (n - d - 1) 3 a b e' 0 (u_m_far m l') := by
  have h6 := hs.c3.2.1
  have h7 := hs.c0.2.1
  have w_l : ∀ l, a_m_w (u_m_far m l) = a_m_w m := fun l => by dsimp only [a_m_w, u_m_far]
  have e3 : ai_ix (a_m_w m) 3 = some (nI (Nn (f 3))) := by rw [m_ix0 hw (x := 3) 3 rfl (by omega), hf, ← hs.c3.2.2]
  intro d
  induction d with
  | zero =>
    intro i n l e hi hn hB hg
    obtain ⟨n, rfl⟩ : ∃ k, n = k + 1 := ⟨n - 1, by omega⟩
    rw [Gm_soonest_89, w_l, e3, bd_some, if_pos (nI_le (by omega) (by omega))]
    exact ⟨l, e, hB, hg, rfl⟩
  | succ d ih =>
    intro i n l e hi hn hB hg
    obtain ⟨n, rfl⟩ : ∃ k, n = k + 1 := ⟨n - 1, by omega⟩
    obtain ⟨p1, p2, p3⟩ := hs.li2 (i := i) (by omega)
    obtain ⟨x, hx, ex⟩ := plc60 p1 h7
    obtain ⟨y, hy, ey⟩ := plc60 p2 h7
    have et := p3.2.2
    have ht := p3.2.1
    generalize Nn (f (111 + i)) = t at et ht
    have g1 : ai_ix (a_m_w m) (91 + nI i) = some (nI x) := by rw [m_ix0 hw (x := 91 + nI i) (91 + i) (by rw [show (91 : Int32) = nI 91 from rfl, nI_add]) (by omega), hf, ex]
    have g2 : ai_ix (a_m_w m) (101 + nI i) = some (nI y) := by rw [m_ix0 hw (x := 101 + nI i) (101 + i) (by rw [show (101 : Int32) = nI 101 from rfl, nI_add]) (by omega), hf, ey]
    have g3 : ai_ix (a_m_w m) (111 + nI i) = some (nI t) := by rw [m_ix0 hw (x := 111 + nI i) (111 + i) (by rw [show (111 : Int32) = nI 111 from rfl, nI_add]) (by omega), hf, et]
    obtain ⟨e1, l1, hB1, c1, q1⟩ := M_to m hB hx hy ht
    obtain ⟨e2, l2, hB2, c2, q2⟩ := M_to m hB1 hy hx ht
    rw [Gm_soonest_89, w_l, e3, bd_some, if_neg (nI_ge (by omega) (by omega)), g1, g2, g3]
    simp only [bd_some]
    rw [q1]
    simp only [bd_some]
    rw [w_l, g1, g2, g3]
    simp only [bd_some]
    rw [q2]
    simp only [bd_some]
    rw [nI_1]
    obtain ⟨l', e', a1, a2, a3⟩ := ih (i + 1) n l2 _ (by omega) (by omega) hB2 (flg_or (flg_or hg c1) c2)
    rw [a3, show n + 1 - (d + 1) - 1 = n - d - 1 by omega]
    exact ⟨l', e', a1, a2, rfl⟩
theorem M_isThick (hw : (a_m_w m).length = 596) (hf : sl (a_m_w m) 0 = f) (h1 : isN (f 1) 0 999) {x : Nat} (hx : x % 10 < 4) (hc : x / 10 < 6) : Fm_isThick_89 (nI x) m = some (if Tk f (x % 10) (x / 10) (Nn (f 1)) ≤ 0 then 0 else 1, m) := by
  have h8 := h1.2.1
  have e1 : ai_ix (a_m_w m) 1 = some (nI (Nn (f 1))) := by rw [m_ix0 hw (x := 1) 1 rfl (by omega), hf, ← h1.2.2]
  obtain ⟨d1, d2⟩ := div10 (k := x) (by omega) rfl
  unfold Fm_isThick_89
  rw [e1, bd_some, d2, d1, M_thickIn hw hx hc (by omega), hf]
  simp only [bd_some]
  by_cases k : Tk f (x % 10) (x / 10) (Nn (f 1)) ≤ 0
  · rw [if_pos k, if_pos k]
  · rw [if_neg k, if_neg k]
theorem M_beside (hw : (a_m_w m).length = 596) (hf : sl (a_m_w m) 0 = f) (hs : RS w.2.1 w.2.2.1 w.2.2.2.1 f) (a b : Int32) (S : Nat) : ∀ (d i n : Nat) (l : List Int32) (e : Int32), i + d + 10 = 10 * Nn (f 0) → d < n → FB l → flg S e l → ∃ l' e', FB l' ∧ flg S e' l' ∧ Gm_soonest_89 n 3 a b e (nI i) (u_m_far m l) = Gm_soonest_89 (n - d - 1) 1 a b e' 0 (u_m_far m l') := by
  have h7 := hs.c0.2.1
  have w_l : ∀ l, a_m_w (u_m_far m l) = a_m_w m := fun l => by dsimp only [a_m_w, u_m_far]
  have e0 : ai_ix (a_m_w m) 0 = some (nI (Nn (f 0))) := by rw [m_ix0 hw (x := 0) 0 rfl (by omega), hf, ← hs.c0.2.2]
  have e10 : 10 * nI (Nn (f 0)) = nI (10 * Nn (f 0)) := by rw [show (10 : Int32) = nI 10 from rfl, pk_mul]
  have st : ∀ i, nI i + 10 = nI (i + 10) := fun i => by rw [show (10 : Int32) = nI 10 from rfl, nI_add]
  intro d
  induction d with
  | zero =>
    intro i n l e hi hn hB hg
    obtain ⟨n, rfl⟩ : ∃ k, n = k + 1 := ⟨n - 1, by omega⟩
    rw [Gm_soonest_89, w_l, e0, bd_some, e10, st, if_pos (nI_le (by omega) (by omega))]
    exact ⟨l, e, hB, hg, rfl⟩
  | succ d ih =>
    intro i n l e hi hn hB hg
    obtain ⟨n, rfl⟩ : ∃ k, n = k + 1 := ⟨n - 1, by omega⟩
    obtain ⟨d1, d2⟩ := div10 (k := i) (by omega) rfl
    have no : ∃ l' e', FB l' ∧ flg S e' l' ∧ Gm_soonest_89 n 3 a b e (nI (i + 1)) (u_m_far m l) = Gm_soonest_89 (n + 1 - (d + 1) - 1) 1 a b e' 0 (u_m_far m l') := by
      obtain ⟨l', e', a1, a2, a3⟩ := ih (i + 1) n l e (by omega) (by omega) hB hg
      rw [a3, show n + 1 - (d + 1) - 1 = n - d - 1 by omega]
      exact ⟨l', e', a1, a2, rfl⟩
    rw [Gm_soonest_89, w_l, e0, bd_some, e10, st, if_neg (nI_ge (by omega) (by omega)), d2, Fm_isLayer_eq, bd_some, nI_1]
    simp only [ifz]
    by_cases c1 : 0 ≤ nI (i % 10) ∧ nI (i % 10) ≤ 3
    · simp only [if_pos c1]
      have m4 : i % 10 < 4 := by
        have := Int32.le_iff_toInt_le.mp c1.2
        rw [nI_toInt (by omega)] at this
        have z : (3 : Int32).toInt = 3 := rfl
        omega
      have tk : ∀ l x, x % 10 < 4 → x / 10 < 6 → Fm_isThick_89 (nI x) (u_m_far m l) = some (if Tk f (x % 10) (x / 10) (Nn (f 1)) ≤ 0 then 0 else 1, u_m_far m l) := fun l x h1 h2 => M_isThick (m := u_m_far m l) hw hf hs.c1 h1 h2
      rw [tk l i m4 (by omega)]
      simp only [bd_some]
      rw [tk l (i + 10) (by omega) (by omega)]
      simp only [bd_some]
      by_cases k1 : Tk f (i % 10) (i / 10) (Nn (f 1)) ≤ 0
      · simp only [if_pos k1]; exact no
      · simp only [if_neg k1]
        rw [if_neg (show ¬ (1 : Int32) = 0 by decide)]
        by_cases k2 : Tk f ((i + 10) % 10) ((i + 10) / 10) (Nn (f 1)) ≤ 0
        · simp only [if_pos k2]; exact no
        · simp only [if_neg k2]
          rw [if_neg (show ¬ (1 : Int32) = 0 by decide)]
          obtain ⟨e1, l1, hB1, c1, q1⟩ := M_to m hB (i := i) (j := i + 10) (t := 3) (by omega) (by omega) (by omega)
          obtain ⟨e2, l2, hB2, c2, q2⟩ := M_to m hB1 (i := i + 10) (j := i) (t := 3) (by omega) (by omega) (by omega)
          have q1 : Fm_comesTo_89 (nI i) (nI (i + 10)) 3 (u_m_far m l) = some (e1, u_m_far m l1) := q1
          have q2 : Fm_comesTo_89 (nI (i + 10)) (nI i) 3 (u_m_far m l1) = some (e2, u_m_far m l2) := q2
          rw [q1]
          simp only [bd_some]
          rw [q2]
          simp only [bd_some]
          obtain ⟨l', e', a1, a2, a3⟩ := ih (i + 1) n l2 _ (by omega) (by omega) hB2 (flg_or (flg_or hg c1) c2)
          rw [a3, show n + 1 - (d + 1) - 1 = n - d - 1 by omega]
          exact ⟨l', e', a1, a2, rfl⟩
    · simp only [if_neg c1]; exact no
theorem M_more (hw : (a_m_w m).length = 596) (hf : sl (a_m_w m) 0 = f) (hs : RS w.2.1 w.2.2.1 w.2.2.2.1 f) (a : Int32) {b : Nat} (hb : b < 60) : ∀ (S n : Nat) (l : List Int32) (e : Int32), 100 * S + 100 ≤ n → FB l → (e = 0 ∨ e = 1 ∧ fs l 60 ≤ S) → ∃ r l', l'.length = 60 ∧ Gm_soonest_89 n 1 a (nI b) e 0 (u_m_far m l) = some (r, u_m_far m l') := by
  have h6 := hs.c3.2.1
  have h7 := hs.c0.2.1
  have h70 := hs.c0.1
  have fin : ∀ (n : Nat) (l : List Int32), FB l → ∃ r l', l'.length = 60 ∧ Gm_soonest_89 (n + 1) 1 a (nI b) 0 0 (u_m_far m l) = some (r, u_m_far m l') := by
    intro n l hB
    have hl := hB.1
    rw [Gm_soonest_89, if_pos rfl, aR_R, ix_e (l := l) (i := nI b) b rfl (by omega) (by omega)]
    simp only [bd_some]
    by_cases k : l.getD b 0 = 1000000
    · rw [if_pos k]; exact ⟨_, l, hl, rfl⟩
    · rw [if_neg k]; exact ⟨_, l, hl, rfl⟩
  intro S
  induction S with
  | zero =>
    intro n l e hn hB he
    obtain ⟨n, rfl⟩ : ∃ k, n = k + 1 := ⟨n - 1, by omega⟩
    rcases he with rfl | ⟨rfl, he⟩
    · exact fin n l hB
    · rw [Gm_soonest_89, if_neg (show ¬ (1 : Int32) = 0 by decide)]
      obtain ⟨l1, e1, a1, a2, a3⟩ := M_lifts hw hf hs a (nI b) (fs l 60) (Nn (f 3)) 0 n l 0 (by omega) (by omega) hB (Or.inl ⟨rfl, Nat.le_refl _⟩)
      obtain ⟨l2, e2, b1, b2, b3⟩ := M_beside hw hf hs a (nI b) (fs l 60) (10 * Nn (f 0) - 10) 0 (n - Nn (f 3) - 1) l1 e1 (by omega) (by omega) a1 a2
      rw [nI_0] at a3 b3
      rw [a3, b3]
      rcases b2 with ⟨rfl, _⟩ | ⟨rfl, z⟩
      · obtain ⟨k, ek⟩ : ∃ k, n - Nn (f 3) - 1 - (10 * Nn (f 0) - 10) - 1 = k + 1 := ⟨n - Nn (f 3) - 1 - (10 * Nn (f 0) - 10) - 1 - 1, by omega⟩
        rw [ek]
        exact fin k l2 b1
      · exfalso; omega
  | succ S ih =>
    intro n l e hn hB he
    obtain ⟨n, rfl⟩ : ∃ k, n = k + 1 := ⟨n - 1, by omega⟩
    rcases he with rfl | ⟨rfl, he⟩
    · exact fin n l hB
    · rw [Gm_soonest_89, if_neg (show ¬ (1 : Int32) = 0 by decide)]
      obtain ⟨l1, e1, a1, a2, a3⟩ := M_lifts hw hf hs a (nI b) (fs l 60) (Nn (f 3)) 0 n l 0 (by omega) (by omega) hB (Or.inl ⟨rfl, Nat.le_refl _⟩)
      obtain ⟨l2, e2, b1, b2, b3⟩ := M_beside hw hf hs a (nI b) (fs l 60) (10 * Nn (f 0) - 10) 0 (n - Nn (f 3) - 1) l1 e1 (by omega) (by omega) a1 a2
      rw [nI_0] at a3 b3
      rw [a3, b3]
      refine ih _ l2 e2 (by omega) b1 ?_
      rcases b2 with ⟨rfl, _⟩ | ⟨rfl, z⟩
      · exact Or.inl rfl
      · exact Or.inr ⟨rfl, by omega⟩
theorem M_init (m : WM) {a : Nat} (b : Int32) : ∀ (d i n : Nat) (l : List Int32), i + d = 60 → d < n → l.length = 60 → (∀ k, k < i → ∃ x, x ≤ 1000000 ∧ l.getD k 0 = nI x) → ∃ l', FB l' ∧ Gm_soonest_89 n 0 (nI a) b (nI i) 0 (u_m_far m l) = Gm_soonest_89 (n - d - 1) 1 (nI a) b 1 0 (u_m_far m l') := by
  intro d
  induction d with
  | zero =>
    intro i n l hi hn hl hk
    obtain ⟨n, rfl⟩ : ∃ k, n = k + 1 := ⟨n - 1, by omega⟩
    rw [show i = 60 by omega, Gm_soonest_89, if_pos (show (60 : Int32) ≤ nI 60 by decide)]
    exact ⟨l, ⟨hl, fun k h => hk k (by omega)⟩, rfl⟩
  | succ d ih =>
    intro i n l hi hn hl hk
    obtain ⟨n, rfl⟩ : ∃ k, n = k + 1 := ⟨n - 1, by omega⟩
    have go : ∀ x : Nat, x ≤ 1000000 → ∃ l', FB l' ∧ Gm_soonest_89 n 0 (nI a) b (nI (i + 1)) 0 (u_m_far m (l.set i (nI x))) = Gm_soonest_89 (n + 1 - (d + 1) - 1) 1 (nI a) b 1 0 (u_m_far m l') := by
      intro x hx
      obtain ⟨l', a1, a2⟩ := ih (i + 1) n (l.set i (nI x)) (by omega) (by omega) (by rw [List.length_set]; exact hl) (fun k h => by
        rw [gD_set _ _ _ _ (by omega)]
        by_cases e : k = i
        · rw [if_pos e]; exact ⟨x, hx, rfl⟩
        · rw [if_neg e]; exact hk k (by omega))
      rw [a2, show n + 1 - (d + 1) - 1 = n - d - 1 by omega]
      exact ⟨l', a1, rfl⟩
    rw [Gm_soonest_89, if_neg (show ¬ (60 : Int32) ≤ nI i from nI_ge (b := 60) (by omega) (by decide)), aR_R, up_e (l := l) (i := nI i) 0 i rfl (by omega) (by omega), up_e (l := l) (i := nI i) 1000000 i rfl (by omega) (by omega)]
    simp only [bd_some, uR_R, nI_1]
    by_cases k : nI i = nI a
    · rw [if_pos k]; exact go 0 (by omega)
    · rw [if_neg k]; exact go 1000000 (by omega)
theorem Cg_soonest (h : R w m) (a b : Int32) : Og (fun n => Ff_soonest_0 n a b w) (fun n => Fm_soonest_89 n a b m) := ⟨7000000000, fun n hn => by
  obtain ⟨w2, m2, e1, e2, hR⟩ := R_bad h
  obtain ⟨f, hf⟩ : ∃ f, sl (a_m_w m) 0 = f := ⟨_, rfl⟩
  have hs := h.s
  rw [hf] at hs
  have h7 := hs.c0.2.1
  have f0 : a_s1_cells w = f 0 := hs.k (k := 0) (by omega)
  have mp : ∀ x, Fm_isPlaceOf_89 0 x m = some (if C_pl (f 0) x then 1 else 0, m) := fun x => by rw [M_isPlaceOf (x := 0) (r := 0) rfl h.w (by omega), hf]
  simp only [Ff_soonest_0, Fm_soonest_89, hasPlace_1, mp, f0, bd_some, ifz, e1, e2]
  by_cases c1 : C_pl (f 0) a
  · simp only [if_pos c1]
    by_cases c2 : C_pl (f 0) b
    · simp only [if_pos c2]
      have pa := pl_N hs.c0 (by decide) c1
      have pb := pl_N hs.c0 (by decide) c2
      obtain ⟨r, l', hl', ex⟩ := X_soon hs pa pb h.2.2.2.2.2.2.2.1.2.2.2.2.2 (n := n) (by omega)
      rw [ex]
      simp only [bd_some]
      obtain ⟨x, hx, rfl⟩ := plc60 pa h7
      obtain ⟨y, hy, rfl⟩ := plc60 pb h7
      obtain ⟨l1, b1, b2⟩ := M_init m (a := x) (nI y) 60 0 n (a_m_far m) (by omega) (by omega) h.2.2.2.2.2.2.2.2.2.1 (fun k hk => absurd hk (by omega))
      rw [nI_0, uR_in] at b2
      have bd := fs_le b1 60 (by omega)
      obtain ⟨s, l2, d1, d2⟩ := M_more h.w hf hs (nI x) hy 60000000 (n - 60 - 1) l1 1 (by omega) b1 (Or.inr ⟨rfl, by omega⟩)
      rw [b2, d2]
      refine ⟨r, s, _, _, rfl, rfl, ?_⟩
      obtain ⟨h1, h2, h3, h4, h5, h6, h7, ⟨c1, c2, c3, c4, c5, c6⟩, ⟨g1, g2, g3⟩⟩ := h
      exact ⟨h1, h2, h3, h4, h5, h6, h7, ⟨c1, c2, c3, c4, c5, hl'⟩, ⟨g1, d1, g3⟩⟩
    · simp only [if_neg c2]; exact ⟨_, _, _, _, rfl, rfl, hR⟩
  · simp only [if_neg c1]; exact ⟨_, _, _, _, rfl, rfl, hR⟩⟩
end C58
