/-! calls, and the interpreter's whole run -/
def ai_isn : Jvm.Cond → Bool
  | .methodLinkNest _ _ _ _ => true
  | .fieldLinkNest _ _ _ _ _ _ => true
  | _ => false
theorem ai_nw_all : ai_nw.all ai_isn = true := by decide +kernel
theorem ai_Nw_warm {s U : State} (hW : s.WarmedH U.vm) (hz : ∀ w ∈ ai_nw, va_Nw w s) : ∀ w ∈ ai_nw, va_Nw w U := by
  intro w hw
  have h1 := List.all_eq_true.mp ai_nw_all w hw
  have h2 := hz w hw
  cases w with
  | methodLinkNest a i x h => exact va_Nw.warmM hW h2
  | fieldLinkNest a i b n d h => exact va_Nw.warmF hW h2
  | _ => simp [ai_isn] at h1
theorem ai_Nw_same {s U : State} (hv : s.vm = U.vm) (hz : ∀ w ∈ ai_nw, va_Nw w s) : ∀ w ∈ ai_nw, va_Nw w U := by
  intro w hw
  have h1 := List.all_eq_true.mp ai_nw_all w hw
  have h2 := hz w hw
  cases w with
  | methodLinkNest a i x h => exact va_Nw.same rfl hv h2
  | fieldLinkNest a i b n d h => exact va_Nw.same rfl hv h2
  | _ => simp [ai_isn] at h1
theorem ai_En_to {G : ai_G} {X : List (List Int32)} {s U : State} {H : Heap} {locs : List Loc} (hE : ai_En G X s) (hb : G.1 ≤ s.heap.size) (hS : va_S (fun q => G.1 ≤ q) s.heap H locs) (hU : U.heap = H) (hW : s.WarmedH U.vm) : ai_En G X U := by
  obtain ⟨hK, hn, hZ, hX⟩ := hE
  refine ⟨va_K.moved hW.alike hK, ai_Nw_warm hW hn, ⟨(hZ.1.moved hW.alike).kept (fun a h1 h2 => by rw [hU]; exact hS.2.1 a h1 h2), ai_St_to hZ.2 hS hU hW⟩, fun k o ho => ?_⟩
  obtain ⟨x1, x2⟩ := hX k o ho
  exact ⟨(x1.moved hW.alike).kept (by rw [hU]; exact hS.2.1 _ (by omega) (by show ¬ G.1 ≤ G.2.1 k; omega)), x2⟩
theorem ai_En_eq {G : ai_G} {X : List (List Int32)} {s U : State} (hE : ai_En G X s) (hh : U.heap = s.heap) (hv : s.vm = U.vm) : ai_En G X U := by
  obtain ⟨hK, hn, hZ, hX⟩ := hE
  have ha : s.vm.Alike U.vm := by rw [hv]; exact Vm.Alike.refl U.vm
  refine ⟨va_K.moved ha hK, ai_Nw_same hv hn, ⟨by rw [hh]; exact hZ.1.moved ha, ai_St_eq hZ.2 hh hv⟩, fun k o ho => ?_⟩
  obtain ⟨x1, x2⟩ := hX k o ho
  exact ⟨by rw [hh]; exact x1.moved ha, x2⟩
theorem ai_blind (G : ai_G) (X : List (List Int32)) (as : List Value) (h : ai_H) : FrameBlind (ai_Pc G X as h) := by
  intro a U g mk q
  obtain ⟨h1, h2, h3⟩ := q
  exact ⟨h1, h2, ai_En_eq h3 rfl rfl⟩
theorem ai_good {ws : List Jvm.Cond} (h : ∀ w ∈ ws, w ∈ ai_gt) : GoodIn ai_gt ws := fun w hw => ⟨h w hw, good_of_word (List.mem_filter.mp (h w hw)).2⟩
theorem ai_w_in {M : ai_M} (ok : ai_okM M) : ∀ w ∈ ai_w M, w ∈ ai_gt := by
  obtain ⟨-, ⟨i, hi⟩, -, -⟩ := ok
  intro w hw
  unfold ai_w at hw
  rcases List.mem_cons.mp hw with rfl | hw
  · exact ai_gt_at hi rfl
  · exact hw
theorem ai_tk_eq : ∀ (n : Nat) (st acc as rest : List Value), ai_tk n st acc = some (as, rest) → ∃ t : List Value, t.length = n ∧ st = t.reverse ++ rest ∧ as = t ++ acc
  | 0, st, acc, as, rest, h => by
    simp only [ai_tk, Option.some.injEq, Prod.mk.injEq] at h
    exact ⟨[], rfl, by rw [h.2]; rfl, by rw [h.1]; rfl⟩
  | n + 1, [], acc, as, rest, h => by simp [ai_tk] at h
  | n + 1, v :: st, acc, as, rest, h => by
    obtain ⟨t, h1, h2, h3⟩ := ai_tk_eq n st (v :: acc) as rest h
    refine ⟨t ++ [v], by simp [h1], by rw [h2]; simp, by rw [h3]; simp⟩
theorem ai_tk0 {n : Nat} {st as rest : List Value} (h : ai_tk n st [] = some (as, rest)) : as.length = n ∧ st = as.reverse ++ rest := by
  obtain ⟨t, h1, h2, h3⟩ := ai_tk_eq n st [] as rest h
  rw [List.append_nil] at h3
  subst h3
  exact ⟨h1, h2⟩
theorem ai_fitin {R R' : Room} {mL cs sl : Nat} {rest : List Value} (h : ai_fit R R' mL cs sl rest = true) : (R'.frames + 1 ≤ R.frames ∧ 8 + (mL + 11) + R'.locals ≤ R.locals) ∧ (cs + R'.cells ≤ R.cells ∧ sl + R'.slots ≤ R.slots) ∧ ai_cat rest ≤ 8 := by
  unfold ai_fit at h
  rw [Bool.and_eq_true, Bool.and_eq_true, Bool.and_eq_true, Bool.and_eq_true] at h
  exact ⟨⟨Nat.le_of_ble_eq_true h.1.1.1.1, Nat.le_of_ble_eq_true h.1.1.1.2⟩, ⟨Nat.le_of_ble_eq_true h.1.1.2, Nat.le_of_ble_eq_true h.1.2⟩, Nat.le_of_ble_eq_true h.2⟩
abbrev ai_Met (l : Launch) (G : ai_G) (X : List (List Int32)) (M : ai_M) (as : List Value) (h : ai_H) (r : Option Value) (h' : ai_H) : Prop := Met l (ai_y M) (ai_w M) (ai_rm M) (ai_Pc G X as h) (ai_Qc G M h r h') (ai_rm M).cells (ai_rm M).slots (fun q => G.1 ≤ q)
section AIS
variable {p : Program} {l : Launch} {e : Env} {s : State} {m : MethodId} {args : Array Value} {below : List Frame} {meth : Method} {c : Code} {Q : State → Prop} {M : ai_M} {G : ai_G} {X : List (List Int32)} {H : Heap} {locs : List Loc} {ls : Array Slot} {pc pc' : Nat} {L L' : ai_L} {st st' rest as : List Value} {h h' : ai_H} {cs sl cs' sl' : Nat}

theorem ai_after {M' : ai_M} {rv : Option Value} {st0 : List Value} {a0 : Array Value} (hr : va_Run p l e (ai_rm M) s m args below meth c H locs cs sl (ai_rm M').cells (ai_rm M').slots (F0 m pc ls st0) (rest.map (ai_v G)) (ai_Qc G M' h rv h' a0) (fun q => G.1 ≤ q)) (hN : s.heap.size + cs = G.1 + h.length) (hP : ai_P G h H) (hS : va_S (fun q => G.1 ≤ q) s.heap H locs) (hL : ai_I G (ai_mL M) L ls)
    (kk : ai_K p l e s m args below meth c Q M G (pc + 3) L (rv.toList ++ rest) h' (cs + (ai_rm M').cells) (sl + (ai_rm M').slots)) : W p l e (ai_rm M) s m args below meth c H locs cs sl Q (F0 m pc ls st0) := by
  intro T hT Y
  obtain ⟨v, st₀, t, T', L1, h0, Y', hL1, e1, e2, ⟨hv, hP1, hF, hlen⟩, stp⟩ := hr T hT Y
  have hv2 : v = rv.map (ai_v G) := by cases hv; rfl
  subst hv2
  have hS1 : va_S (fun q => G.1 ≤ q) s.heap T'.heap (locs ++ L1) := by
    refine ⟨Nat.le_trans hS.1 (by rw [e1, ← h0]; exact hF.1), fun q h1 h2 => ?_, fun q hq => ?_⟩
    · rw [e1, hF.2 q (by rw [h0]; exact Nat.lt_of_lt_of_le h1 hS.1) h2, h0]
      exact hS.2.1 q h1 h2
    · rcases List.mem_append.mp hq with h | h
      · exact hS.2.2 q h
      · exact hL1 q h
  obtain ⟨t2, a1, b1⟩ := kk ls T'.heap (locs ++ L1) (by rw [hlen]; omega) (by rw [e1]; exact hP1) hS1 hL T' rfl Y'
  refine ⟨t2, stp t2 ?_, b1⟩
  have e3 : (rv.map (ai_v G)).toList ++ rest.map (ai_v G) = (rv.toList ++ rest).map (ai_v G) := by cases rv <;> simp
  show Steps p.tables e below (T'.setTop (F0 m (pc + 3) ls ((rv.map (ai_v G)).toList ++ rest.map (ai_v G)))) t2
  rw [e3]
  exact a1
theorem ai_call_ok (C : ai_C p s m args meth c M G X) {i : Instr} {kb k : Nat} {w : Nat × Nat × ai_M × List Nat} {rv : Option Value} (hi : ai_fd (ai_cd M) pc = some i) (hci : ai_ci i = some (kb, k)) (hw : ai_by (ai_caT (ai_cl M)) k = some w) (ok : ai_okM w.2.2.1) (ha : ai_arg M kb w.1 w.2.1 w.2.2.1 st h cs sl = some (as, rest)) (hM : (ai_en as).length ≤ ai_mL w.2.2.1 → ai_Met l G X w.2.2.1 as h rv h')
    (kk : ai_K p l e s m args below meth c Q M G (pc + 3) L (rv.toList ++ rest) h' (cs + (ai_rm w.2.2.1).cells) (sl + (ai_rm w.2.2.1).slots)) : ai_K p l e s m args below meth c Q M G pc L st h cs sl := by
  intro ls H locs hN hP hS hL
  obtain ⟨hx, hb, hr, hml, hown, hts, hlk, hini, hE, hbs, hok, hcn⟩ := id C
  have hf := List.all_eq_true.mp (ai_caK (ai_cl M)) _ (ai_by_mem hw)
  obtain ⟨kd, na, M', wl⟩ := w
  unfold ai_okK at hf
  simp only [Bool.and_eq_true, decide_eq_true_eq] at hf
  simp only at ok ha hM kk
  obtain ⟨⟨⟨⟨⟨f1, f2⟩, f3⟩, f4⟩, f5⟩, f6⟩ := hf
  have hpre : ∀ U : State, U.heap = H → s.WarmedH U.vm → ai_Pc G X as h (as.map (ai_v G)).toArray U := fun U hU hW => ⟨rfl, by rw [hU]; exact hP, ai_En_to hE hbs hS hU hW⟩
  unfold ai_arg at ha
  split at ha
  · -- an object's method
    simp only [Bool.and_eq_true, decide_eq_true_eq] at f6
    obtain ⟨⟨⟨⟨w1, w2⟩, w3⟩, w4⟩, w5⟩ := f6
    split at ha
    · rename_i as0 a rest0 htk
      split at ha
      · rename_i o ho
        split at ha
        · rename_i hg
          rw [Bool.and_eq_true, Bool.and_eq_true, Bool.and_eq_true] at hg
          obtain ⟨⟨⟨g1, g2⟩, g3⟩, g4⟩ := hg
          simp only [Option.some.injEq, Prod.mk.injEq] at ha
          obtain ⟨rfl, rfl⟩ := ha
          obtain ⟨t1, t2⟩ := ai_tk0 htk
          obtain ⟨r1, r2, r3⟩ := ai_fitin g3
          have e1 : kb = 0 := Nat.eq_of_beq_eq_true g1
          subst e1
          have hi2 : i = .invokevirtual k := by cases i <;> simp [ai_ci] at hci; rw [hci]
          subst hi2
          have hd := ai_decN hok hi rfl
          have hcc : o.1 = ai_cl M' := Nat.eq_of_beq_eq_true g2
          split at w5
          · rename_i t ht
            rw [decide_eq_true_eq] at w5
            have hcl : vwCl[o.1]? = some t := by rw [← ai_nth_eq, hcc]; exact ht
            have hrec := va_recv hE.1 hP.2 hcl (ai_ws_at G.1 ho)
            rw [w5] at hrec
            have hwin : ∀ w ∈ wsV (ai_own M) k (ai_y M').cls (ai_y M') (ai_w M'), w ∈ ai_gt := by
              intro w hw9
              unfold wsV at hw9
              rcases List.mem_append.mp hw9 with q | q
              · simp only [List.mem_cons, List.not_mem_nil, or_false] at q
                rcases q with rfl | rfl | rfl | rfl
                · exact ai_gt_at (by rw [← hcn]; exact w1) rfl
                · exact ai_gt_at w2 rfl
                · exact ai_gt_at w3 rfl
                · exact ai_gt_at w4 rfl
              · exact ai_w_in ok w q
            have hst : (F0 m pc ls (st.map (ai_v G))).stack = (as0.map (ai_v G)).reverse ++ .ref (G.1 + a) :: rest0.map (ai_v G) := by
              show st.map (ai_v G) = _
              rw [t2, List.map_append, List.map_reverse, List.map_cons]; rfl
            exact ai_after (va_runV (own := ai_own M) (C := (ai_y M').cls) (As := as0.map (ai_v G)) (rest := rest0.map (ai_v G)) ⟨hx, hb, hml, hown, hts⟩ (hM (Nat.le_of_ble_eq_true g4)) (cwV na hts (ai_good hwin) rfl rfl rfl ⟨rfl, f1, f2, f3⟩ r1) ⟨ai_blind G X _ h, hrec, hpre⟩ rfl (by rw [List.length_map]; exact t1) hL.2.1 hst (by show 2 * 0 + ((rest0.map (ai_v G)).map fun v => v.category).sum ≤ 8; rw [ai_cat_map]; omega) hd r2) hN hP hS hL kk
          · cases w5
        · cases ha
      · cases ha
    · cases ha
  · -- a method of a class
    simp only [Bool.and_eq_true, decide_eq_true_eq] at f6
    obtain ⟨⟨w1, w2⟩, w3⟩ := f6
    split at ha
    · rename_i as0 rest0 htk
      split at ha
      · rename_i hg
        rw [Bool.and_eq_true, Bool.and_eq_true] at hg
        obtain ⟨⟨g1, g3⟩, g4⟩ := hg
        simp only [Option.some.injEq, Prod.mk.injEq] at ha
        obtain ⟨rfl, rfl⟩ := ha
        obtain ⟨t1, t2⟩ := ai_tk0 htk
        obtain ⟨r1, r2, r3⟩ := ai_fitin g3
        have e1 : kb = 1 := Nat.eq_of_beq_eq_true g1
        subst e1
        have hi2 : i = .invokestatic k := by cases i <;> simp [ai_ci] at hci; rw [hci]
        subst hi2
        have hd := ai_decN hok hi rfl
        have hwin : ∀ w ∈ va_wsS (ai_own M) k (ai_y M') (ai_w M'), w ∈ ai_gt := by
          intro w hw9
          unfold va_wsS at hw9
          rcases List.mem_append.mp hw9 with q | q
          · simp only [List.mem_cons, List.not_mem_nil, or_false] at q
            rcases q with rfl | rfl | rfl
            · exact ai_gt_at (by rw [← hcn]; exact w1) rfl
            · exact ai_gt_at w2 rfl
            · exact ai_gt_at w3 rfl
          · exact ai_w_in ok w q
        have hst : (F0 m pc ls (st.map (ai_v G))).stack = (as0.map (ai_v G)).reverse ++ rest0.map (ai_v G) := by
          show st.map (ai_v G) = _
          rw [t2, List.map_append, List.map_reverse]
        exact ai_after (va_runS (own := ai_own M) (As := as0.map (ai_v G)) (rest := rest0.map (ai_v G)) ⟨hx, hb, hml, hown, hts⟩ (hM (Nat.le_of_ble_eq_true g4)) (va_cwS na hts (ai_good hwin) rfl rfl rfl ⟨f1, f2, f3⟩ r1) ⟨ai_blind G X _ h, hpre⟩ rfl (by rw [List.length_map]; exact t1) hL.2.1 hst (by show 2 * 0 + ((rest0.map (ai_v G)).map fun v => v.category).sum ≤ 8; rw [ai_cat_map]; omega) hd r2) hN hP hS hL kk
      · cases ha
    · cases ha
  · -- a nest mate's method of a class
    simp only [Bool.and_eq_true, decide_eq_true_eq] at f6
    obtain ⟨⟨⟨w1, w0⟩, w2⟩, w3⟩ := f6
    split at ha
    · rename_i as0 rest0 htk
      split at ha
      · rename_i hg
        rw [Bool.and_eq_true, Bool.and_eq_true] at hg
        obtain ⟨⟨g1, g3⟩, g4⟩ := hg
        simp only [Option.some.injEq, Prod.mk.injEq] at ha
        obtain ⟨rfl, rfl⟩ := ha
        obtain ⟨t1, t2⟩ := ai_tk0 htk
        obtain ⟨r1, r2, r3⟩ := ai_fitin g3
        have e1 : kb = 1 := Nat.eq_of_beq_eq_true g1
        subst e1
        have hi2 : i = .invokestatic k := by cases i <;> simp [ai_ci] at hci; rw [hci]
        subst hi2
        have hd := ai_decN hok hi rfl
        have hnin : Jvm.Cond.methodLinkNest (ai_own M) k (ai_y M') "FourWaters" ∈ ai_nw := by
          rw [← hcn]
          exact List.mem_filterMap.mpr ⟨_, List.elem_iff.mp w0, w1⟩
        have hst : (F0 m pc ls (st.map (ai_v G))).stack = (as0.map (ai_v G)).reverse ++ rest0.map (ai_v G) := by
          show st.map (ai_v G) = _
          rw [t2, List.map_append, List.map_reverse]
        exact ai_after (va_runSN (own := ai_own M) (As := as0.map (ai_v G)) (rest := rest0.map (ai_v G)) ⟨hx, hb, hml, hown, hts⟩ (hM (Nat.le_of_ble_eq_true g4)) ⟨va_cnB na hts (ai_good (ai_w_in ok)) rfl rfl rfl (hE.2.1 _ hnin) (hts _ (ai_gt_at w3 rfl)) ⟨f1, f2, f3⟩ r1, hts _ (ai_gt_at w2 rfl), trivial⟩ ⟨ai_blind G X _ h, hpre⟩ rfl (by rw [List.length_map]; exact t1) hL.2.1 hst (by show 2 * 0 + ((rest0.map (ai_v G)).map fun v => v.category).sum ≤ 8; rw [ai_cat_map]; omega) hd r2) hN hP hS hL kk
      · cases ha
    · cases ha
  · -- a maker
    simp only [Bool.and_eq_true, decide_eq_true_eq] at f6
    obtain ⟨⟨⟨⟨w1, w2⟩, w3⟩, w4⟩, w5⟩ := f6
    split at ha
    · rename_i as0 a rest0 htk
      split at ha
      · rename_i hg
        rw [Bool.and_eq_true, Bool.and_eq_true] at hg
        obtain ⟨⟨g1, g3⟩, g4⟩ := hg
        simp only [Option.some.injEq, Prod.mk.injEq] at ha
        obtain ⟨rfl, rfl⟩ := ha
        obtain ⟨t1, t2⟩ := ai_tk0 htk
        obtain ⟨r1, r2, r3⟩ := ai_fitin g3
        have e1 : kb = 2 := Nat.eq_of_beq_eq_true g1
        subst e1
        have hi2 : i = .invokespecial k := by cases i <;> simp [ai_ci] at hci; rw [hci]
        subst hi2
        have hd := ai_decN hok hi rfl
        have hst : (F0 m pc ls (st.map (ai_v G))).stack = (as0.map (ai_v G)).reverse ++ .ref (G.1 + a) :: rest0.map (ai_v G) := by
          show st.map (ai_v G) = _
          rw [t2, List.map_append, List.map_reverse, List.map_cons]; rfl
        exact ai_after (va_runI (own := ai_own M) (As := as0.map (ai_v G)) (rest := rest0.map (ai_v G)) ⟨hx, hb, hml, hown, hts⟩ (hM (Nat.le_of_ble_eq_true g4)) ⟨callB_of na hts (ai_good (ai_w_in ok)) (by unfold ai_w; rw [w5]) rfl rfl (hts _ (ai_gt_at w3 rfl)) (hts _ (ai_gt_at (by rw [← hcn]; exact w1) rfl)) ⟨f1, f2, f3⟩ r1, w4, hts _ (ai_gt_at w2 rfl)⟩ ⟨ai_blind G X _ h, hpre⟩ rfl (by rw [List.length_map]; exact t1) hL.2.1 hst (by show 2 * 0 + ((rest0.map (ai_v G)).map fun v => v.category).sum ≤ 8; rw [ai_cat_map]; omega) hd r2) hN hP hS hL kk
      · cases ha
    · cases ha
  · -- a nest mate's maker
    simp only [Bool.and_eq_true, decide_eq_true_eq] at f6
    obtain ⟨⟨⟨⟨⟨w1, w0⟩, w2⟩, w3⟩, w4⟩, w5⟩ := f6
    split at ha
    · rename_i as0 a rest0 htk
      split at ha
      · rename_i hg
        rw [Bool.and_eq_true, Bool.and_eq_true] at hg
        obtain ⟨⟨g1, g3⟩, g4⟩ := hg
        simp only [Option.some.injEq, Prod.mk.injEq] at ha
        obtain ⟨rfl, rfl⟩ := ha
        obtain ⟨t1, t2⟩ := ai_tk0 htk
        obtain ⟨r1, r2, r3⟩ := ai_fitin g3
        have e1 : kb = 2 := Nat.eq_of_beq_eq_true g1
        subst e1
        have hi2 : i = .invokespecial k := by cases i <;> simp [ai_ci] at hci; rw [hci]
        subst hi2
        have hd := ai_decN hok hi rfl
        have hnin : Jvm.Cond.methodLinkNest (ai_own M) k (ai_y M') "FourWaters" ∈ ai_nw := by
          rw [← hcn]
          exact List.mem_filterMap.mpr ⟨_, List.elem_iff.mp w0, w1⟩
        have hst : (F0 m pc ls (st.map (ai_v G))).stack = (as0.map (ai_v G)).reverse ++ .ref (G.1 + a) :: rest0.map (ai_v G) := by
          show st.map (ai_v G) = _
          rw [t2, List.map_append, List.map_reverse, List.map_cons]; rfl
        exact ai_after (va_runIN (own := ai_own M) (As := as0.map (ai_v G)) (rest := rest0.map (ai_v G)) ⟨hx, hb, hml, hown, hts⟩ (hM (Nat.le_of_ble_eq_true g4)) ⟨va_cnB na hts (ai_good (ai_w_in ok)) (by unfold ai_w; rw [w5]) rfl rfl (hE.2.1 _ hnin) (hts _ (ai_gt_at w3 rfl)) ⟨f1, f2, f3⟩ r1, w4, hts _ (ai_gt_at w2 rfl)⟩ ⟨ai_blind G X _ h, hpre⟩ rfl (by rw [List.length_map]; exact t1) hL.2.1 hst (by show 2 * 0 + ((rest0.map (ai_v G)).map fun v => v.category).sum ≤ 8; rw [ai_cat_map]; omega) hd r2) hN hP hS hL kk
      · cases ha
    · cases ha
  · cases ha
end AIS
