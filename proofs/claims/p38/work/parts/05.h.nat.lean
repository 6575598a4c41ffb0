/-! native rows, returns, calls -/
theorem ai_w0a : Jvm.Cond.instanceMethod Lib.objectInit ∈ ai_gt := List.mem_filter.mpr ⟨by decide +kernel, by decide +kernel⟩
theorem ai_w0b : Jvm.Cond.code Lib.objectInit ⟨#[0xb1]⟩ 1 none ∈ ai_gt := List.mem_filter.mpr ⟨by decide +kernel, by decide +kernel⟩
theorem ai_w1a : Jvm.Cond.native arraycopyName ∈ ai_gt := List.mem_filter.mpr ⟨by decide +kernel, by decide +kernel⟩
theorem ai_w1b : Jvm.Cond.static arraycopyName ∈ ai_gt := List.mem_filter.mpr ⟨by decide +kernel, by decide +kernel⟩
theorem ai_w1c : Jvm.Cond.initialized "java/lang/System" ∈ ai_gt := List.mem_filter.mpr ⟨by decide +kernel, by decide +kernel⟩
theorem ai_w4a : Jvm.Cond.static Lib.Math.max.name ∈ ai_gt := List.mem_filter.mpr ⟨by decide +kernel, by decide +kernel⟩
theorem ai_w4b : Jvm.Cond.initialized "java/lang/Math" ∈ ai_gt := List.mem_filter.mpr ⟨by decide +kernel, by decide +kernel⟩
theorem ai_w4c : Jvm.Cond.code Lib.Math.max.name Lib.Math.max.code 2 (some .int) ∈ ai_gt := List.mem_filter.mpr ⟨by decide +kernel, by decide +kernel⟩
theorem ai_w5a : Jvm.Cond.static Lib.Math.min.name ∈ ai_gt := List.mem_filter.mpr ⟨by decide +kernel, by decide +kernel⟩
theorem ai_w5c : Jvm.Cond.code Lib.Math.min.name Lib.Math.min.code 2 (some .int) ∈ ai_gt := List.mem_filter.mpr ⟨by decide +kernel, by decide +kernel⟩
theorem ai_cpyin {f g z : List Int32} {sp dp n : Int32} (h : ai_cpy f g sp dp n = some z) : ¬ sp < 0 ∧ ¬ dp < 0 ∧ ¬ n < 0 ∧ sp.toNatClampNeg + n.toNatClampNeg ≤ f.length ∧ dp.toNatClampNeg + n.toNatClampNeg ≤ g.length ∧ z.length = g.length ∧ va_cpy (fun k => f.getD k 0) (fun k => g.getD k 0) sp.toNatClampNeg dp.toNatClampNeg n.toNatClampNeg = fun k => z.getD k 0 := by
  unfold ai_cpy at h
  split at h
  · cases h
  · rename_i hn
    split at h
    · rename_i hb
      rw [Bool.and_eq_true] at hb
      have h1 := Nat.le_of_ble_eq_true hb.1
      have h2 := Nat.le_of_ble_eq_true hb.2
      have e : z = ai_cp f g sp.toNatClampNeg dp.toNatClampNeg n.toNatClampNeg := (Option.some.inj h).symm
      generalize sp.toNatClampNeg = a at *
      generalize dp.toNatClampNeg = b at *
      generalize n.toNatClampNeg = k at *
      refine ⟨fun q => hn (Or.inl q), fun q => hn (Or.inr (Or.inl q)), fun q => hn (Or.inr (Or.inr q)), h1, h2, ?_, ?_⟩
      · rw [e]
        simp only [ai_cp, List.length_append, List.length_take, List.length_drop]
        omega
      · funext j
        rw [e]
        unfold va_cpy ai_cp
        rw [List.getD_eq_getElem?_getD (l := _ ++ _)]
        by_cases c1 : j < b
        · rw [if_neg (by omega), List.getElem?_append_left (by rw [List.length_take]; omega), List.getElem?_take, if_pos c1]
          simp only [List.getD_eq_getElem?_getD]
        · rw [List.getElem?_append_right (by rw [List.length_take]; omega)]
          have hl : (g.take b).length = b := by rw [List.length_take]; omega
          rw [hl]
          by_cases c2 : j < b + k
          · rw [if_pos (by omega), List.getElem?_append_left (by rw [List.length_take, List.length_drop]; omega), List.getElem?_take, if_pos (by omega), List.getElem?_drop]
            simp only [List.getD_eq_getElem?_getD]
          · have hl2 : ((f.drop a).take k).length = k := by rw [List.length_take, List.length_drop]; omega
            rw [if_neg (by omega), List.getElem?_append_right (by omega), hl2, List.getElem?_drop, show b + k + (j - b - k) = j by omega]
            simp only [List.getD_eq_getElem?_getD]
    · cases h
theorem ai_slnE {k : Nat} {x : Int32} (h : ai_sln k = some x) : ∃ j, j < 8 ∧ k = j + 2 ∧ Int32.ofNat (ai_stL.getD j 0) = x := by
  match k, h with
  | 0, h => cases h
  | 1, h => cases h
  | 2, h => exact ⟨0, by decide, rfl, Option.some.inj h⟩
  | 3, h => exact ⟨1, by decide, rfl, Option.some.inj h⟩
  | 4, h => exact ⟨2, by decide, rfl, Option.some.inj h⟩
  | 5, h => exact ⟨3, by decide, rfl, Option.some.inj h⟩
  | 6, h => exact ⟨4, by decide, rfl, Option.some.inj h⟩
  | 7, h => exact ⟨5, by decide, rfl, Option.some.inj h⟩
  | 8, h => exact ⟨6, by decide, rfl, Option.some.inj h⟩
  | 9, h => exact ⟨7, by decide, rfl, Option.some.inj h⟩
  | k + 10, h => simp [ai_sln, ai_str, ai_nth] at h
theorem ai_schL : ∀ j : Nat, j < 8 → (ai_str.getD j []).length = ai_stL.getD j 0 := by decide
theorem ai_schN : ∀ j : Nat, j < 8 → ai_nth ai_str j = some (ai_str.getD j []) := by decide
theorem ai_schE {k : Nat} {y x : Int32} (h : ai_sch k y = some x) : ∃ j, j < 8 ∧ k = j + 2 ∧ ¬ y < 0 ∧ y.toNatClampNeg < ai_stL.getD j 0 ∧ (ai_str.getD j []).getD y.toNatClampNeg 0 = x := by
  match k, h with
  | 0, h => cases h
  | 1, h => cases h
  | k + 2, h =>
    by_cases hk : k < 8
    · simp only [ai_sch, ai_schN k hk] at h
      obtain ⟨h1, h2⟩ := ai_ixin h
      refine ⟨k, hk, rfl, fun q => h1 (Or.inl q), ?_, ?_⟩
      · rw [← ai_schL k hk]
        exact Nat.not_le.mp fun q => h1 (Or.inr q)
      · exact h2
    · exfalso
      have : ai_nth ai_str k = none := by
        rw [ai_nth_eq]
        exact List.getElem?_eq_none (by show 8 ≤ k; omega)
      simp only [ai_sch, this] at h
      cases h
def ai_naC (c : Nat) (q : Nat × Nat × Nat) : Bool := match q.2.1 with
  | 2 => decide (q.1 = 61) && decide (ai_cn c = "FourWaters$Text")
  | 3 => decide (q.1 = 65) && decide (ai_cn c = "FourWaters$Text")
  | _ => true
theorem ai_naCO : ∀ c, (ai_naT c).all (ai_naC c) = true
  | 0 => by decide +kernel
  | 1 => by decide +kernel
  | 2 => by decide +kernel
  | 3 => by decide +kernel
  | 4 => by decide +kernel
  | 5 => by decide +kernel
  | 6 => by decide +kernel
  | 7 => by decide +kernel
  | 8 => by decide +kernel
  | 9 => by decide +kernel
  | 10 => by decide +kernel
  | 11 => by decide +kernel
  | 12 => by decide +kernel
  | _ + 13 => rfl
theorem ai_na2 (c : Nat) (q : Nat × Nat × Nat) (h : q ∈ ai_naT c) (h2 : q.2.1 = 2) : q.1 = 61 ∧ ai_cn c = "FourWaters$Text" := by
  have h1 := List.all_eq_true.mp (ai_naCO c) q h
  unfold ai_naC at h1
  rw [h2] at h1
  simpa using h1
theorem ai_na3 (c : Nat) (q : Nat × Nat × Nat) (h : q ∈ ai_naT c) (h2 : q.2.1 = 3) : q.1 = 65 ∧ ai_cn c = "FourWaters$Text" := by
  have h1 := List.all_eq_true.mp (ai_naCO c) q h
  unfold ai_naC at h1
  rw [h2] at h1
  simpa using h1
section AIS
variable {p : Program} {l : Launch} {e : Env} {s : State} {m : MethodId} {args : Array Value} {below : List Frame} {meth : Method} {c : Code} {Q : State → Prop} {M : ai_M} {G : ai_G} {X : List (List Int32)} {H : Heap} {locs : List Loc} {ls : Array Slot} {pc pc' : Nat} {L L' : ai_L} {st st' r : List Value} {h h' : ai_H} {cs sl cs' sl' : Nat}

theorem ai_nat_ok (C : ai_C p s m args meth c M G X) {i : Instr} {kb k w wi : Nat} (hi : ai_fd (ai_cd M) pc = some i) (hci : ai_ci i = some (kb, k)) (hw : ai_by (ai_naT (ai_cl M)) k = some (w, wi)) (hs : ai_nat X M kb w st h cs sl = some (st', h')) (kk : ai_K p l e s m args below meth c Q M G (pc + 3) L st' h' cs sl) : ai_K p l e s m args below meth c Q M G pc L st h cs sl := by
  intro ls H locs hN hP hS hL
  obtain ⟨hx, hb, hr, hml, hown, hts, hlk, hini, hE, hbs, hok, hcn⟩ := id C
  have hf := List.all_eq_true.mp (ai_naO (ai_cl M)) _ (ai_by_mem hw)
  unfold ai_okA at hf
  have hmls : c.maxLocals = ls.size := by rw [hml, hL.2.1]
  unfold ai_nat at hs
  split at hs
  · cases hs
  · rename_i hg
    rw [Bool.and_eq_true, Bool.and_eq_true] at hg
    have g1 := Nat.le_of_ble_eq_true hg.1.1
    have g2 := Nat.le_of_ble_eq_true hg.1.2
    have g3 := Nat.le_of_ble_eq_true hg.2
    split at hs
    · simp only [ai_nn, decide_eq_true_eq] at hf
      split at hs
      · rename_i a r
        split at hs
        · rename_i hq
          rw [Bool.and_eq_true] at hq
          have e1 : kb = 2 := Nat.eq_of_beq_eq_true hq.1
          have e2 := Nat.le_of_ble_eq_true hq.2
          subst e1
          have hi2 : i = .invokespecial k := by cases i <;> simp [ai_ci] at hci; rw [hci]
          subst hi2
          have hd := ai_decN hok hi rfl
          simp only [Option.some.injEq, Prod.mk.injEq] at hs
          obtain ⟨rfl, rfl⟩ := hs
          exact W.objInit hx hb hown (hts _ (ai_gt_at (by rw [← hcn]; exact hf) rfl)) (hts _ ai_w0a) (hts _ ai_w0b) rfl (by show ls.size = _; exact hmls.symm) rfl hd g1 (by show 2 * 0 + ((r.map (ai_v G)).map fun v => v.category).sum + 12 ≤ _; rw [ai_cat_map]; omega) (kk ls H locs hN hP hS hL)
        · cases hs
      · cases hs
    · simp only [ai_nn, decide_eq_true_eq] at hf
      split at hs
      · rename_i n dp a sp q r
        split at hs
        · rename_i hq
          rw [Bool.and_eq_true] at hq
          have e1 : kb = 1 := Nat.eq_of_beq_eq_true hq.1
          have e2 := Nat.le_of_ble_eq_true hq.2
          have e3 : ((r.map (ai_v G)).map fun v => v.category).sum + (nativeFrameWords "java/lang/System" "arraycopy" 5 + 11) ≤ (ai_rm M).locals := by rw [ai_cat_map]; exact e2
          subst e1
          have hi2 : i = .invokestatic k := by cases i <;> simp [ai_ci] at hci; rw [hci]
          subst hi2
          have hd := ai_decN hok hi rfl
          split at hs
          · rename_i o ho
            obtain ⟨z0, o⟩ := o
            cases z0 with
            | true => cases hs
            | false =>
              simp only at hs
              split at hs
              · rename_i b
                split at hs
                · rename_i f hf1
                  obtain ⟨z1, f⟩ := f
                  cases z1 with
                  | true => cases hs
                  | false =>
                    simp only at hs
                    split at hs
                    · rename_i z hz
                      simp only [Option.some.injEq, Prod.mk.injEq] at hs
                      obtain ⟨rfl, rfl⟩ := hs
                      obtain ⟨q1, q2, q3, q4, q5, q6, q7⟩ := ai_cpyin hz
                      refine va_copyi (ty := .int) hx hb hmls hown (hts _ (ai_gt_at (by rw [← hcn]; exact hf) rfl)) (hts _ ai_w1a) (hts _ ai_w1b) (hts _ ai_w1c) hE.1 hP.2 (ai_ws_D G h) hS b a 0 0 (ai_ws_at G.1 hf1) (ai_ws_at G.1 ho) rfl rfl rfl q1 q2 q3 q4 q5 (fun _ _ => rfl) g1 e3 hd (fun H1 locs1 hP1 _ hS1 => ?_)
                      have e4 : (ai_ws G G.1 h).set a (G.1 + a, .inl (ai_ca G false, o.length, .inl (va_cpy (fun k => f.getD k 0) (fun k => o.getD k 0) sp.toNatClampNeg dp.toNatClampNeg n.toNatClampNeg))) = ai_ws G G.1 (h.set a (.inl (false, z))) := by
                        rw [q7, ← q6]
                        exact ai_ws_set G (.inl (false, z)) h G.1 a
                      have hP2 := e4 ▸ hP1
                      exact ai_sz hbs (by rw [List.length_set]; exact hN) hP2 hS1 (fun hP2 => kk ls H1 locs1 (by rw [List.length_set]; exact hN) hP2 hS1 hL)
                    · cases hs
                · cases hs
              · rename_i b
                split at hs
                · rename_i f hf1
                  split at hs
                  · rename_i z hz
                    simp only [Option.some.injEq, Prod.mk.injEq] at hs
                    obtain ⟨rfl, rfl⟩ := hs
                    obtain ⟨q1, q2, q3, q4, q5, q6, q7⟩ := ai_cpyin hz
                    obtain ⟨x1, x2⟩ := hE.2.2.2 b f hf1
                    refine va_copyx hx hb hmls hown (hts _ (ai_gt_at (by rw [← hcn]; exact hf) rfl)) (hts _ ai_w1a) (hts _ ai_w1b) (hts _ ai_w1c) hE.1 hP.2 (ai_ws_D G h) hS x1 (by omega) (by show ¬ G.1 ≤ G.2.1 b; omega) a 0 (ai_ws_at G.1 ho) rfl q1 q2 q3 q4 q5 g1 e3 hd (fun H1 locs1 hP1 _ hS1 => ?_)
                    have e4 : (ai_ws G G.1 h).set a (G.1 + a, .inl (ai_ca G false, o.length, .inl (va_cpy (fun k => f.getD k 0) (fun k => o.getD k 0) sp.toNatClampNeg dp.toNatClampNeg n.toNatClampNeg))) = ai_ws G G.1 (h.set a (.inl (false, z))) := by
                      rw [q7, ← q6]
                      exact ai_ws_set G (.inl (false, z)) h G.1 a
                    have hP2 := e4 ▸ hP1
                    exact ai_sz hbs (by rw [List.length_set]; exact hN) hP2 hS1 (fun hP2 => kk ls H1 locs1 (by rw [List.length_set]; exact hN) hP2 hS1 hL)
                  · cases hs
                · cases hs
              · cases hs
          · cases hs
        · cases hs
      · cases hs
    · simp only [ai_nn, decide_eq_true_eq] at hf
      split at hs
      · rename_i j r
        split at hs
        · rename_i hq
          rw [Bool.and_eq_true, Bool.and_eq_true, Bool.and_eq_true] at hq
          obtain ⟨⟨⟨q1, q2⟩, q3⟩, q4⟩ := hq
          have e1 : kb = 0 := Nat.eq_of_beq_eq_true q1
          have q2 := Nat.le_of_ble_eq_true q2
          have q3 := Nat.le_of_ble_eq_true q3
          have q4 := Nat.le_of_ble_eq_true q4
          subst e1
          have hi2 : i = .invokevirtual k := by cases i <;> simp [ai_ci] at hci; rw [hci]
          subst hi2
          have hd := ai_decN hok hi rfl
          split at hs
          · rename_i x hx1
            simp only [Option.some.injEq, Prod.mk.injEq] at hs
            obtain ⟨rfl, rfl⟩ := hs
            obtain ⟨j', hj8, rfl, hjx⟩ := ai_slnE hx1
            have hk : k = 61 ∧ ai_own M = "FourWaters$Text" := by
              have h9 := ai_na2 _ _ (ai_by_mem hw) rfl
              exact ⟨h9.1, by rw [← hcn]; exact h9.2⟩
            obtain ⟨rfl, hown2⟩ := hk
            rw [hown2] at hown
            obtain ⟨⟨adV, hS8⟩, -⟩ := id hE.2.2.1.2
            refine js_after (rv := some (.int x)) (rest := r.map (ai_v G)) (va_runV (own := "FourWaters$Text") (C := "java/lang/String") (As := []) (rest := r.map (ai_v G)) ⟨hx, hb, hml, hown, hts⟩ (hjx ▸ js_length l G j' hj8) (cwV 0 hts (js_good js_V3) rfl rfl rfl ⟨rfl, by decide, by decide, by decide⟩ ⟨q2, Nat.le_trans (by decide) q3⟩) ⟨js_blind G _, vk_recv hS8 hj8 hS, fun U hU hW => ⟨rfl, ai_St_to hE.2.2.1.2 hS hU hW⟩⟩ rfl rfl hL.2.1 rfl (by show 2 * 0 + ((r.map (ai_v G)).map fun v => v.category).sum ≤ 8; rw [ai_cat_map]; omega) hd ⟨g2, g3⟩) ?_
            exact kk ls H locs hN hP hS hL
          · cases hs
        · cases hs
      · cases hs
    · simp only [ai_nn, decide_eq_true_eq] at hf
      split at hs
      · rename_i y j r
        split at hs
        · rename_i hq
          rw [Bool.and_eq_true, Bool.and_eq_true, Bool.and_eq_true] at hq
          obtain ⟨⟨⟨q1, q2⟩, q3⟩, q4⟩ := hq
          have e1 : kb = 0 := Nat.eq_of_beq_eq_true q1
          have q2 := Nat.le_of_ble_eq_true q2
          have q3 := Nat.le_of_ble_eq_true q3
          have q4 := Nat.le_of_ble_eq_true q4
          subst e1
          have hi2 : i = .invokevirtual k := by cases i <;> simp [ai_ci] at hci; rw [hci]
          subst hi2
          have hd := ai_decN hok hi rfl
          split at hs
          · rename_i x hx1
            simp only [Option.some.injEq, Prod.mk.injEq] at hs
            obtain ⟨rfl, rfl⟩ := hs
            obtain ⟨j', hj8, rfl, hy1, hy2, hjx⟩ := ai_schE hx1
            have hk : k = 65 ∧ ai_own M = "FourWaters$Text" := by
              have h9 := ai_na3 _ _ (ai_by_mem hw) rfl
              exact ⟨h9.1, by rw [← hcn]; exact h9.2⟩
            obtain ⟨rfl, hown2⟩ := hk
            rw [hown2] at hown
            obtain ⟨⟨adV, hS8⟩, -⟩ := id hE.2.2.1.2
            refine js_after (rv := some (.int x)) (rest := r.map (ai_v G)) (va_runV (own := "FourWaters$Text") (C := "java/lang/String") (As := [.int y]) (rest := r.map (ai_v G)) ⟨hx, hb, hml, hown, hts⟩ (hjx ▸ js_charAt l G j' hj8 y hy1 hy2) (cwV 1 hts (js_good js_V4) rfl rfl rfl ⟨rfl, by decide, by decide, by decide⟩ ⟨q2, Nat.le_trans (by decide) q3⟩) ⟨js_blind G _, vk_recv hS8 hj8 hS, fun U hU hW => ⟨rfl, ai_St_to hE.2.2.1.2 hS hU hW⟩⟩ rfl rfl hL.2.1 rfl (by show 2 * 0 + ((r.map (ai_v G)).map fun v => v.category).sum ≤ 8; rw [ai_cat_map]; omega) hd ⟨g2, g3⟩) ?_
            exact kk ls H locs hN hP hS hL
          · cases hs
        · cases hs
      · cases hs
    · simp only [ai_nn, decide_eq_true_eq] at hf
      split at hs
      · rename_i y x r
        split at hs
        · rename_i hq
          rw [Bool.and_eq_true] at hq
          have e1 : kb = 1 := Nat.eq_of_beq_eq_true hq.1
          have e2 := Nat.le_of_ble_eq_true hq.2
          subst e1
          have hi2 : i = .invokestatic k := by cases i <;> simp [ai_ci] at hci; rw [hci]
          subst hi2
          have hd := ai_decN hok hi rfl
          simp only [Option.some.injEq, Prod.mk.injEq] at hs
          obtain ⟨rfl, rfl⟩ := hs
          exact va_mmax hx hb hmls hown (hts _ (ai_gt_at (by rw [← hcn]; exact hf) rfl)) (hts _ ai_w4a) (hts _ ai_w4b) (hts _ ai_w4c) g1 (by rw [ai_cat_map]; exact e2) g2 g3 hd (kk ls H locs hN hP hS hL)
        · cases hs
      · cases hs
    · simp only [ai_nn, decide_eq_true_eq] at hf
      split at hs
      · rename_i y x r
        split at hs
        · rename_i hq
          rw [Bool.and_eq_true] at hq
          have e1 : kb = 1 := Nat.eq_of_beq_eq_true hq.1
          have e2 := Nat.le_of_ble_eq_true hq.2
          subst e1
          have hi2 : i = .invokestatic k := by cases i <;> simp [ai_ci] at hci; rw [hci]
          subst hi2
          have hd := ai_decN hok hi rfl
          simp only [Option.some.injEq, Prod.mk.injEq] at hs
          obtain ⟨rfl, rfl⟩ := hs
          exact va_mmin hx hb hmls hown (hts _ (ai_gt_at (by rw [← hcn]; exact hf) rfl)) (hts _ ai_w5a) (hts _ ai_w4b) (hts _ ai_w5c) g1 (by rw [ai_cat_map]; exact e2) g2 g3 hd (kk ls H locs hN hP hS hL)
        · cases hs
      · cases hs
    · cases hs
def ai_Qc (G : ai_G) (M : ai_M) (h : ai_H) (r : Option Value) (h' : ai_H) : Array Value → State → Outcome → State → Prop := fun _ st oc t => oc = .returned (r.map (ai_v G)) ∧ ai_P G h' t.heap ∧ va_F (fun q => G.1 ≤ q) st t ∧ h'.length = h.length + (ai_rm M).cells
def ai_Pc (G : ai_G) (X : List (List Int32)) (as : List Value) (h : ai_H) : Array Value → State → Prop := va_Pc (as.map (ai_v G)) (fun U => ai_P G h U.heap ∧ ai_En G X U)
/-- what an end does in a method's own frame -/
theorem ai_ret_ok (C : ai_C p s m args meth c M G X) {i : Instr} {rv : Option Value} {h0 : ai_H} (hi : ai_fd (ai_cd M) pc = some i) (hs : ai_ret M i st h cs sl = some (rv, h')) (h00 : s.heap.size = G.1 + h0.length) : ai_K p l e s m args below meth c (MQ below (ai_Qc G M h0 rv h') args s (ai_rm M).cells (ai_rm M).slots (fun q => G.1 ≤ q)) M G pc L st h cs sl := by
  intro ls H locs hN hP hS hL
  obtain ⟨hx, hb, hr, hml, hown, hts, hlk, hini, hE, hbs, hok, hcn⟩ := id C
  unfold ai_ret at hs
  split at hs
  · cases hs
  · rename_i hg
    rw [Bool.and_eq_true] at hg
    have g1 : cs = (ai_rm M).cells := Nat.eq_of_beq_eq_true hg.1
    have g2 := Nat.le_of_ble_eq_true hg.2
    refine W.widen (k := (ai_rm M).cells) (n := (ai_rm M).slots) (by omega) g2 ?_
    split at hs
    · have hd := ai_decN hok hi rfl
      split at hs
      · split at hs
        · rename_i hrt
          simp only [Option.some.injEq, Prod.mk.injEq] at hs
          obtain ⟨rfl, rfl⟩ := hs
          exact W.vret hx hb (by rw [hr, hrt]) (fun t ht hW => ⟨rfl, by rw [ht]; exact hP, hS.F ht, by omega⟩) hS.2.2 hd hlk
        · cases hs
      · cases hs
    · have hd := ai_decN hok hi rfl
      split at hs
      · rename_i v
        split at hs
        · rename_i hrt
          simp only [Option.some.injEq, Prod.mk.injEq] at hs
          obtain ⟨rfl, rfl⟩ := hs
          exact W.iret (v := v) hx hb (by rw [hr, hrt]) (fun t ht hW => ⟨rfl, by rw [ht]; exact hP, hS.F ht, by omega⟩) hS.2.2 hd hlk
        · rename_i hrt
          split at hs
          · rename_i hv
            simp only [Option.some.injEq, Prod.mk.injEq] at hs
            obtain ⟨rfl, rfl⟩ := hs
            exact W.zret (v := v) (ty := .boolean) hx hb (by rw [hr, hrt]) (by rcases hv with rfl | rfl <;> rfl) (fun t ht hW => ⟨rfl, by rw [ht]; exact hP, hS.F ht, by omega⟩) hS.2.2 hd hlk
          · cases hs
        · cases hs
      · cases hs
    · have hd := ai_decN hok hi rfl
      split at hs
      · rename_i v
        split at hs
        · rename_i hrt
          simp only [Option.some.injEq, Prod.mk.injEq] at hs
          obtain ⟨rfl, rfl⟩ := hs
          exact W.lret (v := v) hx hb (by rw [hr, hrt]) (fun t ht hW => ⟨rfl, by rw [ht]; exact hP, hS.F ht, by omega⟩) hS.2.2 hd hlk
        · cases hs
      · cases hs
    · have hd := ai_decN hok hi rfl
      split at hs
      · rename_i v
        split at hs
        · rename_i nm hrt
          simp only [Option.some.injEq, Prod.mk.injEq] at hs
          obtain ⟨rfl, rfl⟩ := hs
          exact W.aret (rt := .object nm) hx hb (by rw [hr, hrt]) (Or.inl ⟨nm, rfl⟩) (Or.inr ⟨_, rfl⟩) (fun t ht hW => ⟨rfl, by rw [ht]; exact hP, hS.F ht, by omega⟩) hS.2.2 hd hlk
        · cases hs
      · rename_i v
        split at hs
        · rename_i nm hrt
          simp only [Option.some.injEq, Prod.mk.injEq] at hs
          obtain ⟨rfl, rfl⟩ := hs
          exact W.aret (rt := .object nm) hx hb (by rw [hr, hrt]) (Or.inl ⟨nm, rfl⟩) (Or.inr ⟨_, rfl⟩) (fun t ht hW => ⟨rfl, by rw [ht]; exact hP, hS.F ht, by omega⟩) hS.2.2 hd hlk
        · cases hs
      · cases hs
    · cases hs
end AIS
