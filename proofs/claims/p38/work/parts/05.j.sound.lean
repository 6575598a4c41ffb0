/-! the interpreter's run is the machine's -/
theorem ai_met_of {l : Launch} {G : ai_G} {X : List (List Int32)} {M : ai_M} {as : List Value} {h : ai_H} {rv : Option Value} {h' : ai_H} (ok : ai_okM M) (hcn : ai_cn (ai_cl M) = ai_own M) (hlen : (ai_en as).length ≤ ai_mL M)
    (ih : ∀ {p : Program} {e : Env} {s : State} {m : MethodId} {args : Array Value} {below : List Frame} {meth : Method} {c : Code} {Q : State → Prop}, ai_C p s m args meth c M G X → (∀ (i : Instr) (pc : Nat) (L : ai_L) (st : List Value) (h : ai_H) (cs sl : Nat), ai_fd (ai_cd M) pc = some i → ai_ret M i st h cs sl = some (rv, h') → ai_K p l e s m args below meth c Q M G pc L st h cs sl) → ai_K p l e s m args below meth c Q M G 0 (ai_pad (ai_mL M) (ai_en as)) [] h 0 0) : ai_Met l G X M as h rv h' := by
  refine Met.ofW (cc := ai_cc M) (maxL := ai_mL M) (ret := ai_rt M) ok.2.2.1 rfl ?_
  intro p e s m args below meth c s₁ B hml hv
  obtain ⟨e1, hP, hE⟩ : args = (as.map (ai_v G)).toArray ∧ ai_P G h s.heap ∧ ai_En G X s := hv
  subst e1
  have hts := atoms_spec (ws := ai_w M) B.pre
  have hown : s.vm.findClass (ai_y M).cls = some m.cls := findClass_of_methodNamed B.named
  have C : ai_C p s m (as.map (ai_v G)).toArray meth c M G X := ⟨B.exec, B.bytes, B.returns, hml, by rw [← ok.2.2.2]; exact hown, fun w hw => hts w (List.mem_cons_of_mem _ hw), B.notSynchronized, fun hn => by rw [(name_of_methodNamed B.named B.method).1]; exact hn, hE, by rw [hP.1]; omega, ok.1, hcn⟩
  rw [lg_entry_eq]
  exact ih C (fun i pc L st h1 cs sl hi hs => ai_ret_ok C hi hs hP.1) _ s.heap [] (by rw [hP.1]; omega) hP va_S.rf (ai_I_entry G as hlen)
theorem ai_sound (l : Launch) (G : ai_G) (X : List (List Int32)) (hca : ∀ c, ∀ q ∈ ai_caT c, ai_okM q.2.2.2.1) : ∀ (n : Nat) (M : ai_M) (pc : Nat) (L : ai_L) (st : List Value) (h : ai_H) (cs sl : Nat) (rv : Option Value) (h' : ai_H), ai_run X n M pc L st h cs sl = some (rv, h') →
    ∀ {p : Program} {e : Env} {s : State} {m : MethodId} {args : Array Value} {below : List Frame} {meth : Method} {c : Code} {Q : State → Prop}, ai_C p s m args meth c M G X → (∀ (i : Instr) (pc : Nat) (L : ai_L) (st : List Value) (h : ai_H) (cs sl : Nat), ai_fd (ai_cd M) pc = some i → ai_ret M i st h cs sl = some (rv, h') → ai_K p l e s m args below meth c Q M G pc L st h cs sl) → ai_K p l e s m args below meth c Q M G pc L st h cs sl := by
  intro n
  induction n with
  | zero => intro M pc L st h cs sl rv h' hrun; simp [ai_run] at hrun
  | succ n ih =>
    intro M pc L st h cs sl rv h' hrun p e s m args below meth c Q C hret
    rw [ai_run] at hrun
    split at hrun
    · cases hrun
    · rename_i i hi
      split at hrun
      · split at hrun
        · exact hret i pc L st h cs sl hi hrun
        · split at hrun
          · cases hrun
          · rename_i q hq
            obtain ⟨pc', L', st', h1, cs', sl'⟩ := q
            exact ai_step_ok C hi hq (ih M _ _ _ _ _ _ rv h' hrun C hret)
      · rename_i k hk
        obtain ⟨kb, k⟩ := k
        split at hrun
        · rename_i w hw
          obtain ⟨w, wi⟩ := w
          split at hrun
          · cases hrun
          · rename_i q hq
            obtain ⟨st', h1⟩ := q
            exact ai_nat_ok C hi hk hw hq (ih M _ _ _ _ _ _ rv h' hrun C hret)
        · split at hrun
          · cases hrun
          · rename_i w hw
            split at hrun
            · cases hrun
            · rename_i q hq
              obtain ⟨as, rest⟩ := q
              split at hrun
              · cases hrun
              · rename_i z hz
                obtain ⟨r1, h1⟩ := z
                have hm := ai_by_mem hw
                have ok := hca _ _ hm
                have hf := List.all_eq_true.mp (ai_caK (ai_cl M)) _ hm
                have hcn : ai_cn (ai_cl w.2.2.1) = ai_own w.2.2.1 := by
                  unfold ai_okK at hf
                  simp only [Bool.and_eq_true, decide_eq_true_eq] at hf
                  exact hf.1.1.2
                exact ai_call_ok C hi hk hw ok hq (fun hlen => ai_met_of ok hcn hlen (fun C2 hr2 => ih w.2.2.1 0 _ [] h 0 0 r1 h1 hz C2 hr2)) (ih M _ _ _ _ _ _ rv h' hrun C hret)
