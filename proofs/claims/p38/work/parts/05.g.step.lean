/-! one step -/
section AIS
variable {p : Program} {l : Launch} {e : Env} {s : State} {m : MethodId} {args : Array Value} {below : List Frame} {meth : Method} {c : Code} {Q : State → Prop} {M : ai_M} {G : ai_G} {X : List (List Int32)} {H : Heap} {locs : List Loc} {ls : Array Slot} {pc pc' : Nat} {L L' : ai_L} {st st' r : List Value} {h h' : ai_H} {cs sl cs' sl' : Nat}

set_option maxHeartbeats 4000000 in
theorem ai_step_ok (C : ai_C p s m args meth c M G X) {i : Instr} (hi : ai_fd (ai_cd M) pc = some i) (hs : ai_step X M i pc L st h cs sl = some (pc', L', st', h', cs', sl')) (kk : ai_K p l e s m args below meth c Q M G pc' L' st' h' cs' sl') : ai_K p l e s m args below meth c Q M G pc L st h cs sl := by
  intro ls H locs hN hP hS hL
  obtain ⟨hx, hb, hr, hml, hown, hts, hlk, hini, hE, hbs, hok, hcn⟩ := id C
  obtain ⟨n0, hd0, -⟩ := ai_dec hok hi
  have hd := ai_decN hok hi
  cases i with
  | iconst k =>
    simp only [ai_step] at hs
    simp only [Option.some.injEq, Prod.mk.injEq] at hs
    obtain ⟨rfl, rfl, rfl, rfl, rfl, rfl⟩ := hs
    exact lv_iconst hx hb (hd rfl) rfl (kk ls H locs hN hP hS hL)
  | bipush k =>
    simp only [ai_step] at hs
    simp only [Option.some.injEq, Prod.mk.injEq] at hs
    obtain ⟨rfl, rfl, rfl, rfl, rfl, rfl⟩ := hs
    exact lv_bipush hx hb (hd rfl) rfl (kk ls H locs hN hP hS hL)
  | sipush k =>
    simp only [ai_step] at hs
    simp only [Option.some.injEq, Prod.mk.injEq] at hs
    obtain ⟨rfl, rfl, rfl, rfl, rfl, rfl⟩ := hs
    exact lv_sipush hx hb (hd rfl) rfl (kk ls H locs hN hP hS hL)
  | lconst k =>
    simp only [ai_step] at hs
    simp only [Option.some.injEq, Prod.mk.injEq] at hs
    obtain ⟨rfl, rfl, rfl, rfl, rfl, rfl⟩ := hs
    exact lv_lconst hx hb (hd rfl) rfl (kk ls H locs hN hP hS hL)
  | iload_n k =>
    simp only [ai_step] at hs
    split at hs
    · rename_i x hq
      simp only [Option.some.injEq, Prod.mk.injEq] at hs
      obtain ⟨rfl, rfl, rfl, rfl, rfl, rfl⟩ := hs
      exact lv_iload_n hx hb (hd rfl) rfl (ai_lo_at hL hq) (kk ls H locs hN hP hS hL)
    · cases hs
  | iload k =>
    simp only [ai_step] at hs
    split at hs
    · rename_i x hq
      simp only [Option.some.injEq, Prod.mk.injEq] at hs
      obtain ⟨rfl, rfl, rfl, rfl, rfl, rfl⟩ := hs
      exact lv_iload hx hb (hd rfl) (ai_lo_at hL hq) (kk ls H locs hN hP hS hL)
    · cases hs
  | lload_n k =>
    simp only [ai_step] at hs
    split at hs
    · rename_i x hq
      simp only [Option.some.injEq, Prod.mk.injEq] at hs
      obtain ⟨rfl, rfl, rfl, rfl, rfl, rfl⟩ := hs
      exact lv_lload_n hx hb (hd rfl) rfl (ai_lo_at hL hq) (kk ls H locs hN hP hS hL)
    · cases hs
  | lload k =>
    simp only [ai_step] at hs
    split at hs
    · rename_i x hq
      simp only [Option.some.injEq, Prod.mk.injEq] at hs
      obtain ⟨rfl, rfl, rfl, rfl, rfl, rfl⟩ := hs
      exact lv_lload hx hb (hd rfl) (ai_lo_at hL hq) (kk ls H locs hN hP hS hL)
    · cases hs
  | aload_n k =>
    simp only [ai_step] at hs
    split at hs
    · rename_i x hq
      simp only [Option.some.injEq, Prod.mk.injEq] at hs
      obtain ⟨rfl, rfl, rfl, rfl, rfl, rfl⟩ := hs
      exact lv_aload_n hx hb (hd rfl) rfl (ai_lo_at hL hq) (kk ls H locs hN hP hS hL)
    · rename_i x hq
      simp only [Option.some.injEq, Prod.mk.injEq] at hs
      obtain ⟨rfl, rfl, rfl, rfl, rfl, rfl⟩ := hs
      exact lv_aload_n hx hb (hd rfl) rfl (ai_lo_at hL hq) (kk ls H locs hN hP hS hL)
    · cases hs
  | aload k =>
    simp only [ai_step] at hs
    split at hs
    · rename_i x hq
      simp only [Option.some.injEq, Prod.mk.injEq] at hs
      obtain ⟨rfl, rfl, rfl, rfl, rfl, rfl⟩ := hs
      exact lv_aload hx hb (hd rfl) (ai_lo_at hL hq) (kk ls H locs hN hP hS hL)
    · rename_i x hq
      simp only [Option.some.injEq, Prod.mk.injEq] at hs
      obtain ⟨rfl, rfl, rfl, rfl, rfl, rfl⟩ := hs
      exact lv_aload hx hb (hd rfl) (ai_lo_at hL hq) (kk ls H locs hN hP hS hL)
    · cases hs
  | istore_n k =>
    simp only [ai_step] at hs
    split at hs
    · rename_i x r
      split at hs
      · rename_i hq
        simp only [Option.some.injEq, Prod.mk.injEq] at hs
        obtain ⟨rfl, rfl, rfl, rfl, rfl, rfl⟩ := hs
        exact lv_istore_n hx hb (hd rfl) rfl hL.2 (by rw [← hL.1]; exact Nat.le_of_ble_eq_true hq) rfl (fun ls2 hl2 => kk ls2 H locs hN hP hS (ai_I_s1 hL.1 hl2))
      · cases hs
    · cases hs
  | istore k =>
    simp only [ai_step] at hs
    split at hs
    · rename_i x r
      split at hs
      · rename_i hq
        simp only [Option.some.injEq, Prod.mk.injEq] at hs
        obtain ⟨rfl, rfl, rfl, rfl, rfl, rfl⟩ := hs
        exact lv_istore hx hb (hd rfl) hL.2 (by rw [← hL.1]; exact Nat.le_of_ble_eq_true hq) rfl (fun ls2 hl2 => kk ls2 H locs hN hP hS (ai_I_s1 hL.1 hl2))
      · cases hs
    · cases hs
  | astore_n k =>
    simp only [ai_step] at hs
    split at hs
    · rename_i x r
      split at hs
      · rename_i hq
        simp only [Option.some.injEq, Prod.mk.injEq] at hs
        obtain ⟨rfl, rfl, rfl, rfl, rfl, rfl⟩ := hs
        exact lv_astore_n hx hb (hd rfl) rfl hL.2 (by rw [← hL.1]; exact Nat.le_of_ble_eq_true hq) rfl (fun ls2 hl2 => kk ls2 H locs hN hP hS (ai_I_s1 hL.1 hl2))
      · cases hs
    · cases hs
  | astore k =>
    simp only [ai_step] at hs
    split at hs
    · rename_i x r
      split at hs
      · rename_i hq
        simp only [Option.some.injEq, Prod.mk.injEq] at hs
        obtain ⟨rfl, rfl, rfl, rfl, rfl, rfl⟩ := hs
        exact lv_astore hx hb (hd rfl) hL.2 (by rw [← hL.1]; exact Nat.le_of_ble_eq_true hq) rfl (fun ls2 hl2 => kk ls2 H locs hN hP hS (ai_I_s1 hL.1 hl2))
      · cases hs
    · cases hs
  | lstore_n k =>
    simp only [ai_step] at hs
    split at hs
    · rename_i x r
      split at hs
      · rename_i hq
        simp only [Option.some.injEq, Prod.mk.injEq] at hs
        obtain ⟨rfl, rfl, rfl, rfl, rfl, rfl⟩ := hs
        exact lv_lstore_n hx hb (hd rfl) rfl hL.2 (by rw [← hL.1]; exact Nat.le_of_ble_eq_true hq) rfl (fun ls2 hl2 => kk ls2 H locs hN hP hS (ai_I_s2 hL.1 hl2))
      · cases hs
    · cases hs
  | lstore k =>
    simp only [ai_step] at hs
    split at hs
    · rename_i x r
      split at hs
      · rename_i hq
        simp only [Option.some.injEq, Prod.mk.injEq] at hs
        obtain ⟨rfl, rfl, rfl, rfl, rfl, rfl⟩ := hs
        exact lv_lstore hx hb (hd rfl) hL.2 (by rw [← hL.1]; exact Nat.le_of_ble_eq_true hq) rfl (fun ls2 hl2 => kk ls2 H locs hN hP hS (ai_I_s2 hL.1 hl2))
      · cases hs
    · cases hs
  | iinc k d =>
    simp only [ai_step] at hs
    split at hs
    · rename_i x hq
      split at hs
      · rename_i hq2
        obtain ⟨k9, hk9⟩ := List.getElem?_of_mem (ai_lo_mem (G := G) hq)
        simp only [Option.some.injEq, Prod.mk.injEq] at hs
        obtain ⟨rfl, rfl, rfl, rfl, rfl, rfl⟩ := hs
        exact lv_iinc hx hb (hd rfl) hL.2 hk9 rfl (by rw [← hL.1]; exact Nat.le_of_ble_eq_true hq2) rfl (fun ls2 hl2 => kk ls2 H locs hN hP hS (ai_I_s1 hL.1 hl2))
      · cases hs
    · cases hs
  | iadd =>
    simp only [ai_step] at hs
    split at hs
    · rename_i y x r
      simp only [Option.some.injEq, Prod.mk.injEq] at hs
      obtain ⟨rfl, rfl, rfl, rfl, rfl, rfl⟩ := hs
      exact lv_iadd hx hb (hd rfl) (kk ls H locs hN hP hS hL)
    · cases hs
  | isub =>
    simp only [ai_step] at hs
    split at hs
    · rename_i y x r
      simp only [Option.some.injEq, Prod.mk.injEq] at hs
      obtain ⟨rfl, rfl, rfl, rfl, rfl, rfl⟩ := hs
      exact lv_isub hx hb (hd rfl) (kk ls H locs hN hP hS hL)
    · cases hs
  | imul =>
    simp only [ai_step] at hs
    split at hs
    · rename_i y x r
      simp only [Option.some.injEq, Prod.mk.injEq] at hs
      obtain ⟨rfl, rfl, rfl, rfl, rfl, rfl⟩ := hs
      exact lv_imul hx hb (hd rfl) (kk ls H locs hN hP hS hL)
    · cases hs
  | iand =>
    simp only [ai_step] at hs
    split at hs
    · rename_i y x r
      simp only [Option.some.injEq, Prod.mk.injEq] at hs
      obtain ⟨rfl, rfl, rfl, rfl, rfl, rfl⟩ := hs
      exact lv_iand hx hb (hd rfl) (kk ls H locs hN hP hS hL)
    · cases hs
  | ior =>
    simp only [ai_step] at hs
    split at hs
    · rename_i y x r
      simp only [Option.some.injEq, Prod.mk.injEq] at hs
      obtain ⟨rfl, rfl, rfl, rfl, rfl, rfl⟩ := hs
      exact lv_ior hx hb (hd rfl) (kk ls H locs hN hP hS hL)
    · cases hs
  | ixor =>
    simp only [ai_step] at hs
    split at hs
    · rename_i y x r
      simp only [Option.some.injEq, Prod.mk.injEq] at hs
      obtain ⟨rfl, rfl, rfl, rfl, rfl, rfl⟩ := hs
      exact lv_ixor hx hb (hd rfl) (kk ls H locs hN hP hS hL)
    · cases hs
  | ishl =>
    simp only [ai_step] at hs
    split at hs
    · rename_i y x r
      simp only [Option.some.injEq, Prod.mk.injEq] at hs
      obtain ⟨rfl, rfl, rfl, rfl, rfl, rfl⟩ := hs
      exact lv_ishl hx hb (hd rfl) (kk ls H locs hN hP hS hL)
    · cases hs
  | ishr =>
    simp only [ai_step] at hs
    split at hs
    · rename_i y x r
      simp only [Option.some.injEq, Prod.mk.injEq] at hs
      obtain ⟨rfl, rfl, rfl, rfl, rfl, rfl⟩ := hs
      exact lv_ishr hx hb (hd rfl) (kk ls H locs hN hP hS hL)
    · cases hs
  | iushr =>
    simp only [ai_step] at hs
    split at hs
    · rename_i y x r
      simp only [Option.some.injEq, Prod.mk.injEq] at hs
      obtain ⟨rfl, rfl, rfl, rfl, rfl, rfl⟩ := hs
      exact lv_iushr hx hb (hd rfl) rfl (kk ls H locs hN hP hS hL)
    · cases hs
  | ladd =>
    simp only [ai_step] at hs
    split at hs
    · rename_i y x r
      simp only [Option.some.injEq, Prod.mk.injEq] at hs
      obtain ⟨rfl, rfl, rfl, rfl, rfl, rfl⟩ := hs
      exact lv_ladd hx hb (hd rfl) (kk ls H locs hN hP hS hL)
    · cases hs
  | lsub =>
    simp only [ai_step] at hs
    split at hs
    · rename_i y x r
      simp only [Option.some.injEq, Prod.mk.injEq] at hs
      obtain ⟨rfl, rfl, rfl, rfl, rfl, rfl⟩ := hs
      exact lv_lsub hx hb (hd rfl) (kk ls H locs hN hP hS hL)
    · cases hs
  | lmul =>
    simp only [ai_step] at hs
    split at hs
    · rename_i y x r
      simp only [Option.some.injEq, Prod.mk.injEq] at hs
      obtain ⟨rfl, rfl, rfl, rfl, rfl, rfl⟩ := hs
      exact lv_lmul hx hb (hd rfl) (kk ls H locs hN hP hS hL)
    · cases hs
  | idiv =>
    simp only [ai_step] at hs
    split at hs
    · rename_i y x r
      split at hs
      · cases hs
      · rename_i hne
        simp only [Option.some.injEq, Prod.mk.injEq] at hs
        obtain ⟨rfl, rfl, rfl, rfl, rfl, rfl⟩ := hs
        exact lv_idiv hx hb (hd rfl) hne (kk ls H locs hN hP hS hL)
    · cases hs
  | irem =>
    simp only [ai_step] at hs
    split at hs
    · rename_i y x r
      split at hs
      · cases hs
      · rename_i hne
        simp only [Option.some.injEq, Prod.mk.injEq] at hs
        obtain ⟨rfl, rfl, rfl, rfl, rfl, rfl⟩ := hs
        exact lv_irem hx hb (hd rfl) hne (kk ls H locs hN hP hS hL)
    · cases hs
  | ldiv =>
    simp only [ai_step] at hs
    split at hs
    · rename_i y x r
      split at hs
      · cases hs
      · rename_i hne
        simp only [Option.some.injEq, Prod.mk.injEq] at hs
        obtain ⟨rfl, rfl, rfl, rfl, rfl, rfl⟩ := hs
        exact lv_ldiv hx hb (hd rfl) hne (kk ls H locs hN hP hS hL)
    · cases hs
  | lrem =>
    simp only [ai_step] at hs
    split at hs
    · rename_i y x r
      split at hs
      · cases hs
      · rename_i hne
        simp only [Option.some.injEq, Prod.mk.injEq] at hs
        obtain ⟨rfl, rfl, rfl, rfl, rfl, rfl⟩ := hs
        exact lv_lrem hx hb (hd rfl) hne (kk ls H locs hN hP hS hL)
    · cases hs
  | ineg =>
    simp only [ai_step] at hs
    split at hs
    · rename_i x r
      simp only [Option.some.injEq, Prod.mk.injEq] at hs
      obtain ⟨rfl, rfl, rfl, rfl, rfl, rfl⟩ := hs
      exact lv_ineg hx hb (hd rfl) (kk ls H locs hN hP hS hL)
    · cases hs
  | i2l =>
    simp only [ai_step] at hs
    split at hs
    · rename_i x r
      simp only [Option.some.injEq, Prod.mk.injEq] at hs
      obtain ⟨rfl, rfl, rfl, rfl, rfl, rfl⟩ := hs
      exact lv_i2l hx hb (hd rfl) rfl (kk ls H locs hN hP hS hL)
    · cases hs
  | lcmp =>
    simp only [ai_step] at hs
    split at hs
    · rename_i y x r
      simp only [Option.some.injEq, Prod.mk.injEq] at hs
      obtain ⟨rfl, rfl, rfl, rfl, rfl, rfl⟩ := hs
      exact W.lcmp hx hb (hd rfl) (kk ls H locs hN hP hS hL)
    · cases hs
  | dup =>
    simp only [ai_step] at hs
    split at hs
    · rename_i v r
      split at hs
      · rename_i hc
        simp only [Option.some.injEq, Prod.mk.injEq] at hs
        obtain ⟨rfl, rfl, rfl, rfl, rfl, rfl⟩ := hs
        exact lv_dup hx hb (hd rfl) (by rw [ai_v_cat]; exact hc) (kk ls H locs hN hP hS hL)
      · cases hs
    · cases hs
  | pop =>
    simp only [ai_step] at hs
    split at hs
    · rename_i v r
      split at hs
      · rename_i hc
        simp only [Option.some.injEq, Prod.mk.injEq] at hs
        obtain ⟨rfl, rfl, rfl, rfl, rfl, rfl⟩ := hs
        exact lv_pop hx hb (hd rfl) (by rw [ai_v_cat]; exact hc) (kk ls H locs hN hP hS hL)
      · cases hs
    · cases hs
  | pop2 =>
    simp only [ai_step] at hs
    split at hs
    · rename_i v r
      split at hs
      · rename_i hc
        simp only [Option.some.injEq, Prod.mk.injEq] at hs
        obtain ⟨rfl, rfl, rfl, rfl, rfl, rfl⟩ := hs
        exact lv_pop2_2 hx hb (hd rfl) (by rw [ai_v_cat]; exact hc) (kk ls H locs hN hP hS hL)
      · cases hs
    · cases hs
  | dup_x1 =>
    simp only [ai_step] at hs
    split at hs
    · rename_i v w r
      split at hs
      · rename_i hc
        split at hs
        · rename_i hc2
          simp only [Option.some.injEq, Prod.mk.injEq] at hs
          obtain ⟨rfl, rfl, rfl, rfl, rfl, rfl⟩ := hs
          exact lv_dup_x1 hx hb (hd rfl) (by rw [ai_v_cat]; exact hc) (by rw [ai_v_cat]; exact hc2) (kk ls H locs hN hP hS hL)
        · cases hs
      · cases hs
    · cases hs
  | dup2 =>
    simp only [ai_step] at hs
    split at hs
    · rename_i v w r
      split at hs
      · rename_i hc
        split at hs
        · rename_i hc2
          simp only [Option.some.injEq, Prod.mk.injEq] at hs
          obtain ⟨rfl, rfl, rfl, rfl, rfl, rfl⟩ := hs
          exact lv_dup2_11 hx hb (hd rfl) (by rw [ai_v_cat]; exact hc) (by rw [ai_v_cat]; exact hc2) (kk ls H locs hN hP hS hL)
        · cases hs
      · cases hs
    · cases hs
  | goto off =>
    simp only [ai_step] at hs
    split at hs
    · rename_i t ht
      simp only [Option.some.injEq, Prod.mk.injEq] at hs
      obtain ⟨rfl, rfl, rfl, rfl, rfl, rfl⟩ := hs
      exact lv_goto hx hb (hd rfl) (ai_jp_ok ht) (kk ls H locs hN hP hS hL)
    · cases hs
  | ifCond cnd off =>
    simp only [ai_step] at hs
    split at hs
    · rename_i x r
      split at hs
      · rename_i t ht
        have ht := ai_jp_ok ht
        cases cnd
        · simp only [ai_br] at hs
          split at hs
          · rename_i hq
            simp only [Option.some.injEq, Prod.mk.injEq] at hs
            obtain ⟨rfl, rfl, rfl, rfl, rfl, rfl⟩ := hs
            exact lv_if_eq hx hb (hd rfl) ht (fun _ => kk ls H locs hN hP hS hL) (fun c9 => absurd hq c9)
          · rename_i hq
            simp only [Option.some.injEq, Prod.mk.injEq] at hs
            obtain ⟨rfl, rfl, rfl, rfl, rfl, rfl⟩ := hs
            exact lv_if_eq hx hb (hd rfl) ht (fun c9 => absurd c9 hq) (fun _ => kk ls H locs hN hP hS hL)
        · simp only [ai_br] at hs
          split at hs
          · rename_i hq
            simp only [Option.some.injEq, Prod.mk.injEq] at hs
            obtain ⟨rfl, rfl, rfl, rfl, rfl, rfl⟩ := hs
            exact lv_if_ne hx hb (hd rfl) ht (fun c9 => absurd hq c9) (fun _ => kk ls H locs hN hP hS hL)
          · rename_i hq
            simp only [Option.some.injEq, Prod.mk.injEq] at hs
            obtain ⟨rfl, rfl, rfl, rfl, rfl, rfl⟩ := hs
            exact lv_if_ne hx hb (hd rfl) ht (fun _ => kk ls H locs hN hP hS hL) (fun c9 => absurd c9 hq)
        · simp only [ai_br] at hs
          split at hs
          · rename_i hq
            simp only [Option.some.injEq, Prod.mk.injEq] at hs
            obtain ⟨rfl, rfl, rfl, rfl, rfl, rfl⟩ := hs
            exact lv_if_lt hx hb (hd rfl) ht (fun _ => kk ls H locs hN hP hS hL) (fun c9 => absurd hq c9)
          · rename_i hq
            simp only [Option.some.injEq, Prod.mk.injEq] at hs
            obtain ⟨rfl, rfl, rfl, rfl, rfl, rfl⟩ := hs
            exact lv_if_lt hx hb (hd rfl) ht (fun c9 => absurd c9 hq) (fun _ => kk ls H locs hN hP hS hL)
        · simp only [ai_br] at hs
          split at hs
          · rename_i hq
            simp only [Option.some.injEq, Prod.mk.injEq] at hs
            obtain ⟨rfl, rfl, rfl, rfl, rfl, rfl⟩ := hs
            exact lv_if_ge hx hb (hd rfl) ht (fun _ => kk ls H locs hN hP hS hL) (fun c9 => absurd hq c9)
          · rename_i hq
            simp only [Option.some.injEq, Prod.mk.injEq] at hs
            obtain ⟨rfl, rfl, rfl, rfl, rfl, rfl⟩ := hs
            exact lv_if_ge hx hb (hd rfl) ht (fun c9 => absurd c9 hq) (fun _ => kk ls H locs hN hP hS hL)
        · simp only [ai_br] at hs
          split at hs
          · rename_i hq
            simp only [Option.some.injEq, Prod.mk.injEq] at hs
            obtain ⟨rfl, rfl, rfl, rfl, rfl, rfl⟩ := hs
            exact lv_if_gt hx hb (hd rfl) ht (fun _ => kk ls H locs hN hP hS hL) (fun c9 => absurd hq c9)
          · rename_i hq
            simp only [Option.some.injEq, Prod.mk.injEq] at hs
            obtain ⟨rfl, rfl, rfl, rfl, rfl, rfl⟩ := hs
            exact lv_if_gt hx hb (hd rfl) ht (fun c9 => absurd c9 hq) (fun _ => kk ls H locs hN hP hS hL)
        · simp only [ai_br] at hs
          split at hs
          · rename_i hq
            simp only [Option.some.injEq, Prod.mk.injEq] at hs
            obtain ⟨rfl, rfl, rfl, rfl, rfl, rfl⟩ := hs
            exact lv_if_le hx hb (hd rfl) ht (fun _ => kk ls H locs hN hP hS hL) (fun c9 => absurd hq c9)
          · rename_i hq
            simp only [Option.some.injEq, Prod.mk.injEq] at hs
            obtain ⟨rfl, rfl, rfl, rfl, rfl, rfl⟩ := hs
            exact lv_if_le hx hb (hd rfl) ht (fun c9 => absurd c9 hq) (fun _ => kk ls H locs hN hP hS hL)
      · cases hs
    · cases hs
  | if_icmp cnd off =>
    simp only [ai_step] at hs
    split at hs
    · rename_i y x r
      split at hs
      · rename_i t ht
        have ht := ai_jp_ok ht
        cases cnd
        · simp only [ai_br] at hs
          split at hs
          · rename_i hq
            simp only [Option.some.injEq, Prod.mk.injEq] at hs
            obtain ⟨rfl, rfl, rfl, rfl, rfl, rfl⟩ := hs
            exact lv_icmp_eq hx hb (hd rfl) ht (fun _ => kk ls H locs hN hP hS hL) (fun c9 => absurd hq c9)
          · rename_i hq
            simp only [Option.some.injEq, Prod.mk.injEq] at hs
            obtain ⟨rfl, rfl, rfl, rfl, rfl, rfl⟩ := hs
            exact lv_icmp_eq hx hb (hd rfl) ht (fun c9 => absurd c9 hq) (fun _ => kk ls H locs hN hP hS hL)
        · simp only [ai_br] at hs
          split at hs
          · rename_i hq
            simp only [Option.some.injEq, Prod.mk.injEq] at hs
            obtain ⟨rfl, rfl, rfl, rfl, rfl, rfl⟩ := hs
            exact lv_icmp_ne hx hb (hd rfl) ht (fun c9 => absurd hq c9) (fun _ => kk ls H locs hN hP hS hL)
          · rename_i hq
            simp only [Option.some.injEq, Prod.mk.injEq] at hs
            obtain ⟨rfl, rfl, rfl, rfl, rfl, rfl⟩ := hs
            exact lv_icmp_ne hx hb (hd rfl) ht (fun _ => kk ls H locs hN hP hS hL) (fun c9 => absurd c9 hq)
        · simp only [ai_br] at hs
          split at hs
          · rename_i hq
            simp only [Option.some.injEq, Prod.mk.injEq] at hs
            obtain ⟨rfl, rfl, rfl, rfl, rfl, rfl⟩ := hs
            exact lv_icmp_lt hx hb (hd rfl) ht (fun _ => kk ls H locs hN hP hS hL) (fun c9 => absurd hq c9)
          · rename_i hq
            simp only [Option.some.injEq, Prod.mk.injEq] at hs
            obtain ⟨rfl, rfl, rfl, rfl, rfl, rfl⟩ := hs
            exact lv_icmp_lt hx hb (hd rfl) ht (fun c9 => absurd c9 hq) (fun _ => kk ls H locs hN hP hS hL)
        · simp only [ai_br] at hs
          split at hs
          · rename_i hq
            simp only [Option.some.injEq, Prod.mk.injEq] at hs
            obtain ⟨rfl, rfl, rfl, rfl, rfl, rfl⟩ := hs
            exact lv_icmp_ge hx hb (hd rfl) ht (fun _ => kk ls H locs hN hP hS hL) (fun c9 => absurd hq c9)
          · rename_i hq
            simp only [Option.some.injEq, Prod.mk.injEq] at hs
            obtain ⟨rfl, rfl, rfl, rfl, rfl, rfl⟩ := hs
            exact lv_icmp_ge hx hb (hd rfl) ht (fun c9 => absurd c9 hq) (fun _ => kk ls H locs hN hP hS hL)
        · simp only [ai_br] at hs
          split at hs
          · rename_i hq
            simp only [Option.some.injEq, Prod.mk.injEq] at hs
            obtain ⟨rfl, rfl, rfl, rfl, rfl, rfl⟩ := hs
            exact lv_icmp_gt hx hb (hd rfl) ht (fun _ => kk ls H locs hN hP hS hL) (fun c9 => absurd hq c9)
          · rename_i hq
            simp only [Option.some.injEq, Prod.mk.injEq] at hs
            obtain ⟨rfl, rfl, rfl, rfl, rfl, rfl⟩ := hs
            exact lv_icmp_gt hx hb (hd rfl) ht (fun c9 => absurd c9 hq) (fun _ => kk ls H locs hN hP hS hL)
        · simp only [ai_br] at hs
          split at hs
          · rename_i hq
            simp only [Option.some.injEq, Prod.mk.injEq] at hs
            obtain ⟨rfl, rfl, rfl, rfl, rfl, rfl⟩ := hs
            exact lv_icmp_le hx hb (hd rfl) ht (fun _ => kk ls H locs hN hP hS hL) (fun c9 => absurd hq c9)
          · rename_i hq
            simp only [Option.some.injEq, Prod.mk.injEq] at hs
            obtain ⟨rfl, rfl, rfl, rfl, rfl, rfl⟩ := hs
            exact lv_icmp_le hx hb (hd rfl) ht (fun c9 => absurd c9 hq) (fun _ => kk ls H locs hN hP hS hL)
      · cases hs
    · cases hs
  | tableswitch d lo hi offs =>
    simp only [ai_step] at hs
    split at hs
    · rename_i x r
      split at hs
      · rename_i hq
        split at hs
        · rename_i t ht
          simp only [Option.some.injEq, Prod.mk.injEq] at hs
          obtain ⟨rfl, rfl, rfl, rfl, rfl, rfl⟩ := hs
          exact lv_tableOut hx hb hd0 hq (ai_jp_ok ht) (kk ls H locs hN hP hS hL)
        · cases hs
      · rename_i hq
        split at hs
        · rename_i off ho
          split at hs
          · rename_i t ht
            simp only [Option.some.injEq, Prod.mk.injEq] at hs
            obtain ⟨rfl, rfl, rfl, rfl, rfl, rfl⟩ := hs
            exact lv_tableIn hx hb hd0 (fun q => hq (Or.inl q)) (fun q => hq (Or.inr q)) ho (ai_jp_ok ht) (kk ls H locs hN hP hS hL)
          · cases hs
        · cases hs
    · cases hs
  | ldc k =>
    simp only [ai_step] at hs
    split at hs
    · rename_i q hq
      have hf := List.all_eq_true.mp (ai_ciO (ai_cl M)) _ (ai_by_mem hq)
      unfold ai_okJ at hf
      rw [decide_eq_true_eq] at hf
      simp only [Option.some.injEq, Prod.mk.injEq] at hs
      obtain ⟨rfl, rfl, rfl, rfl, rfl, rfl⟩ := hs
      exact lv_ldc hx hb hown (hts _ (ai_gt_at (by rw [← hcn]; exact hf) rfl)) (hd rfl) (kk ls H locs hN hP hS hL)
    · split at hs
      · rename_i j hj
        simp only [Option.some.injEq, Prod.mk.injEq] at hs
        obtain ⟨rfl, rfl, rfl, rfl, rfl, rfl⟩ := hs
        have hf := List.all_eq_true.mp (ai_stK (ai_cl M)) _ (ai_by_mem hj)
        unfold ai_okS at hf
        simp only [Bool.and_eq_true, decide_eq_true_eq] at hf
        have hR := hE.2.2.1.2.2.1 j hf.1.1
        rw [hf.1.2] at hR
        exact va_ldcS hx hb (by rw [← hcn, hf.2] at hown; exact hown) hR (hd rfl) (kk ls H locs hN hP hS hL)
      · cases hs
  | ldc_w k =>
    simp only [ai_step] at hs
    split at hs
    · rename_i q hq
      have hf := List.all_eq_true.mp (ai_ciO (ai_cl M)) _ (ai_by_mem hq)
      unfold ai_okJ at hf
      rw [decide_eq_true_eq] at hf
      simp only [Option.some.injEq, Prod.mk.injEq] at hs
      obtain ⟨rfl, rfl, rfl, rfl, rfl, rfl⟩ := hs
      exact lv_ldcw hx hb hown (hts _ (ai_gt_at (by rw [← hcn]; exact hf) rfl)) (hd rfl) (kk ls H locs hN hP hS hL)
    · cases hs
  | ldc2_w k =>
    simp only [ai_step] at hs
    split at hs
    · rename_i q hq
      have hf := List.all_eq_true.mp (ai_clO (ai_cl M)) _ (ai_by_mem hq)
      unfold ai_okL at hf
      rw [decide_eq_true_eq] at hf
      simp only [Option.some.injEq, Prod.mk.injEq] at hs
      obtain ⟨rfl, rfl, rfl, rfl, rfl, rfl⟩ := hs
      exact lv_ldc2 hx hb hown (hts _ (ai_gt_at (by rw [← hcn]; exact hf) rfl)) (hd rfl) (kk ls H locs hN hP hS hL)
    · cases hs
  | getfield k =>
    simp only [ai_step] at hs
    split at hs
    · rename_i a r
      split at hs
      · rename_i q hq
        split at hs
        · rename_i o ho
          split at hs
          · rename_i hc
            split at hs
            · rename_i v hv
              simp only [Option.some.injEq, Prod.mk.injEq] at hs
              obtain ⟨rfl, rfl, rfl, rfl, rfl, rfl⟩ := hs
              exact ai_R_get C (hd rfl) hq ho hc hv hP (kk ls H locs hN hP hS hL)
            · cases hs
          · cases hs
        · cases hs
      · cases hs
    · cases hs
  | putfield k =>
    simp only [ai_step] at hs
    split at hs
    · rename_i v a r
      split at hs
      · rename_i q hq
        split at hs
        · rename_i o ho
          split at hs
          · rename_i hc
            simp only [Option.some.injEq, Prod.mk.injEq] at hs
            obtain ⟨rfl, rfl, rfl, rfl, rfl, rfl⟩ := hs
            exact ai_R_put C (hd rfl) hq ho hc hN hP hS (fun H2 locs2 hP2 hS2 => kk ls H2 locs2 (by rw [List.length_set]; exact hN) hP2 hS2 hL)
          · cases hs
        · cases hs
      · cases hs
    · cases hs
  | getstatic k =>
    simp only [ai_step] at hs
    split at hs
    · rename_i hq
      simp only [Option.some.injEq, Prod.mk.injEq] at hs
      obtain ⟨rfl, rfl, rfl, rfl, rfl, rfl⟩ := hs
      exact ai_R_gets C (hd rfl) hq hS (kk ls H locs hN hP hS hL)
    · cases hs
  | iaload =>
    simp only [ai_step] at hs
    split at hs
    · rename_i j a r
      split at hs
      · rename_i o ho
        obtain ⟨z, o⟩ := o
        cases z with
        | true => cases hs
        | false =>
          simp only at hs
          split at hs
          · rename_i x hq
            simp only [Option.some.injEq, Prod.mk.injEq] at hs
            obtain ⟨rfl, rfl, rfl, rfl, rfl, rfl⟩ := hs
            exact ai_R_iald C (hd rfl) ho hq hP (kk ls H locs hN hP hS hL)
          · cases hs
      · cases hs
    · rename_i j a r
      split at hs
      · rename_i o ho
        split at hs
        · rename_i x hq
          simp only [Option.some.injEq, Prod.mk.injEq] at hs
          obtain ⟨rfl, rfl, rfl, rfl, rfl, rfl⟩ := hs
          exact ai_R_xald C (hd rfl) ho hq hS (kk ls H locs hN hP hS hL)
        · cases hs
      · cases hs
    · cases hs
  | baload =>
    simp only [ai_step] at hs
    split at hs
    · rename_i j a r
      split at hs
      · rename_i o ho
        obtain ⟨z, o⟩ := o
        cases z with
        | false => cases hs
        | true =>
          simp only at hs
          split at hs
          · rename_i x hq
            simp only [Option.some.injEq, Prod.mk.injEq] at hs
            obtain ⟨rfl, rfl, rfl, rfl, rfl, rfl⟩ := hs
            exact ai_R_zald C (hd rfl) ho hq hP (kk ls H locs hN hP hS hL)
          · cases hs
      · cases hs
    · cases hs
  | iastore =>
    simp only [ai_step] at hs
    split at hs
    · rename_i x j a r
      split at hs
      · rename_i o ho
        obtain ⟨z, o⟩ := o
        cases z with
        | true => cases hs
        | false =>
          simp only at hs
          split at hs
          · rename_i q hq
            simp only [Option.some.injEq, Prod.mk.injEq] at hs
            obtain ⟨rfl, rfl, rfl, rfl, rfl, rfl⟩ := hs
            exact ai_R_iast C (hd rfl) ho hq hN hP hS (fun H2 locs2 hP2 hS2 => kk ls H2 locs2 (by rw [List.length_set]; exact hN) hP2 hS2 hL)
          · cases hs
      · cases hs
    · cases hs
  | bastore =>
    simp only [ai_step] at hs
    split at hs
    · rename_i x j a r
      split at hs
      · rename_i o ho
        obtain ⟨z, o⟩ := o
        cases z with
        | false => cases hs
        | true =>
          simp only at hs
          split at hs
          · rename_i q hq
            simp only [Option.some.injEq, Prod.mk.injEq] at hs
            obtain ⟨rfl, rfl, rfl, rfl, rfl, rfl⟩ := hs
            exact ai_R_zast C (hd rfl) ho hq hN hP hS (fun H2 locs2 hP2 hS2 => kk ls H2 locs2 (by rw [List.length_set]; exact hN) hP2 hS2 hL)
          · cases hs
      · cases hs
    · cases hs
  | arraylength =>
    simp only [ai_step] at hs
    split at hs
    · rename_i a r
      split at hs
      · rename_i o ho
        simp only [Option.some.injEq, Prod.mk.injEq] at hs
        obtain ⟨rfl, rfl, rfl, rfl, rfl, rfl⟩ := hs
        exact ai_R_alen C (hd rfl) ho hP (kk ls H locs hN hP hS hL)
      · cases hs
    · rename_i a r
      split at hs
      · rename_i o ho
        simp only [Option.some.injEq, Prod.mk.injEq] at hs
        obtain ⟨rfl, rfl, rfl, rfl, rfl, rfl⟩ := hs
        exact ai_R_xlen C (hd rfl) ho hS (kk ls H locs hN hP hS hL)
      · cases hs
    · cases hs
  | newarray t =>
    simp only [ai_step] at hs
    split at hs
    · rename_i n r
      split at hs
      · cases hs
      · rename_i hn
        split at hs
        · rename_i hc
          split at hs
          · simp only [Option.some.injEq, Prod.mk.injEq] at hs
            obtain ⟨rfl, rfl, rfl, rfl, rfl, rfl⟩ := hs
            exact ai_R_newa C (Or.inl ⟨rfl, rfl⟩) (hd rfl) hn hc hP hS (fun H2 hP2 hS2 => kk ls H2 locs (by rw [List.length_append, List.length_singleton]; omega) hP2 hS2 hL)
          · simp only [Option.some.injEq, Prod.mk.injEq] at hs
            obtain ⟨rfl, rfl, rfl, rfl, rfl, rfl⟩ := hs
            exact ai_R_newa C (Or.inr ⟨rfl, rfl⟩) (hd rfl) hn hc hP hS (fun H2 hP2 hS2 => kk ls H2 locs (by rw [List.length_append, List.length_singleton]; omega) hP2 hS2 hL)
          · cases hs
        · cases hs
    · cases hs
  | new k =>
    simp only [ai_step] at hs
    split at hs
    · rename_i q hq
      split at hs
      · rename_i hc
        simp only [Option.some.injEq, Prod.mk.injEq] at hs
        obtain ⟨rfl, rfl, rfl, rfl, rfl, rfl⟩ := hs
        exact ai_R_new C (hd rfl) hq hc hP hS (fun H2 hP2 hS2 => kk ls H2 locs (by rw [List.length_append, List.length_singleton]; omega) hP2 hS2 hL)
      · cases hs
    · cases hs
  | _ => simp [ai_step] at hs
end AIS
