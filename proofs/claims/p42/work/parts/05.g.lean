/-! one step -/
section AIS
variable {p : Program} {l : Launch} {e : Env} {s : State} {m : MethodId} {args : Array Value} {below : List Frame} {meth : Method} {c : Code} {Q : State → Prop} {M : ai_M} {G : ai_G} {X : List (List Int32)} {H : Heap} {locs : List Loc} {ls : Array Slot} {pc pc' : Nat} {L L' : ai_L} {st st' r : List Value} {h h' : ai_H} {cs sl cs' sl' : Nat}

set_option maxHeartbeats 4000000 in
theorem ai_step_ok (C : ai_C p s m args meth c M G X) {i : Instr} (hi : ai_fd (ai_cd M) pc = some i) (hs : ai_step X M i pc L st h cs sl = some (pc', L', st', h', cs', sl')) (kk : ai_K p l e s m args below meth c Q M G pc' L' st' h' cs' sl') : ai_K p l e s m args below meth c Q M G pc L st h cs sl := by
  intro ls H locs hN hP hS hL
  obtain ⟨hx, hb, hr, hml, hown, hts, hlk, hini, hE, hbs, hok, hcn⟩ := id C
  obtain ⟨n0, hd0, -⟩ := ai_dec hok hi
  have hd := ai_decN hok hi
  cases i with
  | iconst k =>
    simp only [ai_step] at hs
    simp only [Option.some.injEq, Prod.mk.injEq] at hs
    obtain ⟨rfl, rfl, rfl, rfl, rfl, rfl⟩ := hs
    exact lv_iconst hx hb (hd rfl) rfl (kk ls H locs hN hP hS hL)
  | bipush k =>
    simp only [ai_step] at hs
    simp only [Option.some.injEq, Prod.mk.injEq] at hs
    obtain ⟨rfl, rfl, rfl, rfl, rfl, rfl⟩ := hs
    exact lv_bipush hx hb (hd rfl) rfl (kk ls H locs hN hP hS hL)
  | sipush k =>
    simp only [ai_step] at hs
    simp only [Option.some.injEq, Prod.mk.injEq] at hs
    obtain ⟨rfl, rfl, rfl, rfl, rfl, rfl⟩ := hs
    exact lv_sipush hx hb (hd rfl) rfl (kk ls H locs hN hP hS hL)
  | lconst k =>
    simp only [ai_step] at hs
    simp only [Option.some.injEq, Prod.mk.injEq] at hs
    obtain ⟨rfl, rfl, rfl, rfl, rfl, rfl⟩ := hs
    exact lv_lconst hx hb (hd rfl) rfl (kk ls H locs hN hP hS hL)
  | iload_n k =>
    simp only [ai_step] at hs
    split at hs
    · rename_i x hq
      simp only [Option.some.injEq, Prod.mk.injEq] at hs
      obtain ⟨rfl, rfl, rfl, rfl, rfl, rfl⟩ := hs
      exact lv_iload_n hx hb (hd rfl) rfl (ai_lo_at hL hq) (kk ls H locs hN hP hS hL)
    · cases hs
  | iload k =>
    simp only [ai_step] at hs
    split at hs
    · rename_i x hq
      simp only [Option.some.injEq, Prod.mk.injEq] at hs
      obtain ⟨rfl, rfl, rfl, rfl, rfl, rfl⟩ := hs
      exact lv_iload hx hb (hd rfl) (ai_lo_at hL hq) (kk ls H locs hN hP hS hL)
    · cases hs
  | lload_n k =>
    simp only [ai_step] at hs
    split at hs
    · rename_i x hq
      simp only [Option.some.injEq, Prod.mk.injEq] at hs
      obtain ⟨rfl, rfl, rfl, rfl, rfl, rfl⟩ := hs
      exact lv_lload_n hx hb (hd rfl) rfl (ai_lo_at hL hq) (kk ls H locs hN hP hS hL)
    · cases hs
  | lload k =>
    simp only [ai_step] at hs
    split at hs
    · rename_i x hq
      simp only [Option.some.injEq, Prod.mk.injEq] at hs
      obtain ⟨rfl, rfl, rfl, rfl, rfl, rfl⟩ := hs
      exact lv_lload hx hb (hd rfl) (ai_lo_at hL hq) (kk ls H locs hN hP hS hL)
    · cases hs
  | aload_n k =>
    simp only [ai_step] at hs
    split at hs
    · rename_i x hq
      simp only [Option.some.injEq, Prod.mk.injEq] at hs
      obtain ⟨rfl, rfl, rfl, rfl, rfl, rfl⟩ := hs
      exact lv_aload_n hx hb (hd rfl) rfl (ai_lo_at hL hq) (kk ls H locs hN hP hS hL)
    · rename_i x hq
      simp only [Option.some.injEq, Prod.mk.injEq] at hs
      obtain ⟨rfl, rfl, rfl, rfl, rfl, rfl⟩ := hs
      exact lv_aload_n hx hb (hd rfl) rfl (ai_lo_at hL hq) (kk ls H locs hN hP hS hL)
    · cases hs
  | aload k =>
    simp only [ai_step] at hs
    split at hs
    · rename_i x hq
      simp only [Option.some.injEq, Prod.mk.injEq] at hs
      obtain ⟨rfl, rfl, rfl, rfl, rfl, rfl⟩ := hs
      exact lv_aload hx hb (hd rfl) (ai_lo_at hL hq) (kk ls H locs hN hP hS hL)
    · rename_i x hq
      simp only [Option.some.injEq, Prod.mk.injEq] at hs
      obtain ⟨rfl, rfl, rfl, rfl, rfl, rfl⟩ := hs
      exact lv_aload hx hb (hd rfl) (ai_lo_at hL hq) (kk ls H locs hN hP hS hL)
    · cases hs
  | istore_n k =>
    simp only [ai_step] at hs
    split at hs
    · rename_i x r
      split at hs
      · rename_i hq
        simp only [Option.some.injEq, Prod.mk.injEq] at hs
        obtain ⟨rfl, rfl, rfl, rfl, rfl, rfl⟩ := hs
        exact lv_istore_n hx hb (hd rfl) rfl hL.2 (by rw [← hL.1]; exact Nat.le_of_ble_eq_true hq) rfl (fun ls2 hl2 => kk ls2 H locs hN hP hS (ai_I_s1 hL.1 hl2))
      · cases hs
    · cases hs
  | istore k =>
    simp only [ai_step] at hs
    split at hs
    · rename_i x r
      split at hs
      · rename_i hq
        simp only [Option.some.injEq, Prod.mk.injEq] at hs
        obtain ⟨rfl, rfl, rfl, rfl, rfl, rfl⟩ := hs
        exact lv_istore hx hb (hd rfl) hL.2 (by rw [← hL.1]; exact Nat.le_of_ble_eq_true hq) rfl (fun ls2 hl2 => kk ls2 H locs hN hP hS (ai_I_s1 hL.1 hl2))
      · cases hs
    · cases hs
  | astore_n k =>
    simp only [ai_step] at hs
    split at hs
    · rename_i x r
      split at hs
      · rename_i hq
        simp only [Option.some.injEq, Prod.mk.injEq] at hs
        obtain ⟨rfl, rfl, rfl, rfl, rfl, rfl⟩ := hs
        exact lv_astore_n hx hb (hd rfl) rfl hL.2 (by rw [← hL.1]; exact Nat.le_of_ble_eq_true hq) rfl (fun ls2 hl2 => kk ls2 H locs hN hP hS (ai_I_s1 hL.1 hl2))
      · cases hs
    · cases hs
  | astore k =>
    simp only [ai_step] at hs
    split at hs
    · rename_i x r
      split at hs
      · rename_i hq
        simp only [Option.some.injEq, Prod.mk.injEq] at hs
        obtain ⟨rfl, rfl, rfl, rfl, rfl, rfl⟩ := hs
        exact lv_astore hx hb (hd rfl) hL.2 (by rw [← hL.1]; exact Nat.le_of_ble_eq_true hq) rfl (fun ls2 hl2 => kk ls2 H locs hN hP hS (ai_I_s1 hL.1 hl2))
      · cases hs
    · cases hs
  | lstore_n k =>
    simp only [ai_step] at hs
    split at hs
    · rename_i x r
      split at hs
      · rename_i hq
        simp only [Option.some.injEq, Prod.mk.injEq] at hs
        obtain ⟨rfl, rfl, rfl, rfl, rfl, rfl⟩ := hs
        exact lv_lstore_n hx hb (hd rfl) rfl hL.2 (by rw [← hL.1]; exact Nat.le_of_ble_eq_true hq) rfl (fun ls2 hl2 => kk ls2 H locs hN hP hS (ai_I_s2 hL.1 hl2))
      · cases hs
    · cases hs
  | lstore k =>
    simp only [ai_step] at hs
    split at hs
    · rename_i x r
      split at hs
      · rename_i hq
        simp only [Option.some.injEq, Prod.mk.injEq] at hs
        obtain ⟨rfl, rfl, rfl, rfl, rfl, rfl⟩ := hs
        exact lv_lstore hx hb (hd rfl) hL.2 (by rw [← hL.1]; exact Nat.le_of_ble_eq_true hq) rfl (fun ls2 hl2 => kk ls2 H locs hN hP hS (ai_I_s2 hL.1 hl2))
      · cases hs
    · cases hs
  | iinc k d =>
    simp only [ai_step] at hs
    split at hs
    · rename_i x hq
      split at hs
      · rename_i hq2
        obtain ⟨k9, hk9⟩ := List.getElem?_of_mem (ai_lo_mem (G := G) hq)
        simp only [Option.some.injEq, Prod.mk.injEq] at hs
        obtain ⟨rfl, rfl, rfl, rfl, rfl, rfl⟩ := hs
        exact lv_iinc hx hb (hd rfl) hL.2 hk9 rfl (by rw [← hL.1]; exact Nat.le_of_ble_eq_true hq2) rfl (fun ls2 hl2 => kk ls2 H locs hN hP hS (ai_I_s1 hL.1 hl2))
      · cases hs
    · cases hs
  | iadd =>
    simp only [ai_step] at hs
    split at hs
    · rename_i y x r
      simp only [Option.some.injEq, Prod.mk.injEq] at hs
      obtain ⟨rfl, rfl, rfl, rfl, rfl, rfl⟩ := hs
      exact lv_iadd hx hb (hd rfl) (kk ls H locs hN hP hS hL)
    · cases hs
  | isub =>
    simp only [ai_step] at hs
    split at hs
    · rename_i y x r
      simp only [Option.some.injEq, Prod.mk.injEq] at hs
      obtain ⟨rfl, rfl, rfl, rfl, rfl, rfl⟩ := hs
      exact lv_isub hx hb (hd rfl) (kk ls H locs hN hP hS hL)
    · cases hs
  | imul =>
    simp only [ai_step] at hs
    split at hs
    · rename_i y x r
      simp only [Option.some.injEq, Prod.mk.injEq] at hs
      obtain ⟨rfl, rfl, rfl, rfl, rfl, rfl⟩ := hs
      exact lv_imul hx hb (hd rfl) (kk ls H locs hN hP hS hL)
    · cases hs
  | iand =>
    simp only [ai_step] at hs
    split at hs
    · rename_i y x r
      simp only [Option.some.injEq, Prod.mk.injEq] at hs
      obtain ⟨rfl, rfl, rfl, rfl, rfl, rfl⟩ := hs
      exact lv_iand hx hb (hd rfl) (kk ls H locs hN hP hS hL)
    · cases hs
  | ior =>
    simp only [ai_step] at hs
    split at hs
    · rename_i y x r
      simp only [Option.some.injEq, Prod.mk.injEq] at hs
      obtain ⟨rfl, rfl, rfl, rfl, rfl, rfl⟩ := hs
      exact lv_ior hx hb (hd rfl) (kk ls H locs hN hP hS hL)
    · cases hs
  | ixor =>
    simp only [ai_step] at hs
    split at hs
    · rename_i y x r
      simp only [Option.some.injEq, Prod.mk.injEq] at hs
      obtain ⟨rfl, rfl, rfl, rfl, rfl, rfl⟩ := hs
      exact lv_ixor hx hb (hd rfl) (kk ls H locs hN hP hS hL)
    · cases hs
  | ishl =>
    simp only [ai_step] at hs
    split at hs
    · rename_i y x r
      simp only [Option.some.injEq, Prod.mk.injEq] at hs
      obtain ⟨rfl, rfl, rfl, rfl, rfl, rfl⟩ := hs
      exact lv_ishl hx hb (hd rfl) (kk ls H locs hN hP hS hL)
    · cases hs
  | ishr =>
    simp only [ai_step] at hs
    split at hs
    · rename_i y x r
      simp only [Option.some.injEq, Prod.mk.injEq] at hs
      obtain ⟨rfl, rfl, rfl, rfl, rfl, rfl⟩ := hs
      exact lv_ishr hx hb (hd rfl) (kk ls H locs hN hP hS hL)
    · cases hs
  | iushr =>
    simp only [ai_step] at hs
    split at hs
    · rename_i y x r
      simp only [Option.some.injEq, Prod.mk.injEq] at hs
      obtain ⟨rfl, rfl, rfl, rfl, rfl, rfl⟩ := hs
      exact lv_iushr hx hb (hd rfl) rfl (kk ls H locs hN hP hS hL)
    · cases hs
  | ladd =>
    simp only [ai_step] at hs
    split at hs
    · rename_i y x r
      simp only [Option.some.injEq, Prod.mk.injEq] at hs
      obtain ⟨rfl, rfl, rfl, rfl, rfl, rfl⟩ := hs
      exact lv_ladd hx hb (hd rfl) (kk ls H locs hN hP hS hL)
    · cases hs
  | lsub =>
    simp only [ai_step] at hs
    split at hs
    · rename_i y x r
      simp only [Option.some.injEq, Prod.mk.injEq] at hs
      obtain ⟨rfl, rfl, rfl, rfl, rfl, rfl⟩ := hs
      exact lv_lsub hx hb (hd rfl) (kk ls H locs hN hP hS hL)
    · cases hs
  | lmul =>
    simp only [ai_step] at hs
    split at hs
    · rename_i y x r
      simp only [Option.some.injEq, Prod.mk.injEq] at hs
      obtain ⟨rfl, rfl, rfl, rfl, rfl, rfl⟩ := hs
      exact lv_lmul hx hb (hd rfl) (kk ls H locs hN hP hS hL)
    · cases hs
  | idiv =>
    simp only [ai_step] at hs
    split at hs
    · rename_i y x r
      split at hs
      · cases hs
      · rename_i hne
        simp only [Option.some.injEq, Prod.mk.injEq] at hs
        obtain ⟨rfl, rfl, rfl, rfl, rfl, rfl⟩ := hs
        exact lv_idiv hx hb (hd rfl) hne (kk ls H locs hN hP hS hL)
    · cases hs
  | irem =>
    simp only [ai_step] at hs
    split at hs
    · rename_i y x r
      split at hs
      · cases hs
      · rename_i hne
        simp only [Option.some.injEq, Prod.mk.injEq] at hs
        obtain ⟨rfl, rfl, rfl, rfl, rfl, rfl⟩ := hs
        exact lv_irem hx hb (hd rfl) hne (kk ls H locs hN hP hS hL)
    · cases hs
  | ldiv =>
    simp only [ai_step] at hs
    split at hs
    · rename_i y x r
      split at hs
      · cases hs
      · rename_i hne
        simp only [Option.some.injEq, Prod.mk.injEq] at hs
        obtain ⟨rfl, rfl, rfl, rfl, rfl, rfl⟩ := hs
        exact lv_ldiv hx hb (hd rfl) hne (kk ls H locs hN hP hS hL)
    · cases hs
  | lrem =>
    simp only [ai_step] at hs
    split at hs
    · rename_i y x r
      split at hs
      · cases hs
      · rename_i hne
        simp only [Option.some.injEq, Prod.mk.injEq] at hs
        obtain ⟨rfl, rfl, rfl, rfl, rfl, rfl⟩ := hs
        exact lv_lrem hx hb (hd rfl) hne (kk ls H locs hN hP hS hL)
    · cases hs
  | ineg =>
    simp only [ai_step] at hs
    split at hs
    · rename_i x r
      simp only [Option.some.injEq, Prod.mk.injEq] at hs
      obtain ⟨rfl, rfl, rfl, rfl, rfl, rfl⟩ := hs
      exact lv_ineg hx hb (hd rfl) (kk ls H locs hN hP hS hL)
    · cases hs
  | i2l =>
    simp only [ai_step] at hs
    split at hs
    · rename_i x r
      simp only [Option.some.injEq, Prod.mk.injEq] at hs
      obtain ⟨rfl, rfl, rfl, rfl, rfl, rfl⟩ := hs
      exact lv_i2l hx hb (hd rfl) rfl (kk ls H locs hN hP hS hL)
    · cases hs
  | lcmp =>
    simp only [ai_step] at hs
    split at hs
    · rename_i y x r
      simp only [Option.some.injEq, Prod.mk.injEq] at hs
      obtain ⟨rfl, rfl, rfl, rfl, rfl, rfl⟩ := hs
      exact W.lcmp hx hb (hd rfl) (kk ls H locs hN hP hS hL)
    · cases hs
  | dup =>
    simp only [ai_step] at hs
    split at hs
    · rename_i v r
      split at hs
      · rename_i hc
        simp only [Option.some.injEq, Prod.mk.injEq] at hs
        obtain ⟨rfl, rfl, rfl, rfl, rfl, rfl⟩ := hs
        exact lv_dup hx hb (hd rfl) (by rw [ai_v_cat]; exact hc) (kk ls H locs hN hP hS hL)
      · cases hs
    · cases hs
  | pop =>
    simp only [ai_step] at hs
    split at hs
    · rename_i v r
      split at hs
      · rename_i hc
        simp only [Option.some.injEq, Prod.mk.injEq] at hs
        obtain ⟨rfl, rfl, rfl, rfl, rfl, rfl⟩ := hs
        exact lv_pop hx hb (hd rfl) (by rw [ai_v_cat]; exact hc) (kk ls H locs hN hP hS hL)
      · cases hs
    · cases hs
  | pop2 =>
    simp only [ai_step] at hs
    split at hs
    · rename_i v r
      split at hs
      · rename_i hc
        simp only [Option.some.injEq, Prod.mk.injEq] at hs
        obtain ⟨rfl, rfl, rfl, rfl, rfl, rfl⟩ := hs
        exact lv_pop2_2 hx hb (hd rfl) (by rw [ai_v_cat]; exact hc) (kk ls H locs hN hP hS hL)
      · cases hs
    · cases hs
  | dup_x1 =>
    simp only [ai_step] at hs
    split at hs
    · rename_i v w r
      split at hs
      · rename_i hc
        split at hs
        · rename_i hc2
          simp only [Option.some.injEq, Prod.mk.injEq] at hs
          obtain ⟨rfl, rfl, rfl, rfl, rfl, rfl⟩ := hs
          exact lv_dup_x1 hx hb (hd rfl) (by rw [ai_v_cat]; exact hc) (by rw [ai_v_cat]; exact hc2) (kk ls H locs hN hP hS hL)
        · cases hs
      · cases hs
    · cases hs
  | dup2 =>
    simp only [ai_step] at hs
    split at hs
    · rename_i v w r
      split at hs
      · rename_i hc
        split at hs
        · rename_i hc2
          simp only [Option.some.injEq, Prod.mk.injEq] at hs
          obtain ⟨rfl, rfl, rfl, rfl, rfl, rfl⟩ := hs
          exact lv_dup2_11 hx hb (hd rfl) (by rw [ai_v_cat]; exact hc) (by rw [ai_v_cat]; exact hc2) (kk ls H locs hN hP hS hL)
        · cases hs
      · cases hs
    · cases hs
  | goto off =>
    simp only [ai_step] at hs
    split at hs
    · rename_i t ht
      simp only [Option.some.injEq, Prod.mk.injEq] at hs
      obtain ⟨rfl, rfl, rfl, rfl, rfl, rfl⟩ := hs
      exact lv_goto hx hb (hd rfl) (ai_jp_ok ht) (kk ls H locs hN hP hS hL)
    · cases hs
  | ifCond cnd off =>
    simp only [ai_step] at hs
    split at hs
    · rename_i x r
      split at hs
      · rename_i t ht
        have ht := ai_jp_ok ht
        cases cnd
        · simp only [ai_br] at hs
          split at hs
          · rename_i hq
            simp only [Option.some.injEq, Prod.mk.injEq] at hs
            obtain ⟨rfl, rfl, rfl, rfl, rfl, rfl⟩ := hs
            exact lv_if_eq hx hb (hd rfl) ht (fun _ => kk ls H locs hN hP hS hL) (fun c9 => absurd hq c9)
          · rename_i hq
            simp only [Option.some.injEq, Prod.mk.injEq] at hs
            obtain ⟨rfl, rfl, rfl, rfl, rfl, rfl⟩ := hs
            exact lv_if_eq hx hb (hd rfl) ht (fun c9 => absurd c9 hq) (fun _ => kk ls H locs hN hP hS hL)
        · simp only [ai_br] at hs
          split at hs
          · rename_i hq
            simp only [Option.some.injEq, Prod.mk.injEq] at hs
            obtain ⟨rfl, rfl, rfl, rfl, rfl, rfl⟩ := hs
            exact lv_if_ne hx hb (hd rfl) ht (fun c9 => absurd hq c9) (fun _ => kk ls H locs hN hP hS hL)
          · rename_i hq
            simp only [Option.some.injEq, Prod.mk.injEq] at hs
            obtain ⟨rfl, rfl, rfl, rfl, rfl, rfl⟩ := hs
            exact lv_if_ne hx hb (hd rfl) ht (fun _ => kk ls H locs hN hP hS hL) (fun c9 => absurd c9 hq)
        · simp only [ai_br] at hs
          split at hs
          · rename_i hq
            simp only [Option.some.injEq, Prod.mk.injEq] at hs
            obtain ⟨rfl, rfl, rfl, rfl, rfl, rfl⟩ := hs
            exact lv_if_lt hx hb (hd rfl) ht (fun _ => kk ls H locs hN hP hS hL) (fun c9 => absurd hq c9)
          · rename_i hq
            simp only [Option.some.injEq, Prod.mk.injEq] at hs
            obtain ⟨rfl, rfl, rfl, rfl, rfl, rfl⟩ := hs
            exact lv_if_lt hx hb (hd rfl) ht (fun c9 => absurd c9 hq) (fun _ => kk ls H locs hN hP hS hL)
        · simp only [ai_br] at hs
          split at hs
          · rename_i hq
            simp only [Option.some.injEq, Prod.mk.injEq] at hs
            obtain ⟨rfl, rfl, rfl, rfl, rfl, rfl⟩ := hs
            exact lv_if_ge hx hb (hd rfl) ht (fun _ => kk ls H locs hN hP hS hL) (fun c9 => absurd hq c9)
          · rename_i hq
            simp only [Option.some.injEq, Prod.mk.injEq] at hs
            obtain ⟨rfl, rfl, rfl, rfl, rfl, rfl⟩ := hs
            exact lv_if_ge hx hb (hd rfl) ht (fun c9 => absurd c9 hq) (fun _ => kk ls H locs hN hP hS hL)
        · simp only [ai_br] at hs
          split at hs
          · rename_i hq
            simp only [Option.some.injEq, Prod.mk.injEq] at hs
            obtain ⟨rfl, rfl, rfl, rfl, rfl, rfl⟩ := hs
            exact lv_if_gt hx hb (hd rfl) ht (fun _ => kk ls H locs hN hP hS hL) (fun c9 => absurd hq c9)
          · rename_i hq
            simp only [Option.some.injEq, Prod.mk.injEq] at hs
            obtain ⟨rfl, rfl, rfl, rfl, rfl, rfl⟩ := hs
            exact lv_if_gt hx hb (hd rfl) ht (fun c9 => absurd c9 hq) (fun _ => kk ls H locs hN hP hS hL)
        · simp only [ai_br] at hs
          split at hs
          · rename_i hq
            simp only [Option.some.injEq, Prod.mk.injEq] at hs
            obtain ⟨rfl, rfl, rfl, rfl, rfl, rfl⟩ := hs
            exact lv_if_le hx hb (hd rfl) ht (fun _ => kk ls H locs hN hP hS hL) (fun c9 => absurd hq c9)
          · rename_i hq
            simp only [Option.some.injEq, Prod.mk.injEq] at hs
            obtain ⟨rfl, rfl, rfl, rfl, rfl, rfl⟩ := hs
            exact lv_if_le hx hb (hd rfl) ht (fun c9 => absurd c9 hq) (fun _ => kk ls H locs hN hP hS hL)
      · cases hs
    · cases hs
  | if_icmp cnd off =>
    simp only [ai_step] at hs
    split at hs
    · rename_i y x r
      split at hs
      · rename_i t ht
        have ht := ai_jp_ok ht
        cases cnd
        · simp only [ai_br] at hs
          split at hs
          · rename_i hq
            simp only [Option.some.injEq, Prod.mk.injEq] at hs
            obtain ⟨rfl, rfl, rfl, rfl, rfl, rfl⟩ := hs
            exact lv_icmp_eq hx hb (hd rfl) ht (fun _ => kk ls H locs hN hP hS hL) (fun c9 => absurd hq c9)
          · rename_i hq
            simp only [Option.some.injEq, Prod.mk.injEq] at hs
            obtain ⟨rfl, rfl, rfl, rfl, rfl, rfl⟩ := hs
            exact lv_icmp_eq hx hb (hd rfl) ht (fun c9 => absurd c9 hq) (fun _ => kk ls H locs hN hP hS hL)
        · simp only [ai_br] at hs
          split at hs
          · rename_i hq
            simp only [Option.some.injEq, Prod.mk.injEq] at hs
            obtain ⟨rfl, rfl, rfl, rfl, rfl, rfl⟩ := hs
            exact lv_icmp_ne hx hb (hd rfl) ht (fun c9 => absurd hq c9) (fun _ => kk ls H locs hN hP hS hL)
          · rename_i hq
            simp only [Option.some.injEq, Prod.mk.injEq] at hs
            obtain ⟨rfl, rfl, rfl, rfl, rfl, rfl⟩ := hs
            exact lv_icmp_ne hx hb (hd rfl) ht (fun _ => kk ls H locs hN hP hS hL) (fun c9 => absurd c9 hq)
        · simp only [ai_br] at hs
          split at hs
          · rename_i hq
            simp only [Option.some.injEq, Prod.mk.injEq] at hs
            obtain ⟨rfl, rfl, rfl, rfl, rfl, rfl⟩ := hs
            exact lv_icmp_lt hx hb (hd rfl) ht (fun _ => kk ls H locs hN hP hS hL) (fun c9 => absurd hq c9)
          · rename_i hq
            simp only [Option.some.injEq, Prod.mk.injEq] at hs
            obtain ⟨rfl, rfl, rfl, rfl, rfl, rfl⟩ := hs
            exact lv_icmp_lt hx hb (hd rfl) ht (fun c9 => absurd c9 hq) (fun _ => kk ls H locs hN hP hS hL)
        · simp only [ai_br] at hs
          split at hs
          · rename_i hq
            simp only [Option.some.injEq, Prod.mk.injEq] at hs
            obtain ⟨rfl, rfl, rfl, rfl, rfl, rfl⟩ := hs
            exact lv_icmp_ge hx hb (hd rfl) ht (fun _ => kk ls H locs hN hP hS hL) (fun c9 => absurd hq c9)
          · rename_i hq
            simp only [Option.some.injEq, Prod.mk.injEq] at hs
            obtain ⟨rfl, rfl, rfl, rfl, rfl, rfl⟩ := hs
            exact lv_icmp_ge hx hb (hd rfl) ht (fun c9 => absurd c9 hq) (fun _ => kk ls H locs hN hP hS hL)
        · simp only [ai_br] at hs
          split at hs
          · rename_i hq
            simp only [Option.some.injEq, Prod.mk.injEq] at hs
            obtain ⟨rfl, rfl, rfl, rfl, rfl, rfl⟩ := hs
            exact lv_icmp_gt hx hb (hd rfl) ht (fun _ => kk ls H locs hN hP hS hL) (fun c9 => absurd hq c9)
          · rename_i hq
            simp only [Option.some.injEq, Prod.mk.injEq] at hs
            obtain ⟨rfl, rfl, rfl, rfl, rfl, rfl⟩ := hs
            exact lv_icmp_gt hx hb (hd rfl) ht (fun c9 => absurd c9 hq) (fun _ => kk ls H locs hN hP hS hL)
        · simp only [ai_br] at hs
          split at hs
          · rename_i hq
            simp only [Option.some.injEq, Prod.mk.injEq] at hs
            obtain ⟨rfl, rfl, rfl, rfl, rfl, rfl⟩ := hs
            exact lv_icmp_le hx hb (hd rfl) ht (fun _ => kk ls H locs hN hP hS hL) (fun c9 => absurd hq c9)
          · rename_i hq
            simp only [Option.some.injEq, Prod.mk.injEq] at hs
            obtain ⟨rfl, rfl, rfl, rfl, rfl, rfl⟩ := hs
            exact lv_icmp_le hx hb (hd rfl) ht (fun c9 => absurd c9 hq) (fun _ => kk ls H locs hN hP hS hL)
      · cases hs
    · cases hs
  | tableswitch d lo hi offs =>
    simp only [ai_step] at hs
    split at hs
    · rename_i x r
      split at hs
      · rename_i hq
        split at hs
        · rename_i t ht
          simp only [Option.some.injEq, Prod.mk.injEq] at hs
          obtain ⟨rfl, rfl, rfl, rfl, rfl, rfl⟩ := hs
          exact lv_tableOut hx hb hd0 hq (ai_jp_ok ht) (kk ls H locs hN hP hS hL)
        · cases hs
      · rename_i hq
        split at hs
        · rename_i off ho
          split at hs
          · rename_i t ht
            simp only [Option.some.injEq, Prod.mk.injEq] at hs
            obtain ⟨rfl, rfl, rfl, rfl, rfl, rfl⟩ := hs
            exact lv_tableIn hx hb hd0 (fun q => hq (Or.inl q)) (fun q => hq (Or.inr q)) ho (ai_jp_ok ht) (kk ls H locs hN hP hS hL)
          · cases hs
        · cases hs
    · cases hs
  | ldc k =>
    simp only [ai_step] at hs
    split at hs
    · rename_i q hq
      have hf := List.all_eq_true.mp (ai_ciO (ai_cl M)) _ (ai_by_mem hq)
      unfold ai_okJ at hf
      rw [decide_eq_true_eq] at hf
      simp only [Option.some.injEq, Prod.mk.injEq] at hs
      obtain ⟨rfl, rfl, rfl, rfl, rfl, rfl⟩ := hs
      exact lv_ldc hx hb hown (hts _ (ai_gt_at (by rw [← hcn]; exact hf) rfl)) (hd rfl) (kk ls H locs hN hP hS hL)
    · split at hs
      · rename_i j hj
        simp only [Option.some.injEq, Prod.mk.injEq] at hs
        obtain ⟨rfl, rfl, rfl, rfl, rfl, rfl⟩ := hs
        have hf := List.all_eq_true.mp (ai_stK (ai_cl M)) _ (ai_by_mem hj)
        unfold ai_okS at hf
        simp only [Bool.and_eq_true, decide_eq_true_eq] at hf
        have hR := hE.2.2.1.2.2.1 j hf.1.1
        rw [hf.1.2] at hR
        exact va_ldcS hx hb (by rw [← hcn, hf.2] at hown; exact hown) hR (hd rfl) (kk ls H locs hN hP hS hL)
      · cases hs
  | ldc_w k =>
    simp only [ai_step] at hs
    split at hs
    · rename_i q hq
      have hf := List.all_eq_true.mp (ai_ciO (ai_cl M)) _ (ai_by_mem hq)
      unfold ai_okJ at hf
      rw [decide_eq_true_eq] at hf
      simp only [Option.some.injEq, Prod.mk.injEq] at hs
      obtain ⟨rfl, rfl, rfl, rfl, rfl, rfl⟩ := hs
      exact lv_ldcw hx hb hown (hts _ (ai_gt_at (by rw [← hcn]; exact hf) rfl)) (hd rfl) (kk ls H locs hN hP hS hL)
    · cases hs
  | ldc2_w k =>
    simp only [ai_step] at hs
    split at hs
    · rename_i q hq
      have hf := List.all_eq_true.mp (ai_clO (ai_cl M)) _ (ai_by_mem hq)
      unfold ai_okL at hf
      rw [decide_eq_true_eq] at hf
      simp only [Option.some.injEq, Prod.mk.injEq] at hs
      obtain ⟨rfl, rfl, rfl, rfl, rfl, rfl⟩ := hs
      exact lv_ldc2 hx hb hown (hts _ (ai_gt_at (by rw [← hcn]; exact hf) rfl)) (hd rfl) (kk ls H locs hN hP hS hL)
    · cases hs
  | getfield k =>
    simp only [ai_step] at hs
    split at hs
    · rename_i a r
      split at hs
      · rename_i q hq
        split at hs
        · rename_i o ho
          split at hs
          · rename_i hc
            split at hs
            · rename_i v hv
              simp only [Option.some.injEq, Prod.mk.injEq] at hs
              obtain ⟨rfl, rfl, rfl, rfl, rfl, rfl⟩ := hs
              exact ai_R_get C (hd rfl) hq ho hc hv hP (kk ls H locs hN hP hS hL)
            · cases hs
          · cases hs
        · cases hs
      · cases hs
    · cases hs
  | putfield k =>
    simp only [ai_step] at hs
    split at hs
    · rename_i v a r
      split at hs
      · rename_i q hq
        split at hs
        · rename_i o ho
          split at hs
          · rename_i hc
            simp only [Option.some.injEq, Prod.mk.injEq] at hs
            obtain ⟨rfl, rfl, rfl, rfl, rfl, rfl⟩ := hs
            exact ai_R_put C (hd rfl) hq ho hc hN hP hS (fun H2 locs2 hP2 hS2 => kk ls H2 locs2 (by rw [List.length_set]; exact hN) hP2 hS2 hL)
          · cases hs
        · cases hs
      · cases hs
    · cases hs
  | getstatic k =>
    simp only [ai_step] at hs
    split at hs
    · rename_i hq
      simp only [Option.some.injEq, Prod.mk.injEq] at hs
      obtain ⟨rfl, rfl, rfl, rfl, rfl, rfl⟩ := hs
      exact ai_R_gets C (hd rfl) hq hS (kk ls H locs hN hP hS hL)
    · cases hs
  | iaload =>
    simp only [ai_step] at hs
    split at hs
    · rename_i j a r
      split at hs
      · rename_i o ho
        obtain ⟨z, o⟩ := o
        cases z with
        | true => cases hs
        | false =>
          simp only at hs
          split at hs
          · rename_i x hq
            simp only [Option.some.injEq, Prod.mk.injEq] at hs
            obtain ⟨rfl, rfl, rfl, rfl, rfl, rfl⟩ := hs
            exact ai_R_iald C (hd rfl) ho hq hP (kk ls H locs hN hP hS hL)
          · cases hs
      · cases hs
    · rename_i j a r
      split at hs
      · rename_i o ho
        split at hs
        · rename_i x hq
          simp only [Option.some.injEq, Prod.mk.injEq] at hs
          obtain ⟨rfl, rfl, rfl, rfl, rfl, rfl⟩ := hs
          exact ai_R_xald C (hd rfl) ho hq hS (kk ls H locs hN hP hS hL)
        · cases hs
      · cases hs
    · cases hs
  | baload =>
    simp only [ai_step] at hs
    split at hs
    · rename_i j a r
      split at hs
      · rename_i o ho
        obtain ⟨z, o⟩ := o
        cases z with
        | false => cases hs
        | true =>
          simp only at hs
          split at hs
          · rename_i x hq
            simp only [Option.some.injEq, Prod.mk.injEq] at hs
            obtain ⟨rfl, rfl, rfl, rfl, rfl, rfl⟩ := hs
            exact ai_R_zald C (hd rfl) ho hq hP (kk ls H locs hN hP hS hL)
          · cases hs
      · cases hs
    · cases hs
  | iastore =>
    simp only [ai_step] at hs
    split at hs
    · rename_i x j a r
      split at hs
      · rename_i o ho
        obtain ⟨z, o⟩ := o
        cases z with
        | true => cases hs
        | false =>
          simp only at hs
          split at hs
          · rename_i q hq
            simp only [Option.some.injEq, Prod.mk.injEq] at hs
            obtain ⟨rfl, rfl, rfl, rfl, rfl, rfl⟩ := hs
            exact ai_R_iast C (hd rfl) ho hq hN hP hS (fun H2 locs2 hP2 hS2 => kk ls H2 locs2 (by rw [List.length_set]; exact hN) hP2 hS2 hL)
          · cases hs
      · cases hs
    · cases hs
  | bastore =>
    simp only [ai_step] at hs
    split at hs
    · rename_i x j a r
      split at hs
      · rename_i o ho
        obtain ⟨z, o⟩ := o
        cases z with
        | false => cases hs
        | true =>
          simp only at hs
          split at hs
          · rename_i q hq
            simp only [Option.some.injEq, Prod.mk.injEq] at hs
            obtain ⟨rfl, rfl, rfl, rfl, rfl, rfl⟩ := hs
            exact ai_R_zast C (hd rfl) ho hq hN hP hS (fun H2 locs2 hP2 hS2 => kk ls H2 locs2 (by rw [List.length_set]; exact hN) hP2 hS2 hL)
          · cases hs
      · cases hs
    · cases hs
  | arraylength =>
    simp only [ai_step] at hs
    split at hs
    · rename_i a r
      split at hs
      · rename_i o ho
        simp only [Option.some.injEq, Prod.mk.injEq] at hs
        obtain ⟨rfl, rfl, rfl, rfl, rfl, rfl⟩ := hs
        exact ai_R_alen C (hd rfl) ho hP (kk ls H locs hN hP hS hL)
      · cases hs
    · rename_i a r
      split at hs
      · rename_i o ho
        simp only [Option.some.injEq, Prod.mk.injEq] at hs
        obtain ⟨rfl, rfl, rfl, rfl, rfl, rfl⟩ := hs
        exact ai_R_xlen C (hd rfl) ho hS (kk ls H locs hN hP hS hL)
      · cases hs
    · cases hs
  | newarray t =>
    simp only [ai_step] at hs
    split at hs
    · rename_i n r
      split at hs
      · cases hs
      · rename_i hn
        split at hs
        · rename_i hc
          split at hs
          · simp only [Option.some.injEq, Prod.mk.injEq] at hs
            obtain ⟨rfl, rfl, rfl, rfl, rfl, rfl⟩ := hs
            exact ai_R_newa C (Or.inl ⟨rfl, rfl⟩) (hd rfl) hn hc hP hS (fun H2 hP2 hS2 => kk ls H2 locs (by rw [List.length_append, List.length_singleton]; omega) hP2 hS2 hL)
          · simp only [Option.some.injEq, Prod.mk.injEq] at hs
            obtain ⟨rfl, rfl, rfl, rfl, rfl, rfl⟩ := hs
            exact ai_R_newa C (Or.inr ⟨rfl, rfl⟩) (hd rfl) hn hc hP hS (fun H2 hP2 hS2 => kk ls H2 locs (by rw [List.length_append, List.length_singleton]; omega) hP2 hS2 hL)
          · cases hs
        · cases hs
    · cases hs
  | new k =>
    simp only [ai_step] at hs
    split at hs
    · rename_i q hq
      split at hs
      · rename_i hc
        simp only [Option.some.injEq, Prod.mk.injEq] at hs
        obtain ⟨rfl, rfl, rfl, rfl, rfl, rfl⟩ := hs
        exact ai_R_new C (hd rfl) hq hc hP hS (fun H2 hP2 hS2 => kk ls H2 locs (by rw [List.length_append, List.length_singleton]; omega) hP2 hS2 hL)
      · cases hs
    · cases hs
  | _ => simp [ai_step] at hs
end AIS
/-! a string's length and its signs: the JDK's own methods, over the string constants -/
def jy_len : MethodName := ⟨"java/lang/String", "length", "()I"⟩
def jy_cod : MethodName := ⟨"java/lang/String", "coder", "()B"⟩
def jy_cha : MethodName := ⟨"java/lang/String", "charAt", "(I)C"⟩
def jy_lat : MethodName := ⟨"java/lang/String", "isLatin1", "()Z"⟩
def jy_chl : MethodName := ⟨"java/lang/StringLatin1", "charAt", "([BI)C"⟩
def jy_chk : MethodName := ⟨"java/lang/String", "checkIndex", "(II)V"⟩
def jy_pre : MethodName := ⟨"jdk/internal/util/Preconditions", "checkIndex", "(IILjava/util/function/BiFunction;)I"⟩
abbrev js_w (y : MethodName) (b : ByteArray) (n : Nat) (r : Option FieldType) : List Jvm.Cond := .code y b n r :: ai_gt
def js_P (G : ai_G) (as : List Value) : Array Value → State → Prop := va_Pc as (fun U => ai_St G U)
def js_Q (v : Option Value) : Array Value → State → Outcome → State → Prop := fun _ st oc t => oc = .returned v ∧ t.heap = st.heap
theorem js_blind (G : ai_G) (as : List Value) : FrameBlind (js_P G as) := by
  intro a U g mk q
  obtain ⟨h1, h2⟩ := q
  exact ⟨h1, ai_St_eq h2 rfl rfl⟩
theorem js_good {ws : List Jvm.Cond} (h : ∀ w ∈ ws, w ∈ ai_gt) : GoodIn ai_gt ws := fun w hw => ⟨h w hw, good_of_word (List.mem_filter.mp (h w hw)).2⟩
theorem js_inV {own C : String} {k : Nat} {y : MethodName} {b : ByteArray} {n : Nat} {r : Option FieldType} (h1 : Jvm.Cond.methodLink own k y ∈ ai_gt) (h2 : Jvm.Cond.instanceMethod y ∈ ai_gt) (h3 : Jvm.Cond.selects C y y ∈ ai_gt) (h4 : Jvm.Cond.initialized C ∈ ai_gt) (h5 : Jvm.Cond.code y b n r ∈ ai_gt) : ∀ w ∈ wsV own k C y (js_w y b n r), w ∈ ai_gt := by
  intro w hw9
  unfold wsV at hw9
  rcases List.mem_append.mp hw9 with q | q
  · simp only [List.mem_cons, List.not_mem_nil, or_false] at q
    rcases q with rfl | rfl | rfl | rfl
    · exact h1
    · exact h2
    · exact h3
    · exact h4
  · rcases List.mem_cons.mp q with rfl | q
    · exact h5
    · exact q
theorem js_inS {own : String} {k : Nat} {y : MethodName} {b : ByteArray} {n : Nat} {r : Option FieldType} (h1 : Jvm.Cond.methodLink own k y ∈ ai_gt) (h2 : Jvm.Cond.static y ∈ ai_gt) (h4 : Jvm.Cond.initialized y.cls ∈ ai_gt) (h5 : Jvm.Cond.code y b n r ∈ ai_gt) : ∀ w ∈ va_wsS own k y (js_w y b n r), w ∈ ai_gt := by
  intro w hw9
  unfold va_wsS at hw9
  rcases List.mem_append.mp hw9 with q | q
  · simp only [List.mem_cons, List.not_mem_nil, or_false] at q
    rcases q with rfl | rfl | rfl
    · exact h1
    · exact h2
    · exact h4
  · rcases List.mem_cons.mp q with rfl | q
    · exact h5
    · exact q
theorem js_iS : Jvm.Cond.initialized "java/lang/String" ∈ ai_gt := List.mem_filter.mpr ⟨by decide +kernel, by decide +kernel⟩
theorem js_iL : Jvm.Cond.initialized "java/lang/StringLatin1" ∈ ai_gt := List.mem_filter.mpr ⟨by decide +kernel, by decide +kernel⟩
theorem js_iP : Jvm.Cond.initialized "jdk/internal/util/Preconditions" ∈ ai_gt := List.mem_filter.mpr ⟨by decide +kernel, by decide +kernel⟩
theorem js_V1 : ∀ w ∈ wsV "java/lang/String" 335 "java/lang/String" jy_cod (js_w jy_cod prog_13_method_152_code 1 (some .byte)), w ∈ ai_gt := js_inV (List.mem_filter.mpr ⟨by decide +kernel, by decide +kernel⟩) (List.mem_filter.mpr ⟨by decide +kernel, by decide +kernel⟩) (List.mem_filter.mpr ⟨by decide +kernel, by decide +kernel⟩) js_iS (List.mem_filter.mpr ⟨by decide +kernel, by decide +kernel⟩)
theorem js_V2 : ∀ w ∈ wsV "java/lang/String" 492 "java/lang/String" jy_lat (js_w jy_lat prog_13_method_154_code 1 (some .boolean)), w ∈ ai_gt := js_inV (List.mem_filter.mpr ⟨by decide +kernel, by decide +kernel⟩) (List.mem_filter.mpr ⟨by decide +kernel, by decide +kernel⟩) (List.mem_filter.mpr ⟨by decide +kernel, by decide +kernel⟩) js_iS (List.mem_filter.mpr ⟨by decide +kernel, by decide +kernel⟩)
theorem js_V3 : ∀ w ∈ wsV "FourWaters$Text" 61 "java/lang/String" jy_len (js_w jy_len prog_13_method_54_code 1 (some .int)), w ∈ ai_gt := js_inV (List.mem_filter.mpr ⟨by decide +kernel, by decide +kernel⟩) (List.mem_filter.mpr ⟨by decide +kernel, by decide +kernel⟩) (List.mem_filter.mpr ⟨by decide +kernel, by decide +kernel⟩) js_iS (List.mem_filter.mpr ⟨by decide +kernel, by decide +kernel⟩)
theorem js_V4 : ∀ w ∈ wsV "FourWaters$Text" 65 "java/lang/String" jy_cha (js_w jy_cha prog_13_method_56_code 2 (some .char)), w ∈ ai_gt := js_inV (List.mem_filter.mpr ⟨by decide +kernel, by decide +kernel⟩) (List.mem_filter.mpr ⟨by decide +kernel, by decide +kernel⟩) (List.mem_filter.mpr ⟨by decide +kernel, by decide +kernel⟩) js_iS (List.mem_filter.mpr ⟨by decide +kernel, by decide +kernel⟩)
theorem js_S1 : ∀ w ∈ va_wsS "java/lang/String" 495 jy_chl (js_w jy_chl prog_14_method_2_code 2 (some .char)), w ∈ ai_gt := js_inS (List.mem_filter.mpr ⟨by decide +kernel, by decide +kernel⟩) (List.mem_filter.mpr ⟨by decide +kernel, by decide +kernel⟩) js_iL (List.mem_filter.mpr ⟨by decide +kernel, by decide +kernel⟩)
theorem js_S2 : ∀ w ∈ va_wsS "java/lang/StringLatin1" 9 jy_chk (js_w jy_chk prog_13_method_155_code 2 none), w ∈ ai_gt := js_inS (List.mem_filter.mpr ⟨by decide +kernel, by decide +kernel⟩) (List.mem_filter.mpr ⟨by decide +kernel, by decide +kernel⟩) js_iS (List.mem_filter.mpr ⟨by decide +kernel, by decide +kernel⟩)
theorem js_S3 : ∀ w ∈ va_wsS "java/lang/String" 1059 jy_pre (js_w jy_pre prog_18_method_11_code 3 (some .int)), w ∈ ai_gt := js_inS (List.mem_filter.mpr ⟨by decide +kernel, by decide +kernel⟩) (List.mem_filter.mpr ⟨by decide +kernel, by decide +kernel⟩) js_iP (List.mem_filter.mpr ⟨by decide +kernel, by decide +kernel⟩)
theorem js_F1 : Jvm.Cond.fieldLink "java/lang/String" 38 "java/lang/String" "COMPACT_STRINGS" "Z" ∈ ai_gt := List.mem_filter.mpr ⟨by decide +kernel, by decide +kernel⟩
theorem js_F2 : Jvm.Cond.fieldLink "java/lang/String" 9 "java/lang/String" "value" "[B" ∈ ai_gt := List.mem_filter.mpr ⟨by decide +kernel, by decide +kernel⟩
theorem js_F3 : Jvm.Cond.fieldLink "java/lang/String" 15 "java/lang/String" "coder" "B" ∈ ai_gt := List.mem_filter.mpr ⟨by decide +kernel, by decide +kernel⟩
theorem js_F4 : Jvm.Cond.fieldLink "java/lang/String" 1053 "jdk/internal/util/Preconditions" "SIOOBE_FORMATTER" "Ljava/util/function/BiFunction;" ∈ ai_gt := List.mem_filter.mpr ⟨by decide +kernel, by decide +kernel⟩
section JSS
variable {p : Program} {l : Launch} {e : Env} {R : Room} {s : State} {m : MethodId} {args : Array Value} {below : List Frame} {meth : Method} {c : Code} {H : Heap} {locs : List Loc} {cells slots : Nat} {Q : State → Prop} {ls : Array Slot} {pc : Nat} {rest st0 : List Value} {a0 : Array Value}

theorem js_after {rv : Option Value} (hr : va_Run p l e R s m args below meth c H locs cells slots 0 0 (F0 m pc ls st0) rest (js_Q rv a0) (fun _ => False))
    (kk : W p l e R s m args below meth c H locs cells slots Q (F0 m (pc + 3) ls (rv.toList ++ rest))) : W p l e R s m args below meth c H locs cells slots Q (F0 m pc ls st0) := by
  intro T hT Y
  obtain ⟨v, st₀, t, T', L1, h0, Y', hL1, e1, e2, ⟨hv, hh⟩, stp⟩ := hr T hT Y
  have hv2 : v = rv := by cases hv; rfl
  subst hv2
  have hn : L1 = [] := by
    cases L1 with
    | nil => rfl
    | cons q t => exact (hL1 q List.mem_cons_self).elim
  subst hn
  rw [List.append_nil] at Y'
  obtain ⟨t2, a1, b1⟩ := kk T' (by rw [e1, hh, h0]) Y'
  exact ⟨t2, stp t2 a1, b1⟩
end JSS
theorem js_d0 : decode prog_13_method_152_code 0 = .ok (.getstatic 38, 3) := by decide +kernel
theorem js_d1 : decode prog_13_method_152_code 3 = .ok (.ifCond .eq 10, 3) := by decide +kernel
theorem js_d2 : decode prog_13_method_152_code 6 = .ok (.aload_n 0, 1) := by decide +kernel
theorem js_d3 : decode prog_13_method_152_code 7 = .ok (.getfield 15, 3) := by decide +kernel
theorem js_d4 : decode prog_13_method_152_code 10 = .ok (.goto 4, 3) := by decide +kernel
theorem js_d5 : decode prog_13_method_152_code 14 = .ok (.ireturn, 1) := by decide +kernel
set_option maxHeartbeats 4000000 in
theorem js_coder (l : Launch) (G : ai_G) (i : Nat) (hi : i < 8) : Met l jy_cod (js_w jy_cod prog_13_method_152_code 1 (some .byte)) { frames := 0, cells := 0, slots := 0, locals := 0 } (js_P G [.ref (G.2.1 (i + 2))]) (js_Q (some (.int 0))) 0 0 (fun _ => False) := by
  refine Met.ofW (cc := prog_13_method_152_code) (maxL := 1) (ret := some .byte) (by decide) rfl ?_
  intro p e s m args below meth c s₁ B hml hv
  obtain ⟨rfl, hSt⟩ := hv
  have hx := B.exec
  have hb := B.bytes
  have hr := B.returns
  have hts := atoms_spec (ws := js_w jy_cod prog_13_method_152_code 1 (some .byte)) B.pre
  have hts : ∀ w ∈ ai_gt, w.before _ s = true := fun w hw => hts w (List.mem_cons_of_mem _ hw)
  have hown : s.vm.findClass "java/lang/String" = some m.cls := findClass_of_methodNamed B.named
  have hlocks := B.notSynchronized
  obtain ⟨⟨adV, hS8⟩, -, hZ, -⟩ := hSt
  have hS : va_S (fun q => G.1 ≤ q) s.heap s.heap [] := va_S.rf
  have hl := lv_entry ([.ref (G.2.1 (i + 2))]) (n := 1) (Nat.le_of_ble_eq_true rfl)
  rw [lg_entry_eq]
  generalize (lg_sl ([.ref (G.2.1 (i + 2))]) ++ List.replicate (1 - (lg_sl ([.ref (G.2.1 (i + 2))])).length) Slot.unset).toArray = ls at hl ⊢
  have hl : lv_has ls 1 [(0, .ref (G.2.1 (i + 2)))] := hl
  refine va_gets hx hb hZ hS hown (hts _ js_F1) (fun _ h => h) js_d0 ?_
  refine lv_if_eq (tgt := 13) hx hb js_d1 rfl (fun h => absurd h (by decide)) (fun _ => ?_)
  refine lv_aload_n hx hb js_d2 rfl (lv_at hl 0 rfl) ?_
  refine vk_getf hx hb (hS8.1 i hi).2.1 hS hown (hts _ js_F3) (fun _ h => h) js_d3 ?_
  refine lv_goto (tgt := 14) hx hb js_d4 rfl ?_
  exact W.zret (v := 0) (ty := .byte) hx hb hr rfl (fun t ht hW => ⟨rfl, ht⟩) (fun q hq => by cases hq) js_d5
theorem js_d6 : decode prog_13_method_154_code 0 = .ok (.getstatic 38, 3) := by decide +kernel
theorem js_d7 : decode prog_13_method_154_code 3 = .ok (.ifCond .eq 14, 3) := by decide +kernel
theorem js_d8 : decode prog_13_method_154_code 6 = .ok (.aload_n 0, 1) := by decide +kernel
theorem js_d9 : decode prog_13_method_154_code 7 = .ok (.getfield 15, 3) := by decide +kernel
theorem js_da : decode prog_13_method_154_code 10 = .ok (.ifCond .ne 7, 3) := by decide +kernel
theorem js_db : decode prog_13_method_154_code 13 = .ok (.iconst 1, 1) := by decide +kernel
theorem js_dc : decode prog_13_method_154_code 14 = .ok (.goto 4, 3) := by decide +kernel
theorem js_dd : decode prog_13_method_154_code 18 = .ok (.ireturn, 1) := by decide +kernel
set_option maxHeartbeats 4000000 in
theorem js_latin (l : Launch) (G : ai_G) (i : Nat) (hi : i < 8) : Met l jy_lat (js_w jy_lat prog_13_method_154_code 1 (some .boolean)) { frames := 0, cells := 0, slots := 0, locals := 0 } (js_P G [.ref (G.2.1 (i + 2))]) (js_Q (some (.int 1))) 0 0 (fun _ => False) := by
  refine Met.ofW (cc := prog_13_method_154_code) (maxL := 1) (ret := some .boolean) (by decide) rfl ?_
  intro p e s m args below meth c s₁ B hml hv
  obtain ⟨rfl, hSt⟩ := hv
  have hx := B.exec
  have hb := B.bytes
  have hr := B.returns
  have hts := atoms_spec (ws := js_w jy_lat prog_13_method_154_code 1 (some .boolean)) B.pre
  have hts : ∀ w ∈ ai_gt, w.before _ s = true := fun w hw => hts w (List.mem_cons_of_mem _ hw)
  have hown : s.vm.findClass "java/lang/String" = some m.cls := findClass_of_methodNamed B.named
  have hlocks := B.notSynchronized
  obtain ⟨⟨adV, hS8⟩, -, hZ, -⟩ := hSt
  have hS : va_S (fun q => G.1 ≤ q) s.heap s.heap [] := va_S.rf
  have hl := lv_entry ([.ref (G.2.1 (i + 2))]) (n := 1) (Nat.le_of_ble_eq_true rfl)
  rw [lg_entry_eq]
  generalize (lg_sl ([.ref (G.2.1 (i + 2))]) ++ List.replicate (1 - (lg_sl ([.ref (G.2.1 (i + 2))])).length) Slot.unset).toArray = ls at hl ⊢
  have hl : lv_has ls 1 [(0, .ref (G.2.1 (i + 2)))] := hl
  refine va_gets hx hb hZ hS hown (hts _ js_F1) (fun _ h => h) js_d6 ?_
  refine lv_if_eq (tgt := 17) hx hb js_d7 rfl (fun h => absurd h (by decide)) (fun _ => ?_)
  refine lv_aload_n hx hb js_d8 rfl (lv_at hl 0 rfl) ?_
  refine vk_getf hx hb (hS8.1 i hi).2.1 hS hown (hts _ js_F3) (fun _ h => h) js_d9 ?_
  refine lv_if_ne (tgt := 17) hx hb js_da rfl (fun h => absurd rfl h) (fun _ => ?_)
  refine lv_iconst (v := 1) hx hb js_db rfl ?_
  refine lv_goto (tgt := 18) hx hb js_dc rfl ?_
  exact W.zret (v := 1) (ty := .boolean) hx hb hr rfl (fun t ht hW => ⟨rfl, ht⟩) (fun q hq => by cases hq) js_dd
theorem js_de : decode prog_18_method_11_code 0 = .ok (.iload_n 0, 1) := by decide +kernel
theorem js_df : decode prog_18_method_11_code 1 = .ok (.ifCond .lt 8, 3) := by decide +kernel
theorem js_dg : decode prog_18_method_11_code 4 = .ok (.iload_n 0, 1) := by decide +kernel
theorem js_dh : decode prog_18_method_11_code 5 = .ok (.iload_n 1, 1) := by decide +kernel
theorem js_di : decode prog_18_method_11_code 6 = .ok (.if_icmp .lt 10, 3) := by decide +kernel
theorem js_dj : decode prog_18_method_11_code 16 = .ok (.iload_n 0, 1) := by decide +kernel
theorem js_dk : decode prog_18_method_11_code 17 = .ok (.ireturn, 1) := by decide +kernel
set_option maxHeartbeats 4000000 in
theorem js_pre (l : Launch) (G : ai_G) (x y : Int32) (v : Value) (hv1 : v.category = 1) (h1 : ¬ x < 0) (h2 : x < y) : Met l jy_pre (js_w jy_pre prog_18_method_11_code 3 (some .int)) { frames := 0, cells := 0, slots := 0, locals := 0 } (js_P G [.int x, .int y, v]) (js_Q (some (.int x))) 0 0 (fun _ => False) := by
  refine Met.ofW (cc := prog_18_method_11_code) (maxL := 3) (ret := some .int) (by decide) rfl ?_
  intro p e s m args below meth c s₁ B hml hv
  obtain ⟨rfl, hSt⟩ := hv
  have hx := B.exec
  have hb := B.bytes
  have hr := B.returns
  have hlocks := B.notSynchronized
  have hn : (lg_sl ([.int x, .int y, v])).length ≤ 3 := by
    cases v <;> first | exact Nat.le_of_ble_eq_true rfl | exact absurd hv1 (by simp [Value.category])
  have hl := lv_entry ([.int x, .int y, v]) (n := 3) hn
  rw [lg_entry_eq]
  generalize (lg_sl ([.int x, .int y, v]) ++ List.replicate (3 - (lg_sl ([.int x, .int y, v])).length) Slot.unset).toArray = ls at hl ⊢
  have hl0 : ls[0]? = some (.val (.int x)) := lv_at hl 0 rfl
  have hl1 : ls[1]? = some (.val (.int y)) := lv_at hl 1 rfl
  refine lv_iload_n hx hb js_de rfl hl0 ?_
  refine lv_if_lt (tgt := 9) hx hb js_df rfl (fun h => absurd h h1) (fun _ => ?_)
  refine lv_iload_n hx hb js_dg rfl hl0 ?_
  refine lv_iload_n hx hb js_dh rfl hl1 ?_
  refine lv_icmp_lt (tgt := 16) hx hb js_di rfl (fun _ => ?_) (fun h => absurd h2 h)
  refine lv_iload_n hx hb js_dj rfl hl0 ?_
  exact W.iret (v := x) hx hb hr (fun t ht hW => ⟨rfl, ht⟩) (fun q hq => by cases hq) js_dk
theorem js_dl : decode prog_13_method_155_code 0 = .ok (.iload_n 0, 1) := by decide +kernel
theorem js_dm : decode prog_13_method_155_code 1 = .ok (.iload_n 1, 1) := by decide +kernel
theorem js_dn : decode prog_13_method_155_code 2 = .ok (.getstatic 1053, 3) := by decide +kernel
theorem js_do : decode prog_13_method_155_code 5 = .ok (.invokestatic 1059, 3) := by decide +kernel
theorem js_dp : decode prog_13_method_155_code 8 = .ok (.pop, 1) := by decide +kernel
theorem js_dq : decode prog_13_method_155_code 9 = .ok (.return_, 1) := by decide +kernel
set_option maxHeartbeats 4000000 in
theorem js_check (l : Launch) (G : ai_G) (x y : Int32) (h1 : ¬ x < 0) (h2 : x < y) : Met l jy_chk (js_w jy_chk prog_13_method_155_code 2 none) { frames := 1, cells := 0, slots := 0, locals := 22 } (js_P G [.int x, .int y]) (js_Q none) 0 0 (fun _ => False) := by
  refine Met.ofW (cc := prog_13_method_155_code) (maxL := 2) (ret := none) (by decide) rfl ?_
  intro p e s m args below meth c s₁ B hml hv
  obtain ⟨rfl, hSt⟩ := hv
  have hx := B.exec
  have hb := B.bytes
  have hr := B.returns
  have hts := atoms_spec (ws := js_w jy_chk prog_13_method_155_code 2 none) B.pre
  have hts : ∀ w ∈ ai_gt, w.before _ s = true := fun w hw => hts w (List.mem_cons_of_mem _ hw)
  have hown : s.vm.findClass "java/lang/String" = some m.cls := findClass_of_methodNamed B.named
  have hlocks := B.notSynchronized
  have hS : va_S (fun q => G.1 ≤ q) s.heap s.heap [] := va_S.rf
  have hl := lv_entry ([.int x, .int y]) (n := 2) (Nat.le_of_ble_eq_true rfl)
  rw [lg_entry_eq]
  generalize (lg_sl ([.int x, .int y]) ++ List.replicate (2 - (lg_sl ([.int x, .int y])).length) Slot.unset).toArray = ls at hl ⊢
  have hl : lv_has ls 2 [(0, .int x), (1, .int y)] := hl
  have key : ∀ v : Value, v.category = 1 → va_Z "jdk/internal/util/Preconditions" "SIOOBE_FORMATTER" "Ljava/util/function/BiFunction;" v (fun q => G.1 ≤ q) s s.heap → W p l e { frames := 1, cells := 0, slots := 0, locals := 22 } s m #[Value.int x, Value.int y] below meth c s.heap [] 0 0 (MQ below (js_Q none) #[Value.int x, Value.int y] s 0 0 (fun _ => False)) (F0 m 0 ls []) := by
    intro v hv1 hZ
    refine lv_iload_n hx hb js_dl rfl (lv_at hl 0 rfl) ?_
    refine lv_iload_n hx hb js_dm rfl (lv_at hl 1 rfl) ?_
    refine va_gets hx hb hZ hS hown (hts _ js_F4) (fun _ h => h) js_dn ?_
    refine js_after (rv := some (.int x)) (rest := []) (va_runS (own := "java/lang/String") (As := [.int x, .int y, v]) (rest := []) ⟨hx, hb, hml, hown, hts⟩ (js_pre l G x y v hv1 h1 h2) (va_cwS 3 hts (js_good js_S3) rfl rfl rfl ⟨by decide, by decide, by decide⟩ ⟨by decide, by decide⟩) ⟨js_blind G _, fun U hU hW => ⟨rfl, ai_St_to hSt hS hU hW⟩⟩ rfl rfl hl.1 rfl (Nat.le_of_ble_eq_true rfl) js_do ⟨by decide, by decide⟩) ?_
    refine lv_pop hx hb js_dp rfl ?_
    exact W.vret hx hb hr (fun t ht hW => ⟨rfl, ht⟩) (fun q hq => by cases hq) js_dq
  rcases hSt.2.2.2 with hZ | ⟨t, hZ⟩
  · exact key .null rfl hZ
  · exact key (.ref t) rfl hZ
theorem js_dr : decode prog_13_method_54_code 0 = .ok (.aload_n 0, 1) := by decide +kernel
theorem js_ds : decode prog_13_method_54_code 1 = .ok (.getfield 9, 3) := by decide +kernel
theorem js_dt : decode prog_13_method_54_code 4 = .ok (.arraylength, 1) := by decide +kernel
theorem js_du : decode prog_13_method_54_code 5 = .ok (.aload_n 0, 1) := by decide +kernel
theorem js_dv : decode prog_13_method_54_code 6 = .ok (.invokevirtual 335, 3) := by decide +kernel
theorem js_dw : decode prog_13_method_54_code 9 = .ok (.ishr, 1) := by decide +kernel
theorem js_dx : decode prog_13_method_54_code 10 = .ok (.ireturn, 1) := by decide +kernel
theorem js_shr0 : ∀ i : Nat, i < 8 → Int32.ofNat (ai_stL.getD i 0) >>> ((0 : Int32) &&& 31) = Int32.ofNat (ai_stL.getD i 0) := by decide +kernel
set_option maxHeartbeats 4000000 in
theorem js_length (l : Launch) (G : ai_G) (i : Nat) (hi : i < 8) : Met l jy_len (js_w jy_len prog_13_method_54_code 1 (some .int)) { frames := 3, cells := 0, slots := 0, locals := 64 } (js_P G [.ref (G.2.1 (i + 2))]) (js_Q (some (.int (Int32.ofNat (ai_stL.getD i 0))))) 0 0 (fun _ => False) := by
  refine Met.ofW (cc := prog_13_method_54_code) (maxL := 1) (ret := some .int) (by decide) rfl ?_
  intro p e s m args below meth c s₁ B hml hv
  obtain ⟨rfl, hSt⟩ := hv
  have hx := B.exec
  have hb := B.bytes
  have hr := B.returns
  have hts := atoms_spec (ws := js_w jy_len prog_13_method_54_code 1 (some .int)) B.pre
  have hts : ∀ w ∈ ai_gt, w.before _ s = true := fun w hw => hts w (List.mem_cons_of_mem _ hw)
  have hown : s.vm.findClass "java/lang/String" = some m.cls := findClass_of_methodNamed B.named
  have hlocks := B.notSynchronized
  obtain ⟨⟨adV, hS8⟩, -, hZ, -⟩ := id hSt
  have hS : va_S (fun q => G.1 ≤ q) s.heap s.heap [] := va_S.rf
  have hl := lv_entry ([.ref (G.2.1 (i + 2))]) (n := 1) (Nat.le_of_ble_eq_true rfl)
  rw [lg_entry_eq]
  generalize (lg_sl ([.ref (G.2.1 (i + 2))]) ++ List.replicate (1 - (lg_sl ([.ref (G.2.1 (i + 2))])).length) Slot.unset).toArray = ls at hl ⊢
  have hl : lv_has ls 1 [(0, .ref (G.2.1 (i + 2)))] := hl
  refine lv_aload_n hx hb js_dr rfl (lv_at hl 0 rfl) ?_
  refine vk_getf hx hb (hS8.1 i hi).2.2.1 hS hown (hts _ js_F2) (fun _ h => h) js_ds ?_
  refine va_tlen hx hb (hS8.1 i hi).2.2.2 hS rfl js_dt ?_
  refine lv_aload_n hx hb js_du rfl (lv_at hl 0 rfl) ?_
  refine js_after (rv := some (.int 0)) (rest := [.int (Int32.ofNat (ai_stL.getD i 0))]) (va_runV (own := "java/lang/String") (C := "java/lang/String") (As := []) (rest := [.int (Int32.ofNat (ai_stL.getD i 0))]) ⟨hx, hb, hml, hown, hts⟩ (js_coder l G i hi) (cwV 0 hts (js_good js_V1) rfl rfl rfl ⟨rfl, by decide, by decide, by decide⟩ ⟨by decide, by decide⟩) ⟨js_blind G _, vk_recv hS8 hi hS, fun U hU hW => ⟨rfl, ai_St_to hSt hS hU hW⟩⟩ rfl rfl hl.1 rfl (by show 2 * 0 + _ ≤ 8; simp [Value.category]) js_dv ⟨by decide, by decide⟩) ?_
  refine lv_ishr hx hb js_dw ?_
  rw [js_shr0 i hi]
  exact W.iret hx hb hr (fun t ht hW => ⟨rfl, ht⟩) (fun q hq => by cases hq) js_dx
theorem js_e0 : decode prog_14_method_2_code 0 = .ok (.iload_n 1, 1) := by decide +kernel
theorem js_e1 : decode prog_14_method_2_code 1 = .ok (.aload_n 0, 1) := by decide +kernel
theorem js_e2 : decode prog_14_method_2_code 2 = .ok (.arraylength, 1) := by decide +kernel
theorem js_e3 : decode prog_14_method_2_code 3 = .ok (.invokestatic 9, 3) := by decide +kernel
theorem js_e4 : decode prog_14_method_2_code 6 = .ok (.aload_n 0, 1) := by decide +kernel
theorem js_e5 : decode prog_14_method_2_code 7 = .ok (.iload_n 1, 1) := by decide +kernel
theorem js_e6 : decode prog_14_method_2_code 8 = .ok (.baload, 1) := by decide +kernel
theorem js_e7 : decode prog_14_method_2_code 9 = .ok (.sipush 255, 3) := by decide +kernel
theorem js_e8 : decode prog_14_method_2_code 12 = .ok (.iand, 1) := by decide +kernel
theorem js_e9 : decode prog_14_method_2_code 13 = .ok (.i2c, 1) := by decide +kernel
theorem js_ea : decode prog_14_method_2_code 14 = .ok (.ireturn, 1) := by decide +kernel
theorem js_chb : ∀ i : Nat, i < 8 → ∀ k : Nat, k < 6 → ((((ai_str.getD i []).getD k 0) &&& 255).toUInt32 % 65536).toInt32 = (ai_str.getD i []).getD k 0 := by decide +kernel
theorem js_chn : ∀ i : Nat, i < 8 → ∀ k : Nat, k < 6 → narrow .char (.int ((ai_str.getD i []).getD k 0)) = .int ((ai_str.getD i []).getD k 0) := by decide +kernel
theorem js_le5 : ∀ i : Nat, i < 8 → ai_stL.getD i 0 < 6 := by decide +kernel
theorem js_in {x : Int32} {n : Nat} (hn : n < 6) (h : ¬ x < 0) (h2 : x.toNatClampNeg < n) : x < Int32.ofNat n := by
  rw [Int32.lt_iff_toInt_lt, Int32.toInt_ofNat_of_lt (by omega)]
  have h0 : (0 : Int) ≤ x.toInt := by
    have := Int32.not_lt.mp h
    simpa using Int32.le_iff_toInt_le.mp this
  have h3 : x.toInt.toNat < n := h2
  omega
set_option maxHeartbeats 4000000 in
theorem js_chl (l : Launch) (G : ai_G) (i t : Nat) (hi : i < 8) (x : Int32) (h1 : ¬ x < 0) (h2 : x.toNatClampNeg < ai_stL.getD i 0) : Met l jy_chl (js_w jy_chl prog_14_method_2_code 2 (some .char)) { frames := 2, cells := 0, slots := 0, locals := 43 } (fun v U => js_P G [.ref t, .int x] v U ∧ va_T .byte t (ai_stL.getD i 0) (fun j => .int ((ai_str.getD i []).getD j 0)) (fun q => G.1 ≤ q) U U.heap) (js_Q (some (.int ((ai_str.getD i []).getD x.toNatClampNeg 0)))) 0 0 (fun _ => False) := by
  refine Met.ofW (cc := prog_14_method_2_code) (maxL := 2) (ret := some .char) (by decide) rfl ?_
  intro p e s m args below meth c s₁ B hml hv
  obtain ⟨⟨rfl, hSt⟩, hT⟩ := hv
  have hx := B.exec
  have hb := B.bytes
  have hr := B.returns
  have hts := atoms_spec (ws := js_w jy_chl prog_14_method_2_code 2 (some .char)) B.pre
  have hts : ∀ w ∈ ai_gt, w.before _ s = true := fun w hw => hts w (List.mem_cons_of_mem _ hw)
  have hown : s.vm.findClass "java/lang/StringLatin1" = some m.cls := findClass_of_methodNamed B.named
  have hlocks := B.notSynchronized
  have hS : va_S (fun q => G.1 ≤ q) s.heap s.heap [] := va_S.rf
  have hl := lv_entry ([.ref t, .int x]) (n := 2) (Nat.le_of_ble_eq_true rfl)
  rw [lg_entry_eq]
  generalize (lg_sl ([.ref t, .int x]) ++ List.replicate (2 - (lg_sl ([.ref t, .int x])).length) Slot.unset).toArray = ls at hl ⊢
  have hl : lv_has ls 2 [(0, .ref t), (1, .int x)] := hl
  have h5 := js_le5 i hi
  refine lv_iload_n hx hb js_e0 rfl (lv_at hl 1 rfl) ?_
  refine lv_aload_n hx hb js_e1 rfl (lv_at hl 0 rfl) ?_
  refine va_tlen hx hb hT hS rfl js_e2 ?_
  refine js_after (rv := none) (rest := []) (va_runS (own := "java/lang/StringLatin1") (As := [.int x, .int (Int32.ofNat (ai_stL.getD i 0))]) (rest := []) ⟨hx, hb, hml, hown, hts⟩ (js_check l G x _ h1 (js_in h5 h1 h2)) (va_cwS 2 hts (js_good js_S2) rfl rfl rfl ⟨by decide, by decide, by decide⟩ ⟨by decide, by decide⟩) ⟨js_blind G _, fun U hU hW => ⟨rfl, ai_St_to hSt hS hU hW⟩⟩ rfl rfl hl.1 rfl (Nat.le_of_ble_eq_true rfl) js_e3 ⟨by decide, by decide⟩) ?_
  refine lv_aload_n hx hb js_e4 rfl (lv_at hl 0 rfl) ?_
  refine lv_iload_n hx hb js_e5 rfl (lv_at hl 1 rfl) ?_
  refine va_tb hx hb hT hS (fun q => ?_) rfl js_e6 ?_
  · rcases q with q | q
    · exact h1 q
    · omega
  refine lv_sipush (v := 255) hx hb js_e7 rfl ?_
  refine lv_iand hx hb js_e8 ?_
  refine lv_i2c hx hb js_e9 (js_chb i hi _ (by omega)) ?_
  exact W.zret (ty := .char) hx hb hr (js_chn i hi _ (by omega)) (fun t ht hW => ⟨rfl, ht⟩) (fun q hq => by cases hq) js_ea
theorem js_f0 : decode prog_13_method_56_code 0 = .ok (.aload_n 0, 1) := by decide +kernel
theorem js_f1 : decode prog_13_method_56_code 1 = .ok (.invokevirtual 492, 3) := by decide +kernel
theorem js_f2 : decode prog_13_method_56_code 4 = .ok (.ifCond .eq 12, 3) := by decide +kernel
theorem js_f3 : decode prog_13_method_56_code 7 = .ok (.aload_n 0, 1) := by decide +kernel
theorem js_f4 : decode prog_13_method_56_code 8 = .ok (.getfield 9, 3) := by decide +kernel
theorem js_f5 : decode prog_13_method_56_code 11 = .ok (.iload_n 1, 1) := by decide +kernel
theorem js_f6 : decode prog_13_method_56_code 12 = .ok (.invokestatic 495, 3) := by decide +kernel
theorem js_f7 : decode prog_13_method_56_code 15 = .ok (.ireturn, 1) := by decide +kernel
set_option maxHeartbeats 4000000 in
theorem js_charAt (l : Launch) (G : ai_G) (i : Nat) (hi : i < 8) (x : Int32) (h1 : ¬ x < 0) (h2 : x.toNatClampNeg < ai_stL.getD i 0) : Met l jy_cha (js_w jy_cha prog_13_method_56_code 2 (some .char)) { frames := 3, cells := 0, slots := 0, locals := 64 } (js_P G [.ref (G.2.1 (i + 2)), .int x]) (js_Q (some (.int ((ai_str.getD i []).getD x.toNatClampNeg 0)))) 0 0 (fun _ => False) := by
  refine Met.ofW (cc := prog_13_method_56_code) (maxL := 2) (ret := some .char) (by decide) rfl ?_
  intro p e s m args below meth c s₁ B hml hv
  obtain ⟨rfl, hSt⟩ := hv
  have hx := B.exec
  have hb := B.bytes
  have hr := B.returns
  have hts := atoms_spec (ws := js_w jy_cha prog_13_method_56_code 2 (some .char)) B.pre
  have hts : ∀ w ∈ ai_gt, w.before _ s = true := fun w hw => hts w (List.mem_cons_of_mem _ hw)
  have hown : s.vm.findClass "java/lang/String" = some m.cls := findClass_of_methodNamed B.named
  have hlocks := B.notSynchronized
  obtain ⟨⟨adV, hS8⟩, -, hZ, -⟩ := id hSt
  have hS : va_S (fun q => G.1 ≤ q) s.heap s.heap [] := va_S.rf
  have hl := lv_entry ([.ref (G.2.1 (i + 2)), .int x]) (n := 2) (Nat.le_of_ble_eq_true rfl)
  rw [lg_entry_eq]
  generalize (lg_sl ([.ref (G.2.1 (i + 2)), .int x]) ++ List.replicate (2 - (lg_sl ([.ref (G.2.1 (i + 2)), .int x])).length) Slot.unset).toArray = ls at hl ⊢
  have hl : lv_has ls 2 [(0, .ref (G.2.1 (i + 2))), (1, .int x)] := hl
  have h5 := js_le5 i hi
  refine lv_aload_n hx hb js_f0 rfl (lv_at hl 0 rfl) ?_
  refine js_after (rv := some (.int 1)) (rest := []) (va_runV (own := "java/lang/String") (C := "java/lang/String") (As := []) (rest := []) ⟨hx, hb, hml, hown, hts⟩ (js_latin l G i hi) (cwV 0 hts (js_good js_V2) rfl rfl rfl ⟨rfl, by decide, by decide, by decide⟩ ⟨by decide, by decide⟩) ⟨js_blind G _, vk_recv hS8 hi hS, fun U hU hW => ⟨rfl, ai_St_to hSt hS hU hW⟩⟩ rfl rfl hl.1 rfl (Nat.le_of_ble_eq_true rfl) js_f1 ⟨by decide, by decide⟩) ?_
  refine lv_if_eq (tgt := 16) hx hb js_f2 rfl (fun h => absurd h (by decide)) (fun _ => ?_)
  refine lv_aload_n hx hb js_f3 rfl (lv_at hl 0 rfl) ?_
  refine vk_getf hx hb (hS8.1 i hi).2.2.1 hS hown (hts _ js_F2) (fun _ h => h) js_f4 ?_
  refine lv_iload_n hx hb js_f5 rfl (lv_at hl 1 rfl) ?_
  refine js_after (rv := some (.int ((ai_str.getD i []).getD x.toNatClampNeg 0))) (rest := []) (va_runS (own := "java/lang/String") (As := [.ref (adV i), .int x]) (rest := []) ⟨hx, hb, hml, hown, hts⟩ (js_chl l G i (adV i) hi x h1 h2) (va_cwS 2 hts (js_good js_S1) rfl rfl rfl ⟨by decide, by decide, by decide⟩ ⟨by decide, by decide⟩) ⟨fun a U g mk q => ⟨js_blind G _ a U g mk q.1, va_T.moved (Vm.Alike.refl _) q.2⟩, fun U hU hW => ⟨⟨rfl, ai_St_to hSt hS hU hW⟩, ((hS8.1 i hi).2.2.2.moved hW.alike).kept (fun a _ _ => by rw [hU])⟩⟩ rfl rfl hl.1 rfl (Nat.le_of_ble_eq_true rfl) js_f6 ⟨by decide, by decide⟩) ?_
  exact W.zret (ty := .char) hx hb hr (js_chn i hi _ (by omega)) (fun t ht hW => ⟨rfl, ht⟩) (fun q hq => by cases hq) js_f7
/-! native rows, returns, calls -/
theorem ai_w0a : Jvm.Cond.instanceMethod Lib.objectInit ∈ ai_gt := List.mem_filter.mpr ⟨by decide +kernel, by decide +kernel⟩
theorem ai_w0b : Jvm.Cond.code Lib.objectInit ⟨#[0xb1]⟩ 1 none ∈ ai_gt := List.mem_filter.mpr ⟨by decide +kernel, by decide +kernel⟩
theorem ai_w1a : Jvm.Cond.native arraycopyName ∈ ai_gt := List.mem_filter.mpr ⟨by decide +kernel, by decide +kernel⟩
theorem ai_w1b : Jvm.Cond.static arraycopyName ∈ ai_gt := List.mem_filter.mpr ⟨by decide +kernel, by decide +kernel⟩
theorem ai_w1c : Jvm.Cond.initialized "java/lang/System" ∈ ai_gt := List.mem_filter.mpr ⟨by decide +kernel, by decide +kernel⟩
theorem ai_w4a : Jvm.Cond.static Lib.Math.max.name ∈ ai_gt := List.mem_filter.mpr ⟨by decide +kernel, by decide +kernel⟩
theorem ai_w4b : Jvm.Cond.initialized "java/lang/Math" ∈ ai_gt := List.mem_filter.mpr ⟨by decide +kernel, by decide +kernel⟩
theorem ai_w4c : Jvm.Cond.code Lib.Math.max.name Lib.Math.max.code 2 (some .int) ∈ ai_gt := List.mem_filter.mpr ⟨by decide +kernel, by decide +kernel⟩
theorem ai_w5a : Jvm.Cond.static Lib.Math.min.name ∈ ai_gt := List.mem_filter.mpr ⟨by decide +kernel, by decide +kernel⟩
theorem ai_w5c : Jvm.Cond.code Lib.Math.min.name Lib.Math.min.code 2 (some .int) ∈ ai_gt := List.mem_filter.mpr ⟨by decide +kernel, by decide +kernel⟩
theorem ai_cpyin {f g z : List Int32} {sp dp n : Int32} (h : ai_cpy f g sp dp n = some z) : ¬ sp < 0 ∧ ¬ dp < 0 ∧ ¬ n < 0 ∧ sp.toNatClampNeg + n.toNatClampNeg ≤ f.length ∧ dp.toNatClampNeg + n.toNatClampNeg ≤ g.length ∧ z.length = g.length ∧ va_cpy (fun k => f.getD k 0) (fun k => g.getD k 0) sp.toNatClampNeg dp.toNatClampNeg n.toNatClampNeg = fun k => z.getD k 0 := by
  unfold ai_cpy at h
  split at h
  · cases h
  · rename_i hn
    split at h
    · rename_i hb
      rw [Bool.and_eq_true] at hb
      have h1 := Nat.le_of_ble_eq_true hb.1
      have h2 := Nat.le_of_ble_eq_true hb.2
      have e : z = ai_cp f g sp.toNatClampNeg dp.toNatClampNeg n.toNatClampNeg := (Option.some.inj h).symm
      generalize sp.toNatClampNeg = a at *
      generalize dp.toNatClampNeg = b at *
      generalize n.toNatClampNeg = k at *
      refine ⟨fun q => hn (Or.inl q), fun q => hn (Or.inr (Or.inl q)), fun q => hn (Or.inr (Or.inr q)), h1, h2, ?_, ?_⟩
      · rw [e]
        simp only [ai_cp, List.length_append, List.length_take, List.length_drop]
        omega
      · funext j
        rw [e]
        unfold va_cpy ai_cp
        rw [List.getD_eq_getElem?_getD (l := _ ++ _)]
        by_cases c1 : j < b
        · rw [if_neg (by omega), List.getElem?_append_left (by rw [List.length_take]; omega), List.getElem?_take, if_pos c1]
          simp only [List.getD_eq_getElem?_getD]
        · rw [List.getElem?_append_right (by rw [List.length_take]; omega)]
          have hl : (g.take b).length = b := by rw [List.length_take]; omega
          rw [hl]
          by_cases c2 : j < b + k
          · rw [if_pos (by omega), List.getElem?_append_left (by rw [List.length_take, List.length_drop]; omega), List.getElem?_take, if_pos (by omega), List.getElem?_drop]
            simp only [List.getD_eq_getElem?_getD]
          · have hl2 : ((f.drop a).take k).length = k := by rw [List.length_take, List.length_drop]; omega
            rw [if_neg (by omega), List.getElem?_append_right (by omega), hl2, List.getElem?_drop, show b + k + (j - b - k) = j by omega]
            simp only [List.getD_eq_getElem?_getD]
    · cases h
theorem ai_slnE {k : Nat} {x : Int32} (h : ai_sln k = some x) : ∃ j, j < 8 ∧ k = j + 2 ∧ Int32.ofNat (ai_stL.getD j 0) = x := by
  match k, h with
  | 0, h => cases h
  | 1, h => cases h
  | 2, h => exact ⟨0, by decide, rfl, Option.some.inj h⟩
  | 3, h => exact ⟨1, by decide, rfl, Option.some.inj h⟩
  | 4, h => exact ⟨2, by decide, rfl, Option.some.inj h⟩
  | 5, h => exact ⟨3, by decide, rfl, Option.some.inj h⟩
  | 6, h => exact ⟨4, by decide, rfl, Option.some.inj h⟩
  | 7, h => exact ⟨5, by decide, rfl, Option.some.inj h⟩
  | 8, h => exact ⟨6, by decide, rfl, Option.some.inj h⟩
  | 9, h => exact ⟨7, by decide, rfl, Option.some.inj h⟩
  | k + 10, h => simp [ai_sln, ai_str, ai_nth] at h
theorem ai_schL : ∀ j : Nat, j < 8 → (ai_str.getD j []).length = ai_stL.getD j 0 := by decide
theorem ai_schN : ∀ j : Nat, j < 8 → ai_nth ai_str j = some (ai_str.getD j []) := by decide
theorem ai_schE {k : Nat} {y x : Int32} (h : ai_sch k y = some x) : ∃ j, j < 8 ∧ k = j + 2 ∧ ¬ y < 0 ∧ y.toNatClampNeg < ai_stL.getD j 0 ∧ (ai_str.getD j []).getD y.toNatClampNeg 0 = x := by
  match k, h with
  | 0, h => cases h
  | 1, h => cases h
  | k + 2, h =>
    by_cases hk : k < 8
    · simp only [ai_sch, ai_schN k hk] at h
      obtain ⟨h1, h2⟩ := ai_ixin h
      refine ⟨k, hk, rfl, fun q => h1 (Or.inl q), ?_, ?_⟩
      · rw [← ai_schL k hk]
        exact Nat.not_le.mp fun q => h1 (Or.inr q)
      · exact h2
    · exfalso
      have : ai_nth ai_str k = none := by
        rw [ai_nth_eq]
        exact List.getElem?_eq_none (by show 8 ≤ k; omega)
      simp only [ai_sch, this] at h
      cases h
def ai_naC (c : Nat) (q : Nat × Nat × Nat) : Bool := match q.2.1 with
  | 2 => decide (q.1 = 61) && decide (ai_cn c = "FourWaters$Text")
  | 3 => decide (q.1 = 65) && decide (ai_cn c = "FourWaters$Text")
  | _ => true
theorem ai_naCO : ∀ c, (ai_naT c).all (ai_naC c) = true
  | 0 => by decide +kernel
  | 1 => by decide +kernel
  | 2 => by decide +kernel
  | 3 => by decide +kernel
  | 4 => by decide +kernel
  | 5 => by decide +kernel
  | 6 => by decide +kernel
  | 7 => by decide +kernel
  | 8 => by decide +kernel
  | 9 => by decide +kernel
  | 10 => by decide +kernel
  | 11 => by decide +kernel
  | 12 => by decide +kernel
  | _ + 13 => rfl
theorem ai_na2 (c : Nat) (q : Nat × Nat × Nat) (h : q ∈ ai_naT c) (h2 : q.2.1 = 2) : q.1 = 61 ∧ ai_cn c = "FourWaters$Text" := by
  have h1 := List.all_eq_true.mp (ai_naCO c) q h
  unfold ai_naC at h1
  rw [h2] at h1
  simpa using h1
theorem ai_na3 (c : Nat) (q : Nat × Nat × Nat) (h : q ∈ ai_naT c) (h2 : q.2.1 = 3) : q.1 = 65 ∧ ai_cn c = "FourWaters$Text" := by
  have h1 := List.all_eq_true.mp (ai_naCO c) q h
  unfold ai_naC at h1
  rw [h2] at h1
  simpa using h1
section AIS
variable {p : Program} {l : Launch} {e : Env} {s : State} {m : MethodId} {args : Array Value} {below : List Frame} {meth : Method} {c : Code} {Q : State → Prop} {M : ai_M} {G : ai_G} {X : List (List Int32)} {H : Heap} {locs : List Loc} {ls : Array Slot} {pc pc' : Nat} {L L' : ai_L} {st st' r : List Value} {h h' : ai_H} {cs sl cs' sl' : Nat}

theorem ai_nat_ok (C : ai_C p s m args meth c M G X) {i : Instr} {kb k w wi : Nat} (hi : ai_fd (ai_cd M) pc = some i) (hci : ai_ci i = some (kb, k)) (hw : ai_by (ai_naT (ai_cl M)) k = some (w, wi)) (hs : ai_nat X M kb w st h cs sl = some (st', h')) (kk : ai_K p l e s m args below meth c Q M G (pc + 3) L st' h' cs sl) : ai_K p l e s m args below meth c Q M G pc L st h cs sl := by
  intro ls H locs hN hP hS hL
  obtain ⟨hx, hb, hr, hml, hown, hts, hlk, hini, hE, hbs, hok, hcn⟩ := id C
  have hf := List.all_eq_true.mp (ai_naO (ai_cl M)) _ (ai_by_mem hw)
  unfold ai_okA at hf
  have hmls : c.maxLocals = ls.size := by rw [hml, hL.2.1]
  unfold ai_nat at hs
  split at hs
  · cases hs
  · rename_i hg
    rw [Bool.and_eq_true, Bool.and_eq_true] at hg
    have g1 := Nat.le_of_ble_eq_true hg.1.1
    have g2 := Nat.le_of_ble_eq_true hg.1.2
    have g3 := Nat.le_of_ble_eq_true hg.2
    split at hs
    · simp only [ai_nn, decide_eq_true_eq] at hf
      split at hs
      · rename_i a r
        split at hs
        · rename_i hq
          rw [Bool.and_eq_true] at hq
          have e1 : kb = 2 := Nat.eq_of_beq_eq_true hq.1
          have e2 := Nat.le_of_ble_eq_true hq.2
          subst e1
          have hi2 : i = .invokespecial k := by cases i <;> simp [ai_ci] at hci; rw [hci]
          subst hi2
          have hd := ai_decN hok hi rfl
          simp only [Option.some.injEq, Prod.mk.injEq] at hs
          obtain ⟨rfl, rfl⟩ := hs
          exact W.objInit hx hb hown (hts _ (ai_gt_at (by rw [← hcn]; exact hf) rfl)) (hts _ ai_w0a) (hts _ ai_w0b) rfl (by show ls.size = _; exact hmls.symm) rfl hd g1 (by show 2 * 0 + ((r.map (ai_v G)).map fun v => v.category).sum + 12 ≤ _; rw [ai_cat_map]; omega) (kk ls H locs hN hP hS hL)
        · cases hs
      · cases hs
    · simp only [ai_nn, decide_eq_true_eq] at hf
      split at hs
      · rename_i n dp a sp q r
        split at hs
        · rename_i hq
          rw [Bool.and_eq_true] at hq
          have e1 : kb = 1 := Nat.eq_of_beq_eq_true hq.1
          have e2 := Nat.le_of_ble_eq_true hq.2
          have e3 : ((r.map (ai_v G)).map fun v => v.category).sum + (nativeFrameWords "java/lang/System" "arraycopy" 5 + 11) ≤ (ai_rm M).locals := by rw [ai_cat_map]; exact e2
          subst e1
          have hi2 : i = .invokestatic k := by cases i <;> simp [ai_ci] at hci; rw [hci]
          subst hi2
          have hd := ai_decN hok hi rfl
          split at hs
          · rename_i o ho
            obtain ⟨z0, o⟩ := o
            cases z0 with
            | true => cases hs
            | false =>
              simp only at hs
              split at hs
              · rename_i b
                split at hs
                · rename_i f hf1
                  obtain ⟨z1, f⟩ := f
                  cases z1 with
                  | true => cases hs
                  | false =>
                    simp only at hs
                    split at hs
                    · rename_i z hz
                      simp only [Option.some.injEq, Prod.mk.injEq] at hs
                      obtain ⟨rfl, rfl⟩ := hs
                      obtain ⟨q1, q2, q3, q4, q5, q6, q7⟩ := ai_cpyin hz
                      refine va_copyi (ty := .int) hx hb hmls hown (hts _ (ai_gt_at (by rw [← hcn]; exact hf) rfl)) (hts _ ai_w1a) (hts _ ai_w1b) (hts _ ai_w1c) hE.1 hP.2 (ai_ws_D G h) hS b a 0 0 (ai_ws_at G.1 hf1) (ai_ws_at G.1 ho) rfl rfl rfl q1 q2 q3 q4 q5 (fun _ _ => rfl) g1 e3 hd (fun H1 locs1 hP1 _ hS1 => ?_)
                      have e4 : (ai_ws G G.1 h).set a (G.1 + a, .inl (ai_ca G false, o.length, .inl (va_cpy (fun k => f.getD k 0) (fun k => o.getD k 0) sp.toNatClampNeg dp.toNatClampNeg n.toNatClampNeg))) = ai_ws G G.1 (h.set a (.inl (false, z))) := by
                        rw [q7, ← q6]
                        exact ai_ws_set G (.inl (false, z)) h G.1 a
                      have hP2 := e4 ▸ hP1
                      exact ai_sz hbs (by rw [List.length_set]; exact hN) hP2 hS1 (fun hP2 => kk ls H1 locs1 (by rw [List.length_set]; exact hN) hP2 hS1 hL)
                    · cases hs
                · cases hs
              · rename_i b
                split at hs
                · rename_i f hf1
                  split at hs
                  · rename_i z hz
                    simp only [Option.some.injEq, Prod.mk.injEq] at hs
                    obtain ⟨rfl, rfl⟩ := hs
                    obtain ⟨q1, q2, q3, q4, q5, q6, q7⟩ := ai_cpyin hz
                    obtain ⟨x1, x2⟩ := hE.2.2.2 b f hf1
                    refine va_copyx hx hb hmls hown (hts _ (ai_gt_at (by rw [← hcn]; exact hf) rfl)) (hts _ ai_w1a) (hts _ ai_w1b) (hts _ ai_w1c) hE.1 hP.2 (ai_ws_D G h) hS x1 (by omega) (by show ¬ G.1 ≤ G.2.1 b; omega) a 0 (ai_ws_at G.1 ho) rfl q1 q2 q3 q4 q5 g1 e3 hd (fun H1 locs1 hP1 _ hS1 => ?_)
                    have e4 : (ai_ws G G.1 h).set a (G.1 + a, .inl (ai_ca G false, o.length, .inl (va_cpy (fun k => f.getD k 0) (fun k => o.getD k 0) sp.toNatClampNeg dp.toNatClampNeg n.toNatClampNeg))) = ai_ws G G.1 (h.set a (.inl (false, z))) := by
                      rw [q7, ← q6]
                      exact ai_ws_set G (.inl (false, z)) h G.1 a
                    have hP2 := e4 ▸ hP1
                    exact ai_sz hbs (by rw [List.length_set]; exact hN) hP2 hS1 (fun hP2 => kk ls H1 locs1 (by rw [List.length_set]; exact hN) hP2 hS1 hL)
                  · cases hs
                · cases hs
              · cases hs
          · cases hs
        · cases hs
      · cases hs
    · simp only [ai_nn, decide_eq_true_eq] at hf
      split at hs
      · rename_i j r
        split at hs
        · rename_i hq
          rw [Bool.and_eq_true, Bool.and_eq_true, Bool.and_eq_true] at hq
          obtain ⟨⟨⟨q1, q2⟩, q3⟩, q4⟩ := hq
          have e1 : kb = 0 := Nat.eq_of_beq_eq_true q1
          have q2 := Nat.le_of_ble_eq_true q2
          have q3 := Nat.le_of_ble_eq_true q3
          have q4 := Nat.le_of_ble_eq_true q4
          subst e1
          have hi2 : i = .invokevirtual k := by cases i <;> simp [ai_ci] at hci; rw [hci]
          subst hi2
          have hd := ai_decN hok hi rfl
          split at hs
          · rename_i x hx1
            simp only [Option.some.injEq, Prod.mk.injEq] at hs
            obtain ⟨rfl, rfl⟩ := hs
            obtain ⟨j', hj8, rfl, hjx⟩ := ai_slnE hx1
            have hk : k = 61 ∧ ai_own M = "FourWaters$Text" := by
              have h9 := ai_na2 _ _ (ai_by_mem hw) rfl
              exact ⟨h9.1, by rw [← hcn]; exact h9.2⟩
            obtain ⟨rfl, hown2⟩ := hk
            rw [hown2] at hown
            obtain ⟨⟨adV, hS8⟩, -⟩ := id hE.2.2.1.2
            refine js_after (rv := some (.int x)) (rest := r.map (ai_v G)) (va_runV (own := "FourWaters$Text") (C := "java/lang/String") (As := []) (rest := r.map (ai_v G)) ⟨hx, hb, hml, hown, hts⟩ (hjx ▸ js_length l G j' hj8) (cwV 0 hts (js_good js_V3) rfl rfl rfl ⟨rfl, by decide, by decide, by decide⟩ ⟨q2, Nat.le_trans (by decide) q3⟩) ⟨js_blind G _, vk_recv hS8 hj8 hS, fun U hU hW => ⟨rfl, ai_St_to hE.2.2.1.2 hS hU hW⟩⟩ rfl rfl hL.2.1 rfl (by show 2 * 0 + ((r.map (ai_v G)).map fun v => v.category).sum ≤ 8; rw [ai_cat_map]; omega) hd ⟨g2, g3⟩) ?_
            exact kk ls H locs hN hP hS hL
          · cases hs
        · cases hs
      · cases hs
    · simp only [ai_nn, decide_eq_true_eq] at hf
      split at hs
      · rename_i y j r
        split at hs
        · rename_i hq
          rw [Bool.and_eq_true, Bool.and_eq_true, Bool.and_eq_true] at hq
          obtain ⟨⟨⟨q1, q2⟩, q3⟩, q4⟩ := hq
          have e1 : kb = 0 := Nat.eq_of_beq_eq_true q1
          have q2 := Nat.le_of_ble_eq_true q2
          have q3 := Nat.le_of_ble_eq_true q3
          have q4 := Nat.le_of_ble_eq_true q4
          subst e1
          have hi2 : i = .invokevirtual k := by cases i <;> simp [ai_ci] at hci; rw [hci]
          subst hi2
          have hd := ai_decN hok hi rfl
          split at hs
          · rename_i x hx1
            simp only [Option.some.injEq, Prod.mk.injEq] at hs
            obtain ⟨rfl, rfl⟩ := hs
            obtain ⟨j', hj8, rfl, hy1, hy2, hjx⟩ := ai_schE hx1
            have hk : k = 65 ∧ ai_own M = "FourWaters$Text" := by
              have h9 := ai_na3 _ _ (ai_by_mem hw) rfl
              exact ⟨h9.1, by rw [← hcn]; exact h9.2⟩
            obtain ⟨rfl, hown2⟩ := hk
            rw [hown2] at hown
            obtain ⟨⟨adV, hS8⟩, -⟩ := id hE.2.2.1.2
            refine js_after (rv := some (.int x)) (rest := r.map (ai_v G)) (va_runV (own := "FourWaters$Text") (C := "java/lang/String") (As := [.int y]) (rest := r.map (ai_v G)) ⟨hx, hb, hml, hown, hts⟩ (hjx ▸ js_charAt l G j' hj8 y hy1 hy2) (cwV 1 hts (js_good js_V4) rfl rfl rfl ⟨rfl, by decide, by decide, by decide⟩ ⟨q2, Nat.le_trans (by decide) q3⟩) ⟨js_blind G _, vk_recv hS8 hj8 hS, fun U hU hW => ⟨rfl, ai_St_to hE.2.2.1.2 hS hU hW⟩⟩ rfl rfl hL.2.1 rfl (by show 2 * 0 + ((r.map (ai_v G)).map fun v => v.category).sum ≤ 8; rw [ai_cat_map]; omega) hd ⟨g2, g3⟩) ?_
            exact kk ls H locs hN hP hS hL
          · cases hs
        · cases hs
      · cases hs
    · simp only [ai_nn, decide_eq_true_eq] at hf
      split at hs
      · rename_i y x r
        split at hs
        · rename_i hq
          rw [Bool.and_eq_true] at hq
          have e1 : kb = 1 := Nat.eq_of_beq_eq_true hq.1
          have e2 := Nat.le_of_ble_eq_true hq.2
          subst e1
          have hi2 : i = .invokestatic k := by cases i <;> simp [ai_ci] at hci; rw [hci]
          subst hi2
          have hd := ai_decN hok hi rfl
          simp only [Option.some.injEq, Prod.mk.injEq] at hs
          obtain ⟨rfl, rfl⟩ := hs
          exact va_mmax hx hb hmls hown (hts _ (ai_gt_at (by rw [← hcn]; exact hf) rfl)) (hts _ ai_w4a) (hts _ ai_w4b) (hts _ ai_w4c) g1 (by rw [ai_cat_map]; exact e2) g2 g3 hd (kk ls H locs hN hP hS hL)
        · cases hs
      · cases hs
    · simp only [ai_nn, decide_eq_true_eq] at hf
      split at hs
      · rename_i y x r
        split at hs
        · rename_i hq
          rw [Bool.and_eq_true] at hq
          have e1 : kb = 1 := Nat.eq_of_beq_eq_true hq.1
          have e2 := Nat.le_of_ble_eq_true hq.2
          subst e1
          have hi2 : i = .invokestatic k := by cases i <;> simp [ai_ci] at hci; rw [hci]
          subst hi2
          have hd := ai_decN hok hi rfl
          simp only [Option.some.injEq, Prod.mk.injEq] at hs
          obtain ⟨rfl, rfl⟩ := hs
          exact va_mmin hx hb hmls hown (hts _ (ai_gt_at (by rw [← hcn]; exact hf) rfl)) (hts _ ai_w5a) (hts _ ai_w4b) (hts _ ai_w5c) g1 (by rw [ai_cat_map]; exact e2) g2 g3 hd (kk ls H locs hN hP hS hL)
        · cases hs
      · cases hs
    · cases hs
def ai_Qc (G : ai_G) (M : ai_M) (h : ai_H) (r : Option Value) (h' : ai_H) : Array Value → State → Outcome → State → Prop := fun _ st oc t => oc = .returned (r.map (ai_v G)) ∧ ai_P G h' t.heap ∧ va_F (fun q => G.1 ≤ q) st t ∧ h'.length = h.length + (ai_rm M).cells
def ai_Pc (G : ai_G) (X : List (List Int32)) (as : List Value) (h : ai_H) : Array Value → State → Prop := va_Pc (as.map (ai_v G)) (fun U => ai_P G h U.heap ∧ ai_En G X U)
/-- what an end does in a method's own frame -/
theorem ai_ret_ok (C : ai_C p s m args meth c M G X) {i : Instr} {rv : Option Value} {h0 : ai_H} (hi : ai_fd (ai_cd M) pc = some i) (hs : ai_ret M i st h cs sl = some (rv, h')) (h00 : s.heap.size = G.1 + h0.length) : ai_K p l e s m args below meth c (MQ below (ai_Qc G M h0 rv h') args s (ai_rm M).cells (ai_rm M).slots (fun q => G.1 ≤ q)) M G pc L st h cs sl := by
  intro ls H locs hN hP hS hL
  obtain ⟨hx, hb, hr, hml, hown, hts, hlk, hini, hE, hbs, hok, hcn⟩ := id C
  unfold ai_ret at hs
  split at hs
  · cases hs
  · rename_i hg
    rw [Bool.and_eq_true] at hg
    have g1 : cs = (ai_rm M).cells := Nat.eq_of_beq_eq_true hg.1
    have g2 := Nat.le_of_ble_eq_true hg.2
    refine W.widen (k := (ai_rm M).cells) (n := (ai_rm M).slots) (by omega) g2 ?_
    split at hs
    · have hd := ai_decN hok hi rfl
      split at hs
      · split at hs
        · rename_i hrt
          simp only [Option.some.injEq, Prod.mk.injEq] at hs
          obtain ⟨rfl, rfl⟩ := hs
          exact W.vret hx hb (by rw [hr, hrt]) (fun t ht hW => ⟨rfl, by rw [ht]; exact hP, hS.F ht, by omega⟩) hS.2.2 hd hlk
        · cases hs
      · cases hs
    · have hd := ai_decN hok hi rfl
      split at hs
      · rename_i v
        split at hs
        · rename_i hrt
          simp only [Option.some.injEq, Prod.mk.injEq] at hs
          obtain ⟨rfl, rfl⟩ := hs
          exact W.iret (v := v) hx hb (by rw [hr, hrt]) (fun t ht hW => ⟨rfl, by rw [ht]; exact hP, hS.F ht, by omega⟩) hS.2.2 hd hlk
        · rename_i hrt
          split at hs
          · rename_i hv
            simp only [Option.some.injEq, Prod.mk.injEq] at hs
            obtain ⟨rfl, rfl⟩ := hs
            exact W.zret (v := v) (ty := .boolean) hx hb (by rw [hr, hrt]) (by rcases hv with rfl | rfl <;> rfl) (fun t ht hW => ⟨rfl, by rw [ht]; exact hP, hS.F ht, by omega⟩) hS.2.2 hd hlk
          · cases hs
        · cases hs
      · cases hs
    · have hd := ai_decN hok hi rfl
      split at hs
      · rename_i v
        split at hs
        · rename_i hrt
          simp only [Option.some.injEq, Prod.mk.injEq] at hs
          obtain ⟨rfl, rfl⟩ := hs
          exact W.lret (v := v) hx hb (by rw [hr, hrt]) (fun t ht hW => ⟨rfl, by rw [ht]; exact hP, hS.F ht, by omega⟩) hS.2.2 hd hlk
        · cases hs
      · cases hs
    · have hd := ai_decN hok hi rfl
      split at hs
      · rename_i v
        split at hs
        · rename_i nm hrt
          simp only [Option.some.injEq, Prod.mk.injEq] at hs
          obtain ⟨rfl, rfl⟩ := hs
          exact W.aret (rt := .object nm) hx hb (by rw [hr, hrt]) (Or.inl ⟨nm, rfl⟩) (Or.inr ⟨_, rfl⟩) (fun t ht hW => ⟨rfl, by rw [ht]; exact hP, hS.F ht, by omega⟩) hS.2.2 hd hlk
        · cases hs
      · rename_i v
        split at hs
        · rename_i nm hrt
          simp only [Option.some.injEq, Prod.mk.injEq] at hs
          obtain ⟨rfl, rfl⟩ := hs
          exact W.aret (rt := .object nm) hx hb (by rw [hr, hrt]) (Or.inl ⟨nm, rfl⟩) (Or.inr ⟨_, rfl⟩) (fun t ht hW => ⟨rfl, by rw [ht]; exact hP, hS.F ht, by omega⟩) hS.2.2 hd hlk
        · cases hs
      · cases hs
    · cases hs
end AIS
/-! calls, and the interpreter's whole run -/
def ai_isn : Jvm.Cond → Bool
  | .methodLinkNest _ _ _ _ => true
  | .fieldLinkNest _ _ _ _ _ _ => true
  | _ => false
theorem ai_nw_all : ai_nw.all ai_isn = true := by decide +kernel
theorem ai_Nw_warm {s U : State} (hW : s.WarmedH U.vm) (hz : ∀ w ∈ ai_nw, va_Nw w s) : ∀ w ∈ ai_nw, va_Nw w U := by
  intro w hw
  have h1 := List.all_eq_true.mp ai_nw_all w hw
  have h2 := hz w hw
  cases w with
  | methodLinkNest a i x h => exact va_Nw.warmM hW h2
  | fieldLinkNest a i b n d h => exact va_Nw.warmF hW h2
  | _ => simp [ai_isn] at h1
theorem ai_Nw_same {s U : State} (hv : s.vm = U.vm) (hz : ∀ w ∈ ai_nw, va_Nw w s) : ∀ w ∈ ai_nw, va_Nw w U := by
  intro w hw
  have h1 := List.all_eq_true.mp ai_nw_all w hw
  have h2 := hz w hw
  cases w with
  | methodLinkNest a i x h => exact va_Nw.same rfl hv h2
  | fieldLinkNest a i b n d h => exact va_Nw.same rfl hv h2
  | _ => simp [ai_isn] at h1
theorem ai_En_to {G : ai_G} {X : List (List Int32)} {s U : State} {H : Heap} {locs : List Loc} (hE : ai_En G X s) (hb : G.1 ≤ s.heap.size) (hS : va_S (fun q => G.1 ≤ q) s.heap H locs) (hU : U.heap = H) (hW : s.WarmedH U.vm) : ai_En G X U := by
  obtain ⟨hK, hn, hZ, hX⟩ := hE
  refine ⟨va_K.moved hW.alike hK, ai_Nw_warm hW hn, ⟨(hZ.1.moved hW.alike).kept (fun a h1 h2 => by rw [hU]; exact hS.2.1 a h1 h2), ai_St_to hZ.2 hS hU hW⟩, fun k o ho => ?_⟩
  obtain ⟨x1, x2⟩ := hX k o ho
  exact ⟨(x1.moved hW.alike).kept (by rw [hU]; exact hS.2.1 _ (by omega) (by show ¬ G.1 ≤ G.2.1 k; omega)), x2⟩
theorem ai_En_eq {G : ai_G} {X : List (List Int32)} {s U : State} (hE : ai_En G X s) (hh : U.heap = s.heap) (hv : s.vm = U.vm) : ai_En G X U := by
  obtain ⟨hK, hn, hZ, hX⟩ := hE
  have ha : s.vm.Alike U.vm := by rw [hv]; exact Vm.Alike.refl U.vm
  refine ⟨va_K.moved ha hK, ai_Nw_same hv hn, ⟨by rw [hh]; exact hZ.1.moved ha, ai_St_eq hZ.2 hh hv⟩, fun k o ho => ?_⟩
  obtain ⟨x1, x2⟩ := hX k o ho
  exact ⟨by rw [hh]; exact x1.moved ha, x2⟩
theorem ai_blind (G : ai_G) (X : List (List Int32)) (as : List Value) (h : ai_H) : FrameBlind (ai_Pc G X as h) := by
  intro a U g mk q
  obtain ⟨h1, h2, h3⟩ := q
  exact ⟨h1, h2, ai_En_eq h3 rfl rfl⟩
theorem ai_good {ws : List Jvm.Cond} (h : ∀ w ∈ ws, w ∈ ai_gt) : GoodIn ai_gt ws := fun w hw => ⟨h w hw, good_of_word (List.mem_filter.mp (h w hw)).2⟩
theorem ai_w_in {M : ai_M} (ok : ai_okM M) : ∀ w ∈ ai_w M, w ∈ ai_gt := by
  obtain ⟨-, ⟨i, hi⟩, -, -⟩ := ok
  intro w hw
  unfold ai_w at hw
  rcases List.mem_cons.mp hw with rfl | hw
  · exact ai_gt_at hi rfl
  · exact hw
theorem ai_tk_eq : ∀ (n : Nat) (st acc as rest : List Value), ai_tk n st acc = some (as, rest) → ∃ t : List Value, t.length = n ∧ st = t.reverse ++ rest ∧ as = t ++ acc
  | 0, st, acc, as, rest, h => by
    simp only [ai_tk, Option.some.injEq, Prod.mk.injEq] at h
    exact ⟨[], rfl, by rw [h.2]; rfl, by rw [h.1]; rfl⟩
  | n + 1, [], acc, as, rest, h => by simp [ai_tk] at h
  | n + 1, v :: st, acc, as, rest, h => by
    obtain ⟨t, h1, h2, h3⟩ := ai_tk_eq n st (v :: acc) as rest h
    refine ⟨t ++ [v], by simp [h1], by rw [h2]; simp, by rw [h3]; simp⟩
theorem ai_tk0 {n : Nat} {st as rest : List Value} (h : ai_tk n st [] = some (as, rest)) : as.length = n ∧ st = as.reverse ++ rest := by
  obtain ⟨t, h1, h2, h3⟩ := ai_tk_eq n st [] as rest h
  rw [List.append_nil] at h3
  subst h3
  exact ⟨h1, h2⟩
theorem ai_fitin {R R' : Room} {mL cs sl : Nat} {rest : List Value} (h : ai_fit R R' mL cs sl rest = true) : (R'.frames + 1 ≤ R.frames ∧ 8 + (mL + 11) + R'.locals ≤ R.locals) ∧ (cs + R'.cells ≤ R.cells ∧ sl + R'.slots ≤ R.slots) ∧ ai_cat rest ≤ 8 := by
  unfold ai_fit at h
  rw [Bool.and_eq_true, Bool.and_eq_true, Bool.and_eq_true, Bool.and_eq_true] at h
  exact ⟨⟨Nat.le_of_ble_eq_true h.1.1.1.1, Nat.le_of_ble_eq_true h.1.1.1.2⟩, ⟨Nat.le_of_ble_eq_true h.1.1.2, Nat.le_of_ble_eq_true h.1.2⟩, Nat.le_of_ble_eq_true h.2⟩
abbrev ai_Met (l : Launch) (G : ai_G) (X : List (List Int32)) (M : ai_M) (as : List Value) (h : ai_H) (r : Option Value) (h' : ai_H) : Prop := Met l (ai_y M) (ai_w M) (ai_rm M) (ai_Pc G X as h) (ai_Qc G M h r h') (ai_rm M).cells (ai_rm M).slots (fun q => G.1 ≤ q)
section AIS
variable {p : Program} {l : Launch} {e : Env} {s : State} {m : MethodId} {args : Array Value} {below : List Frame} {meth : Method} {c : Code} {Q : State → Prop} {M : ai_M} {G : ai_G} {X : List (List Int32)} {H : Heap} {locs : List Loc} {ls : Array Slot} {pc pc' : Nat} {L L' : ai_L} {st st' rest as : List Value} {h h' : ai_H} {cs sl cs' sl' : Nat}

theorem ai_after {M' : ai_M} {rv : Option Value} {st0 : List Value} {a0 : Array Value} (hr : va_Run p l e (ai_rm M) s m args below meth c H locs cs sl (ai_rm M').cells (ai_rm M').slots (F0 m pc ls st0) (rest.map (ai_v G)) (ai_Qc G M' h rv h' a0) (fun q => G.1 ≤ q)) (hN : s.heap.size + cs = G.1 + h.length) (hP : ai_P G h H) (hS : va_S (fun q => G.1 ≤ q) s.heap H locs) (hL : ai_I G (ai_mL M) L ls)
    (kk : ai_K p l e s m args below meth c Q M G (pc + 3) L (rv.toList ++ rest) h' (cs + (ai_rm M').cells) (sl + (ai_rm M').slots)) : W p l e (ai_rm M) s m args below meth c H locs cs sl Q (F0 m pc ls st0) := by
  intro T hT Y
  obtain ⟨v, st₀, t, T', L1, h0, Y', hL1, e1, e2, ⟨hv, hP1, hF, hlen⟩, stp⟩ := hr T hT Y
  have hv2 : v = rv.map (ai_v G) := by cases hv; rfl
  subst hv2
  have hS1 : va_S (fun q => G.1 ≤ q) s.heap T'.heap (locs ++ L1) := by
    refine ⟨Nat.le_trans hS.1 (by rw [e1, ← h0]; exact hF.1), fun q h1 h2 => ?_, fun q hq => ?_⟩
    · rw [e1, hF.2 q (by rw [h0]; exact Nat.lt_of_lt_of_le h1 hS.1) h2, h0]
      exact hS.2.1 q h1 h2
    · rcases List.mem_append.mp hq with h | h
      · exact hS.2.2 q h
      · exact hL1 q h
  obtain ⟨t2, a1, b1⟩ := kk ls T'.heap (locs ++ L1) (by rw [hlen]; omega) (by rw [e1]; exact hP1) hS1 hL T' rfl Y'
  refine ⟨t2, stp t2 ?_, b1⟩
  have e3 : (rv.map (ai_v G)).toList ++ rest.map (ai_v G) = (rv.toList ++ rest).map (ai_v G) := by cases rv <;> simp
  show Steps p.tables e below (T'.setTop (F0 m (pc + 3) ls ((rv.map (ai_v G)).toList ++ rest.map (ai_v G)))) t2
  rw [e3]
  exact a1
theorem ai_call_ok (C : ai_C p s m args meth c M G X) {i : Instr} {kb k : Nat} {w : Nat × Nat × ai_M × List Nat} {rv : Option Value} (hi : ai_fd (ai_cd M) pc = some i) (hci : ai_ci i = some (kb, k)) (hw : ai_by (ai_caT (ai_cl M)) k = some w) (ok : ai_okM w.2.2.1) (ha : ai_arg M kb w.1 w.2.1 w.2.2.1 st h cs sl = some (as, rest)) (hM : (ai_en as).length ≤ ai_mL w.2.2.1 → ai_Met l G X w.2.2.1 as h rv h')
    (kk : ai_K p l e s m args below meth c Q M G (pc + 3) L (rv.toList ++ rest) h' (cs + (ai_rm w.2.2.1).cells) (sl + (ai_rm w.2.2.1).slots)) : ai_K p l e s m args below meth c Q M G pc L st h cs sl := by
  intro ls H locs hN hP hS hL
  obtain ⟨hx, hb, hr, hml, hown, hts, hlk, hini, hE, hbs, hok, hcn⟩ := id C
  have hf := List.all_eq_true.mp (ai_caK (ai_cl M)) _ (ai_by_mem hw)
  obtain ⟨kd, na, M', wl⟩ := w
  unfold ai_okK at hf
  simp only [Bool.and_eq_true, decide_eq_true_eq] at hf
  simp only at ok ha hM kk
  obtain ⟨⟨⟨⟨⟨f1, f2⟩, f3⟩, f4⟩, f5⟩, f6⟩ := hf
  have hpre : ∀ U : State, U.heap = H → s.WarmedH U.vm → ai_Pc G X as h (as.map (ai_v G)).toArray U := fun U hU hW => ⟨rfl, by rw [hU]; exact hP, ai_En_to hE hbs hS hU hW⟩
  unfold ai_arg at ha
  split at ha
  · -- an object's method
    simp only [Bool.and_eq_true, decide_eq_true_eq] at f6
    obtain ⟨⟨⟨⟨w1, w2⟩, w3⟩, w4⟩, w5⟩ := f6
    split at ha
    · rename_i as0 a rest0 htk
      split at ha
      · rename_i o ho
        split at ha
        · rename_i hg
          rw [Bool.and_eq_true, Bool.and_eq_true, Bool.and_eq_true] at hg
          obtain ⟨⟨⟨g1, g2⟩, g3⟩, g4⟩ := hg
          simp only [Option.some.injEq, Prod.mk.injEq] at ha
          obtain ⟨rfl, rfl⟩ := ha
          obtain ⟨t1, t2⟩ := ai_tk0 htk
          obtain ⟨r1, r2, r3⟩ := ai_fitin g3
          have e1 : kb = 0 := Nat.eq_of_beq_eq_true g1
          subst e1
          have hi2 : i = .invokevirtual k := by cases i <;> simp [ai_ci] at hci; rw [hci]
          subst hi2
          have hd := ai_decN hok hi rfl
          have hcc : o.1 = ai_cl M' := Nat.eq_of_beq_eq_true g2
          split at w5
          · rename_i t ht
            rw [decide_eq_true_eq] at w5
            have hcl : vwCl[o.1]? = some t := by rw [← ai_nth_eq, hcc]; exact ht
            have hrec := va_recv hE.1 hP.2 hcl (ai_ws_at G.1 ho)
            rw [w5] at hrec
            have hwin : ∀ w ∈ wsV (ai_own M) k (ai_y M').cls (ai_y M') (ai_w M'), w ∈ ai_gt := by
              intro w hw9
              unfold wsV at hw9
              rcases List.mem_append.mp hw9 with q | q
              · simp only [List.mem_cons, List.not_mem_nil, or_false] at q
                rcases q with rfl | rfl | rfl | rfl
                · exact ai_gt_at (by rw [← hcn]; exact w1) rfl
                · exact ai_gt_at w2 rfl
                · exact ai_gt_at w3 rfl
                · exact ai_gt_at w4 rfl
              · exact ai_w_in ok w q
            have hst : (F0 m pc ls (st.map (ai_v G))).stack = (as0.map (ai_v G)).reverse ++ .ref (G.1 + a) :: rest0.map (ai_v G) := by
              show st.map (ai_v G) = _
              rw [t2, List.map_append, List.map_reverse, List.map_cons]; rfl
            exact ai_after (va_runV (own := ai_own M) (C := (ai_y M').cls) (As := as0.map (ai_v G)) (rest := rest0.map (ai_v G)) ⟨hx, hb, hml, hown, hts⟩ (hM (Nat.le_of_ble_eq_true g4)) (cwV na hts (ai_good hwin) rfl rfl rfl ⟨rfl, f1, f2, f3⟩ r1) ⟨ai_blind G X _ h, hrec, hpre⟩ rfl (by rw [List.length_map]; exact t1) hL.2.1 hst (by show 2 * 0 + ((rest0.map (ai_v G)).map fun v => v.category).sum ≤ 8; rw [ai_cat_map]; omega) hd r2) hN hP hS hL kk
          · cases w5
        · cases ha
      · cases ha
    · cases ha
  · -- a method of a class
    simp only [Bool.and_eq_true, decide_eq_true_eq] at f6
    obtain ⟨⟨w1, w2⟩, w3⟩ := f6
    split at ha
    · rename_i as0 rest0 htk
      split at ha
      · rename_i hg
        rw [Bool.and_eq_true, Bool.and_eq_true] at hg
        obtain ⟨⟨g1, g3⟩, g4⟩ := hg
        simp only [Option.some.injEq, Prod.mk.injEq] at ha
        obtain ⟨rfl, rfl⟩ := ha
        obtain ⟨t1, t2⟩ := ai_tk0 htk
        obtain ⟨r1, r2, r3⟩ := ai_fitin g3
        have e1 : kb = 1 := Nat.eq_of_beq_eq_true g1
        subst e1
        have hi2 : i = .invokestatic k := by cases i <;> simp [ai_ci] at hci; rw [hci]
        subst hi2
        have hd := ai_decN hok hi rfl
        have hwin : ∀ w ∈ va_wsS (ai_own M) k (ai_y M') (ai_w M'), w ∈ ai_gt := by
          intro w hw9
          unfold va_wsS at hw9
          rcases List.mem_append.mp hw9 with q | q
          · simp only [List.mem_cons, List.not_mem_nil, or_false] at q
            rcases q with rfl | rfl | rfl
            · exact ai_gt_at (by rw [← hcn]; exact w1) rfl
            · exact ai_gt_at w2 rfl
            · exact ai_gt_at w3 rfl
          · exact ai_w_in ok w q
        have hst : (F0 m pc ls (st.map (ai_v G))).stack = (as0.map (ai_v G)).reverse ++ rest0.map (ai_v G) := by
          show st.map (ai_v G) = _
          rw [t2, List.map_append, List.map_reverse]
        exact ai_after (va_runS (own := ai_own M) (As := as0.map (ai_v G)) (rest := rest0.map (ai_v G)) ⟨hx, hb, hml, hown, hts⟩ (hM (Nat.le_of_ble_eq_true g4)) (va_cwS na hts (ai_good hwin) rfl rfl rfl ⟨f1, f2, f3⟩ r1) ⟨ai_blind G X _ h, hpre⟩ rfl (by rw [List.length_map]; exact t1) hL.2.1 hst (by show 2 * 0 + ((rest0.map (ai_v G)).map fun v => v.category).sum ≤ 8; rw [ai_cat_map]; omega) hd r2) hN hP hS hL kk
      · cases ha
    · cases ha
  · -- a nest mate's method of a class
    simp only [Bool.and_eq_true, decide_eq_true_eq] at f6
    obtain ⟨⟨⟨w1, w0⟩, w2⟩, w3⟩ := f6
    split at ha
    · rename_i as0 rest0 htk
      split at ha
      · rename_i hg
        rw [Bool.and_eq_true, Bool.and_eq_true] at hg
        obtain ⟨⟨g1, g3⟩, g4⟩ := hg
        simp only [Option.some.injEq, Prod.mk.injEq] at ha
        obtain ⟨rfl, rfl⟩ := ha
        obtain ⟨t1, t2⟩ := ai_tk0 htk
        obtain ⟨r1, r2, r3⟩ := ai_fitin g3
        have e1 : kb = 1 := Nat.eq_of_beq_eq_true g1
        subst e1
        have hi2 : i = .invokestatic k := by cases i <;> simp [ai_ci] at hci; rw [hci]
        subst hi2
        have hd := ai_decN hok hi rfl
        have hnin : Jvm.Cond.methodLinkNest (ai_own M) k (ai_y M') "FourWaters" ∈ ai_nw := by
          rw [← hcn]
          exact List.mem_filterMap.mpr ⟨_, List.elem_iff.mp w0, w1⟩
        have hst : (F0 m pc ls (st.map (ai_v G))).stack = (as0.map (ai_v G)).reverse ++ rest0.map (ai_v G) := by
          show st.map (ai_v G) = _
          rw [t2, List.map_append, List.map_reverse]
        exact ai_after (va_runSN (own := ai_own M) (As := as0.map (ai_v G)) (rest := rest0.map (ai_v G)) ⟨hx, hb, hml, hown, hts⟩ (hM (Nat.le_of_ble_eq_true g4)) ⟨va_cnB na hts (ai_good (ai_w_in ok)) rfl rfl rfl (hE.2.1 _ hnin) (hts _ (ai_gt_at w3 rfl)) ⟨f1, f2, f3⟩ r1, hts _ (ai_gt_at w2 rfl), trivial⟩ ⟨ai_blind G X _ h, hpre⟩ rfl (by rw [List.length_map]; exact t1) hL.2.1 hst (by show 2 * 0 + ((rest0.map (ai_v G)).map fun v => v.category).sum ≤ 8; rw [ai_cat_map]; omega) hd r2) hN hP hS hL kk
      · cases ha
    · cases ha
  · -- a maker
    simp only [Bool.and_eq_true, decide_eq_true_eq] at f6
    obtain ⟨⟨⟨⟨w1, w2⟩, w3⟩, w4⟩, w5⟩ := f6
    split at ha
    · rename_i as0 a rest0 htk
      split at ha
      · rename_i hg
        rw [Bool.and_eq_true, Bool.and_eq_true] at hg
        obtain ⟨⟨g1, g3⟩, g4⟩ := hg
        simp only [Option.some.injEq, Prod.mk.injEq] at ha
        obtain ⟨rfl, rfl⟩ := ha
        obtain ⟨t1, t2⟩ := ai_tk0 htk
        obtain ⟨r1, r2, r3⟩ := ai_fitin g3
        have e1 : kb = 2 := Nat.eq_of_beq_eq_true g1
        subst e1
        have hi2 : i = .invokespecial k := by cases i <;> simp [ai_ci] at hci; rw [hci]
        subst hi2
        have hd := ai_decN hok hi rfl
        have hst : (F0 m pc ls (st.map (ai_v G))).stack = (as0.map (ai_v G)).reverse ++ .ref (G.1 + a) :: rest0.map (ai_v G) := by
          show st.map (ai_v G) = _
          rw [t2, List.map_append, List.map_reverse, List.map_cons]; rfl
        exact ai_after (va_runI (own := ai_own M) (As := as0.map (ai_v G)) (rest := rest0.map (ai_v G)) ⟨hx, hb, hml, hown, hts⟩ (hM (Nat.le_of_ble_eq_true g4)) ⟨callB_of na hts (ai_good (ai_w_in ok)) (by unfold ai_w; rw [w5]) rfl rfl (hts _ (ai_gt_at w3 rfl)) (hts _ (ai_gt_at (by rw [← hcn]; exact w1) rfl)) ⟨f1, f2, f3⟩ r1, w4, hts _ (ai_gt_at w2 rfl)⟩ ⟨ai_blind G X _ h, hpre⟩ rfl (by rw [List.length_map]; exact t1) hL.2.1 hst (by show 2 * 0 + ((rest0.map (ai_v G)).map fun v => v.category).sum ≤ 8; rw [ai_cat_map]; omega) hd r2) hN hP hS hL kk
      · cases ha
    · cases ha
  · -- a nest mate's maker
    simp only [Bool.and_eq_true, decide_eq_true_eq] at f6
    obtain ⟨⟨⟨⟨⟨w1, w0⟩, w2⟩, w3⟩, w4⟩, w5⟩ := f6
    split at ha
    · rename_i as0 a rest0 htk
      split at ha
      · rename_i hg
        rw [Bool.and_eq_true, Bool.and_eq_true] at hg
        obtain ⟨⟨g1, g3⟩, g4⟩ := hg
        simp only [Option.some.injEq, Prod.mk.injEq] at ha
        obtain ⟨rfl, rfl⟩ := ha
        obtain ⟨t1, t2⟩ := ai_tk0 htk
        obtain ⟨r1, r2, r3⟩ := ai_fitin g3
        have e1 : kb = 2 := Nat.eq_of_beq_eq_true g1
        subst e1
        have hi2 : i = .invokespecial k := by cases i <;> simp [ai_ci] at hci; rw [hci]
        subst hi2
        have hd := ai_decN hok hi rfl
        have hnin : Jvm.Cond.methodLinkNest (ai_own M) k (ai_y M') "FourWaters" ∈ ai_nw := by
          rw [← hcn]
          exact List.mem_filterMap.mpr ⟨_, List.elem_iff.mp w0, w1⟩
        have hst : (F0 m pc ls (st.map (ai_v G))).stack = (as0.map (ai_v G)).reverse ++ .ref (G.1 + a) :: rest0.map (ai_v G) := by
          show st.map (ai_v G) = _
          rw [t2, List.map_append, List.map_reverse, List.map_cons]; rfl
        exact ai_after (va_runIN (own := ai_own M) (As := as0.map (ai_v G)) (rest := rest0.map (ai_v G)) ⟨hx, hb, hml, hown, hts⟩ (hM (Nat.le_of_ble_eq_true g4)) ⟨va_cnB na hts (ai_good (ai_w_in ok)) (by unfold ai_w; rw [w5]) rfl rfl (hE.2.1 _ hnin) (hts _ (ai_gt_at w3 rfl)) ⟨f1, f2, f3⟩ r1, w4, hts _ (ai_gt_at w2 rfl)⟩ ⟨ai_blind G X _ h, hpre⟩ rfl (by rw [List.length_map]; exact t1) hL.2.1 hst (by show 2 * 0 + ((rest0.map (ai_v G)).map fun v => v.category).sum ≤ 8; rw [ai_cat_map]; omega) hd r2) hN hP hS hL kk
      · cases ha
    · cases ha
  · cases ha
end AIS
/-! the interpreter's run is the machine's -/
theorem ai_met_of {l : Launch} {G : ai_G} {X : List (List Int32)} {M : ai_M} {as : List Value} {h : ai_H} {rv : Option Value} {h' : ai_H} (ok : ai_okM M) (hcn : ai_cn (ai_cl M) = ai_own M) (hlen : (ai_en as).length ≤ ai_mL M)
    (ih : ∀ {p : Program} {e : Env} {s : State} {m : MethodId} {args : Array Value} {below : List Frame} {meth : Method} {c : Code} {Q : State → Prop}, ai_C p s m args meth c M G X → (∀ (i : Instr) (pc : Nat) (L : ai_L) (st : List Value) (h : ai_H) (cs sl : Nat), ai_fd (ai_cd M) pc = some i → ai_ret M i st h cs sl = some (rv, h') → ai_K p l e s m args below meth c Q M G pc L st h cs sl) → ai_K p l e s m args below meth c Q M G 0 (ai_pad (ai_mL M) (ai_en as)) [] h 0 0) : ai_Met l G X M as h rv h' := by
  refine Met.ofW (cc := ai_cc M) (maxL := ai_mL M) (ret := ai_rt M) ok.2.2.1 rfl ?_
  intro p e s m args below meth c s₁ B hml hv
  obtain ⟨e1, hP, hE⟩ : args = (as.map (ai_v G)).toArray ∧ ai_P G h s.heap ∧ ai_En G X s := hv
  subst e1
  have hts := atoms_spec (ws := ai_w M) B.pre
  have hown : s.vm.findClass (ai_y M).cls = some m.cls := findClass_of_methodNamed B.named
  have C : ai_C p s m (as.map (ai_v G)).toArray meth c M G X := ⟨B.exec, B.bytes, B.returns, hml, by rw [← ok.2.2.2]; exact hown, fun w hw => hts w (List.mem_cons_of_mem _ hw), B.notSynchronized, fun hn => by rw [(name_of_methodNamed B.named B.method).1]; exact hn, hE, by rw [hP.1]; omega, ok.1, hcn⟩
  rw [lg_entry_eq]
  exact ih C (fun i pc L st h1 cs sl hi hs => ai_ret_ok C hi hs hP.1) _ s.heap [] (by rw [hP.1]; omega) hP va_S.rf (ai_I_entry G as hlen)
theorem ai_sound (l : Launch) (G : ai_G) (X : List (List Int32)) (hca : ∀ c, ∀ q ∈ ai_caT c, ai_okM q.2.2.2.1) : ∀ (n : Nat) (M : ai_M) (pc : Nat) (L : ai_L) (st : List Value) (h : ai_H) (cs sl : Nat) (rv : Option Value) (h' : ai_H), ai_run X n M pc L st h cs sl = some (rv, h') →
    ∀ {p : Program} {e : Env} {s : State} {m : MethodId} {args : Array Value} {below : List Frame} {meth : Method} {c : Code} {Q : State → Prop}, ai_C p s m args meth c M G X → (∀ (i : Instr) (pc : Nat) (L : ai_L) (st : List Value) (h : ai_H) (cs sl : Nat), ai_fd (ai_cd M) pc = some i → ai_ret M i st h cs sl = some (rv, h') → ai_K p l e s m args below meth c Q M G pc L st h cs sl) → ai_K p l e s m args below meth c Q M G pc L st h cs sl := by
  intro n
  induction n with
  | zero => intro M pc L st h cs sl rv h' hrun; simp [ai_run] at hrun
  | succ n ih =>
    intro M pc L st h cs sl rv h' hrun p e s m args below meth c Q C hret
    rw [ai_run] at hrun
    split at hrun
    · cases hrun
    · rename_i i hi
      split at hrun
      · split at hrun
        · exact hret i pc L st h cs sl hi hrun
        · split at hrun
          · cases hrun
          · rename_i q hq
            obtain ⟨pc', L', st', h1, cs', sl'⟩ := q
            exact ai_step_ok C hi hq (ih M _ _ _ _ _ _ rv h' hrun C hret)
      · rename_i k hk
        obtain ⟨kb, k⟩ := k
        split at hrun
        · rename_i w hw
          obtain ⟨w, wi⟩ := w
          split at hrun
          · cases hrun
          · rename_i q hq
            obtain ⟨st', h1⟩ := q
            exact ai_nat_ok C hi hk hw hq (ih M _ _ _ _ _ _ rv h' hrun C hret)
        · split at hrun
          · cases hrun
          · rename_i w hw
            split at hrun
            · cases hrun
            · rename_i q hq
              obtain ⟨as, rest⟩ := q
              split at hrun
              · cases hrun
              · rename_i z hz
                obtain ⟨r1, h1⟩ := z
                have hm := ai_by_mem hw
                have ok := hca _ _ hm
                have hf := List.all_eq_true.mp (ai_caK (ai_cl M)) _ hm
                have hcn : ai_cn (ai_cl w.2.2.1) = ai_own w.2.2.1 := by
                  unfold ai_okK at hf
                  simp only [Bool.and_eq_true, decide_eq_true_eq] at hf
                  exact hf.1.1.2
                exact ai_call_ok C hi hk hw ok hq (fun hlen => ai_met_of ok hcn hlen (fun C2 hr2 => ih w.2.2.1 0 _ [] h 0 0 r1 h1 hz C2 hr2)) (ih M _ _ _ _ _ _ rv h' hrun C hret)
/-! a quicker check of the decoding: by the bytes themselves, in one walk -/
def fzB (cc : ByteArray) (p b : Nat) : Prop := ∃ h : p < cc.size, (cc[p]'h).toNat = b
theorem fz_u1 {cc : ByteArray} {p b : Nat} (h : fzB cc p b) : (Jvm.ClassFile.Reader.u1 : Jvm.ClassFile.Decoder Nat) cc p = Except.ok (b, p + 1) := by
  obtain ⟨h1, h2⟩ := h
  unfold Jvm.ClassFile.Reader.u1
  show ((if h : p < cc.size then (do MonadStateOf.set (p + 1); Pure.pure (cc[p]'h).toNat) else throw (Jvm.ClassFile.HasTruncated.truncated p) : Jvm.ClassFile.Decoder Nat)) cc p = _
  rw [dif_pos h1, h2]
  rfl
theorem fz_bind {α β : Type} {cc : ByteArray} {p q : Nat} {a : α} {x : Jvm.ClassFile.Decoder α} (f : α → Jvm.ClassFile.Decoder β) (h : x cc p = Except.ok (a, q)) : (x >>= f) cc p = f a cc q := by
  show Except.bind (x cc p) (fun y => f y.1 cc y.2) = _
  rw [h]
  rfl
theorem fz_dec {cc : ByteArray} {pc q : Nat} {i : Instr} (h : Jvm.ClassFile.Decoder.instr pc cc pc = Except.ok (i, q)) : decode cc pc = Except.ok (i, q - pc) := by
  show Except.bind (Jvm.ClassFile.Decoder.instr pc cc pc) (fun x => Except.ok (x.1, x.2 - pc)) = _
  rw [h]
  rfl
theorem fz_u2 {cc : ByteArray} {p x y : Nat} (h1 : fzB cc p x) (h2 : fzB cc (p + 1) y) : (Jvm.ClassFile.Reader.u2 : Jvm.ClassFile.Decoder Nat) cc p = Except.ok (x * 256 + y, p + 2) := by
  unfold Jvm.ClassFile.Reader.u2
  rw [fz_bind _ (fz_u1 h1), fz_bind _ (fz_u1 h2)]
  rfl
theorem fz_s1 {cc : ByteArray} {p x : Nat} (h1 : fzB cc p x) : (Jvm.ClassFile.Reader.s1 : Jvm.ClassFile.Decoder Int) cc p = Except.ok (Jvm.ClassFile.Reader.signed 8 x, p + 1) := by
  unfold Jvm.ClassFile.Reader.s1
  show Except.bind (Jvm.ClassFile.Reader.u1 cc p) (fun y => Except.ok (Jvm.ClassFile.Reader.signed 8 y.1, y.2)) = _
  rw [fz_u1 h1]
  rfl
theorem fz_s2 {cc : ByteArray} {p x y : Nat} (h1 : fzB cc p x) (h2 : fzB cc (p + 1) y) : (Jvm.ClassFile.Reader.s2 : Jvm.ClassFile.Decoder Int) cc p = Except.ok (Jvm.ClassFile.Reader.signed 16 (x * 256 + y), p + 2) := by
  unfold Jvm.ClassFile.Reader.s2
  show Except.bind (Jvm.ClassFile.Reader.u2 cc p) (fun z => Except.ok (Jvm.ClassFile.Reader.signed 16 z.1, z.2)) = _
  rw [fz_u2 h1 h2]
  rfl
theorem fz_in (pc : Nat) : ∃ G : Nat → Jvm.ClassFile.Decoder Instr, Jvm.ClassFile.Decoder.instr pc = (Jvm.ClassFile.Reader.u1 >>= G) ∧ G 46 = Pure.pure Instr.iaload ∧ G 51 = Pure.pure Instr.baload ∧ G 79 = Pure.pure Instr.iastore ∧ G 84 = Pure.pure Instr.bastore ∧ G 87 = Pure.pure Instr.pop ∧ G 88 = Pure.pure Instr.pop2 ∧ G 89 = Pure.pure Instr.dup ∧ G 90 = Pure.pure Instr.dup_x1 ∧ G 92 = Pure.pure Instr.dup2 ∧ G 96 = Pure.pure Instr.iadd ∧ G 97 = Pure.pure Instr.ladd ∧ G 100 = Pure.pure Instr.isub ∧ G 101 = Pure.pure Instr.lsub ∧ G 104 = Pure.pure Instr.imul ∧ G 105 = Pure.pure Instr.lmul ∧ G 108 = Pure.pure Instr.idiv ∧ G 109 = Pure.pure Instr.ldiv ∧ G 112 = Pure.pure Instr.irem ∧ G 113 = Pure.pure Instr.lrem ∧ G 116 = Pure.pure Instr.ineg ∧ G 120 = Pure.pure Instr.ishl ∧ G 122 = Pure.pure Instr.ishr ∧ G 124 = Pure.pure Instr.iushr ∧ G 126 = Pure.pure Instr.iand ∧ G 128 = Pure.pure Instr.ior ∧ G 130 = Pure.pure Instr.ixor ∧ G 133 = Pure.pure Instr.i2l ∧ G 148 = Pure.pure Instr.lcmp ∧ G 172 = Pure.pure Instr.ireturn ∧ G 173 = Pure.pure Instr.lreturn ∧ G 176 = Pure.pure Instr.areturn ∧ G 177 = Pure.pure Instr.return_ ∧ G 190 = Pure.pure Instr.arraylength ∧ G 26 = Pure.pure (Instr.iload_n 0) ∧ G 27 = Pure.pure (Instr.iload_n 1) ∧ G 28 = Pure.pure (Instr.iload_n 2) ∧ G 29 = Pure.pure (Instr.iload_n 3) ∧ G 30 = Pure.pure (Instr.lload_n 0) ∧ G 31 = Pure.pure (Instr.lload_n 1) ∧ G 32 = Pure.pure (Instr.lload_n 2) ∧ G 33 = Pure.pure (Instr.lload_n 3) ∧ G 42 = Pure.pure (Instr.aload_n 0) ∧ G 43 = Pure.pure (Instr.aload_n 1) ∧ G 44 = Pure.pure (Instr.aload_n 2) ∧ G 45 = Pure.pure (Instr.aload_n 3) ∧ G 59 = Pure.pure (Instr.istore_n 0) ∧ G 60 = Pure.pure (Instr.istore_n 1) ∧ G 61 = Pure.pure (Instr.istore_n 2) ∧ G 62 = Pure.pure (Instr.istore_n 3) ∧ G 63 = Pure.pure (Instr.lstore_n 0) ∧ G 64 = Pure.pure (Instr.lstore_n 1) ∧ G 65 = Pure.pure (Instr.lstore_n 2) ∧ G 66 = Pure.pure (Instr.lstore_n 3) ∧ G 75 = Pure.pure (Instr.astore_n 0) ∧ G 76 = Pure.pure (Instr.astore_n 1) ∧ G 77 = Pure.pure (Instr.astore_n 2) ∧ G 78 = Pure.pure (Instr.astore_n 3) ∧ G 9 = Pure.pure (Instr.lconst 0) ∧ G 10 = Pure.pure (Instr.lconst 1) ∧ G 2 = Pure.pure (Instr.iconst (-1)) ∧ G 3 = Pure.pure (Instr.iconst (0)) ∧ G 4 = Pure.pure (Instr.iconst (1)) ∧ G 5 = Pure.pure (Instr.iconst (2)) ∧ G 6 = Pure.pure (Instr.iconst (3)) ∧ G 7 = Pure.pure (Instr.iconst (4)) ∧ G 8 = Pure.pure (Instr.iconst (5)) ∧ G 25 = (Jvm.ClassFile.Reader.u1 >>= fun a => Pure.pure (Instr.aload a)) ∧ G 21 = (Jvm.ClassFile.Reader.u1 >>= fun a => Pure.pure (Instr.iload a)) ∧ G 22 = (Jvm.ClassFile.Reader.u1 >>= fun a => Pure.pure (Instr.lload a)) ∧ G 54 = (Jvm.ClassFile.Reader.u1 >>= fun a => Pure.pure (Instr.istore a)) ∧ G 55 = (Jvm.ClassFile.Reader.u1 >>= fun a => Pure.pure (Instr.lstore a)) ∧ G 58 = (Jvm.ClassFile.Reader.u1 >>= fun a => Pure.pure (Instr.astore a)) ∧ G 18 = (Jvm.ClassFile.Reader.u1 >>= fun a => Pure.pure (Instr.ldc a)) ∧ G 16 = (Jvm.ClassFile.Reader.s1 >>= fun a => Pure.pure (Instr.bipush a)) ∧ G 17 = (Jvm.ClassFile.Reader.s2 >>= fun a => Pure.pure (Instr.sipush a)) ∧ G 167 = (Jvm.ClassFile.Reader.s2 >>= fun a => Pure.pure (Instr.goto a)) ∧ G 153 = (Jvm.ClassFile.Reader.s2 >>= fun a => Pure.pure (Instr.ifCond .eq a)) ∧ G 154 = (Jvm.ClassFile.Reader.s2 >>= fun a => Pure.pure (Instr.ifCond .ne a)) ∧ G 155 = (Jvm.ClassFile.Reader.s2 >>= fun a => Pure.pure (Instr.ifCond .lt a)) ∧ G 156 = (Jvm.ClassFile.Reader.s2 >>= fun a => Pure.pure (Instr.ifCond .ge a)) ∧ G 157 = (Jvm.ClassFile.Reader.s2 >>= fun a => Pure.pure (Instr.ifCond .gt a)) ∧ G 158 = (Jvm.ClassFile.Reader.s2 >>= fun a => Pure.pure (Instr.ifCond .le a)) ∧ G 159 = (Jvm.ClassFile.Reader.s2 >>= fun a => Pure.pure (Instr.if_icmp .eq a)) ∧ G 160 = (Jvm.ClassFile.Reader.s2 >>= fun a => Pure.pure (Instr.if_icmp .ne a)) ∧ G 161 = (Jvm.ClassFile.Reader.s2 >>= fun a => Pure.pure (Instr.if_icmp .lt a)) ∧ G 162 = (Jvm.ClassFile.Reader.s2 >>= fun a => Pure.pure (Instr.if_icmp .ge a)) ∧ G 163 = (Jvm.ClassFile.Reader.s2 >>= fun a => Pure.pure (Instr.if_icmp .gt a)) ∧ G 164 = (Jvm.ClassFile.Reader.s2 >>= fun a => Pure.pure (Instr.if_icmp .le a)) ∧ G 19 = (Jvm.ClassFile.Reader.u2 >>= fun a => Pure.pure (Instr.ldc_w a)) ∧ G 20 = (Jvm.ClassFile.Reader.u2 >>= fun a => Pure.pure (Instr.ldc2_w a)) ∧ G 178 = (Jvm.ClassFile.Reader.u2 >>= fun a => Pure.pure (Instr.getstatic a)) ∧ G 180 = (Jvm.ClassFile.Reader.u2 >>= fun a => Pure.pure (Instr.getfield a)) ∧ G 181 = (Jvm.ClassFile.Reader.u2 >>= fun a => Pure.pure (Instr.putfield a)) ∧ G 182 = (Jvm.ClassFile.Reader.u2 >>= fun a => Pure.pure (Instr.invokevirtual a)) ∧ G 183 = (Jvm.ClassFile.Reader.u2 >>= fun a => Pure.pure (Instr.invokespecial a)) ∧ G 184 = (Jvm.ClassFile.Reader.u2 >>= fun a => Pure.pure (Instr.invokestatic a)) ∧ G 187 = (Jvm.ClassFile.Reader.u2 >>= fun a => Pure.pure (Instr.new a)) ∧ G 132 = (Jvm.ClassFile.Reader.u1 >>= fun a => Jvm.ClassFile.Reader.s1 >>= fun b => Pure.pure (Instr.iinc a b)) ∧ G 188 = Jvm.ClassFile.Decoder.newarray pc := ⟨_, rfl, rfl, rfl, rfl, rfl, rfl, rfl, rfl, rfl, rfl, rfl, rfl, rfl, rfl, rfl, rfl, rfl, rfl, rfl, rfl, rfl, rfl, rfl, rfl, rfl, rfl, rfl, rfl, rfl, rfl, rfl, rfl, rfl, rfl, rfl, rfl, rfl, rfl, rfl, rfl, rfl, rfl, rfl, rfl, rfl, rfl, rfl, rfl, rfl, rfl, rfl, rfl, rfl, rfl, rfl, rfl, rfl, rfl, rfl, rfl, rfl, rfl, rfl, rfl, rfl, rfl, rfl, rfl, rfl, rfl, rfl, rfl, rfl, rfl, rfl, rfl, rfl, rfl, rfl, rfl, rfl, rfl, rfl, rfl, rfl, rfl, rfl, rfl, rfl, rfl, rfl, rfl, rfl, rfl, rfl, rfl, rfl, rfl, rfl, rfl⟩
noncomputable def fzG (pc : Nat) : Nat → Jvm.ClassFile.Decoder Instr := Classical.choose (fz_in pc)
theorem fzG_s (pc : Nat) : Jvm.ClassFile.Decoder.instr pc = (Jvm.ClassFile.Reader.u1 >>= fzG pc) ∧ fzG pc 46 = Pure.pure Instr.iaload ∧ fzG pc 51 = Pure.pure Instr.baload ∧ fzG pc 79 = Pure.pure Instr.iastore ∧ fzG pc 84 = Pure.pure Instr.bastore ∧ fzG pc 87 = Pure.pure Instr.pop ∧ fzG pc 88 = Pure.pure Instr.pop2 ∧ fzG pc 89 = Pure.pure Instr.dup ∧ fzG pc 90 = Pure.pure Instr.dup_x1 ∧ fzG pc 92 = Pure.pure Instr.dup2 ∧ fzG pc 96 = Pure.pure Instr.iadd ∧ fzG pc 97 = Pure.pure Instr.ladd ∧ fzG pc 100 = Pure.pure Instr.isub ∧ fzG pc 101 = Pure.pure Instr.lsub ∧ fzG pc 104 = Pure.pure Instr.imul ∧ fzG pc 105 = Pure.pure Instr.lmul ∧ fzG pc 108 = Pure.pure Instr.idiv ∧ fzG pc 109 = Pure.pure Instr.ldiv ∧ fzG pc 112 = Pure.pure Instr.irem ∧ fzG pc 113 = Pure.pure Instr.lrem ∧ fzG pc 116 = Pure.pure Instr.ineg ∧ fzG pc 120 = Pure.pure Instr.ishl ∧ fzG pc 122 = Pure.pure Instr.ishr ∧ fzG pc 124 = Pure.pure Instr.iushr ∧ fzG pc 126 = Pure.pure Instr.iand ∧ fzG pc 128 = Pure.pure Instr.ior ∧ fzG pc 130 = Pure.pure Instr.ixor ∧ fzG pc 133 = Pure.pure Instr.i2l ∧ fzG pc 148 = Pure.pure Instr.lcmp ∧ fzG pc 172 = Pure.pure Instr.ireturn ∧ fzG pc 173 = Pure.pure Instr.lreturn ∧ fzG pc 176 = Pure.pure Instr.areturn ∧ fzG pc 177 = Pure.pure Instr.return_ ∧ fzG pc 190 = Pure.pure Instr.arraylength ∧ fzG pc 26 = Pure.pure (Instr.iload_n 0) ∧ fzG pc 27 = Pure.pure (Instr.iload_n 1) ∧ fzG pc 28 = Pure.pure (Instr.iload_n 2) ∧ fzG pc 29 = Pure.pure (Instr.iload_n 3) ∧ fzG pc 30 = Pure.pure (Instr.lload_n 0) ∧ fzG pc 31 = Pure.pure (Instr.lload_n 1) ∧ fzG pc 32 = Pure.pure (Instr.lload_n 2) ∧ fzG pc 33 = Pure.pure (Instr.lload_n 3) ∧ fzG pc 42 = Pure.pure (Instr.aload_n 0) ∧ fzG pc 43 = Pure.pure (Instr.aload_n 1) ∧ fzG pc 44 = Pure.pure (Instr.aload_n 2) ∧ fzG pc 45 = Pure.pure (Instr.aload_n 3) ∧ fzG pc 59 = Pure.pure (Instr.istore_n 0) ∧ fzG pc 60 = Pure.pure (Instr.istore_n 1) ∧ fzG pc 61 = Pure.pure (Instr.istore_n 2) ∧ fzG pc 62 = Pure.pure (Instr.istore_n 3) ∧ fzG pc 63 = Pure.pure (Instr.lstore_n 0) ∧ fzG pc 64 = Pure.pure (Instr.lstore_n 1) ∧ fzG pc 65 = Pure.pure (Instr.lstore_n 2) ∧ fzG pc 66 = Pure.pure (Instr.lstore_n 3) ∧ fzG pc 75 = Pure.pure (Instr.astore_n 0) ∧ fzG pc 76 = Pure.pure (Instr.astore_n 1) ∧ fzG pc 77 = Pure.pure (Instr.astore_n 2) ∧ fzG pc 78 = Pure.pure (Instr.astore_n 3) ∧ fzG pc 9 = Pure.pure (Instr.lconst 0) ∧ fzG pc 10 = Pure.pure (Instr.lconst 1) ∧ fzG pc 2 = Pure.pure (Instr.iconst (-1)) ∧ fzG pc 3 = Pure.pure (Instr.iconst (0)) ∧ fzG pc 4 = Pure.pure (Instr.iconst (1)) ∧ fzG pc 5 = Pure.pure (Instr.iconst (2)) ∧ fzG pc 6 = Pure.pure (Instr.iconst (3)) ∧ fzG pc 7 = Pure.pure (Instr.iconst (4)) ∧ fzG pc 8 = Pure.pure (Instr.iconst (5)) ∧ fzG pc 25 = (Jvm.ClassFile.Reader.u1 >>= fun a => Pure.pure (Instr.aload a)) ∧ fzG pc 21 = (Jvm.ClassFile.Reader.u1 >>= fun a => Pure.pure (Instr.iload a)) ∧ fzG pc 22 = (Jvm.ClassFile.Reader.u1 >>= fun a => Pure.pure (Instr.lload a)) ∧ fzG pc 54 = (Jvm.ClassFile.Reader.u1 >>= fun a => Pure.pure (Instr.istore a)) ∧ fzG pc 55 = (Jvm.ClassFile.Reader.u1 >>= fun a => Pure.pure (Instr.lstore a)) ∧ fzG pc 58 = (Jvm.ClassFile.Reader.u1 >>= fun a => Pure.pure (Instr.astore a)) ∧ fzG pc 18 = (Jvm.ClassFile.Reader.u1 >>= fun a => Pure.pure (Instr.ldc a)) ∧ fzG pc 16 = (Jvm.ClassFile.Reader.s1 >>= fun a => Pure.pure (Instr.bipush a)) ∧ fzG pc 17 = (Jvm.ClassFile.Reader.s2 >>= fun a => Pure.pure (Instr.sipush a)) ∧ fzG pc 167 = (Jvm.ClassFile.Reader.s2 >>= fun a => Pure.pure (Instr.goto a)) ∧ fzG pc 153 = (Jvm.ClassFile.Reader.s2 >>= fun a => Pure.pure (Instr.ifCond .eq a)) ∧ fzG pc 154 = (Jvm.ClassFile.Reader.s2 >>= fun a => Pure.pure (Instr.ifCond .ne a)) ∧ fzG pc 155 = (Jvm.ClassFile.Reader.s2 >>= fun a => Pure.pure (Instr.ifCond .lt a)) ∧ fzG pc 156 = (Jvm.ClassFile.Reader.s2 >>= fun a => Pure.pure (Instr.ifCond .ge a)) ∧ fzG pc 157 = (Jvm.ClassFile.Reader.s2 >>= fun a => Pure.pure (Instr.ifCond .gt a)) ∧ fzG pc 158 = (Jvm.ClassFile.Reader.s2 >>= fun a => Pure.pure (Instr.ifCond .le a)) ∧ fzG pc 159 = (Jvm.ClassFile.Reader.s2 >>= fun a => Pure.pure (Instr.if_icmp .eq a)) ∧ fzG pc 160 = (Jvm.ClassFile.Reader.s2 >>= fun a => Pure.pure (Instr.if_icmp .ne a)) ∧ fzG pc 161 = (Jvm.ClassFile.Reader.s2 >>= fun a => Pure.pure (Instr.if_icmp .lt a)) ∧ fzG pc 162 = (Jvm.ClassFile.Reader.s2 >>= fun a => Pure.pure (Instr.if_icmp .ge a)) ∧ fzG pc 163 = (Jvm.ClassFile.Reader.s2 >>= fun a => Pure.pure (Instr.if_icmp .gt a)) ∧ fzG pc 164 = (Jvm.ClassFile.Reader.s2 >>= fun a => Pure.pure (Instr.if_icmp .le a)) ∧ fzG pc 19 = (Jvm.ClassFile.Reader.u2 >>= fun a => Pure.pure (Instr.ldc_w a)) ∧ fzG pc 20 = (Jvm.ClassFile.Reader.u2 >>= fun a => Pure.pure (Instr.ldc2_w a)) ∧ fzG pc 178 = (Jvm.ClassFile.Reader.u2 >>= fun a => Pure.pure (Instr.getstatic a)) ∧ fzG pc 180 = (Jvm.ClassFile.Reader.u2 >>= fun a => Pure.pure (Instr.getfield a)) ∧ fzG pc 181 = (Jvm.ClassFile.Reader.u2 >>= fun a => Pure.pure (Instr.putfield a)) ∧ fzG pc 182 = (Jvm.ClassFile.Reader.u2 >>= fun a => Pure.pure (Instr.invokevirtual a)) ∧ fzG pc 183 = (Jvm.ClassFile.Reader.u2 >>= fun a => Pure.pure (Instr.invokespecial a)) ∧ fzG pc 184 = (Jvm.ClassFile.Reader.u2 >>= fun a => Pure.pure (Instr.invokestatic a)) ∧ fzG pc 187 = (Jvm.ClassFile.Reader.u2 >>= fun a => Pure.pure (Instr.new a)) ∧ fzG pc 132 = (Jvm.ClassFile.Reader.u1 >>= fun a => Jvm.ClassFile.Reader.s1 >>= fun b => Pure.pure (Instr.iinc a b)) ∧ fzG pc 188 = Jvm.ClassFile.Decoder.newarray pc := Classical.choose_spec (fz_in pc)
theorem fz_go {cc : ByteArray} {pc op q n : Nat} {i : Instr} (h0 : fzB cc pc op) (h : fzG pc op cc (pc + 1) = Except.ok (i, q)) (hq : q = pc + n) : decode cc pc = Except.ok (i, n) := by
  have e : Jvm.ClassFile.Decoder.instr pc cc pc = Except.ok (i, q) := by
    rw [(fzG_s pc).1]
    exact (fz_bind (fzG pc) (fz_u1 h0)).trans h
  rw [fz_dec e, hq, Nat.add_sub_cancel_left]
theorem fzB_of {cc : ByteArray} {p : Nat} {x : UInt8} {r : List UInt8} (h : cc.data.toList.drop p = x :: r) : fzB cc p x.toNat ∧ cc.data.toList.drop (p + 1) = r := by
  have hl : p < cc.data.toList.length := by
    by_cases c : p < cc.data.toList.length
    · exact c
    · rw [List.drop_eq_nil_of_le (Nat.le_of_not_lt c)] at h
      cases h
  rw [List.drop_eq_getElem_cons hl] at h
  injection h with h1 h2
  refine ⟨⟨hl, ?_⟩, h2⟩
  rw [← h1]
  rfl
def fzj (c : Jvm.ClassFile.Cond) (o : Nat) : Nat := match c with
  | .eq => o + 0
  | .ne => o + 1
  | .lt => o + 2
  | .ge => o + 3
  | .gt => o + 4
  | .le => o + 5
/-- what a word is as bytes: its number, its shape, its operands -/
def fzk : Instr → Option (Nat × Nat × Int × Int)
  | .iaload => some (46, 0, 0, 0)
  | .baload => some (51, 0, 0, 0)
  | .iastore => some (79, 0, 0, 0)
  | .bastore => some (84, 0, 0, 0)
  | .pop => some (87, 0, 0, 0)
  | .pop2 => some (88, 0, 0, 0)
  | .dup => some (89, 0, 0, 0)
  | .dup_x1 => some (90, 0, 0, 0)
  | .dup2 => some (92, 0, 0, 0)
  | .iadd => some (96, 0, 0, 0)
  | .ladd => some (97, 0, 0, 0)
  | .isub => some (100, 0, 0, 0)
  | .lsub => some (101, 0, 0, 0)
  | .imul => some (104, 0, 0, 0)
  | .lmul => some (105, 0, 0, 0)
  | .idiv => some (108, 0, 0, 0)
  | .ldiv => some (109, 0, 0, 0)
  | .irem => some (112, 0, 0, 0)
  | .lrem => some (113, 0, 0, 0)
  | .ineg => some (116, 0, 0, 0)
  | .ishl => some (120, 0, 0, 0)
  | .ishr => some (122, 0, 0, 0)
  | .iushr => some (124, 0, 0, 0)
  | .iand => some (126, 0, 0, 0)
  | .ior => some (128, 0, 0, 0)
  | .ixor => some (130, 0, 0, 0)
  | .i2l => some (133, 0, 0, 0)
  | .lcmp => some (148, 0, 0, 0)
  | .ireturn => some (172, 0, 0, 0)
  | .lreturn => some (173, 0, 0, 0)
  | .areturn => some (176, 0, 0, 0)
  | .return_ => some (177, 0, 0, 0)
  | .arraylength => some (190, 0, 0, 0)
  | .iload_n k => some (26 + k.val, 0, 0, 0)
  | .lload_n k => some (30 + k.val, 0, 0, 0)
  | .aload_n k => some (42 + k.val, 0, 0, 0)
  | .istore_n k => some (59 + k.val, 0, 0, 0)
  | .lstore_n k => some (63 + k.val, 0, 0, 0)
  | .astore_n k => some (75 + k.val, 0, 0, 0)
  | .lconst k => some (9 + k.val, 0, 0, 0)
  | .iconst v => if -1 ≤ v ∧ v ≤ 5 then some ((v + 3).toNat, 0, 0, 0) else none
  | .aload v => some (25, 1, (v : Int), 0)
  | .iload v => some (21, 1, (v : Int), 0)
  | .lload v => some (22, 1, (v : Int), 0)
  | .istore v => some (54, 1, (v : Int), 0)
  | .lstore v => some (55, 1, (v : Int), 0)
  | .astore v => some (58, 1, (v : Int), 0)
  | .ldc v => some (18, 1, (v : Int), 0)
  | .bipush v => some (16, 2, v, 0)
  | .sipush v => some (17, 4, v, 0)
  | .goto v => some (167, 4, v, 0)
  | .ifCond c v => some (fzj c 153, 4, v, 0)
  | .if_icmp c v => some (fzj c 159, 4, v, 0)
  | .ldc_w v => some (19, 3, (v : Int), 0)
  | .ldc2_w v => some (20, 3, (v : Int), 0)
  | .getstatic v => some (178, 3, (v : Int), 0)
  | .getfield v => some (180, 3, (v : Int), 0)
  | .putfield v => some (181, 3, (v : Int), 0)
  | .invokevirtual v => some (182, 3, (v : Int), 0)
  | .invokespecial v => some (183, 3, (v : Int), 0)
  | .invokestatic v => some (184, 3, (v : Int), 0)
  | .new v => some (187, 3, (v : Int), 0)
  | .iinc v b => some (132, 5, (v : Int), b)
  | .newarray .int => some (188, 6, 10, 0)
  | .newarray .boolean => some (188, 6, 4, 0)
  | _ => none
/-- the bytes behind, where the word stands at their head -/
def fzr (l : List UInt8) (op k : Nat) (a b : Int) : Option (List UInt8) := match l with
  | [] => none
  | x :: l => if x.toNat = op then
    (match k, l with
    | 0, l => some l
    | 1, y :: l => if (y.toNat : Int) = a then some l else none
    | 2, y :: l => if Jvm.ClassFile.Reader.signed 8 y.toNat = a then some l else none
    | 3, y :: z :: l => if ((y.toNat * 256 + z.toNat : Nat) : Int) = a then some l else none
    | 4, y :: z :: l => if Jvm.ClassFile.Reader.signed 16 (y.toNat * 256 + z.toNat) = a then some l else none
    | 5, y :: z :: l => if (y.toNat : Int) = a ∧ Jvm.ClassFile.Reader.signed 8 z.toNat = b then some l else none
    | 6, y :: l => if (y.toNat : Int) = a then some l else none
    | _, _ => none) else none
section FZ
variable {cc : ByteArray} {pc op : Nat} {l l' : List UInt8} {a b : Int}
theorem fz_h {k : Nat} (hl : l = cc.data.toList.drop pc) (h : fzr l op k a b = some l') : ∃ x r, l = x :: r ∧ fzB cc pc op ∧ cc.data.toList.drop (pc + 1) = r := by
  unfold fzr at h
  split at h
  · cases h
  · rename_i x r
    by_cases c : x.toNat = op
    · obtain ⟨h1, h2⟩ := fzB_of (cc := cc) (p := pc) (x := x) (r := r) hl.symm
      exact ⟨x, r, rfl, by rw [← c]; exact h1, h2⟩
    · rw [if_neg c] at h; cases h
theorem fz_0 {i : Instr} (hG : fzG pc op = Pure.pure i) (hl : l = cc.data.toList.drop pc) (h : fzr l op 0 a b = some l') : decode cc pc = Except.ok (i, 1) ∧ l' = cc.data.toList.drop (pc + 1) := by
  obtain ⟨x, r, rfl, h0, h1⟩ := fz_h hl h
  have e : l' = r := by
    simp only [fzr] at h
    by_cases c : x.toNat = op
    · rw [if_pos c] at h; cases h; rfl
    · rw [if_neg c] at h; cases h
  rw [e]
  exact ⟨fz_go h0 (by rw [hG]; rfl) rfl, h1.symm⟩
theorem fz_1 {C : Nat → Instr} {v : Nat} (hG : fzG pc op = (Jvm.ClassFile.Reader.u1 >>= fun a => Pure.pure (C a))) (hl : l = cc.data.toList.drop pc) (h : fzr l op 1 (v : Int) b = some l') : decode cc pc = Except.ok (C v, 2) ∧ l' = cc.data.toList.drop (pc + 2) := by
  obtain ⟨x, r, rfl, h0, h1⟩ := fz_h hl h
  by_cases c0 : x.toNat = op
  · cases r with
    | nil => simp only [fzr] at h; rw [if_pos c0] at h; cases h
    | cons y r =>
      obtain ⟨g1, g2⟩ := fzB_of h1
      simp only [fzr] at h
      rw [if_pos c0] at h
      by_cases c : (y.toNat : Int) = v
      · rw [if_pos c] at h
        cases h
        have c : y.toNat = v := by omega
        rw [c] at g1
        exact ⟨fz_go h0 (by rw [hG, fz_bind _ (fz_u1 g1)]; rfl) rfl, g2.symm⟩
      · rw [if_neg c] at h; cases h
  · simp only [fzr] at h; rw [if_neg c0] at h; cases h
theorem fz_2 {C : Int → Instr} (hG : fzG pc op = (Jvm.ClassFile.Reader.s1 >>= fun a => Pure.pure (C a))) (hl : l = cc.data.toList.drop pc) (h : fzr l op 2 a b = some l') : decode cc pc = Except.ok (C a, 2) ∧ l' = cc.data.toList.drop (pc + 2) := by
  obtain ⟨x, r, rfl, h0, h1⟩ := fz_h hl h
  by_cases c0 : x.toNat = op
  · cases r with
    | nil => simp only [fzr] at h; rw [if_pos c0] at h; cases h
    | cons y r =>
      obtain ⟨g1, g2⟩ := fzB_of h1
      simp only [fzr] at h
      rw [if_pos c0] at h
      by_cases c : Jvm.ClassFile.Reader.signed 8 y.toNat = a
      · rw [if_pos c] at h
        cases h
        rw [← c]
        exact ⟨fz_go h0 (by rw [hG, fz_bind _ (fz_s1 g1)]; rfl) rfl, g2.symm⟩
      · rw [if_neg c] at h; cases h
  · simp only [fzr] at h; rw [if_neg c0] at h; cases h
theorem fz_3 {C : Nat → Instr} {v : Nat} (hG : fzG pc op = (Jvm.ClassFile.Reader.u2 >>= fun a => Pure.pure (C a))) (hl : l = cc.data.toList.drop pc) (h : fzr l op 3 (v : Int) b = some l') : decode cc pc = Except.ok (C v, 3) ∧ l' = cc.data.toList.drop (pc + 3) := by
  obtain ⟨x, r, rfl, h0, h1⟩ := fz_h hl h
  by_cases c0 : x.toNat = op
  · match r, h1, h with
    | [], _, h => simp only [fzr] at h; rw [if_pos c0] at h; cases h
    | [_], _, h => simp only [fzr] at h; rw [if_pos c0] at h; cases h
    | y :: z :: r, h1, h =>
      obtain ⟨g1, g2⟩ := fzB_of h1
      obtain ⟨g3, g4⟩ := fzB_of g2
      simp only [fzr] at h
      rw [if_pos c0] at h
      by_cases c : ((y.toNat * 256 + z.toNat : Nat) : Int) = v
      · rw [if_pos c] at h
        cases h
        have c : y.toNat * 256 + z.toNat = v := by omega
        rw [← c]
        exact ⟨fz_go h0 (by rw [hG, fz_bind _ (fz_u2 g1 g3)]; rfl) rfl, g4.symm⟩
      · rw [if_neg c] at h; cases h
  · simp only [fzr] at h; rw [if_neg c0] at h; cases h
theorem fz_4 {C : Int → Instr} (hG : fzG pc op = (Jvm.ClassFile.Reader.s2 >>= fun a => Pure.pure (C a))) (hl : l = cc.data.toList.drop pc) (h : fzr l op 4 a b = some l') : decode cc pc = Except.ok (C a, 3) ∧ l' = cc.data.toList.drop (pc + 3) := by
  obtain ⟨x, r, rfl, h0, h1⟩ := fz_h hl h
  by_cases c0 : x.toNat = op
  · match r, h1, h with
    | [], _, h => simp only [fzr] at h; rw [if_pos c0] at h; cases h
    | [_], _, h => simp only [fzr] at h; rw [if_pos c0] at h; cases h
    | y :: z :: r, h1, h =>
      obtain ⟨g1, g2⟩ := fzB_of h1
      obtain ⟨g3, g4⟩ := fzB_of g2
      simp only [fzr] at h
      rw [if_pos c0] at h
      by_cases c : Jvm.ClassFile.Reader.signed 16 (y.toNat * 256 + z.toNat) = a
      · rw [if_pos c] at h
        cases h
        rw [← c]
        exact ⟨fz_go h0 (by rw [hG, fz_bind _ (fz_s2 g1 g3)]; rfl) rfl, g4.symm⟩
      · rw [if_neg c] at h; cases h
  · simp only [fzr] at h; rw [if_neg c0] at h; cases h
theorem fz_5 {v : Nat} (hG : fzG pc op = (Jvm.ClassFile.Reader.u1 >>= fun a => Jvm.ClassFile.Reader.s1 >>= fun b => Pure.pure (Instr.iinc a b))) (hl : l = cc.data.toList.drop pc) (h : fzr l op 5 (v : Int) b = some l') : decode cc pc = Except.ok (Instr.iinc v b, 3) ∧ l' = cc.data.toList.drop (pc + 3) := by
  obtain ⟨x, r, rfl, h0, h1⟩ := fz_h hl h
  by_cases c0 : x.toNat = op
  · match r, h1, h with
    | [], _, h => simp only [fzr] at h; rw [if_pos c0] at h; cases h
    | [_], _, h => simp only [fzr] at h; rw [if_pos c0] at h; cases h
    | y :: z :: r, h1, h =>
      obtain ⟨g1, g2⟩ := fzB_of h1
      obtain ⟨g3, g4⟩ := fzB_of g2
      simp only [fzr] at h
      rw [if_pos c0] at h
      by_cases c : (y.toNat : Int) = v ∧ Jvm.ClassFile.Reader.signed 8 z.toNat = b
      · rw [if_pos c] at h
        cases h
        have c1 : y.toNat = v := by omega
        rw [c1] at g1
        rw [← c.2]
        exact ⟨fz_go h0 (by rw [hG, fz_bind _ (fz_u1 g1), fz_bind _ (fz_s1 g3)]; rfl) rfl, g4.symm⟩
      · rw [if_neg c] at h; cases h
  · simp only [fzr] at h; rw [if_neg c0] at h; cases h
theorem fz_6 {t : Jvm.ClassFile.ArrayType} {v : Nat} (hG : fzG pc op = Jvm.ClassFile.Decoder.newarray pc) (hv : v = 10 ∧ t = .int ∨ v = 4 ∧ t = .boolean) (hl : l = cc.data.toList.drop pc) (h : fzr l op 6 (v : Int) b = some l') : decode cc pc = Except.ok (Instr.newarray t, 2) ∧ l' = cc.data.toList.drop (pc + 2) := by
  obtain ⟨x, r, rfl, h0, h1⟩ := fz_h hl h
  by_cases c0 : x.toNat = op
  · cases r with
    | nil => simp only [fzr] at h; rw [if_pos c0] at h; cases h
    | cons y r =>
      obtain ⟨g1, g2⟩ := fzB_of h1
      simp only [fzr] at h
      rw [if_pos c0] at h
      by_cases c : (y.toNat : Int) = v
      · rw [if_pos c] at h
        cases h
        have c : y.toNat = v := by omega
        rw [c] at g1
        refine ⟨fz_go (q := pc + 1 + 1) h0 ?_ rfl, g2.symm⟩
        rw [hG]
        unfold Jvm.ClassFile.Decoder.newarray
        rw [fz_bind _ (fz_u1 g1)]
        rcases hv with ⟨rfl, rfl⟩ | ⟨rfl, rfl⟩
        · rfl
        · rfl
      · rw [if_neg c] at h; cases h
  · simp only [fzr] at h; rw [if_neg c0] at h; cases h
end FZ
theorem fz_ok {cc : ByteArray} {pc op k : Nat} {l l' : List UInt8} {a b : Int} (i : Instr) (hk : fzk i = some (op, k, a, b)) (hl : l = cc.data.toList.drop pc) (h : fzr l op k a b = some l') : decode cc pc = Except.ok (i, ai_len i) ∧ l' = cc.data.toList.drop (pc + ai_len i) := by
  unfold fzk at hk
  split at hk
  · cases hk; exact fz_0 ((fzG_s pc).2.1) hl h
  · cases hk; exact fz_0 ((fzG_s pc).2.2.1) hl h
  · cases hk; exact fz_0 ((fzG_s pc).2.2.2.1) hl h
  · cases hk; exact fz_0 ((fzG_s pc).2.2.2.2.1) hl h
  · cases hk; exact fz_0 ((fzG_s pc).2.2.2.2.2.1) hl h
  · cases hk; exact fz_0 ((fzG_s pc).2.2.2.2.2.2.1) hl h
  · cases hk; exact fz_0 ((fzG_s pc).2.2.2.2.2.2.2.1) hl h
  · cases hk; exact fz_0 ((fzG_s pc).2.2.2.2.2.2.2.2.1) hl h
  · cases hk; exact fz_0 ((fzG_s pc).2.2.2.2.2.2.2.2.2.1) hl h
  · cases hk; exact fz_0 ((fzG_s pc).2.2.2.2.2.2.2.2.2.2.1) hl h
  · cases hk; exact fz_0 ((fzG_s pc).2.2.2.2.2.2.2.2.2.2.2.1) hl h
  · cases hk; exact fz_0 ((fzG_s pc).2.2.2.2.2.2.2.2.2.2.2.2.1) hl h
  · cases hk; exact fz_0 ((fzG_s pc).2.2.2.2.2.2.2.2.2.2.2.2.2.1) hl h
  · cases hk; exact fz_0 ((fzG_s pc).2.2.2.2.2.2.2.2.2.2.2.2.2.2.1) hl h
  · cases hk; exact fz_0 ((fzG_s pc).2.2.2.2.2.2.2.2.2.2.2.2.2.2.2.1) hl h
  · cases hk; exact fz_0 ((fzG_s pc).2.2.2.2.2.2.2.2.2.2.2.2.2.2.2.2.1) hl h
  · cases hk; exact fz_0 ((fzG_s pc).2.2.2.2.2.2.2.2.2.2.2.2.2.2.2.2.2.1) hl h
  · cases hk; exact fz_0 ((fzG_s pc).2.2.2.2.2.2.2.2.2.2.2.2.2.2.2.2.2.2.1) hl h
  · cases hk; exact fz_0 ((fzG_s pc).2.2.2.2.2.2.2.2.2.2.2.2.2.2.2.2.2.2.2.1) hl h
  · cases hk; exact fz_0 ((fzG_s pc).2.2.2.2.2.2.2.2.2.2.2.2.2.2.2.2.2.2.2.2.1) hl h
  · cases hk; exact fz_0 ((fzG_s pc).2.2.2.2.2.2.2.2.2.2.2.2.2.2.2.2.2.2.2.2.2.1) hl h
  · cases hk; exact fz_0 ((fzG_s pc).2.2.2.2.2.2.2.2.2.2.2.2.2.2.2.2.2.2.2.2.2.2.1) hl h
  · cases hk; exact fz_0 ((fzG_s pc).2.2.2.2.2.2.2.2.2.2.2.2.2.2.2.2.2.2.2.2.2.2.2.1) hl h
  · cases hk; exact fz_0 ((fzG_s pc).2.2.2.2.2.2.2.2.2.2.2.2.2.2.2.2.2.2.2.2.2.2.2.2.1) hl h
  · cases hk; exact fz_0 ((fzG_s pc).2.2.2.2.2.2.2.2.2.2.2.2.2.2.2.2.2.2.2.2.2.2.2.2.2.1) hl h
  · cases hk; exact fz_0 ((fzG_s pc).2.2.2.2.2.2.2.2.2.2.2.2.2.2.2.2.2.2.2.2.2.2.2.2.2.2.1) hl h
  · cases hk; exact fz_0 ((fzG_s pc).2.2.2.2.2.2.2.2.2.2.2.2.2.2.2.2.2.2.2.2.2.2.2.2.2.2.2.1) hl h
  · cases hk; exact fz_0 ((fzG_s pc).2.2.2.2.2.2.2.2.2.2.2.2.2.2.2.2.2.2.2.2.2.2.2.2.2.2.2.2.1) hl h
  · cases hk; exact fz_0 ((fzG_s pc).2.2.2.2.2.2.2.2.2.2.2.2.2.2.2.2.2.2.2.2.2.2.2.2.2.2.2.2.2.1) hl h
  · cases hk; exact fz_0 ((fzG_s pc).2.2.2.2.2.2.2.2.2.2.2.2.2.2.2.2.2.2.2.2.2.2.2.2.2.2.2.2.2.2.1) hl h
  · cases hk; exact fz_0 ((fzG_s pc).2.2.2.2.2.2.2.2.2.2.2.2.2.2.2.2.2.2.2.2.2.2.2.2.2.2.2.2.2.2.2.1) hl h
  · cases hk; exact fz_0 ((fzG_s pc).2.2.2.2.2.2.2.2.2.2.2.2.2.2.2.2.2.2.2.2.2.2.2.2.2.2.2.2.2.2.2.2.1) hl h
  · cases hk; exact fz_0 ((fzG_s pc).2.2.2.2.2.2.2.2.2.2.2.2.2.2.2.2.2.2.2.2.2.2.2.2.2.2.2.2.2.2.2.2.2.1) hl h
  · rename_i k; cases hk; match k, h with
    | 0, h => exact fz_0 ((fzG_s pc).2.2.2.2.2.2.2.2.2.2.2.2.2.2.2.2.2.2.2.2.2.2.2.2.2.2.2.2.2.2.2.2.2.2.1) hl h
    | 1, h => exact fz_0 ((fzG_s pc).2.2.2.2.2.2.2.2.2.2.2.2.2.2.2.2.2.2.2.2.2.2.2.2.2.2.2.2.2.2.2.2.2.2.2.1) hl h
    | 2, h => exact fz_0 ((fzG_s pc).2.2.2.2.2.2.2.2.2.2.2.2.2.2.2.2.2.2.2.2.2.2.2.2.2.2.2.2.2.2.2.2.2.2.2.2.1) hl h
    | 3, h => exact fz_0 ((fzG_s pc).2.2.2.2.2.2.2.2.2.2.2.2.2.2.2.2.2.2.2.2.2.2.2.2.2.2.2.2.2.2.2.2.2.2.2.2.2.1) hl h
  · rename_i k; cases hk; match k, h with
    | 0, h => exact fz_0 ((fzG_s pc).2.2.2.2.2.2.2.2.2.2.2.2.2.2.2.2.2.2.2.2.2.2.2.2.2.2.2.2.2.2.2.2.2.2.2.2.2.2.1) hl h
    | 1, h => exact fz_0 ((fzG_s pc).2.2.2.2.2.2.2.2.2.2.2.2.2.2.2.2.2.2.2.2.2.2.2.2.2.2.2.2.2.2.2.2.2.2.2.2.2.2.2.1) hl h
    | 2, h => exact fz_0 ((fzG_s pc).2.2.2.2.2.2.2.2.2.2.2.2.2.2.2.2.2.2.2.2.2.2.2.2.2.2.2.2.2.2.2.2.2.2.2.2.2.2.2.2.1) hl h
    | 3, h => exact fz_0 ((fzG_s pc).2.2.2.2.2.2.2.2.2.2.2.2.2.2.2.2.2.2.2.2.2.2.2.2.2.2.2.2.2.2.2.2.2.2.2.2.2.2.2.2.2.1) hl h
  · rename_i k; cases hk; match k, h with
    | 0, h => exact fz_0 ((fzG_s pc).2.2.2.2.2.2.2.2.2.2.2.2.2.2.2.2.2.2.2.2.2.2.2.2.2.2.2.2.2.2.2.2.2.2.2.2.2.2.2.2.2.2.1) hl h
    | 1, h => exact fz_0 ((fzG_s pc).2.2.2.2.2.2.2.2.2.2.2.2.2.2.2.2.2.2.2.2.2.2.2.2.2.2.2.2.2.2.2.2.2.2.2.2.2.2.2.2.2.2.2.1) hl h
    | 2, h => exact fz_0 ((fzG_s pc).2.2.2.2.2.2.2.2.2.2.2.2.2.2.2.2.2.2.2.2.2.2.2.2.2.2.2.2.2.2.2.2.2.2.2.2.2.2.2.2.2.2.2.2.1) hl h
    | 3, h => exact fz_0 ((fzG_s pc).2.2.2.2.2.2.2.2.2.2.2.2.2.2.2.2.2.2.2.2.2.2.2.2.2.2.2.2.2.2.2.2.2.2.2.2.2.2.2.2.2.2.2.2.2.1) hl h
  · rename_i k; cases hk; match k, h with
    | 0, h => exact fz_0 ((fzG_s pc).2.2.2.2.2.2.2.2.2.2.2.2.2.2.2.2.2.2.2.2.2.2.2.2.2.2.2.2.2.2.2.2.2.2.2.2.2.2.2.2.2.2.2.2.2.2.1) hl h
    | 1, h => exact fz_0 ((fzG_s pc).2.2.2.2.2.2.2.2.2.2.2.2.2.2.2.2.2.2.2.2.2.2.2.2.2.2.2.2.2.2.2.2.2.2.2.2.2.2.2.2.2.2.2.2.2.2.2.1) hl h
    | 2, h => exact fz_0 ((fzG_s pc).2.2.2.2.2.2.2.2.2.2.2.2.2.2.2.2.2.2.2.2.2.2.2.2.2.2.2.2.2.2.2.2.2.2.2.2.2.2.2.2.2.2.2.2.2.2.2.2.1) hl h
    | 3, h => exact fz_0 ((fzG_s pc).2.2.2.2.2.2.2.2.2.2.2.2.2.2.2.2.2.2.2.2.2.2.2.2.2.2.2.2.2.2.2.2.2.2.2.2.2.2.2.2.2.2.2.2.2.2.2.2.2.1) hl h
  · rename_i k; cases hk; match k, h with
    | 0, h => exact fz_0 ((fzG_s pc).2.2.2.2.2.2.2.2.2.2.2.2.2.2.2.2.2.2.2.2.2.2.2.2.2.2.2.2.2.2.2.2.2.2.2.2.2.2.2.2.2.2.2.2.2.2.2.2.2.2.1) hl h
    | 1, h => exact fz_0 ((fzG_s pc).2.2.2.2.2.2.2.2.2.2.2.2.2.2.2.2.2.2.2.2.2.2.2.2.2.2.2.2.2.2.2.2.2.2.2.2.2.2.2.2.2.2.2.2.2.2.2.2.2.2.2.1) hl h
    | 2, h => exact fz_0 ((fzG_s pc).2.2.2.2.2.2.2.2.2.2.2.2.2.2.2.2.2.2.2.2.2.2.2.2.2.2.2.2.2.2.2.2.2.2.2.2.2.2.2.2.2.2.2.2.2.2.2.2.2.2.2.2.1) hl h
    | 3, h => exact fz_0 ((fzG_s pc).2.2.2.2.2.2.2.2.2.2.2.2.2.2.2.2.2.2.2.2.2.2.2.2.2.2.2.2.2.2.2.2.2.2.2.2.2.2.2.2.2.2.2.2.2.2.2.2.2.2.2.2.2.1) hl h
  · rename_i k; cases hk; match k, h with
    | 0, h => exact fz_0 ((fzG_s pc).2.2.2.2.2.2.2.2.2.2.2.2.2.2.2.2.2.2.2.2.2.2.2.2.2.2.2.2.2.2.2.2.2.2.2.2.2.2.2.2.2.2.2.2.2.2.2.2.2.2.2.2.2.2.1) hl h
    | 1, h => exact fz_0 ((fzG_s pc).2.2.2.2.2.2.2.2.2.2.2.2.2.2.2.2.2.2.2.2.2.2.2.2.2.2.2.2.2.2.2.2.2.2.2.2.2.2.2.2.2.2.2.2.2.2.2.2.2.2.2.2.2.2.2.1) hl h
    | 2, h => exact fz_0 ((fzG_s pc).2.2.2.2.2.2.2.2.2.2.2.2.2.2.2.2.2.2.2.2.2.2.2.2.2.2.2.2.2.2.2.2.2.2.2.2.2.2.2.2.2.2.2.2.2.2.2.2.2.2.2.2.2.2.2.2.1) hl h
    | 3, h => exact fz_0 ((fzG_s pc).2.2.2.2.2.2.2.2.2.2.2.2.2.2.2.2.2.2.2.2.2.2.2.2.2.2.2.2.2.2.2.2.2.2.2.2.2.2.2.2.2.2.2.2.2.2.2.2.2.2.2.2.2.2.2.2.2.1) hl h
  · rename_i k; cases hk; match k, h with
    | 0, h => exact fz_0 ((fzG_s pc).2.2.2.2.2.2.2.2.2.2.2.2.2.2.2.2.2.2.2.2.2.2.2.2.2.2.2.2.2.2.2.2.2.2.2.2.2.2.2.2.2.2.2.2.2.2.2.2.2.2.2.2.2.2.2.2.2.2.1) hl h
    | 1, h => exact fz_0 ((fzG_s pc).2.2.2.2.2.2.2.2.2.2.2.2.2.2.2.2.2.2.2.2.2.2.2.2.2.2.2.2.2.2.2.2.2.2.2.2.2.2.2.2.2.2.2.2.2.2.2.2.2.2.2.2.2.2.2.2.2.2.2.1) hl h
  · rename_i v
    by_cases c : -1 ≤ v ∧ v ≤ 5
    · rw [if_pos c] at hk
      cases hk
      have e : v = -1 ∨ v = 0 ∨ v = 1 ∨ v = 2 ∨ v = 3 ∨ v = 4 ∨ v = 5 := by omega
      rcases e with rfl | rfl | rfl | rfl | rfl | rfl | rfl
      · exact fz_0 ((fzG_s pc).2.2.2.2.2.2.2.2.2.2.2.2.2.2.2.2.2.2.2.2.2.2.2.2.2.2.2.2.2.2.2.2.2.2.2.2.2.2.2.2.2.2.2.2.2.2.2.2.2.2.2.2.2.2.2.2.2.2.2.2.1) hl h
      · exact fz_0 ((fzG_s pc).2.2.2.2.2.2.2.2.2.2.2.2.2.2.2.2.2.2.2.2.2.2.2.2.2.2.2.2.2.2.2.2.2.2.2.2.2.2.2.2.2.2.2.2.2.2.2.2.2.2.2.2.2.2.2.2.2.2.2.2.2.1) hl h
      · exact fz_0 ((fzG_s pc).2.2.2.2.2.2.2.2.2.2.2.2.2.2.2.2.2.2.2.2.2.2.2.2.2.2.2.2.2.2.2.2.2.2.2.2.2.2.2.2.2.2.2.2.2.2.2.2.2.2.2.2.2.2.2.2.2.2.2.2.2.2.1) hl h
      · exact fz_0 ((fzG_s pc).2.2.2.2.2.2.2.2.2.2.2.2.2.2.2.2.2.2.2.2.2.2.2.2.2.2.2.2.2.2.2.2.2.2.2.2.2.2.2.2.2.2.2.2.2.2.2.2.2.2.2.2.2.2.2.2.2.2.2.2.2.2.2.1) hl h
      · exact fz_0 ((fzG_s pc).2.2.2.2.2.2.2.2.2.2.2.2.2.2.2.2.2.2.2.2.2.2.2.2.2.2.2.2.2.2.2.2.2.2.2.2.2.2.2.2.2.2.2.2.2.2.2.2.2.2.2.2.2.2.2.2.2.2.2.2.2.2.2.2.1) hl h
      · exact fz_0 ((fzG_s pc).2.2.2.2.2.2.2.2.2.2.2.2.2.2.2.2.2.2.2.2.2.2.2.2.2.2.2.2.2.2.2.2.2.2.2.2.2.2.2.2.2.2.2.2.2.2.2.2.2.2.2.2.2.2.2.2.2.2.2.2.2.2.2.2.2.1) hl h
      · exact fz_0 ((fzG_s pc).2.2.2.2.2.2.2.2.2.2.2.2.2.2.2.2.2.2.2.2.2.2.2.2.2.2.2.2.2.2.2.2.2.2.2.2.2.2.2.2.2.2.2.2.2.2.2.2.2.2.2.2.2.2.2.2.2.2.2.2.2.2.2.2.2.2.1) hl h
    · rw [if_neg c] at hk; cases hk
  · cases hk; exact fz_1 ((fzG_s pc).2.2.2.2.2.2.2.2.2.2.2.2.2.2.2.2.2.2.2.2.2.2.2.2.2.2.2.2.2.2.2.2.2.2.2.2.2.2.2.2.2.2.2.2.2.2.2.2.2.2.2.2.2.2.2.2.2.2.2.2.2.2.2.2.2.2.2.1) hl h
  · cases hk; exact fz_1 ((fzG_s pc).2.2.2.2.2.2.2.2.2.2.2.2.2.2.2.2.2.2.2.2.2.2.2.2.2.2.2.2.2.2.2.2.2.2.2.2.2.2.2.2.2.2.2.2.2.2.2.2.2.2.2.2.2.2.2.2.2.2.2.2.2.2.2.2.2.2.2.2.1) hl h
  · cases hk; exact fz_1 ((fzG_s pc).2.2.2.2.2.2.2.2.2.2.2.2.2.2.2.2.2.2.2.2.2.2.2.2.2.2.2.2.2.2.2.2.2.2.2.2.2.2.2.2.2.2.2.2.2.2.2.2.2.2.2.2.2.2.2.2.2.2.2.2.2.2.2.2.2.2.2.2.2.1) hl h
  · cases hk; exact fz_1 ((fzG_s pc).2.2.2.2.2.2.2.2.2.2.2.2.2.2.2.2.2.2.2.2.2.2.2.2.2.2.2.2.2.2.2.2.2.2.2.2.2.2.2.2.2.2.2.2.2.2.2.2.2.2.2.2.2.2.2.2.2.2.2.2.2.2.2.2.2.2.2.2.2.2.1) hl h
  · cases hk; exact fz_1 ((fzG_s pc).2.2.2.2.2.2.2.2.2.2.2.2.2.2.2.2.2.2.2.2.2.2.2.2.2.2.2.2.2.2.2.2.2.2.2.2.2.2.2.2.2.2.2.2.2.2.2.2.2.2.2.2.2.2.2.2.2.2.2.2.2.2.2.2.2.2.2.2.2.2.2.1) hl h
  · cases hk; exact fz_1 ((fzG_s pc).2.2.2.2.2.2.2.2.2.2.2.2.2.2.2.2.2.2.2.2.2.2.2.2.2.2.2.2.2.2.2.2.2.2.2.2.2.2.2.2.2.2.2.2.2.2.2.2.2.2.2.2.2.2.2.2.2.2.2.2.2.2.2.2.2.2.2.2.2.2.2.2.1) hl h
  · cases hk; exact fz_1 ((fzG_s pc).2.2.2.2.2.2.2.2.2.2.2.2.2.2.2.2.2.2.2.2.2.2.2.2.2.2.2.2.2.2.2.2.2.2.2.2.2.2.2.2.2.2.2.2.2.2.2.2.2.2.2.2.2.2.2.2.2.2.2.2.2.2.2.2.2.2.2.2.2.2.2.2.2.1) hl h
  · cases hk; exact fz_2 ((fzG_s pc).2.2.2.2.2.2.2.2.2.2.2.2.2.2.2.2.2.2.2.2.2.2.2.2.2.2.2.2.2.2.2.2.2.2.2.2.2.2.2.2.2.2.2.2.2.2.2.2.2.2.2.2.2.2.2.2.2.2.2.2.2.2.2.2.2.2.2.2.2.2.2.2.2.2.1) hl h
  · cases hk; exact fz_4 ((fzG_s pc).2.2.2.2.2.2.2.2.2.2.2.2.2.2.2.2.2.2.2.2.2.2.2.2.2.2.2.2.2.2.2.2.2.2.2.2.2.2.2.2.2.2.2.2.2.2.2.2.2.2.2.2.2.2.2.2.2.2.2.2.2.2.2.2.2.2.2.2.2.2.2.2.2.2.2.1) hl h
  · cases hk; exact fz_4 ((fzG_s pc).2.2.2.2.2.2.2.2.2.2.2.2.2.2.2.2.2.2.2.2.2.2.2.2.2.2.2.2.2.2.2.2.2.2.2.2.2.2.2.2.2.2.2.2.2.2.2.2.2.2.2.2.2.2.2.2.2.2.2.2.2.2.2.2.2.2.2.2.2.2.2.2.2.2.2.2.1) hl h
  · rename_i c v; cases hk; match c, h with
    | .eq, h => exact fz_4 ((fzG_s pc).2.2.2.2.2.2.2.2.2.2.2.2.2.2.2.2.2.2.2.2.2.2.2.2.2.2.2.2.2.2.2.2.2.2.2.2.2.2.2.2.2.2.2.2.2.2.2.2.2.2.2.2.2.2.2.2.2.2.2.2.2.2.2.2.2.2.2.2.2.2.2.2.2.2.2.2.2.1) hl h
    | .ne, h => exact fz_4 ((fzG_s pc).2.2.2.2.2.2.2.2.2.2.2.2.2.2.2.2.2.2.2.2.2.2.2.2.2.2.2.2.2.2.2.2.2.2.2.2.2.2.2.2.2.2.2.2.2.2.2.2.2.2.2.2.2.2.2.2.2.2.2.2.2.2.2.2.2.2.2.2.2.2.2.2.2.2.2.2.2.2.1) hl h
    | .lt, h => exact fz_4 ((fzG_s pc).2.2.2.2.2.2.2.2.2.2.2.2.2.2.2.2.2.2.2.2.2.2.2.2.2.2.2.2.2.2.2.2.2.2.2.2.2.2.2.2.2.2.2.2.2.2.2.2.2.2.2.2.2.2.2.2.2.2.2.2.2.2.2.2.2.2.2.2.2.2.2.2.2.2.2.2.2.2.2.1) hl h
    | .ge, h => exact fz_4 ((fzG_s pc).2.2.2.2.2.2.2.2.2.2.2.2.2.2.2.2.2.2.2.2.2.2.2.2.2.2.2.2.2.2.2.2.2.2.2.2.2.2.2.2.2.2.2.2.2.2.2.2.2.2.2.2.2.2.2.2.2.2.2.2.2.2.2.2.2.2.2.2.2.2.2.2.2.2.2.2.2.2.2.2.1) hl h
    | .gt, h => exact fz_4 ((fzG_s pc).2.2.2.2.2.2.2.2.2.2.2.2.2.2.2.2.2.2.2.2.2.2.2.2.2.2.2.2.2.2.2.2.2.2.2.2.2.2.2.2.2.2.2.2.2.2.2.2.2.2.2.2.2.2.2.2.2.2.2.2.2.2.2.2.2.2.2.2.2.2.2.2.2.2.2.2.2.2.2.2.2.1) hl h
    | .le, h => exact fz_4 ((fzG_s pc).2.2.2.2.2.2.2.2.2.2.2.2.2.2.2.2.2.2.2.2.2.2.2.2.2.2.2.2.2.2.2.2.2.2.2.2.2.2.2.2.2.2.2.2.2.2.2.2.2.2.2.2.2.2.2.2.2.2.2.2.2.2.2.2.2.2.2.2.2.2.2.2.2.2.2.2.2.2.2.2.2.2.1) hl h
  · rename_i c v; cases hk; match c, h with
    | .eq, h => exact fz_4 ((fzG_s pc).2.2.2.2.2.2.2.2.2.2.2.2.2.2.2.2.2.2.2.2.2.2.2.2.2.2.2.2.2.2.2.2.2.2.2.2.2.2.2.2.2.2.2.2.2.2.2.2.2.2.2.2.2.2.2.2.2.2.2.2.2.2.2.2.2.2.2.2.2.2.2.2.2.2.2.2.2.2.2.2.2.2.2.1) hl h
    | .ne, h => exact fz_4 ((fzG_s pc).2.2.2.2.2.2.2.2.2.2.2.2.2.2.2.2.2.2.2.2.2.2.2.2.2.2.2.2.2.2.2.2.2.2.2.2.2.2.2.2.2.2.2.2.2.2.2.2.2.2.2.2.2.2.2.2.2.2.2.2.2.2.2.2.2.2.2.2.2.2.2.2.2.2.2.2.2.2.2.2.2.2.2.2.1) hl h
    | .lt, h => exact fz_4 ((fzG_s pc).2.2.2.2.2.2.2.2.2.2.2.2.2.2.2.2.2.2.2.2.2.2.2.2.2.2.2.2.2.2.2.2.2.2.2.2.2.2.2.2.2.2.2.2.2.2.2.2.2.2.2.2.2.2.2.2.2.2.2.2.2.2.2.2.2.2.2.2.2.2.2.2.2.2.2.2.2.2.2.2.2.2.2.2.2.1) hl h
    | .ge, h => exact fz_4 ((fzG_s pc).2.2.2.2.2.2.2.2.2.2.2.2.2.2.2.2.2.2.2.2.2.2.2.2.2.2.2.2.2.2.2.2.2.2.2.2.2.2.2.2.2.2.2.2.2.2.2.2.2.2.2.2.2.2.2.2.2.2.2.2.2.2.2.2.2.2.2.2.2.2.2.2.2.2.2.2.2.2.2.2.2.2.2.2.2.2.1) hl h
    | .gt, h => exact fz_4 ((fzG_s pc).2.2.2.2.2.2.2.2.2.2.2.2.2.2.2.2.2.2.2.2.2.2.2.2.2.2.2.2.2.2.2.2.2.2.2.2.2.2.2.2.2.2.2.2.2.2.2.2.2.2.2.2.2.2.2.2.2.2.2.2.2.2.2.2.2.2.2.2.2.2.2.2.2.2.2.2.2.2.2.2.2.2.2.2.2.2.2.1) hl h
    | .le, h => exact fz_4 ((fzG_s pc).2.2.2.2.2.2.2.2.2.2.2.2.2.2.2.2.2.2.2.2.2.2.2.2.2.2.2.2.2.2.2.2.2.2.2.2.2.2.2.2.2.2.2.2.2.2.2.2.2.2.2.2.2.2.2.2.2.2.2.2.2.2.2.2.2.2.2.2.2.2.2.2.2.2.2.2.2.2.2.2.2.2.2.2.2.2.2.2.1) hl h
  · cases hk; exact fz_3 ((fzG_s pc).2.2.2.2.2.2.2.2.2.2.2.2.2.2.2.2.2.2.2.2.2.2.2.2.2.2.2.2.2.2.2.2.2.2.2.2.2.2.2.2.2.2.2.2.2.2.2.2.2.2.2.2.2.2.2.2.2.2.2.2.2.2.2.2.2.2.2.2.2.2.2.2.2.2.2.2.2.2.2.2.2.2.2.2.2.2.2.2.2.1) hl h
  · cases hk; exact fz_3 ((fzG_s pc).2.2.2.2.2.2.2.2.2.2.2.2.2.2.2.2.2.2.2.2.2.2.2.2.2.2.2.2.2.2.2.2.2.2.2.2.2.2.2.2.2.2.2.2.2.2.2.2.2.2.2.2.2.2.2.2.2.2.2.2.2.2.2.2.2.2.2.2.2.2.2.2.2.2.2.2.2.2.2.2.2.2.2.2.2.2.2.2.2.2.1) hl h
  · cases hk; exact fz_3 ((fzG_s pc).2.2.2.2.2.2.2.2.2.2.2.2.2.2.2.2.2.2.2.2.2.2.2.2.2.2.2.2.2.2.2.2.2.2.2.2.2.2.2.2.2.2.2.2.2.2.2.2.2.2.2.2.2.2.2.2.2.2.2.2.2.2.2.2.2.2.2.2.2.2.2.2.2.2.2.2.2.2.2.2.2.2.2.2.2.2.2.2.2.2.2.1) hl h
  · cases hk; exact fz_3 ((fzG_s pc).2.2.2.2.2.2.2.2.2.2.2.2.2.2.2.2.2.2.2.2.2.2.2.2.2.2.2.2.2.2.2.2.2.2.2.2.2.2.2.2.2.2.2.2.2.2.2.2.2.2.2.2.2.2.2.2.2.2.2.2.2.2.2.2.2.2.2.2.2.2.2.2.2.2.2.2.2.2.2.2.2.2.2.2.2.2.2.2.2.2.2.2.1) hl h
  · cases hk; exact fz_3 ((fzG_s pc).2.2.2.2.2.2.2.2.2.2.2.2.2.2.2.2.2.2.2.2.2.2.2.2.2.2.2.2.2.2.2.2.2.2.2.2.2.2.2.2.2.2.2.2.2.2.2.2.2.2.2.2.2.2.2.2.2.2.2.2.2.2.2.2.2.2.2.2.2.2.2.2.2.2.2.2.2.2.2.2.2.2.2.2.2.2.2.2.2.2.2.2.2.1) hl h
  · cases hk; exact fz_3 ((fzG_s pc).2.2.2.2.2.2.2.2.2.2.2.2.2.2.2.2.2.2.2.2.2.2.2.2.2.2.2.2.2.2.2.2.2.2.2.2.2.2.2.2.2.2.2.2.2.2.2.2.2.2.2.2.2.2.2.2.2.2.2.2.2.2.2.2.2.2.2.2.2.2.2.2.2.2.2.2.2.2.2.2.2.2.2.2.2.2.2.2.2.2.2.2.2.2.1) hl h
  · cases hk; exact fz_3 ((fzG_s pc).2.2.2.2.2.2.2.2.2.2.2.2.2.2.2.2.2.2.2.2.2.2.2.2.2.2.2.2.2.2.2.2.2.2.2.2.2.2.2.2.2.2.2.2.2.2.2.2.2.2.2.2.2.2.2.2.2.2.2.2.2.2.2.2.2.2.2.2.2.2.2.2.2.2.2.2.2.2.2.2.2.2.2.2.2.2.2.2.2.2.2.2.2.2.2.1) hl h
  · cases hk; exact fz_3 ((fzG_s pc).2.2.2.2.2.2.2.2.2.2.2.2.2.2.2.2.2.2.2.2.2.2.2.2.2.2.2.2.2.2.2.2.2.2.2.2.2.2.2.2.2.2.2.2.2.2.2.2.2.2.2.2.2.2.2.2.2.2.2.2.2.2.2.2.2.2.2.2.2.2.2.2.2.2.2.2.2.2.2.2.2.2.2.2.2.2.2.2.2.2.2.2.2.2.2.2.1) hl h
  · cases hk; exact fz_3 ((fzG_s pc).2.2.2.2.2.2.2.2.2.2.2.2.2.2.2.2.2.2.2.2.2.2.2.2.2.2.2.2.2.2.2.2.2.2.2.2.2.2.2.2.2.2.2.2.2.2.2.2.2.2.2.2.2.2.2.2.2.2.2.2.2.2.2.2.2.2.2.2.2.2.2.2.2.2.2.2.2.2.2.2.2.2.2.2.2.2.2.2.2.2.2.2.2.2.2.2.2.1) hl h
  · cases hk; exact fz_5 ((fzG_s pc).2.2.2.2.2.2.2.2.2.2.2.2.2.2.2.2.2.2.2.2.2.2.2.2.2.2.2.2.2.2.2.2.2.2.2.2.2.2.2.2.2.2.2.2.2.2.2.2.2.2.2.2.2.2.2.2.2.2.2.2.2.2.2.2.2.2.2.2.2.2.2.2.2.2.2.2.2.2.2.2.2.2.2.2.2.2.2.2.2.2.2.2.2.2.2.2.2.2.1) hl h
  · cases hk; exact fz_6 (v := 10) ((fzG_s pc).2.2.2.2.2.2.2.2.2.2.2.2.2.2.2.2.2.2.2.2.2.2.2.2.2.2.2.2.2.2.2.2.2.2.2.2.2.2.2.2.2.2.2.2.2.2.2.2.2.2.2.2.2.2.2.2.2.2.2.2.2.2.2.2.2.2.2.2.2.2.2.2.2.2.2.2.2.2.2.2.2.2.2.2.2.2.2.2.2.2.2.2.2.2.2.2.2.2.2) (Or.inl ⟨rfl, rfl⟩) hl h
  · cases hk; exact fz_6 (v := 4) ((fzG_s pc).2.2.2.2.2.2.2.2.2.2.2.2.2.2.2.2.2.2.2.2.2.2.2.2.2.2.2.2.2.2.2.2.2.2.2.2.2.2.2.2.2.2.2.2.2.2.2.2.2.2.2.2.2.2.2.2.2.2.2.2.2.2.2.2.2.2.2.2.2.2.2.2.2.2.2.2.2.2.2.2.2.2.2.2.2.2.2.2.2.2.2.2.2.2.2.2.2.2.2) (Or.inr ⟨rfl, rfl⟩) hl h
  · cases hk
/-- one walk over the code and the list of its words -/
def fzw (cc : ByteArray) : List UInt8 → Nat → List (Nat × Instr × Nat) → Bool
  | _, _, [] => true
  | l, p, q :: t => Nat.beq q.1 p && (match fzk q.2.1 with
    | some (op, k, a, b) => Nat.beq q.2.2 (ai_len q.2.1) && (match fzr l op k a b with
      | some l' => fzw cc l' (p + q.2.2) t
      | none => false)
    | none => ai_okI cc q && fzw cc (l.drop q.2.2) (p + q.2.2) t)
theorem fzw_ok (cc : ByteArray) : ∀ (t : List (Nat × Instr × Nat)) (l : List UInt8) (p : Nat), l = cc.data.toList.drop p → fzw cc l p t = true → t.all (ai_okI cc) = true
  | [], _, _, _, _ => rfl
  | q :: t, l, p, hl, h => by
    rw [fzw, Bool.and_eq_true] at h
    obtain ⟨h1, h⟩ := h
    have h1 : q.1 = p := Nat.eq_of_beq_eq_true h1
    rw [List.all_cons, Bool.and_eq_true]
    split at h
    · rename_i op k a b hk
      rw [Bool.and_eq_true] at h
      obtain ⟨h2, h⟩ := h
      have h2 : q.2.2 = ai_len q.2.1 := Nat.eq_of_beq_eq_true h2
      split at h
      · rename_i l' hr
        obtain ⟨e1, e2⟩ := fz_ok q.2.1 hk hl hr
        refine ⟨?_, fzw_ok cc t l' (p + q.2.2) (by rw [e2, h2]) h⟩
        unfold ai_okI
        rw [Bool.and_eq_true]
        refine ⟨decide_eq_true ?_, ?_⟩
        · rw [h1, e1, ← h2]
        · rw [Bool.or_eq_true]
          exact Or.inr (by rw [h2]; exact Nat.beq_refl _)
      · cases h
    · rw [Bool.and_eq_true] at h
      exact ⟨h.1, fzw_ok cc t _ _ (by rw [hl, List.drop_drop]) h.2⟩
theorem fzc_ok (M : ai_M) (h : fzw (ai_cc M) (ai_cc M).data.toList 0 (ai_cd M) = true) : ai_okC M = true := fzw_ok (ai_cc M) (ai_cd M) _ 0 rfl h
