/-! a string's length and its signs: the JDK's own methods, over the string constants -/
def jy_len : MethodName := ⟨"java/lang/String", "length", "()I"⟩
def jy_cod : MethodName := ⟨"java/lang/String", "coder", "()B"⟩
def jy_cha : MethodName := ⟨"java/lang/String", "charAt", "(I)C"⟩
def jy_lat : MethodName := ⟨"java/lang/String", "isLatin1", "()Z"⟩
def jy_chl : MethodName := ⟨"java/lang/StringLatin1", "charAt", "([BI)C"⟩
def jy_chk : MethodName := ⟨"java/lang/String", "checkIndex", "(II)V"⟩
def jy_pre : MethodName := ⟨"jdk/internal/util/Preconditions", "checkIndex", "(IILjava/util/function/BiFunction;)I"⟩
abbrev js_w (y : MethodName) (b : ByteArray) (n : Nat) (r : Option FieldType) : List Jvm.Cond := .code y b n r :: ai_gt
def js_P (G : ai_G) (as : List Value) : Array Value → State → Prop := va_Pc as (fun U => ai_St G U)
def js_Q (v : Option Value) : Array Value → State → Outcome → State → Prop := fun _ st oc t => oc = .returned v ∧ t.heap = st.heap
theorem js_blind (G : ai_G) (as : List Value) : FrameBlind (js_P G as) := by
  intro a U g mk q
  obtain ⟨h1, h2⟩ := q
  exact ⟨h1, ai_St_eq h2 rfl rfl⟩
theorem js_good {ws : List Jvm.Cond} (h : ∀ w ∈ ws, w ∈ ai_gt) : GoodIn ai_gt ws := fun w hw => ⟨h w hw, good_of_word (List.mem_filter.mp (h w hw)).2⟩
theorem js_inV {own C : String} {k : Nat} {y : MethodName} {b : ByteArray} {n : Nat} {r : Option FieldType} (h1 : Jvm.Cond.methodLink own k y ∈ ai_gt) (h2 : Jvm.Cond.instanceMethod y ∈ ai_gt) (h3 : Jvm.Cond.selects C y y ∈ ai_gt) (h4 : Jvm.Cond.initialized C ∈ ai_gt) (h5 : Jvm.Cond.code y b n r ∈ ai_gt) : ∀ w ∈ wsV own k C y (js_w y b n r), w ∈ ai_gt := by
  intro w hw9
  unfold wsV at hw9
  rcases List.mem_append.mp hw9 with q | q
  · simp only [List.mem_cons, List.not_mem_nil, or_false] at q
    rcases q with rfl | rfl | rfl | rfl
    · exact h1
    · exact h2
    · exact h3
    · exact h4
  · rcases List.mem_cons.mp q with rfl | q
    · exact h5
    · exact q
theorem js_inS {own : String} {k : Nat} {y : MethodName} {b : ByteArray} {n : Nat} {r : Option FieldType} (h1 : Jvm.Cond.methodLink own k y ∈ ai_gt) (h2 : Jvm.Cond.static y ∈ ai_gt) (h4 : Jvm.Cond.initialized y.cls ∈ ai_gt) (h5 : Jvm.Cond.code y b n r ∈ ai_gt) : ∀ w ∈ va_wsS own k y (js_w y b n r), w ∈ ai_gt := by
  intro w hw9
  unfold va_wsS at hw9
  rcases List.mem_append.mp hw9 with q | q
  · simp only [List.mem_cons, List.not_mem_nil, or_false] at q
    rcases q with rfl | rfl | rfl
    · exact h1
    · exact h2
    · exact h4
  · rcases List.mem_cons.mp q with rfl | q
    · exact h5
    · exact q
theorem js_iS : Jvm.Cond.initialized "java/lang/String" ∈ ai_gt := List.mem_filter.mpr ⟨by decide +kernel, by decide +kernel⟩
theorem js_iL : Jvm.Cond.initialized "java/lang/StringLatin1" ∈ ai_gt := List.mem_filter.mpr ⟨by decide +kernel, by decide +kernel⟩
theorem js_iP : Jvm.Cond.initialized "jdk/internal/util/Preconditions" ∈ ai_gt := List.mem_filter.mpr ⟨by decide +kernel, by decide +kernel⟩
theorem js_V1 : ∀ w ∈ wsV "java/lang/String" 335 "java/lang/String" jy_cod (js_w jy_cod prog_13_method_152_code 1 (some .byte)), w ∈ ai_gt := js_inV (List.mem_filter.mpr ⟨by decide +kernel, by decide +kernel⟩) (List.mem_filter.mpr ⟨by decide +kernel, by decide +kernel⟩) (List.mem_filter.mpr ⟨by decide +kernel, by decide +kernel⟩) js_iS (List.mem_filter.mpr ⟨by decide +kernel, by decide +kernel⟩)
theorem js_V2 : ∀ w ∈ wsV "java/lang/String" 492 "java/lang/String" jy_lat (js_w jy_lat prog_13_method_154_code 1 (some .boolean)), w ∈ ai_gt := js_inV (List.mem_filter.mpr ⟨by decide +kernel, by decide +kernel⟩) (List.mem_filter.mpr ⟨by decide +kernel, by decide +kernel⟩) (List.mem_filter.mpr ⟨by decide +kernel, by decide +kernel⟩) js_iS (List.mem_filter.mpr ⟨by decide +kernel, by decide +kernel⟩)
theorem js_V3 : ∀ w ∈ wsV "FourWaters$Text" 61 "java/lang/String" jy_len (js_w jy_len prog_13_method_54_code 1 (some .int)), w ∈ ai_gt := js_inV (List.mem_filter.mpr ⟨by decide +kernel, by decide +kernel⟩) (List.mem_filter.mpr ⟨by decide +kernel, by decide +kernel⟩) (List.mem_filter.mpr ⟨by decide +kernel, by decide +kernel⟩) js_iS (List.mem_filter.mpr ⟨by decide +kernel, by decide +kernel⟩)
theorem js_V4 : ∀ w ∈ wsV "FourWaters$Text" 65 "java/lang/String" jy_cha (js_w jy_cha prog_13_method_56_code 2 (some .char)), w ∈ ai_gt := js_inV (List.mem_filter.mpr ⟨by decide +kernel, by decide +kernel⟩) (List.mem_filter.mpr ⟨by decide +kernel, by decide +kernel⟩) (List.mem_filter.mpr ⟨by decide +kernel, by decide +kernel⟩) js_iS (List.mem_filter.mpr ⟨by decide +kernel, by decide +kernel⟩)
theorem js_S1 : ∀ w ∈ va_wsS "java/lang/String" 495 jy_chl (js_w jy_chl prog_14_method_2_code 2 (some .char)), w ∈ ai_gt := js_inS (List.mem_filter.mpr ⟨by decide +kernel, by decide +kernel⟩) (List.mem_filter.mpr ⟨by decide +kernel, by decide +kernel⟩) js_iL (List.mem_filter.mpr ⟨by decide +kernel, by decide +kernel⟩)
theorem js_S2 : ∀ w ∈ va_wsS "java/lang/StringLatin1" 9 jy_chk (js_w jy_chk prog_13_method_155_code 2 none), w ∈ ai_gt := js_inS (List.mem_filter.mpr ⟨by decide +kernel, by decide +kernel⟩) (List.mem_filter.mpr ⟨by decide +kernel, by decide +kernel⟩) js_iS (List.mem_filter.mpr ⟨by decide +kernel, by decide +kernel⟩)
theorem js_S3 : ∀ w ∈ va_wsS "java/lang/String" 1059 jy_pre (js_w jy_pre prog_18_method_11_code 3 (some .int)), w ∈ ai_gt := js_inS (List.mem_filter.mpr ⟨by decide +kernel, by decide +kernel⟩) (List.mem_filter.mpr ⟨by decide +kernel, by decide +kernel⟩) js_iP (List.mem_filter.mpr ⟨by decide +kernel, by decide +kernel⟩)
theorem js_F1 : Jvm.Cond.fieldLink "java/lang/String" 38 "java/lang/String" "COMPACT_STRINGS" "Z" ∈ ai_gt := List.mem_filter.mpr ⟨by decide +kernel, by decide +kernel⟩
theorem js_F2 : Jvm.Cond.fieldLink "java/lang/String" 9 "java/lang/String" "value" "[B" ∈ ai_gt := List.mem_filter.mpr ⟨by decide +kernel, by decide +kernel⟩
theorem js_F3 : Jvm.Cond.fieldLink "java/lang/String" 15 "java/lang/String" "coder" "B" ∈ ai_gt := List.mem_filter.mpr ⟨by decide +kernel, by decide +kernel⟩
theorem js_F4 : Jvm.Cond.fieldLink "java/lang/String" 1053 "jdk/internal/util/Preconditions" "SIOOBE_FORMATTER" "Ljava/util/function/BiFunction;" ∈ ai_gt := List.mem_filter.mpr ⟨by decide +kernel, by decide +kernel⟩
section JSS
variable {p : Program} {l : Launch} {e : Env} {R : Room} {s : State} {m : MethodId} {args : Array Value} {below : List Frame} {meth : Method} {c : Code} {H : Heap} {locs : List Loc} {cells slots : Nat} {Q : State → Prop} {ls : Array Slot} {pc : Nat} {rest st0 : List Value} {a0 : Array Value}

theorem js_after {rv : Option Value} (hr : va_Run p l e R s m args below meth c H locs cells slots 0 0 (F0 m pc ls st0) rest (js_Q rv a0) (fun _ => False))
    (kk : W p l e R s m args below meth c H locs cells slots Q (F0 m (pc + 3) ls (rv.toList ++ rest))) : W p l e R s m args below meth c H locs cells slots Q (F0 m pc ls st0) := by
  intro T hT Y
  obtain ⟨v, st₀, t, T', L1, h0, Y', hL1, e1, e2, ⟨hv, hh⟩, stp⟩ := hr T hT Y
  have hv2 : v = rv := by cases hv; rfl
  subst hv2
  have hn : L1 = [] := by
    cases L1 with
    | nil => rfl
    | cons q t => exact (hL1 q List.mem_cons_self).elim
  subst hn
  rw [List.append_nil] at Y'
  obtain ⟨t2, a1, b1⟩ := kk T' (by rw [e1, hh, h0]) Y'
  exact ⟨t2, stp t2 a1, b1⟩
end JSS
theorem js_d0 : decode prog_13_method_152_code 0 = .ok (.getstatic 38, 3) := by decide +kernel
theorem js_d1 : decode prog_13_method_152_code 3 = .ok (.ifCond .eq 10, 3) := by decide +kernel
theorem js_d2 : decode prog_13_method_152_code 6 = .ok (.aload_n 0, 1) := by decide +kernel
theorem js_d3 : decode prog_13_method_152_code 7 = .ok (.getfield 15, 3) := by decide +kernel
theorem js_d4 : decode prog_13_method_152_code 10 = .ok (.goto 4, 3) := by decide +kernel
theorem js_d5 : decode prog_13_method_152_code 14 = .ok (.ireturn, 1) := by decide +kernel
set_option maxHeartbeats 4000000 in
theorem js_coder (l : Launch) (G : ai_G) (i : Nat) (hi : i < 8) : Met l jy_cod (js_w jy_cod prog_13_method_152_code 1 (some .byte)) { frames := 0, cells := 0, slots := 0, locals := 0 } (js_P G [.ref (G.2.1 (i + 2))]) (js_Q (some (.int 0))) 0 0 (fun _ => False) := by
  refine Met.ofW (cc := prog_13_method_152_code) (maxL := 1) (ret := some .byte) (by decide) rfl ?_
  intro p e s m args below meth c s₁ B hml hv
  obtain ⟨rfl, hSt⟩ := hv
  have hx := B.exec
  have hb := B.bytes
  have hr := B.returns
  have hts := atoms_spec (ws := js_w jy_cod prog_13_method_152_code 1 (some .byte)) B.pre
  have hts : ∀ w ∈ ai_gt, w.before _ s = true := fun w hw => hts w (List.mem_cons_of_mem _ hw)
  have hown : s.vm.findClass "java/lang/String" = some m.cls := findClass_of_methodNamed B.named
  have hlocks := B.notSynchronized
  obtain ⟨⟨adV, hS8⟩, -, hZ, -⟩ := hSt
  have hS : va_S (fun q => G.1 ≤ q) s.heap s.heap [] := va_S.rf
  have hl := lv_entry ([.ref (G.2.1 (i + 2))]) (n := 1) (Nat.le_of_ble_eq_true rfl)
  rw [lg_entry_eq]
  generalize (lg_sl ([.ref (G.2.1 (i + 2))]) ++ List.replicate (1 - (lg_sl ([.ref (G.2.1 (i + 2))])).length) Slot.unset).toArray = ls at hl ⊢
  have hl : lv_has ls 1 [(0, .ref (G.2.1 (i + 2)))] := hl
  refine va_gets hx hb hZ hS hown (hts _ js_F1) (fun _ h => h) js_d0 ?_
  refine lv_if_eq (tgt := 13) hx hb js_d1 rfl (fun h => absurd h (by decide)) (fun _ => ?_)
  refine lv_aload_n hx hb js_d2 rfl (lv_at hl 0 rfl) ?_
  refine vk_getf hx hb (hS8.1 i hi).2.1 hS hown (hts _ js_F3) (fun _ h => h) js_d3 ?_
  refine lv_goto (tgt := 14) hx hb js_d4 rfl ?_
  exact W.zret (v := 0) (ty := .byte) hx hb hr rfl (fun t ht hW => ⟨rfl, ht⟩) (fun q hq => by cases hq) js_d5
theorem js_d6 : decode prog_13_method_154_code 0 = .ok (.getstatic 38, 3) := by decide +kernel
theorem js_d7 : decode prog_13_method_154_code 3 = .ok (.ifCond .eq 14, 3) := by decide +kernel
theorem js_d8 : decode prog_13_method_154_code 6 = .ok (.aload_n 0, 1) := by decide +kernel
theorem js_d9 : decode prog_13_method_154_code 7 = .ok (.getfield 15, 3) := by decide +kernel
theorem js_da : decode prog_13_method_154_code 10 = .ok (.ifCond .ne 7, 3) := by decide +kernel
theorem js_db : decode prog_13_method_154_code 13 = .ok (.iconst 1, 1) := by decide +kernel
theorem js_dc : decode prog_13_method_154_code 14 = .ok (.goto 4, 3) := by decide +kernel
theorem js_dd : decode prog_13_method_154_code 18 = .ok (.ireturn, 1) := by decide +kernel
set_option maxHeartbeats 4000000 in
theorem js_latin (l : Launch) (G : ai_G) (i : Nat) (hi : i < 8) : Met l jy_lat (js_w jy_lat prog_13_method_154_code 1 (some .boolean)) { frames := 0, cells := 0, slots := 0, locals := 0 } (js_P G [.ref (G.2.1 (i + 2))]) (js_Q (some (.int 1))) 0 0 (fun _ => False) := by
  refine Met.ofW (cc := prog_13_method_154_code) (maxL := 1) (ret := some .boolean) (by decide) rfl ?_
  intro p e s m args below meth c s₁ B hml hv
  obtain ⟨rfl, hSt⟩ := hv
  have hx := B.exec
  have hb := B.bytes
  have hr := B.returns
  have hts := atoms_spec (ws := js_w jy_lat prog_13_method_154_code 1 (some .boolean)) B.pre
  have hts : ∀ w ∈ ai_gt, w.before _ s = true := fun w hw => hts w (List.mem_cons_of_mem _ hw)
  have hown : s.vm.findClass "java/lang/String" = some m.cls := findClass_of_methodNamed B.named
  have hlocks := B.notSynchronized
  obtain ⟨⟨adV, hS8⟩, -, hZ, -⟩ := hSt
  have hS : va_S (fun q => G.1 ≤ q) s.heap s.heap [] := va_S.rf
  have hl := lv_entry ([.ref (G.2.1 (i + 2))]) (n := 1) (Nat.le_of_ble_eq_true rfl)
  rw [lg_entry_eq]
  generalize (lg_sl ([.ref (G.2.1 (i + 2))]) ++ List.replicate (1 - (lg_sl ([.ref (G.2.1 (i + 2))])).length) Slot.unset).toArray = ls at hl ⊢
  have hl : lv_has ls 1 [(0, .ref (G.2.1 (i + 2)))] := hl
  refine va_gets hx hb hZ hS hown (hts _ js_F1) (fun _ h => h) js_d6 ?_
  refine lv_if_eq (tgt := 17) hx hb js_d7 rfl (fun h => absurd h (by decide)) (fun _ => ?_)
  refine lv_aload_n hx hb js_d8 rfl (lv_at hl 0 rfl) ?_
  refine vk_getf hx hb (hS8.1 i hi).2.1 hS hown (hts _ js_F3) (fun _ h => h) js_d9 ?_
  refine lv_if_ne (tgt := 17) hx hb js_da rfl (fun h => absurd rfl h) (fun _ => ?_)
  refine lv_iconst (v := 1) hx hb js_db rfl ?_
  refine lv_goto (tgt := 18) hx hb js_dc rfl ?_
  exact W.zret (v := 1) (ty := .boolean) hx hb hr rfl (fun t ht hW => ⟨rfl, ht⟩) (fun q hq => by cases hq) js_dd
theorem js_de : decode prog_18_method_11_code 0 = .ok (.iload_n 0, 1) := by decide +kernel
theorem js_df : decode prog_18_method_11_code 1 = .ok (.ifCond .lt 8, 3) := by decide +kernel
theorem js_dg : decode prog_18_method_11_code 4 = .ok (.iload_n 0, 1) := by decide +kernel
theorem js_dh : decode prog_18_method_11_code 5 = .ok (.iload_n 1, 1) := by decide +kernel
theorem js_di : decode prog_18_method_11_code 6 = .ok (.if_icmp .lt 10, 3) := by decide +kernel
theorem js_dj : decode prog_18_method_11_code 16 = .ok (.iload_n 0, 1) := by decide +kernel
theorem js_dk : decode prog_18_method_11_code 17 = .ok (.ireturn, 1) := by decide +kernel
set_option maxHeartbeats 4000000 in
theorem js_pre (l : Launch) (G : ai_G) (x y : Int32) (v : Value) (hv1 : v.category = 1) (h1 : ¬ x < 0) (h2 : x < y) : Met l jy_pre (js_w jy_pre prog_18_method_11_code 3 (some .int)) { frames := 0, cells := 0, slots := 0, locals := 0 } (js_P G [.int x, .int y, v]) (js_Q (some (.int x))) 0 0 (fun _ => False) := by
  refine Met.ofW (cc := prog_18_method_11_code) (maxL := 3) (ret := some .int) (by decide) rfl ?_
  intro p e s m args below meth c s₁ B hml hv
  obtain ⟨rfl, hSt⟩ := hv
  have hx := B.exec
  have hb := B.bytes
  have hr := B.returns
  have hlocks := B.notSynchronized
  have hn : (lg_sl ([.int x, .int y, v])).length ≤ 3 := by
    cases v <;> first | exact Nat.le_of_ble_eq_true rfl | exact absurd hv1 (by simp [Value.category])
  have hl := lv_entry ([.int x, .int y, v]) (n := 3) hn
  rw [lg_entry_eq]
  generalize (lg_sl ([.int x, .int y, v]) ++ List.replicate (3 - (lg_sl ([.int x, .int y, v])).length) Slot.unset).toArray = ls at hl ⊢
  have hl0 : ls[0]? = some (.val (.int x)) := lv_at hl 0 rfl
  have hl1 : ls[1]? = some (.val (.int y)) := lv_at hl 1 rfl
  refine lv_iload_n hx hb js_de rfl hl0 ?_
  refine lv_if_lt (tgt := 9) hx hb js_df rfl (fun h => absurd h h1) (fun _ => ?_)
  refine lv_iload_n hx hb js_dg rfl hl0 ?_
  refine lv_iload_n hx hb js_dh rfl hl1 ?_
  refine lv_icmp_lt (tgt := 16) hx hb js_di rfl (fun _ => ?_) (fun h => absurd h2 h)
  refine lv_iload_n hx hb js_dj rfl hl0 ?_
  exact W.iret (v := x) hx hb hr (fun t ht hW => ⟨rfl, ht⟩) (fun q hq => by cases hq) js_dk
theorem js_dl : decode prog_13_method_155_code 0 = .ok (.iload_n 0, 1) := by decide +kernel
theorem js_dm : decode prog_13_method_155_code 1 = .ok (.iload_n 1, 1) := by decide +kernel
theorem js_dn : decode prog_13_method_155_code 2 = .ok (.getstatic 1053, 3) := by decide +kernel
theorem js_do : decode prog_13_method_155_code 5 = .ok (.invokestatic 1059, 3) := by decide +kernel
theorem js_dp : decode prog_13_method_155_code 8 = .ok (.pop, 1) := by decide +kernel
theorem js_dq : decode prog_13_method_155_code 9 = .ok (.return_, 1) := by decide +kernel
set_option maxHeartbeats 4000000 in
theorem js_check (l : Launch) (G : ai_G) (x y : Int32) (h1 : ¬ x < 0) (h2 : x < y) : Met l jy_chk (js_w jy_chk prog_13_method_155_code 2 none) { frames := 1, cells := 0, slots := 0, locals := 22 } (js_P G [.int x, .int y]) (js_Q none) 0 0 (fun _ => False) := by
  refine Met.ofW (cc := prog_13_method_155_code) (maxL := 2) (ret := none) (by decide) rfl ?_
  intro p e s m args below meth c s₁ B hml hv
  obtain ⟨rfl, hSt⟩ := hv
  have hx := B.exec
  have hb := B.bytes
  have hr := B.returns
  have hts := atoms_spec (ws := js_w jy_chk prog_13_method_155_code 2 none) B.pre
  have hts : ∀ w ∈ ai_gt, w.before _ s = true := fun w hw => hts w (List.mem_cons_of_mem _ hw)
  have hown : s.vm.findClass "java/lang/String" = some m.cls := findClass_of_methodNamed B.named
  have hlocks := B.notSynchronized
  have hS : va_S (fun q => G.1 ≤ q) s.heap s.heap [] := va_S.rf
  have hl := lv_entry ([.int x, .int y]) (n := 2) (Nat.le_of_ble_eq_true rfl)
  rw [lg_entry_eq]
  generalize (lg_sl ([.int x, .int y]) ++ List.replicate (2 - (lg_sl ([.int x, .int y])).length) Slot.unset).toArray = ls at hl ⊢
  have hl : lv_has ls 2 [(0, .int x), (1, .int y)] := hl
  have key : ∀ v : Value, v.category = 1 → va_Z "jdk/internal/util/Preconditions" "SIOOBE_FORMATTER" "Ljava/util/function/BiFunction;" v (fun q => G.1 ≤ q) s s.heap → W p l e { frames := 1, cells := 0, slots := 0, locals := 22 } s m #[Value.int x, Value.int y] below meth c s.heap [] 0 0 (MQ below (js_Q none) #[Value.int x, Value.int y] s 0 0 (fun _ => False)) (F0 m 0 ls []) := by
    intro v hv1 hZ
    refine lv_iload_n hx hb js_dl rfl (lv_at hl 0 rfl) ?_
    refine lv_iload_n hx hb js_dm rfl (lv_at hl 1 rfl) ?_
    refine va_gets hx hb hZ hS hown (hts _ js_F4) (fun _ h => h) js_dn ?_
    refine js_after (rv := some (.int x)) (rest := []) (va_runS (own := "java/lang/String") (As := [.int x, .int y, v]) (rest := []) ⟨hx, hb, hml, hown, hts⟩ (js_pre l G x y v hv1 h1 h2) (va_cwS 3 hts (js_good js_S3) rfl rfl rfl ⟨by decide, by decide, by decide⟩ ⟨by decide, by decide⟩) ⟨js_blind G _, fun U hU hW => ⟨rfl, ai_St_to hSt hS hU hW⟩⟩ rfl rfl hl.1 rfl (Nat.le_of_ble_eq_true rfl) js_do ⟨by decide, by decide⟩) ?_
    refine lv_pop hx hb js_dp rfl ?_
    exact W.vret hx hb hr (fun t ht hW => ⟨rfl, ht⟩) (fun q hq => by cases hq) js_dq
  rcases hSt.2.2.2 with hZ | ⟨t, hZ⟩
  · exact key .null rfl hZ
  · exact key (.ref t) rfl hZ
theorem js_dr : decode prog_13_method_54_code 0 = .ok (.aload_n 0, 1) := by decide +kernel
theorem js_ds : decode prog_13_method_54_code 1 = .ok (.getfield 9, 3) := by decide +kernel
theorem js_dt : decode prog_13_method_54_code 4 = .ok (.arraylength, 1) := by decide +kernel
theorem js_du : decode prog_13_method_54_code 5 = .ok (.aload_n 0, 1) := by decide +kernel
theorem js_dv : decode prog_13_method_54_code 6 = .ok (.invokevirtual 335, 3) := by decide +kernel
theorem js_dw : decode prog_13_method_54_code 9 = .ok (.ishr, 1) := by decide +kernel
theorem js_dx : decode prog_13_method_54_code 10 = .ok (.ireturn, 1) := by decide +kernel
theorem js_shr0 : ∀ i : Nat, i < 8 → Int32.ofNat (ai_stL.getD i 0) >>> ((0 : Int32) &&& 31) = Int32.ofNat (ai_stL.getD i 0) := by decide +kernel
set_option maxHeartbeats 4000000 in
theorem js_length (l : Launch) (G : ai_G) (i : Nat) (hi : i < 8) : Met l jy_len (js_w jy_len prog_13_method_54_code 1 (some .int)) { frames := 3, cells := 0, slots := 0, locals := 64 } (js_P G [.ref (G.2.1 (i + 2))]) (js_Q (some (.int (Int32.ofNat (ai_stL.getD i 0))))) 0 0 (fun _ => False) := by
  refine Met.ofW (cc := prog_13_method_54_code) (maxL := 1) (ret := some .int) (by decide) rfl ?_
  intro p e s m args below meth c s₁ B hml hv
  obtain ⟨rfl, hSt⟩ := hv
  have hx := B.exec
  have hb := B.bytes
  have hr := B.returns
  have hts := atoms_spec (ws := js_w jy_len prog_13_method_54_code 1 (some .int)) B.pre
  have hts : ∀ w ∈ ai_gt, w.before _ s = true := fun w hw => hts w (List.mem_cons_of_mem _ hw)
  have hown : s.vm.findClass "java/lang/String" = some m.cls := findClass_of_methodNamed B.named
  have hlocks := B.notSynchronized
  obtain ⟨⟨adV, hS8⟩, -, hZ, -⟩ := id hSt
  have hS : va_S (fun q => G.1 ≤ q) s.heap s.heap [] := va_S.rf
  have hl := lv_entry ([.ref (G.2.1 (i + 2))]) (n := 1) (Nat.le_of_ble_eq_true rfl)
  rw [lg_entry_eq]
  generalize (lg_sl ([.ref (G.2.1 (i + 2))]) ++ List.replicate (1 - (lg_sl ([.ref (G.2.1 (i + 2))])).length) Slot.unset).toArray = ls at hl ⊢
  have hl : lv_has ls 1 [(0, .ref (G.2.1 (i + 2)))] := hl
  refine lv_aload_n hx hb js_dr rfl (lv_at hl 0 rfl) ?_
  refine vk_getf hx hb (hS8.1 i hi).2.2.1 hS hown (hts _ js_F2) (fun _ h => h) js_ds ?_
  refine va_tlen hx hb (hS8.1 i hi).2.2.2 hS rfl js_dt ?_
  refine lv_aload_n hx hb js_du rfl (lv_at hl 0 rfl) ?_
  refine js_after (rv := some (.int 0)) (rest := [.int (Int32.ofNat (ai_stL.getD i 0))]) (va_runV (own := "java/lang/String") (C := "java/lang/String") (As := []) (rest := [.int (Int32.ofNat (ai_stL.getD i 0))]) ⟨hx, hb, hml, hown, hts⟩ (js_coder l G i hi) (cwV 0 hts (js_good js_V1) rfl rfl rfl ⟨rfl, by decide, by decide, by decide⟩ ⟨by decide, by decide⟩) ⟨js_blind G _, vk_recv hS8 hi hS, fun U hU hW => ⟨rfl, ai_St_to hSt hS hU hW⟩⟩ rfl rfl hl.1 rfl (by show 2 * 0 + _ ≤ 8; simp [Value.category]) js_dv ⟨by decide, by decide⟩) ?_
  refine lv_ishr hx hb js_dw ?_
  rw [js_shr0 i hi]
  exact W.iret hx hb hr (fun t ht hW => ⟨rfl, ht⟩) (fun q hq => by cases hq) js_dx
theorem js_e0 : decode prog_14_method_2_code 0 = .ok (.iload_n 1, 1) := by decide +kernel
theorem js_e1 : decode prog_14_method_2_code 1 = .ok (.aload_n 0, 1) := by decide +kernel
theorem js_e2 : decode prog_14_method_2_code 2 = .ok (.arraylength, 1) := by decide +kernel
theorem js_e3 : decode prog_14_method_2_code 3 = .ok (.invokestatic 9, 3) := by decide +kernel
theorem js_e4 : decode prog_14_method_2_code 6 = .ok (.aload_n 0, 1) := by decide +kernel
theorem js_e5 : decode prog_14_method_2_code 7 = .ok (.iload_n 1, 1) := by decide +kernel
theorem js_e6 : decode prog_14_method_2_code 8 = .ok (.baload, 1) := by decide +kernel
theorem js_e7 : decode prog_14_method_2_code 9 = .ok (.sipush 255, 3) := by decide +kernel
theorem js_e8 : decode prog_14_method_2_code 12 = .ok (.iand, 1) := by decide +kernel
theorem js_e9 : decode prog_14_method_2_code 13 = .ok (.i2c, 1) := by decide +kernel
theorem js_ea : decode prog_14_method_2_code 14 = .ok (.ireturn, 1) := by decide +kernel
theorem js_chb : ∀ i : Nat, i < 8 → ∀ k : Nat, k < 6 → ((((ai_str.getD i []).getD k 0) &&& 255).toUInt32 % 65536).toInt32 = (ai_str.getD i []).getD k 0 := by decide +kernel
theorem js_chn : ∀ i : Nat, i < 8 → ∀ k : Nat, k < 6 → narrow .char (.int ((ai_str.getD i []).getD k 0)) = .int ((ai_str.getD i []).getD k 0) := by decide +kernel
theorem js_le5 : ∀ i : Nat, i < 8 → ai_stL.getD i 0 < 6 := by decide +kernel
theorem js_in {x : Int32} {n : Nat} (hn : n < 6) (h : ¬ x < 0) (h2 : x.toNatClampNeg < n) : x < Int32.ofNat n := by
  rw [Int32.lt_iff_toInt_lt, Int32.toInt_ofNat_of_lt (by omega)]
  have h0 : (0 : Int) ≤ x.toInt := by
    have := Int32.not_lt.mp h
    simpa using Int32.le_iff_toInt_le.mp this
  have h3 : x.toInt.toNat < n := h2
  omega
set_option maxHeartbeats 4000000 in
theorem js_chl (l : Launch) (G : ai_G) (i t : Nat) (hi : i < 8) (x : Int32) (h1 : ¬ x < 0) (h2 : x.toNatClampNeg < ai_stL.getD i 0) : Met l jy_chl (js_w jy_chl prog_14_method_2_code 2 (some .char)) { frames := 2, cells := 0, slots := 0, locals := 43 } (fun v U => js_P G [.ref t, .int x] v U ∧ va_T .byte t (ai_stL.getD i 0) (fun j => .int ((ai_str.getD i []).getD j 0)) (fun q => G.1 ≤ q) U U.heap) (js_Q (some (.int ((ai_str.getD i []).getD x.toNatClampNeg 0)))) 0 0 (fun _ => False) := by
  refine Met.ofW (cc := prog_14_method_2_code) (maxL := 2) (ret := some .char) (by decide) rfl ?_
  intro p e s m args below meth c s₁ B hml hv
  obtain ⟨⟨rfl, hSt⟩, hT⟩ := hv
  have hx := B.exec
  have hb := B.bytes
  have hr := B.returns
  have hts := atoms_spec (ws := js_w jy_chl prog_14_method_2_code 2 (some .char)) B.pre
  have hts : ∀ w ∈ ai_gt, w.before _ s = true := fun w hw => hts w (List.mem_cons_of_mem _ hw)
  have hown : s.vm.findClass "java/lang/StringLatin1" = some m.cls := findClass_of_methodNamed B.named
  have hlocks := B.notSynchronized
  have hS : va_S (fun q => G.1 ≤ q) s.heap s.heap [] := va_S.rf
  have hl := lv_entry ([.ref t, .int x]) (n := 2) (Nat.le_of_ble_eq_true rfl)
  rw [lg_entry_eq]
  generalize (lg_sl ([.ref t, .int x]) ++ List.replicate (2 - (lg_sl ([.ref t, .int x])).length) Slot.unset).toArray = ls at hl ⊢
  have hl : lv_has ls 2 [(0, .ref t), (1, .int x)] := hl
  have h5 := js_le5 i hi
  refine lv_iload_n hx hb js_e0 rfl (lv_at hl 1 rfl) ?_
  refine lv_aload_n hx hb js_e1 rfl (lv_at hl 0 rfl) ?_
  refine va_tlen hx hb hT hS rfl js_e2 ?_
  refine js_after (rv := none) (rest := []) (va_runS (own := "java/lang/StringLatin1") (As := [.int x, .int (Int32.ofNat (ai_stL.getD i 0))]) (rest := []) ⟨hx, hb, hml, hown, hts⟩ (js_check l G x _ h1 (js_in h5 h1 h2)) (va_cwS 2 hts (js_good js_S2) rfl rfl rfl ⟨by decide, by decide, by decide⟩ ⟨by decide, by decide⟩) ⟨js_blind G _, fun U hU hW => ⟨rfl, ai_St_to hSt hS hU hW⟩⟩ rfl rfl hl.1 rfl (Nat.le_of_ble_eq_true rfl) js_e3 ⟨by decide, by decide⟩) ?_
  refine lv_aload_n hx hb js_e4 rfl (lv_at hl 0 rfl) ?_
  refine lv_iload_n hx hb js_e5 rfl (lv_at hl 1 rfl) ?_
  refine va_tb hx hb hT hS (fun q => ?_) rfl js_e6 ?_
  · rcases q with q | q
    · exact h1 q
    · omega
  refine lv_sipush (v := 255) hx hb js_e7 rfl ?_
  refine lv_iand hx hb js_e8 ?_
  refine lv_i2c hx hb js_e9 (js_chb i hi _ (by omega)) ?_
  exact W.zret (ty := .char) hx hb hr (js_chn i hi _ (by omega)) (fun t ht hW => ⟨rfl, ht⟩) (fun q hq => by cases hq) js_ea
theorem js_f0 : decode prog_13_method_56_code 0 = .ok (.aload_n 0, 1) := by decide +kernel
theorem js_f1 : decode prog_13_method_56_code 1 = .ok (.invokevirtual 492, 3) := by decide +kernel
theorem js_f2 : decode prog_13_method_56_code 4 = .ok (.ifCond .eq 12, 3) := by decide +kernel
theorem js_f3 : decode prog_13_method_56_code 7 = .ok (.aload_n 0, 1) := by decide +kernel
theorem js_f4 : decode prog_13_method_56_code 8 = .ok (.getfield 9, 3) := by decide +kernel
theorem js_f5 : decode prog_13_method_56_code 11 = .ok (.iload_n 1, 1) := by decide +kernel
theorem js_f6 : decode prog_13_method_56_code 12 = .ok (.invokestatic 495, 3) := by decide +kernel
theorem js_f7 : decode prog_13_method_56_code 15 = .ok (.ireturn, 1) := by decide +kernel
set_option maxHeartbeats 4000000 in
theorem js_charAt (l : Launch) (G : ai_G) (i : Nat) (hi : i < 8) (x : Int32) (h1 : ¬ x < 0) (h2 : x.toNatClampNeg < ai_stL.getD i 0) : Met l jy_cha (js_w jy_cha prog_13_method_56_code 2 (some .char)) { frames := 3, cells := 0, slots := 0, locals := 64 } (js_P G [.ref (G.2.1 (i + 2)), .int x]) (js_Q (some (.int ((ai_str.getD i []).getD x.toNatClampNeg 0)))) 0 0 (fun _ => False) := by
  refine Met.ofW (cc := prog_13_method_56_code) (maxL := 2) (ret := some .char) (by decide) rfl ?_
  intro p e s m args below meth c s₁ B hml hv
  obtain ⟨rfl, hSt⟩ := hv
  have hx := B.exec
  have hb := B.bytes
  have hr := B.returns
  have hts := atoms_spec (ws := js_w jy_cha prog_13_method_56_code 2 (some .char)) B.pre
  have hts : ∀ w ∈ ai_gt, w.before _ s = true := fun w hw => hts w (List.mem_cons_of_mem _ hw)
  have hown : s.vm.findClass "java/lang/String" = some m.cls := findClass_of_methodNamed B.named
  have hlocks := B.notSynchronized
  obtain ⟨⟨adV, hS8⟩, -, hZ, -⟩ := id hSt
  have hS : va_S (fun q => G.1 ≤ q) s.heap s.heap [] := va_S.rf
  have hl := lv_entry ([.ref (G.2.1 (i + 2)), .int x]) (n := 2) (Nat.le_of_ble_eq_true rfl)
  rw [lg_entry_eq]
  generalize (lg_sl ([.ref (G.2.1 (i + 2)), .int x]) ++ List.replicate (2 - (lg_sl ([.ref (G.2.1 (i + 2)), .int x])).length) Slot.unset).toArray = ls at hl ⊢
  have hl : lv_has ls 2 [(0, .ref (G.2.1 (i + 2))), (1, .int x)] := hl
  have h5 := js_le5 i hi
  refine lv_aload_n hx hb js_f0 rfl (lv_at hl 0 rfl) ?_
  refine js_after (rv := some (.int 1)) (rest := []) (va_runV (own := "java/lang/String") (C := "java/lang/String") (As := []) (rest := []) ⟨hx, hb, hml, hown, hts⟩ (js_latin l G i hi) (cwV 0 hts (js_good js_V2) rfl rfl rfl ⟨rfl, by decide, by decide, by decide⟩ ⟨by decide, by decide⟩) ⟨js_blind G _, vk_recv hS8 hi hS, fun U hU hW => ⟨rfl, ai_St_to hSt hS hU hW⟩⟩ rfl rfl hl.1 rfl (Nat.le_of_ble_eq_true rfl) js_f1 ⟨by decide, by decide⟩) ?_
  refine lv_if_eq (tgt := 16) hx hb js_f2 rfl (fun h => absurd h (by decide)) (fun _ => ?_)
  refine lv_aload_n hx hb js_f3 rfl (lv_at hl 0 rfl) ?_
  refine vk_getf hx hb (hS8.1 i hi).2.2.1 hS hown (hts _ js_F2) (fun _ h => h) js_f4 ?_
  refine lv_iload_n hx hb js_f5 rfl (lv_at hl 1 rfl) ?_
  refine js_after (rv := some (.int ((ai_str.getD i []).getD x.toNatClampNeg 0))) (rest := []) (va_runS (own := "java/lang/String") (As := [.ref (adV i), .int x]) (rest := []) ⟨hx, hb, hml, hown, hts⟩ (js_chl l G i (adV i) hi x h1 h2) (va_cwS 2 hts (js_good js_S1) rfl rfl rfl ⟨by decide, by decide, by decide⟩ ⟨by decide, by decide⟩) ⟨fun a U g mk q => ⟨js_blind G _ a U g mk q.1, va_T.moved (Vm.Alike.refl _) q.2⟩, fun U hU hW => ⟨⟨rfl, ai_St_to hSt hS hU hW⟩, ((hS8.1 i hi).2.2.2.moved hW.alike).kept (fun a _ _ => by rw [hU])⟩⟩ rfl rfl hl.1 rfl (Nat.le_of_ble_eq_true rfl) js_f6 ⟨by decide, by decide⟩) ?_
  exact W.zret (ty := .char) hx hb hr (js_chn i hi _ (by omega)) (fun t ht hW => ⟨rfl, ht⟩) (fun q hq => by cases hq) js_f7
