/-! THE CLAIM OUT OF ONE WALK OF THE LAW'S BODY. Your part is whole_start (and what it stands on); all else here is the same for every law, but numbers. -/
def R_law : String := "FourWatersLaw"
def lw_P (b : Addr) (xs : List Int32) (args : Array Value) (s : State) : Prop := args = #[.ref b] ∧ s.IntsAt b xs ∧ xs.length ≤ 384 ∧ (Jvm.Cond.and given_1 narrow_1).before args s = true
def lw_Q (_ : Array Value) (s : State) (o : Outcome) (t : State) : Prop := o = .returned (some (.int 1)) ∧ Framed s o t [] 98 1755
def lw_Z (below : List Frame) (a : Array Value) (s : State) : State → Prop := fun t => ∃ o, t.status = .running ∧ Ended t below o ∧ lw_Q a s o t
/-- the law's own end, with 1 on the stack, nothing written that was there before, its room as the claim has it -/
theorem lw_ret {p : Program} {l : Launch} {e : Env} {s : State} {m : MethodId} {below : List Frame} {meth : Method} {c : Code} {b : Nat} (hx : p.tables.exec = Jvm.exec) (hb : c.code = code) (hr : meth.sig.returnType = ret) (hlocks : meth.locks = false) {pc : Nat} {H : Heap} {ls : Array Slot} (hdg : decode code pc = .ok (.ireturn, 1)) : W p l e room_1 s m #[Value.ref b] below meth c H [] 98 1755 (lw_Z below #[Value.ref b] s) (F0 m pc ls [.int 1]) := by
  intro T hT X
  obtain ⟨fs, hret, hrun, hended, hW, hframe⟩ := X.leave (v := some (.int 1)) (hlocks := hlocks) (fun h => by rw [hr] at h; cases h)
  have hmeth' : T.vm.method? m = some meth := X.method'
  refine ⟨T.setFrames fs, ?_, .returned (some (.int 1)), hrun, hended, rfl, ⟨_, rfl⟩, hW, hframe⟩
  jvm_step X.here [X.here.top, hx, hb, hdg, hmeth', hr, ret, narrow_b1]
  (try refine ⟨rfl, ?_⟩); (try refine ⟨rfl, ?_⟩)
  first | (intro acts; rw [hret _ acts rfl rfl rfl]) | rw [hret _ _ rfl rfl rfl]
  exact Steps.refl _
/-- what holds at the law's entry: the machine, the code, the tables' words (any of lw_tbl by 'hts w (by decide +kernel)'), the script of L ints xs at the cell b, what the Statement gives of the start (any of its parts by flat_of_before) -/
def lw_At (p : Program) (s : State) (m : MethodId) (meth : Method) (c : Code) (b L : Nat) (xs : Nat → Int32) : Prop :=
  p.tables.exec = Jvm.exec ∧ c.code = code ∧ meth.sig.returnType = ret ∧ c.maxLocals = 4 ∧ s.vm.findClass R_law = some m.cls ∧ (∀ w ∈ lw_tbl, w.before #[Value.ref b] s = true) ∧ va_X b L xs s s.heap ∧ b < s.heap.size ∧ meth.locks = false ∧ (Jvm.Cond.and given_1 narrow_1).before #[Value.ref b] s = true
theorem st_small {args : Array Value} {s : State} {t : Term} {v : Value} {a : Nat} {cell : Cell} (hv : (Term.length t).eval args s none [] s = some v) (ht : t.eval args s none [] s = some (.ref a)) (hat : s.arrayAt? a = some cell) : cell.slots.size < 2 ^ 31 := by
  simp only [Term.eval, ht, hat, Option.bind_eq_bind, Option.bind_some] at hv
  by_cases hlt : cell.slots.size < 2147483648
  · exact hlt
  · simp [hlt] at hv
/-- the given static row: four ints -/
theorem st_density {args : Array Value} {s : State} (h : (Jvm.Cond.and given_1 narrow_1).before args s = true) : ∃ fd : Nat, (Term.static "FourWaters" "FIRST_DENSITY" "[I").eval args s none [] s = some (.ref fd) ∧ va_X fd 4 (fun j => ([10, 13, 16, 20] : List Int32).getD j 0) s s.heap := by
  have hs := flat_of_before _ h
  have hlen : (Cond.eq (.length (.static "FourWaters" "FIRST_DENSITY" "[I")) (.int 4)).before args s = true := hs _ (by decide +kernel)
  have harr : (Cond.arrayOf (.static "FourWaters" "FIRST_DENSITY" "[I") .int).before args s = true := hs _ (by decide +kernel)
  have e0 : (Cond.eq (.elem (.static "FourWaters" "FIRST_DENSITY" "[I") (.int 0)) (.int 10)).before args s = true := hs _ (by decide +kernel)
  have e1 : (Cond.eq (.elem (.static "FourWaters" "FIRST_DENSITY" "[I") (.int 1)) (.int 13)).before args s = true := hs _ (by decide +kernel)
  have e2 : (Cond.eq (.elem (.static "FourWaters" "FIRST_DENSITY" "[I") (.int 2)) (.int 16)).before args s = true := hs _ (by decide +kernel)
  have e3 : (Cond.eq (.elem (.static "FourWaters" "FIRST_DENSITY" "[I") (.int 3)) (.int 20)).before args s = true := hs _ (by decide +kernel)
  have hv := va_eqt hlen
  obtain ⟨fd, cell, ht, hat, hz⟩ := Term.length_spec hv
  obtain ⟨hcell, hkn, -, -⟩ := State.arrayAt?_spec hat
  obtain ⟨hof, -⟩ := Cond.arrayOf_spec harr ht hcell
  have hsz0 : cell.slots.size < 2 ^ 31 := st_small hv ht hat
  have hsz : cell.slots.size = 4 := by
    have h1 : cell.slots.size.toInt32 = 4 := (Value.int.inj hz).symm
    have h2 : Int32.ofNat cell.slots.size = Int32.ofNat 4 := h1
    exact (nI_eq hsz0 (by decide)).mp h2
  have key : ∀ (j : Nat) (v : Int32), j < 2 ^ 31 → (Term.elem (.static "FourWaters" "FIRST_DENSITY" "[I") (.int (Int32.ofNat j))).eval args s none [] s = some (.int v) → cell.slots[j]? = some (.int v) := by
    intro j v hj hq
    obtain ⟨a, i, cell2, h1, h2, h3, h4, h5⟩ := Term.elem_spec hq
    cases ht.symm.trans h1
    cases hat.symm.trans h3
    have hi : i = Int32.ofNat j := by
      have e : (Term.int (Int32.ofNat j)).eval args s none [] s = some (.int (Int32.ofNat j)) := rfl
      cases h2.symm.trans e
      rfl
    have hc : i.toNatClampNeg = j := by rw [hi]; exact Int32.toNatClampNeg_ofNat_of_lt hj
    rw [hc] at h5
    exact h5
  refine ⟨fd, ht, cell, hcell, hof, hkn, hsz, fun j hj => ?_⟩
  match j, hj with
  | 0, _ => exact key 0 10 (by decide) (va_eqt e0)
  | 1, _ => exact key 1 13 (by decide) (va_eqt e1)
  | 2, _ => exact key 2 16 (by decide) (va_eqt e2)
  | 3, _ => exact key 3 20 (by decide) (va_eqt e3)
  | j + 4, hj => exact absurd hj (by omega)
theorem st_gt {w : Jvm.Cond} (h : w ∈ ai_gt) : w ∈ lw_tbl := (List.mem_filter.mp h).1
theorem st_known {args : Array Value} {s : State} (hts : ∀ w ∈ lw_tbl, w.before args s = true) : ∃ D : va_G, ∀ (k : Nat) (q : vw_C), vwCl[k]? = some q → u_Kn s q.1 q.2.1 q.2.2 (D.1 k) (D.2 k) := by
  have h1 : ∀ k : Nat, ∃ z : ClassId × (Nat → Nat), ∀ q : vw_C, vwCl[k]? = some q → u_Kn s q.1 q.2.1 q.2.2 z.1 z.2 := by
    intro k
    cases hk : vwCl[k]? with
    | none => exact ⟨(0, fun _ => 0), fun q h => by cases h⟩
    | some t =>
      obtain ⟨x1, -, -, x4, -⟩ := ai_xO k t (by rw [ai_nth_eq]; exact hk)
      obtain ⟨cC, iS, hKn⟩ := u_known (C := t.1) (T := t.2.1) (N := t.2.2) (n := t.2.2) hts (fun w hw => st_gt (x1 w hw)) (hts _ (st_gt x4))
      exact ⟨(cC, iS), fun q h => by cases h; exact hKn⟩
  exact ⟨(fun k => (Classical.choose (h1 k)).1, fun k => (Classical.choose (h1 k)).2), fun k q h => Classical.choose_spec (h1 k) q h⟩
theorem st_arr {args : Array Value} {s : State} {ty : FieldType} (h : (Jvm.Cond.arrayClass ty).before args s = true) : ∃ cA : ClassId, ArrOfT s cA ty ∧ s.vm.findClass ("[" ++ ty.toString) = some cA := by
  obtain ⟨cA, kA, comp, h1, h2, h3⟩ := Cond.arrayClass_spec h
  exact ⟨cA, fun n z => ⟨fun k h => (by cases h), kA, h2, comp, h3⟩, h1⟩
/-- the string constants, by the Statement's premises -/
def st_tm (i : Nat) : Term := .string ai_stO (ai_stN.getD i 0)
theorem st_refs : ∀ i, i < 8 → (Jvm.Cond.stringRef ai_stO (ai_stN.getD i 0) (ai_stx.getD i "")) ∈ lw_tbl := by decide +kernel
theorem st_m1 : ∀ i, i < 8 → (Cond.exactly (st_tm i) "java/lang/String") ∈ flatC (Jvm.Cond.and given_1 narrow_1) := by decide +kernel
theorem st_m2 : ∀ i, i < 8 → (Cond.eq (.field (st_tm i) "java/lang/String" "coder" "B") (.int 0)) ∈ flatC (Jvm.Cond.and given_1 narrow_1) := by decide +kernel
theorem st_m3 : ∀ i, i < 8 → (Cond.arrayOf (.field (st_tm i) "java/lang/String" "value" "[B") .byte) ∈ flatC (Jvm.Cond.and given_1 narrow_1) := by decide +kernel
theorem st_m4 : ∀ i, i < 8 → (Cond.eq (.length (.field (st_tm i) "java/lang/String" "value" "[B")) (.int (Int32.ofNat (ai_stL.getD i 0)))) ∈ flatC (Jvm.Cond.and given_1 narrow_1) := by decide +kernel
theorem st_m5 : ∀ i, i < 8 → ∀ j, j < ai_stL.getD i 0 → (Cond.eq (.elem (.field (st_tm i) "java/lang/String" "value" "[B") (.int (Int32.ofNat j))) (.int ((ai_str.getD i []).getD j 0))) ∈ flatC (Jvm.Cond.and given_1 narrow_1) := by decide +kernel
theorem st_m6 : ∀ i, i < 8 → ∀ j, j < 8 → i ≠ j → (Cond.not (Cond.eq (st_tm i) (st_tm j))) ∈ flatC (Jvm.Cond.and given_1 narrow_1) ∨ (Cond.not (Cond.eq (st_tm j) (st_tm i))) ∈ flatC (Jvm.Cond.and given_1 narrow_1) := by decide +kernel
theorem st_strings {args : Array Value} {s : State} {A : Nat → Prop} (h : (Jvm.Cond.and given_1 narrow_1).before args s = true) (hA : ∀ a : Nat, a < s.heap.size → ¬ A a) : ∃ adK adV : Nat → Nat, vk_S 8 ai_stL ai_str adK adV A s s.heap ∧ ∀ i : Nat, i < 8 → (st_tm i).eval args s none [] s = some (.ref (adK i)) := by
  have hs := flat_of_before _ h
  exact vk_Sof (tm := st_tm) (by decide) (fun i hi => hs _ (st_m1 i hi)) (fun i hi => hs _ (st_m2 i hi)) (fun i hi => hs _ (st_m3 i hi)) (fun i hi => hs _ (st_m4 i hi)) (fun i hi j hj => hs _ (st_m5 i hi j hj)) (fun i j hi hj hn => (st_m6 i hi j hj hn).imp (hs _) (hs _)) hA
set_option maxHeartbeats 4000000 in
set_option maxRecDepth 100000 in
/-- THE LAW, from its entry -/
theorem whole_start {p : Program} {e : Env} {s : State} {m : MethodId} {below : List Frame} {meth : Method} {c : Code} (l : Launch) {b L : Nat} {xs : Nat → Int32} (hL : L ≤ 384) (C0 : lw_At p s m meth c b L xs) : W p l e room_1 s m #[Value.ref b] below meth c s.heap [] 0 0 (lw_Z below #[Value.ref b] s) (entryFrame m ([Value.ref b] : List Value).toArray 4) := by
  obtain ⟨hx, hb, hr, hml, hown, hts, hX, hbl, hlocks, hgv⟩ := id C0
  obtain ⟨D, hD⟩ := st_known hts
  obtain ⟨cI, hI1, hI2⟩ := st_arr (hts _ (st_gt ai_wI))
  obtain ⟨cZ, hZ1, hZ2⟩ := st_arr (hts _ (st_gt ai_wZ))
  obtain ⟨fd, hf1, hf2⟩ := st_density hgv
  have hfl : fd < s.heap.size := by
    obtain ⟨cell, h1, -⟩ := hf2
    exact (Array.getElem?_eq_some_iff.mp h1).1
  let xl : List Int32 := (List.range L).map xs
  have hxl : xl.length = L := by show ((List.range L).map xs).length = L; rw [List.length_map, List.length_range]
  have hxg : ∀ j, j < L → xl.getD j 0 = xs j := by
    intro j hj
    show ((List.range L).map xs).getD j 0 = xs j
    rw [List.getD_eq_getElem?_getD, List.getElem?_map, List.getElem?_range hj]; rfl
  obtain ⟨adK, adV, hS1, hS2⟩ := st_strings (A := fun q => s.heap.size ≤ q) hgv (fun a ha q => by omega)
  let G : ai_G := (s.heap.size, fun k => if k = 0 then fd else if k = 1 then b else adK (k - 2), cI, cZ, D)
  obtain ⟨h', n, hn⟩ := law_pure xl (by rw [hxl]; exact hL)
  have hE : ai_En G [[10, 13, 16, 20], xl] s := by
    refine ⟨⟨hD, fun k q h => ?_⟩, fun w hw => ?_, ?_, fun k o ho => ?_⟩
    · match k, h with
      | 0, h => cases h; exact ⟨hI1, hI2⟩
      | 1, h => cases h; exact ⟨hZ1, hZ2⟩
      | k + 2, h => cases h
    · have h1 := List.all_eq_true.mp ai_nw_all w hw
      obtain ⟨i, -, hi⟩ := List.mem_filterMap.mp hw
      have h2 := hts w (List.mem_of_getElem? hi)
      cases w with
      | methodLinkNest a i x h => exact va_Nw.of rfl h2
      | fieldLinkNest a i b n d h => exact va_Nw.of rfl h2
      | _ => simp [ai_isn] at h1
    · refine ⟨va_Zof (hts (.laysStatic "FourWaters" "FIRST_DENSITY" "[I") (by decide +kernel)) (hts (.initialized "FourWaters") (by decide +kernel)) hf1 (fun a ha => by show ¬ s.heap.size ≤ a; omega), ⟨adV, hS1⟩, fun i hi => vk_R.of (hts _ (st_refs i hi)) (hS2 i hi), ?_, ?_⟩
      · exact va_Zof (hts (.laysStatic "java/lang/String" "COMPACT_STRINGS" "Z") (by decide +kernel)) (hts (.initialized "java/lang/String") (by decide +kernel)) (va_eqt (flat_of_before _ hgv (.eq (.static "java/lang/String" "COMPACT_STRINGS" "Z") (.int 1)) (by decide +kernel))) (fun a ha => by show ¬ s.heap.size ≤ a; omega)
      · exact va_Zqof (hts (.laysStatic "jdk/internal/util/Preconditions" "SIOOBE_FORMATTER" "Ljava/util/function/BiFunction;") (by decide +kernel)) (hts (.initialized "jdk/internal/util/Preconditions") (by decide +kernel)) (flat_of_before _ hgv (.isRef (.static "jdk/internal/util/Preconditions" "SIOOBE_FORMATTER" "Ljava/util/function/BiFunction;")) (by decide +kernel)) (fun a ha => by show ¬ s.heap.size ≤ a; omega)
    · match k, ho with
      | 0, ho => cases ho; exact ⟨hf2, hfl⟩
      | 1, ho =>
        cases ho
        obtain ⟨scr, h1, h2, h3, h4, h5⟩ := hX
        exact ⟨⟨scr, h1, h2, h3, by rw [h4, hxl], fun j hj => by
          rw [hxl] at hj
          rw [h5 j hj]
          show some (Value.int (xs j)) = some (Value.int (xl.getD j 0))
          rw [hxg j hj]⟩, hbl⟩
      | k + 2, ho => simp [ai_nth] at ho
  have C : ai_C p s m #[Value.ref b] meth c mlaw G [[10, 13, 16, 20], xl] := ⟨hx, hb, hr, hml, hown, fun w hw => hts w (st_gt hw), hlocks, fun hq => absurd hq (by decide), hE, Nat.le_refl _, kc_mlaw, rfl⟩
  have hP : ai_P G [] s.heap := ⟨rfl, fun k q h => by simp [ai_ws] at h⟩
  have e0 : ([Value.ref b] : List Value) = [Value.retAddr 1].map (ai_v G) := rfl
  rw [e0, lg_entry_eq]
  refine ai_sound l G [[10, 13, 16, 20], xl] ai_caOK n mlaw 0 [some (.retAddr 1), none, none, none] [] [] 0 0 (some (.int 1)) h' hn C ?_ _ s.heap [] rfl hP va_S.rf (ai_I_entry G [Value.retAddr 1] (n := 4) (by decide))
  intro i pc L1 st h1 cs sl hi hs ls H locs hN hP1 hS hL1
  unfold ai_ret at hs
  split at hs
  · cases hs
  · rename_i hg
    rw [Bool.and_eq_true] at hg
    have g1 : cs = (ai_rm mlaw).cells := Nat.eq_of_beq_eq_true hg.1
    have g2 := Nat.le_of_ble_eq_true hg.2
    split at hs
    · split at hs
      · split at hs
        · cases hs
        · cases hs
      · cases hs
    · have hd := ai_decN kc_mlaw hi rfl
      split at hs
      · rename_i v
        have hv : v = 1 := by
          split at hs
          · cases hs; rfl
          · split at hs
            · cases hs; rfl
            · cases hs
          · cases hs
        subst hv
        refine va_forget (fun q hq => hS.2.2 q hq) ?_
        refine W.widen (k := 98) (n := 1755) (by rw [g1]; exact Nat.le_refl _) g2 ?_
        exact lw_ret hx hb hr hlocks hd
      · cases hs
    · split at hs
      · split at hs
        · cases hs
        · cases hs
      · cases hs
    · split at hs
      · split at hs
        · cases hs
        · cases hs
      · split at hs
        · cases hs
        · cases hs
      · cases hs
    · cases hs
