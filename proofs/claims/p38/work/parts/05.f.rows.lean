/-! rows of ints, made, read, written -/
theorem ai_wI : Jvm.Cond.arrayClass .int ∈ ai_gt := List.mem_filter.mpr ⟨by decide +kernel, rfl⟩
theorem ai_wZ : Jvm.Cond.arrayClass .boolean ∈ ai_gt := List.mem_filter.mpr ⟨by decide +kernel, rfl⟩
section AIS
variable {p : Program} {l : Launch} {e : Env} {s : State} {m : MethodId} {args : Array Value} {below : List Frame} {meth : Method} {c : Code} {Q : State → Prop} {M : ai_M} {G : ai_G} {X : List (List Int32)} {H : Heap} {locs : List Loc} {ls : Array Slot} {pc pc' : Nat} {L L' : ai_L} {st st' r : List Value} {h h' : ai_H} {cs sl cs' sl' : Nat}

theorem ai_R_newa (C : ai_C p s m args meth c M G X) {t : ArrayType} {z : Bool} (hz : (t = .int ∧ z = false) ∨ (t = .boolean ∧ z = true)) {n : Int32} (hd : decode (ai_cc M) pc = .ok (.newarray t, 2)) (hn : ¬ n < 0) (hc : (Nat.blt cs (ai_rm M).cells && Nat.ble (sl + n.toNatClampNeg) (ai_rm M).slots && Nat.ble n.toNatClampNeg 65536) = true) (hP : ai_P G h H) (hS : va_S (fun q => G.1 ≤ q) s.heap H locs)
    (kk : ∀ (H : Heap), ai_P G (h ++ [.inl (z, List.replicate n.toNatClampNeg 0)]) H → va_S (fun q => G.1 ≤ q) s.heap H locs → W p l e (ai_rm M) s m args below meth c H locs (cs + 1) (sl + n.toNatClampNeg) Q (F0 m (pc + 2) ls ((.ref h.length :: r).map (ai_v G)))) : W p l e (ai_rm M) s m args below meth c H locs cs sl Q (F0 m pc ls ((.int n :: r).map (ai_v G))) := by
  obtain ⟨hx, hb, hr, hml, hown, hts, hlk, hini, ⟨hK, hnw, hZ, hXs⟩, hbs, hok, hcn⟩ := C
  rw [Bool.and_eq_true, Bool.and_eq_true] at hc
  have c1 : cs + 1 ≤ (ai_rm M).cells := Nat.le_of_ble_eq_true hc.1.1
  have c2 : sl + n.toNatClampNeg ≤ (ai_rm M).slots := Nat.le_of_ble_eq_true hc.1.2
  have c3 : n.toNatClampNeg ≤ 65536 := Nat.le_of_ble_eq_true hc.2
  have harr : (Cond.arrayClass (newarray.typeOf t)).before args s = true := by
    rcases hz with ⟨rfl, rfl⟩ | ⟨rfl, rfl⟩
    · exact hts _ ai_wI
    · exact hts _ ai_wZ
  have hby : n.toNatClampNeg * componentBytes (newarray.typeOf t) ≤ 536870912 := by
    rcases hz with ⟨rfl, rfl⟩ | ⟨rfl, rfl⟩
    · show n.toNatClampNeg * 4 ≤ _
      omega
    · show n.toNatClampNeg * 1 ≤ _
      omega
  refine va_newaK hx hb harr rfl hd (N := n.toNatClampNeg) rfl hn rfl hby c1 c2 rfl fun H1 cA e1 z1 o1 hAr hNm => ?_
  have hcA : cA = ai_ca G z := by
    rcases hz with ⟨rfl, rfl⟩ | ⟨rfl, rfl⟩
    · have h2 := (hK.2 0 (G.2.2.1, .int) rfl).2
      exact Option.some.inj (hNm.symm.trans h2)
    · have h2 := (hK.2 1 (G.2.2.2.1, .boolean) rfl).2
      exact Option.some.inj (hNm.symm.trans h2)
  have hk : ∀ (k : Nat) (x : Nat × va_E), (ai_ws G G.1 h)[k]? = some x → H1[x.1]? = H[x.1]? := fun k x hx => o1 x.1 ((hP.2 k x hx).lt)
  have hsz : H.size = G.1 + h.length := hP.1
  have hP1 : va_P (ai_D G) vwCl (ai_ws G G.1 (h ++ [.inl (z, List.replicate n.toNatClampNeg 0)])) H1 := by
    rw [ai_ws_app]
    refine (hP.2.kept hk).app (fun k x hx => ?_)
    have hz1 : k < 1 := (List.getElem?_eq_some_iff.mp hx).1
    rw [show k = 0 by omega] at hx
    cases hx
    show H1[G.1 + h.length]? = some (vp_cell (ai_ca G z) ((List.replicate n.toNatClampNeg (0 : Int32)).length, .inl (fun j => (List.replicate n.toNatClampNeg (0 : Int32)).getD j 0)))
    rw [← hsz, e1, hcA, vp_cell_i, List.length_replicate]
    have hf : (fun j => Value.int ((List.replicate n.toNatClampNeg (0 : Int32)).getD j 0)) = fun _ => defaultValue (newarray.typeOf t) := by
      funext j
      have : (List.replicate n.toNatClampNeg (0 : Int32)).getD j 0 = 0 := by
        rw [List.getD_eq_getElem?_getD, List.getElem?_replicate]
        split <;> rfl
      rw [this]
      rcases hz with ⟨rfl, rfl⟩ | ⟨rfl, rfl⟩ <;> rfl
    rw [hf]
  have e2 : ({ F0 m pc ls ((.int n :: r).map (ai_v G)) with pc := (F0 m pc ls ((.int n :: r).map (ai_v G))).pc + 2, stack := .ref H.size :: r.map (ai_v G) } : JFrame) = F0 m (pc + 2) ls ((.ref h.length :: r).map (ai_v G)) := by
    rw [hsz]; rfl
  rw [e2]
  exact kk H1 ⟨by rw [z1, hsz, List.length_append]; rfl, hP1⟩ ⟨by have := hS.1; omega, fun x h1 h2 => (o1 x (Nat.lt_of_lt_of_le h1 hS.1)).trans (hS.2.1 x h1 h2), hS.2.2⟩
theorem ai_R_iald (C : ai_C p s m args meth c M G X) {a : Nat} {o : List Int32} {j x : Int32} (hd : decode (ai_cc M) pc = .ok (.iaload, 1)) (ho : ai_nth h a = some (.inl (false, o))) (hj : ai_ix o j = some x) (hP : ai_P G h H)
    (kk : W p l e (ai_rm M) s m args below meth c H locs cs sl Q (F0 m (pc + 1) ls ((.int x :: r).map (ai_v G)))) : W p l e (ai_rm M) s m args below meth c H locs cs sl Q (F0 m pc ls ((.int j :: .ref a :: r).map (ai_v G))) := by
  obtain ⟨hx, hb, hr, hml, hown, hts, hlk, hini, ⟨hK, hnw, hZ, hXs⟩, hbs, hok, hcn⟩ := C
  obtain ⟨h1, h2⟩ := ai_ixin hj
  subst h2
  exact va_iald hx hb hK hP.2 a 0 (ai_ws_at G.1 ho) rfl h1 hd kk
theorem ai_R_zald (C : ai_C p s m args meth c M G X) {a : Nat} {o : List Int32} {j x : Int32} (hd : decode (ai_cc M) pc = .ok (.baload, 1)) (ho : ai_nth h a = some (.inl (true, o))) (hj : ai_ix o j = some x) (hP : ai_P G h H)
    (kk : W p l e (ai_rm M) s m args below meth c H locs cs sl Q (F0 m (pc + 1) ls ((.int x :: r).map (ai_v G)))) : W p l e (ai_rm M) s m args below meth c H locs cs sl Q (F0 m pc ls ((.int j :: .ref a :: r).map (ai_v G))) := by
  obtain ⟨hx, hb, hr, hml, hown, hts, hlk, hini, ⟨hK, hnw, hZ, hXs⟩, hbs, hok, hcn⟩ := C
  obtain ⟨h1, h2⟩ := ai_ixin hj
  subst h2
  exact va_zald hx hb hK hP.2 a 1 (ai_ws_at G.1 ho) rfl h1 hd kk
theorem ai_R_xald (C : ai_C p s m args meth c M G X) {a : Nat} {o : List Int32} {j x : Int32} (hd : decode (ai_cc M) pc = .ok (.iaload, 1)) (ho : ai_nth X a = some o) (hj : ai_ix o j = some x) (hS : va_S (fun q => G.1 ≤ q) s.heap H locs)
    (kk : W p l e (ai_rm M) s m args below meth c H locs cs sl Q (F0 m (pc + 1) ls ((.int x :: r).map (ai_v G)))) : W p l e (ai_rm M) s m args below meth c H locs cs sl Q (F0 m pc ls ((.int j :: .retAddr a :: r).map (ai_v G))) := by
  obtain ⟨hx, hb, hr, hml, hown, hts, hlk, hini, ⟨hK, hnw, hZ, hXs⟩, hbs, hok, hcn⟩ := C
  obtain ⟨h1, h2⟩ := ai_ixin hj
  obtain ⟨x1, x2⟩ := hXs a o ho
  subst h2
  exact va_sld hx hb x1 (by omega) (by show ¬ G.1 ≤ G.2.1 a; omega) hS h1 hd kk
theorem ai_R_alen (C : ai_C p s m args meth c M G X) {a : Nat} {o : Bool × List Int32} (hd : decode (ai_cc M) pc = .ok (.arraylength, 1)) (ho : ai_nth h a = some (.inl o)) (hP : ai_P G h H)
    (kk : W p l e (ai_rm M) s m args below meth c H locs cs sl Q (F0 m (pc + 1) ls ((.int (Int32.ofNat o.2.length) :: r).map (ai_v G)))) : W p l e (ai_rm M) s m args below meth c H locs cs sl Q (F0 m pc ls ((.ref a :: r).map (ai_v G))) := by
  obtain ⟨hx, hb, hr, hml, hown, hts, hlk, hini, ⟨hK, hnw, hZ, hXs⟩, hbs, hok, hcn⟩ := C
  obtain ⟨z, o⟩ := o
  cases z with
  | false => exact va_alen (ty := .int) hx hb hK hP.2 a 0 (ai_ws_at G.1 ho) rfl rfl hd kk
  | true => exact va_alen (ty := .boolean) hx hb hK hP.2 a 1 (ai_ws_at G.1 ho) rfl rfl hd kk
theorem ai_R_xlen (C : ai_C p s m args meth c M G X) {a : Nat} {o : List Int32} (hd : decode (ai_cc M) pc = .ok (.arraylength, 1)) (ho : ai_nth X a = some o) (hS : va_S (fun q => G.1 ≤ q) s.heap H locs)
    (kk : W p l e (ai_rm M) s m args below meth c H locs cs sl Q (F0 m (pc + 1) ls ((.int (Int32.ofNat o.length) :: r).map (ai_v G)))) : W p l e (ai_rm M) s m args below meth c H locs cs sl Q (F0 m pc ls ((.retAddr a :: r).map (ai_v G))) := by
  obtain ⟨hx, hb, hr, hml, hown, hts, hlk, hini, ⟨hK, hnw, hZ, hXs⟩, hbs, hok, hcn⟩ := C
  obtain ⟨x1, x2⟩ := hXs a o ho
  exact va_slen hx hb x1 (by omega) (by show ¬ G.1 ≤ G.2.1 a; omega) hS hd kk
theorem ai_R_iast (C : ai_C p s m args meth c M G X) {a : Nat} {o o2 : List Int32} {j x : Int32} (hd : decode (ai_cc M) pc = .ok (.iastore, 1)) (ho : ai_nth h a = some (.inl (false, o))) (hj : ai_up o j x = some o2) (hN : s.heap.size + cs = G.1 + h.length) (hP : ai_P G h H) (hS : va_S (fun q => G.1 ≤ q) s.heap H locs)
    (kk : ∀ (H : Heap) (locs : List Loc), ai_P G (h.set a (.inl (false, o2))) H → va_S (fun q => G.1 ≤ q) s.heap H locs → W p l e (ai_rm M) s m args below meth c H locs cs sl Q (F0 m (pc + 1) ls (r.map (ai_v G)))) : W p l e (ai_rm M) s m args below meth c H locs cs sl Q (F0 m pc ls ((.int x :: .int j :: .ref a :: r).map (ai_v G))) := by
  obtain ⟨hx, hb, hr, hml, hown, hts, hlk, hini, ⟨hK, hnw, hZ, hXs⟩, hbs, hok, hcn⟩ := C
  obtain ⟨h1, h2, h3, h4⟩ := ai_upin hj
  refine va_iast hx hb hK hP.2 (ai_ws_D G h) hS a 0 (ai_ws_at G.1 ho) rfl h1 hd (fun H1 locs1 hP1 _ hS1 => ?_)
  have e1 : (ai_ws G G.1 h).set a (G.1 + a, .inl (ai_ca G false, o.length, .inl (upd (fun k => o.getD k 0) j.toNatClampNeg x))) = ai_ws G G.1 (h.set a (.inl (false, o2))) := by
    rw [h4, ← h3]
    exact ai_ws_set G (.inl (false, o2)) h G.1 a
  have hP2 := e1 ▸ hP1
  exact ai_sz hbs (by rw [List.length_set]; exact hN) hP2 hS1 (fun hP2 => kk H1 locs1 hP2 hS1)
theorem ai_R_zast (C : ai_C p s m args meth c M G X) {a : Nat} {o o2 : List Int32} {j x : Int32} (hd : decode (ai_cc M) pc = .ok (.bastore, 1)) (ho : ai_nth h a = some (.inl (true, o))) (hj : ai_up o j (vp_nar .boolean x) = some o2) (hN : s.heap.size + cs = G.1 + h.length) (hP : ai_P G h H) (hS : va_S (fun q => G.1 ≤ q) s.heap H locs)
    (kk : ∀ (H : Heap) (locs : List Loc), ai_P G (h.set a (.inl (true, o2))) H → va_S (fun q => G.1 ≤ q) s.heap H locs → W p l e (ai_rm M) s m args below meth c H locs cs sl Q (F0 m (pc + 1) ls (r.map (ai_v G)))) : W p l e (ai_rm M) s m args below meth c H locs cs sl Q (F0 m pc ls ((.int x :: .int j :: .ref a :: r).map (ai_v G))) := by
  obtain ⟨hx, hb, hr, hml, hown, hts, hlk, hini, ⟨hK, hnw, hZ, hXs⟩, hbs, hok, hcn⟩ := C
  obtain ⟨h1, h2, h3, h4⟩ := ai_upin hj
  refine va_zast hx hb hK hP.2 (ai_ws_D G h) hS a 1 (ai_ws_at G.1 ho) rfl h1 hd (fun H1 locs1 hP1 _ hS1 => ?_)
  have e1 : (ai_ws G G.1 h).set a (G.1 + a, .inl (ai_ca G true, o.length, .inl (upd (fun k => o.getD k 0) j.toNatClampNeg (vp_nar .boolean x)))) = ai_ws G G.1 (h.set a (.inl (true, o2))) := by
    rw [h4, ← h3]
    exact ai_ws_set G (.inl (true, o2)) h G.1 a
  have hP2 := e1 ▸ hP1
  exact ai_sz hbs (by rw [List.length_set]; exact hN) hP2 hS1 (fun hP2 => kk H1 locs1 hP2 hS1)
theorem ai_nwF : Jvm.Cond.fieldLinkNest "FourWaters$Sea" 80 "FourWaters" "FIRST_DENSITY" "[I" "FourWaters" ∈ ai_nw := by decide +kernel
theorem ai_R_gets (C : ai_C p s m args meth c M G X) {k : Nat} (hd : decode (ai_cc M) pc = .ok (.getstatic k, 3)) (hk : (Nat.beq k 80 && Nat.beq (ai_cl M) 2) = true) (hS : va_S (fun q => G.1 ≤ q) s.heap H locs)
    (kk : W p l e (ai_rm M) s m args below meth c H locs cs sl Q (F0 m (pc + 3) ls ((.retAddr 0 :: r).map (ai_v G)))) : W p l e (ai_rm M) s m args below meth c H locs cs sl Q (F0 m pc ls (r.map (ai_v G))) := by
  obtain ⟨hx, hb, hr, hml, hown, hts, hlk, hini, ⟨hK, hnw, hZ, hXs⟩, hbs, hok, hcn⟩ := C
  rw [Bool.and_eq_true] at hk
  have e1 : k = 80 := Nat.eq_of_beq_eq_true hk.1
  have e2 : ai_cl M = 2 := Nat.eq_of_beq_eq_true hk.2
  subst e1
  rw [e2] at hcn
  have hown2 : s.vm.findClass "FourWaters$Sea" = some m.cls := by rw [← hown, ← hcn]; rfl
  exact va_getsN hx hb hZ.1 hS hown2 (va_Nw.use rfl (hnw _ ai_nwF)) (fun x hx => hx) hd kk
end AIS
