/-! one instruction of the interpreter is one of the machine's -/
def ai_K (p : Program) (l : Launch) (e : Env) (s : State) (m : MethodId) (args : Array Value) (below : List Frame) (meth : Method) (c : Code) (Q : State → Prop) (M : ai_M) (G : ai_G) (pc : Nat) (L : ai_L) (st : List Value) (h : ai_H) (cs sl : Nat) : Prop :=
  ∀ (ls : Array Slot) (H : Heap) (locs : List Loc), s.heap.size + cs = G.1 + h.length → ai_P G h H → va_S (fun q => G.1 ≤ q) s.heap H locs → ai_I G (ai_mL M) L ls → W p l e (ai_rm M) s m args below meth c H locs cs sl Q (F0 m pc ls (st.map (ai_v G)))
section AIS
variable {p : Program} {l : Launch} {e : Env} {s : State} {m : MethodId} {args : Array Value} {below : List Frame} {meth : Method} {c : Code} {Q : State → Prop} {M : ai_M} {G : ai_G} {X : List (List Int32)} {H : Heap} {locs : List Loc} {ls : Array Slot} {pc pc' : Nat} {L L' : ai_L} {st st' r : List Value} {h h' : ai_H} {cs sl cs' sl' : Nat}

theorem ai_sz {g : JFrame} (hb : G.1 ≤ s.heap.size) (hN : s.heap.size + cs = G.1 + h.length) (hP : va_P (ai_D G) vwCl (ai_ws G G.1 h) H) (hS : va_S (fun q => G.1 ≤ q) s.heap H locs) (kk : ai_P G h H → W p l e (ai_rm M) s m args below meth c H locs cs sl Q g) : W p l e (ai_rm M) s m args below meth c H locs cs sl Q g := by
  intro T hT Y
  have up : H.size ≤ s.heap.size + cs := by rw [← hT]; exact Y.same.2.2.1
  have lo : G.1 + h.length ≤ H.size := by
    cases hl : h.length with
    | zero => have := hS.1; omega
    | succ n =>
      have hx : ai_nth h n = some h[n] := by rw [ai_nth_eq]; exact List.getElem?_eq_getElem (by omega)
      have := (hP n _ (ai_ws_at G.1 hx)).lt
      show G.1 + (n + 1) ≤ H.size
      have h2 : G.1 + n < H.size := this
      omega
  exact kk ⟨by omega, hP⟩ T hT Y
theorem ai_fvn {ty : FieldType} {k : Nat} {v : Value} (h1 : ai_tk2 (some ty) k = true) (h2 : ai_fv k v = true) : narrow ty (ai_v G v) = ai_v G v ∧ fits ty (ai_v G v) = true := by
  cases ty <;> simp only [ai_tk2] at h1 <;> (try cases h1) <;> have hk := Nat.eq_of_beq_eq_true h1 <;> subst hk <;> cases v <;> simp only [ai_fv] at h2 <;> (try cases h2)
  all_goals first | exact ⟨rfl, rfl⟩ | (rcases h2 with rfl | rfl <;> exact ⟨rfl, rfl⟩) | (simp at h2; rcases h2 with rfl | rfl <;> exact ⟨rfl, rfl⟩) | (simp at h2)
theorem ai_setm (G : ai_G) (fs : List Value) (j : Nat) (v : Value) : (fs.map (ai_v G)).set j (ai_v G v) = (fs.set j v).map (ai_v G) := by rw [List.map_set]
theorem ai_ixin {o : List Int32} {j x : Int32} (h : ai_ix o j = some x) : vp_in j o.length ∧ o.getD j.toNatClampNeg 0 = x := by
  unfold ai_ix at h
  split at h
  · cases h
  · rename_i hn
    rw [ai_nth_eq] at h
    have hl : j.toNatClampNeg < o.length := (List.getElem?_eq_some_iff.mp h).1
    refine ⟨fun q => ?_, ?_⟩
    · rcases q with q | q
      · exact hn q
      · omega
    · rw [List.getD_eq_getElem?_getD, h]; rfl
theorem ai_upin {o o2 : List Int32} {j x : Int32} (h : ai_up o j x = some o2) : vp_in j o.length ∧ o2 = o.set j.toNatClampNeg x ∧ o2.length = o.length ∧ upd (fun k => o.getD k 0) j.toNatClampNeg x = fun k => o2.getD k 0 := by
  unfold ai_up at h
  split at h
  · cases h
  · rename_i hn
    split at h
    · rename_i hb
      have hl : j.toNatClampNeg < o.length := Nat.le_of_ble_eq_true hb
      have e : o2 = o.set j.toNatClampNeg x := (Option.some.inj h).symm
      refine ⟨fun q => ?_, e, by rw [e, List.length_set], ?_⟩
      · rcases q with q | q
        · exact hn q
        · omega
      · funext k
        rw [e]
        unfold upd
        by_cases hk : k = j.toNatClampNeg
        · rw [if_pos hk, hk, List.getD_eq_getElem?_getD, List.getElem?_set]
          simp [hl]
        · rw [if_neg hk]
          show o.getD k 0 = _
          rw [List.getD_eq_getElem?_getD, List.getD_eq_getElem?_getD, List.getElem?_set_ne (fun q => hk q.symm)]
    · cases h
theorem ai_R_get (C : ai_C p s m args meth c M G X) {k a : Nat} {q : Nat × Nat × Bool × Nat × Nat} {o : Nat × List Value} {v : Value} (hd : decode (ai_cc M) pc = .ok (.getfield k, 3)) (hq : ai_by (ai_flT (ai_cl M)) k = some q) (ho : ai_nth h a = some (.inr o)) (hc : Nat.beq o.1 q.1 = true) (hv : ai_nth o.2 q.2.1 = some v) (hP : ai_P G h H)
    (kk : W p l e (ai_rm M) s m args below meth c H locs cs sl Q (F0 m (pc + 3) ls ((v :: r).map (ai_v G)))) : W p l e (ai_rm M) s m args below meth c H locs cs sl Q (F0 m pc ls ((.ref a :: r).map (ai_v G))) := by
  obtain ⟨hx, hb, hr, hml, hown, hts, hlk, hini, ⟨hK, hnw, hZ, hXs⟩, hbs, hok, hcn⟩ := C
  have hf := List.all_eq_true.mp (ai_flO (ai_cl M)) _ (ai_by_mem hq)
  unfold ai_okF at hf
  split at hf
  · rename_i t ht
    simp only [Bool.and_eq_true, decide_eq_true_eq] at hf
    obtain ⟨⟨⟨⟨f1, f2⟩, f3⟩, f4⟩, f5⟩ := hf
    obtain ⟨x1, ⟨ty, x2, x2'⟩, x3, x4, x5, x6, x7, x8⟩ := ai_xO _ _ ht
    have hci : o.1 = q.1 := Nat.eq_of_beq_eq_true hc
    have hcl : vwCl[o.1]? = some t := by rw [← ai_nth_eq, hci]; exact ht
    have hlt : q.2.1 < t.2.2 := Nat.le_of_ble_eq_true f1
    refine va_get (D := ai_D G) (ci := o.1) (v := ai_v G v) (C := t.1) (T := t.2.1) (N := t.2.2) (own := ai_own M) (ref := t.1) (fs := o.2.map (ai_v G)) hx hb hts x1 hown hK hP.2 a (ai_ws_at G.1 ho) hcl q.2.1 hlt (hts _ (ai_gt_at (by rw [← hcn]; exact f2) rfl)) (fun x hx => by rw [f3] at hx; exact hx) ?_ hd kk
    rw [List.getElem?_map, ← ai_nth_eq, hv]; rfl
  · cases hf
theorem ai_R_put (C : ai_C p s m args meth c M G X) {k a : Nat} {q : Nat × Nat × Bool × Nat × Nat} {o : Nat × List Value} {v : Value} (hd : decode (ai_cc M) pc = .ok (.putfield k, 3)) (hq : ai_by (ai_flT (ai_cl M)) k = some q) (ho : ai_nth h a = some (.inr o)) (hc : (Nat.beq o.1 q.1 && ai_fv q.2.2.2.1 v && Nat.blt q.2.1 o.2.length && (!q.2.2.1 || (Nat.beq (ai_cl M) q.1 && decide ((ai_y M).name = "<init>")))) = true) (hN : s.heap.size + cs = G.1 + h.length) (hP : ai_P G h H) (hS : va_S (fun q => G.1 ≤ q) s.heap H locs)
    (kk : ∀ (H : Heap) (locs : List Loc), ai_P G (h.set a (.inr (o.1, o.2.set q.2.1 v))) H → va_S (fun q => G.1 ≤ q) s.heap H locs → W p l e (ai_rm M) s m args below meth c H locs cs sl Q (F0 m (pc + 3) ls (r.map (ai_v G)))) : W p l e (ai_rm M) s m args below meth c H locs cs sl Q (F0 m pc ls ((v :: .ref a :: r).map (ai_v G))) := by
  obtain ⟨hx, hb, hr, hml, hown, hts, hlk, hini, ⟨hK, hnw, hZ, hXs⟩, hbs, hok, hcn⟩ := C
  have hf := List.all_eq_true.mp (ai_flO (ai_cl M)) _ (ai_by_mem hq)
  unfold ai_okF at hf
  split at hf
  · rename_i t ht
    simp only [Bool.and_eq_true, decide_eq_true_eq] at hf
    obtain ⟨⟨⟨⟨f1, f2⟩, f3⟩, f4⟩, f5⟩ := hf
    obtain ⟨x1, ⟨ty, x2, x2'⟩, x3, x4, x5, x6, x7, x8⟩ := ai_xO _ _ ht
    rw [Bool.and_eq_true, Bool.and_eq_true, Bool.and_eq_true] at hc
    obtain ⟨⟨⟨hc1, hc2⟩, hc3⟩, hc4⟩ := hc
    have hci : o.1 = q.1 := Nat.eq_of_beq_eq_true hc1
    have hcl : vwCl[o.1]? = some t := by rw [← ai_nth_eq, hci]; exact ht
    have hlt : q.2.1 < t.2.2 := Nat.le_of_ble_eq_true f1
    have hlen : q.2.1 < (o.2.map (ai_v G)).length := by rw [List.length_map]; exact Nat.le_of_ble_eq_true hc3
    have hpd := x2 _ hlt
    have f5' : ai_tk2 (some (ty q.2.1)) q.2.2.2.1 = true := by rw [← hpd]; exact f5
    obtain ⟨n1, n2⟩ := ai_fvn (G := G) f5' hc2
    have fin : ∀ (H1 : Heap) (locs1 : List Loc), va_P (ai_D G) vwCl ((ai_ws G G.1 h).set a (G.1 + a, .inr (o.1, (o.2.map (ai_v G)).set q.2.1 (ai_v G v)))) H1 → va_D (fun q => G.1 ≤ q) ((ai_ws G G.1 h).set a (G.1 + a, .inr (o.1, (o.2.map (ai_v G)).set q.2.1 (ai_v G v)))) → va_S (fun q => G.1 ≤ q) s.heap H1 locs1 → W p l e (ai_rm M) s m args below meth c H1 locs1 cs sl Q (F0 m (pc + 3) ls (r.map (ai_v G))) := by
      intro H1 locs1 hP1 _ hS1
      have e1 : (ai_ws G G.1 h).set a (G.1 + a, .inr (o.1, (o.2.map (ai_v G)).set q.2.1 (ai_v G v))) = ai_ws G G.1 (h.set a (.inr (o.1, o.2.set q.2.1 v))) := by
        rw [ai_setm]
        exact ai_ws_set G (.inr (o.1, o.2.set q.2.1 v)) h G.1 a
      rw [e1] at hP1
      exact ai_sz hbs (by rw [List.length_set]; exact hN) hP1 hS1 (fun hP2 => kk H1 locs1 hP2 hS1)
    cases hfin : q.2.2.1 with
    | false =>
      exact va_put (D := ai_D G) (ci := o.1) (v := ai_v G v) (C := t.1) (T := t.2.1) (N := t.2.2) (own := ai_own M) (ref := t.1) (fs := o.2.map (ai_v G)) hx hb hts x1 ty x2 x3 hown hK hP.2 (ai_ws_D G h) hS a (ai_ws_at G.1 ho) hcl q.2.1 hlt (hts _ (ai_gt_at (by rw [← hcn]; exact f2) rfl)) (fun x hx => by rw [f3] at hx; exact hx) (by rw [f4]; exact hfin) hpd n1 n2 hlen hd fin
    | true =>
      rw [hfin] at hc4
      simp only [Bool.not_true, Bool.false_or, Bool.and_eq_true, decide_eq_true_eq] at hc4
      have hcm : ai_cl M = q.1 := Nat.eq_of_beq_eq_true hc4.1
      exact va_putF (D := ai_D G) (ci := o.1) (v := ai_v G v) (C := t.1) (T := t.2.1) (N := t.2.2) (own := ai_own M) (ref := t.1) (fs := o.2.map (ai_v G)) hx hb hts x1 ty x2 x3 hown hK hP.2 (ai_ws_D G h) hS a (ai_ws_at G.1 ho) hcl q.2.1 hlt (hts _ (ai_gt_at (by rw [← hcn]; exact f2) rfl)) (fun x hx => by rw [f3] at hx; exact hx) (by rw [f4]; exact hfin) (hini hc4.2) (by rw [f3, ← hcn, hcm]; exact x6.symm) hpd n1 n2 hlen hd fin
  · cases hf
theorem ai_R_new (C : ai_C p s m args meth c M G X) {k : Nat} {q : Nat × Nat} (hd : decode (ai_cc M) pc = .ok (.new k, 3)) (hq : ai_by (ai_neT (ai_cl M)) k = some q) (hc : (Nat.blt cs (ai_rm M).cells && Nat.ble (sl + ai_dfN q.1) (ai_rm M).slots) = true) (hP : ai_P G h H) (hS : va_S (fun q => G.1 ≤ q) s.heap H locs)
    (kk : ∀ (H : Heap), ai_P G (h ++ [.inr (q.1, ai_df q.1)]) H → va_S (fun q => G.1 ≤ q) s.heap H locs → W p l e (ai_rm M) s m args below meth c H locs (cs + 1) (sl + ai_dfN q.1) Q (F0 m (pc + 3) ls ((.ref h.length :: r).map (ai_v G)))) : W p l e (ai_rm M) s m args below meth c H locs cs sl Q (F0 m pc ls (r.map (ai_v G))) := by
  obtain ⟨hx, hb, hr, hml, hown, hts, hlk, hini, ⟨hK, hnw, hZ, hXs⟩, hbs, hok, hcn⟩ := C
  have hf := List.all_eq_true.mp (ai_neO (ai_cl M)) _ (ai_by_mem hq)
  unfold ai_okE at hf
  split at hf
  · rename_i t ht
    rw [decide_eq_true_eq] at hf
    obtain ⟨x1, ⟨ty, x2, x2'⟩, x3, x4, x5, x6, x7, x8⟩ := ai_xO _ _ ht
    rw [Bool.and_eq_true] at hc
    have hcl : vwCl[q.1]? = some t := by rw [← ai_nth_eq]; exact ht
    have hKn := hK.1 q.1 t hcl
    have c1 : cs + 1 ≤ (ai_rm M).cells := Nat.le_of_ble_eq_true hc.1
    have c2 : sl + t.2.2 ≤ (ai_rm M).slots := by rw [← x8]; exact Nat.le_of_ble_eq_true hc.2
    rw [x8] at kk
    refine W.newcK (C := t.1) (n := t.2.2) hx hb hown (hts _ (ai_gt_at (by rw [← hcn]; exact hf) rfl)) (hts _ x4) (hts _ x5) rfl hd c1 c2 hKn.2.1 rfl fun H1 kC hkC e1 z1 o1 => ?_
    have hk : ∀ (k : Nat) (x : Nat × va_E), (ai_ws G G.1 h)[k]? = some x → H1[x.1]? = H[x.1]? := fun k x hx => o1 x.1 ((hP.2 k x hx).lt)
    have hsz : H.size = G.1 + h.length := hP.1
    have hP1 : va_P (ai_D G) vwCl (ai_ws G G.1 (h ++ [.inr (q.1, ai_df q.1)])) H1 := by
      rw [ai_ws_app]
      refine (hP.2.kept hk).app (fun k x hx => ?_)
      have hz : k < 1 := (List.getElem?_eq_some_iff.mp hx).1
      rw [show k = 0 by omega] at hx
      cases hx
      refine ⟨t, hcl, (u_born ty hts x1 hKn hkC (by rw [hsz] at e1; exact e1) x2).to (fun j hj => ?_)⟩
      rw [x2' j hj]
      unfold vp_V
      have hdf : ∀ v ∈ ai_df q.1, ai_v G v = v := by
        have : ∀ ci : Nat, ∀ v ∈ ai_df ci, ai_v G v = v := by
          intro ci
          unfold ai_df
          split <;> intro v hv <;> simp only [List.mem_cons, List.not_mem_nil, or_false] at hv <;> (try (rcases hv with hv | hv | hv | hv | hv | hv | hv | hv | hv | hv | hv | hv | hv | hv | hv | hv | hv | hv | hv | hv | hv | hv | hv | hv | hv | hv | hv | hv <;> subst hv <;> rfl)) <;> (try (rcases hv with hv | hv | hv | hv | hv | hv | hv | hv | hv | hv | hv | hv | hv | hv | hv | hv | hv <;> subst hv <;> rfl)) <;> (try (rcases hv with hv | hv | hv | hv | hv | hv | hv | hv | hv | hv | hv | hv | hv | hv | hv <;> subst hv <;> rfl)) <;> (try (rcases hv with hv | hv | hv | hv | hv | hv | hv | hv <;> subst hv <;> rfl)) <;> (try (rcases hv with hv | hv | hv | hv | hv | hv <;> subst hv <;> rfl)) <;> (try (rcases hv with hv | hv | hv | hv | hv <;> subst hv <;> rfl)) <;> (try (rcases hv with hv | hv | hv | hv <;> subst hv <;> rfl)) <;> (try (rcases hv with hv | hv <;> subst hv <;> rfl)) <;> (try (subst hv; rfl))
        exact this q.1
      rw [List.map_congr_left hdf, List.map_id']
    have e2 : ({ F0 m pc ls (r.map (ai_v G)) with pc := (F0 m pc ls (r.map (ai_v G))).pc + 3, stack := .ref H.size :: (F0 m pc ls (r.map (ai_v G))).stack } : JFrame) = F0 m (pc + 3) ls ((.ref h.length :: r).map (ai_v G)) := by
      rw [hsz]; rfl
    rw [e2]
    exact kk H1 ⟨by rw [z1, hsz, List.length_append]; rfl, hP1⟩ ⟨by have := hS.1; omega, fun x h1 h2 => (o1 x (Nat.lt_of_lt_of_le h1 hS.1)).trans (hS.2.1 x h1 h2), hS.2.2⟩
  · cases hf
end AIS
