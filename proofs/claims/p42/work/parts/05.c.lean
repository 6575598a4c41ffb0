/-! the pools' tables are what the words say -/
/-! a quicker lookup: the table cut at every 128th row -/
def lk_1 : List Jvm.Cond := lw_tbl.drop 128
def lk_2 : List Jvm.Cond := lk_1.drop 128
def lk_3 : List Jvm.Cond := lk_2.drop 128
def lk_4 : List Jvm.Cond := lk_3.drop 128
def lk_5 : List Jvm.Cond := lk_4.drop 128
def lk_6 : List Jvm.Cond := lk_5.drop 128
def lk_7 : List Jvm.Cond := lk_6.drop 128
def lk_8 : List Jvm.Cond := lk_7.drop 128
def lk_9 : List Jvm.Cond := lk_8.drop 128
def lk_10 : List Jvm.Cond := lk_9.drop 128
def lk_11 : List Jvm.Cond := lk_10.drop 128
def lk_12 : List Jvm.Cond := lk_11.drop 128
def lk (i : Nat) : Option Jvm.Cond := match i / 128 with
  | 0 => lw_tbl[i % 128]?
  | 1 => lk_1[i % 128]?
  | 2 => lk_2[i % 128]?
  | 3 => lk_3[i % 128]?
  | 4 => lk_4[i % 128]?
  | 5 => lk_5[i % 128]?
  | 6 => lk_6[i % 128]?
  | 7 => lk_7[i % 128]?
  | 8 => lk_8[i % 128]?
  | 9 => lk_9[i % 128]?
  | 10 => lk_10[i % 128]?
  | 11 => lk_11[i % 128]?
  | 12 => lk_12[i % 128]?
  | _ => lw_tbl[i]?
theorem lk_d1 (i : Nat) : lk_1[i]? = lw_tbl[128 + i]? := by unfold lk_1; rw [List.getElem?_drop]
theorem lk_d2 (i : Nat) : lk_2[i]? = lw_tbl[256 + i]? := by unfold lk_2; rw [List.getElem?_drop, lk_d1]; congr 1; omega
theorem lk_d3 (i : Nat) : lk_3[i]? = lw_tbl[384 + i]? := by unfold lk_3; rw [List.getElem?_drop, lk_d2]; congr 1; omega
theorem lk_d4 (i : Nat) : lk_4[i]? = lw_tbl[512 + i]? := by unfold lk_4; rw [List.getElem?_drop, lk_d3]; congr 1; omega
theorem lk_d5 (i : Nat) : lk_5[i]? = lw_tbl[640 + i]? := by unfold lk_5; rw [List.getElem?_drop, lk_d4]; congr 1; omega
theorem lk_d6 (i : Nat) : lk_6[i]? = lw_tbl[768 + i]? := by unfold lk_6; rw [List.getElem?_drop, lk_d5]; congr 1; omega
theorem lk_d7 (i : Nat) : lk_7[i]? = lw_tbl[896 + i]? := by unfold lk_7; rw [List.getElem?_drop, lk_d6]; congr 1; omega
theorem lk_d8 (i : Nat) : lk_8[i]? = lw_tbl[1024 + i]? := by unfold lk_8; rw [List.getElem?_drop, lk_d7]; congr 1; omega
theorem lk_d9 (i : Nat) : lk_9[i]? = lw_tbl[1152 + i]? := by unfold lk_9; rw [List.getElem?_drop, lk_d8]; congr 1; omega
theorem lk_d10 (i : Nat) : lk_10[i]? = lw_tbl[1280 + i]? := by unfold lk_10; rw [List.getElem?_drop, lk_d9]; congr 1; omega
theorem lk_d11 (i : Nat) : lk_11[i]? = lw_tbl[1408 + i]? := by unfold lk_11; rw [List.getElem?_drop, lk_d10]; congr 1; omega
theorem lk_d12 (i : Nat) : lk_12[i]? = lw_tbl[1536 + i]? := by unfold lk_12; rw [List.getElem?_drop, lk_d11]; congr 1; omega
theorem lk_eq (i : Nat) : lk i = lw_tbl[i]? := by
  have h := Nat.div_add_mod i 128
  have h2 : i % 128 < 128 := Nat.mod_lt _ (by decide)
  unfold lk
  split
  · rename_i e; congr 1; omega
  · rename_i e; rw [lk_d1]; congr 1; omega
  · rename_i e; rw [lk_d2]; congr 1; omega
  · rename_i e; rw [lk_d3]; congr 1; omega
  · rename_i e; rw [lk_d4]; congr 1; omega
  · rename_i e; rw [lk_d5]; congr 1; omega
  · rename_i e; rw [lk_d6]; congr 1; omega
  · rename_i e; rw [lk_d7]; congr 1; omega
  · rename_i e; rw [lk_d8]; congr 1; omega
  · rename_i e; rw [lk_d9]; congr 1; omega
  · rename_i e; rw [lk_d10]; congr 1; omega
  · rename_i e; rw [lk_d11]; congr 1; omega
  · rename_i e; rw [lk_d12]; congr 1; omega
  · rfl
def ai_tk2 (ty : Option FieldType) (k : Nat) : Bool := match ty with
  | some .int => Nat.beq k 0
  | some .boolean => Nat.beq k 1
  | some .long => Nat.beq k 2
  | some (.object _) => Nat.beq k 3
  | some (.array _) => Nat.beq k 3
  | _ => false
def ai_okF (c : Nat) (q : Nat × Nat × Nat × Bool × Nat × Nat) : Bool := match ai_nth vwCl q.2.1 with
  | some t => Nat.blt q.2.2.1 t.2.2 && decide (lw_tbl[q.2.2.2.2.2]? = some (Jvm.Cond.fieldLink (ai_cn c) q.1 t.1 (t.2.1 q.2.2.1).2.1 (t.2.1 q.2.2.1).2.2.1)) && decide ((t.2.1 q.2.2.1).1 = t.1) && decide ((t.2.1 q.2.2.1).2.2.2 = q.2.2.2.1) && ai_tk2 (parseFieldDescriptor (t.2.1 q.2.2.1).2.2.1) q.2.2.2.2.1
  | none => false
def ai_okFq (c : Nat) (q : Nat × Nat × Nat × Bool × Nat × Nat) : Bool := match ai_nth vwCl q.2.1 with
  | some t => Nat.blt q.2.2.1 t.2.2 && decide (lk (q.2.2.2.2.2) = some (Jvm.Cond.fieldLink (ai_cn c) q.1 t.1 (t.2.1 q.2.2.1).2.1 (t.2.1 q.2.2.1).2.2.1)) && decide ((t.2.1 q.2.2.1).1 = t.1) && decide ((t.2.1 q.2.2.1).2.2.2 = q.2.2.2.1) && ai_tk2 (parseFieldDescriptor (t.2.1 q.2.2.1).2.2.1) q.2.2.2.2.1
  | none => false
theorem ai_okFq_eq : ai_okF = ai_okFq := by
  funext c q
  unfold ai_okF ai_okFq
  simp only [lk_eq]
theorem ai_flO : ∀ c, (ai_flT c).all (ai_okF c) = true
  | 0 => by rw [ai_okFq_eq]; decide +kernel
  | 1 => by rw [ai_okFq_eq]; decide +kernel
  | 2 => by rw [ai_okFq_eq]; decide +kernel
  | 3 => by rw [ai_okFq_eq]; decide +kernel
  | 4 => by rw [ai_okFq_eq]; decide +kernel
  | 5 => by rw [ai_okFq_eq]; decide +kernel
  | 6 => by rw [ai_okFq_eq]; decide +kernel
  | 7 => by rw [ai_okFq_eq]; decide +kernel
  | 8 => by rw [ai_okFq_eq]; decide +kernel
  | 9 => by rw [ai_okFq_eq]; decide +kernel
  | 10 => by rw [ai_okFq_eq]; decide +kernel
  | 11 => by rw [ai_okFq_eq]; decide +kernel
  | 12 => by rw [ai_okFq_eq]; decide +kernel
  | _ + 13 => rfl
def ai_okE (c : Nat) (q : Nat × Nat × Nat) : Bool := match ai_nth vwCl q.2.1 with
  | some t => decide (lw_tbl[q.2.2]? = some (Jvm.Cond.classLink (ai_cn c) q.1 t.1))
  | none => false
def ai_okEq (c : Nat) (q : Nat × Nat × Nat) : Bool := match ai_nth vwCl q.2.1 with
  | some t => decide (lk (q.2.2) = some (Jvm.Cond.classLink (ai_cn c) q.1 t.1))
  | none => false
theorem ai_okEq_eq : ai_okE = ai_okEq := by
  funext c q
  unfold ai_okE ai_okEq
  simp only [lk_eq]
theorem ai_neO : ∀ c, (ai_neT c).all (ai_okE c) = true
  | 0 => by rw [ai_okEq_eq]; decide +kernel
  | 1 => by rw [ai_okEq_eq]; decide +kernel
  | 2 => by rw [ai_okEq_eq]; decide +kernel
  | 3 => by rw [ai_okEq_eq]; decide +kernel
  | 4 => by rw [ai_okEq_eq]; decide +kernel
  | 5 => by rw [ai_okEq_eq]; decide +kernel
  | 6 => by rw [ai_okEq_eq]; decide +kernel
  | 7 => by rw [ai_okEq_eq]; decide +kernel
  | 8 => by rw [ai_okEq_eq]; decide +kernel
  | 9 => by rw [ai_okEq_eq]; decide +kernel
  | 10 => by rw [ai_okEq_eq]; decide +kernel
  | 11 => by rw [ai_okEq_eq]; decide +kernel
  | 12 => by rw [ai_okEq_eq]; decide +kernel
  | _ + 13 => rfl
def ai_okJ (c : Nat) (q : Nat × Int32 × Nat) : Bool := decide (lw_tbl[q.2.2]? = some (Jvm.Cond.constant (ai_cn c) q.1 q.2.1))
def ai_okJq (c : Nat) (q : Nat × Int32 × Nat) : Bool := decide (lk (q.2.2) = some (Jvm.Cond.constant (ai_cn c) q.1 q.2.1))
theorem ai_okJq_eq : ai_okJ = ai_okJq := by
  funext c q
  unfold ai_okJ ai_okJq
  simp only [lk_eq]
theorem ai_ciO : ∀ c, (ai_ciT c).all (ai_okJ c) = true
  | 0 => by rw [ai_okJq_eq]; decide +kernel
  | 1 => by rw [ai_okJq_eq]; decide +kernel
  | 2 => by rw [ai_okJq_eq]; decide +kernel
  | 3 => by rw [ai_okJq_eq]; decide +kernel
  | 4 => by rw [ai_okJq_eq]; decide +kernel
  | 5 => by rw [ai_okJq_eq]; decide +kernel
  | 6 => by rw [ai_okJq_eq]; decide +kernel
  | 7 => by rw [ai_okJq_eq]; decide +kernel
  | 8 => by rw [ai_okJq_eq]; decide +kernel
  | 9 => by rw [ai_okJq_eq]; decide +kernel
  | 10 => by rw [ai_okJq_eq]; decide +kernel
  | 11 => by rw [ai_okJq_eq]; decide +kernel
  | 12 => by rw [ai_okJq_eq]; decide +kernel
  | _ + 13 => rfl
def ai_okL (c : Nat) (q : Nat × Int64 × Nat) : Bool := decide (lw_tbl[q.2.2]? = some (Jvm.Cond.constantLong (ai_cn c) q.1 q.2.1))
def ai_okLq (c : Nat) (q : Nat × Int64 × Nat) : Bool := decide (lk (q.2.2) = some (Jvm.Cond.constantLong (ai_cn c) q.1 q.2.1))
theorem ai_okLq_eq : ai_okL = ai_okLq := by
  funext c q
  unfold ai_okL ai_okLq
  simp only [lk_eq]
theorem ai_clO : ∀ c, (ai_clT c).all (ai_okL c) = true
  | 0 => by rw [ai_okLq_eq]; decide +kernel
  | 1 => by rw [ai_okLq_eq]; decide +kernel
  | 2 => by rw [ai_okLq_eq]; decide +kernel
  | 3 => by rw [ai_okLq_eq]; decide +kernel
  | 4 => by rw [ai_okLq_eq]; decide +kernel
  | 5 => by rw [ai_okLq_eq]; decide +kernel
  | 6 => by rw [ai_okLq_eq]; decide +kernel
  | 7 => by rw [ai_okLq_eq]; decide +kernel
  | 8 => by rw [ai_okLq_eq]; decide +kernel
  | 9 => by rw [ai_okLq_eq]; decide +kernel
  | 10 => by rw [ai_okLq_eq]; decide +kernel
  | 11 => by rw [ai_okLq_eq]; decide +kernel
  | 12 => by rw [ai_okLq_eq]; decide +kernel
  | _ + 13 => rfl
def ai_nn : Nat → Option MethodName
  | 0 => some Lib.objectInit
  | 1 => some arraycopyName
  | 2 => some ⟨"java/lang/String", "length", "()I"⟩
  | 3 => some ⟨"java/lang/String", "charAt", "(I)C"⟩
  | 4 => some Lib.Math.max.name
  | 5 => some Lib.Math.min.name
  | _ => none
def ai_okA (c : Nat) (q : Nat × Nat × Nat) : Bool := match ai_nn q.2.1 with
  | some y => decide (lw_tbl[q.2.2]? = some (Jvm.Cond.methodLink (ai_cn c) q.1 y))
  | none => true
def ai_okAq (c : Nat) (q : Nat × Nat × Nat) : Bool := match ai_nn q.2.1 with
  | some y => decide (lk (q.2.2) = some (Jvm.Cond.methodLink (ai_cn c) q.1 y))
  | none => true
theorem ai_okAq_eq : ai_okA = ai_okAq := by
  funext c q
  unfold ai_okA ai_okAq
  simp only [lk_eq]
theorem ai_naO : ∀ c, (ai_naT c).all (ai_okA c) = true
  | 0 => by rw [ai_okAq_eq]; decide +kernel
  | 1 => by rw [ai_okAq_eq]; decide +kernel
  | 2 => by rw [ai_okAq_eq]; decide +kernel
  | 3 => by rw [ai_okAq_eq]; decide +kernel
  | 4 => by rw [ai_okAq_eq]; decide +kernel
  | 5 => by rw [ai_okAq_eq]; decide +kernel
  | 6 => by rw [ai_okAq_eq]; decide +kernel
  | 7 => by rw [ai_okAq_eq]; decide +kernel
  | 8 => by rw [ai_okAq_eq]; decide +kernel
  | 9 => by rw [ai_okAq_eq]; decide +kernel
  | 10 => by rw [ai_okAq_eq]; decide +kernel
  | 11 => by rw [ai_okAq_eq]; decide +kernel
  | 12 => by rw [ai_okAq_eq]; decide +kernel
  | _ + 13 => rfl
def ai_okK (c : Nat) (q : Nat × Nat × Nat × ai_M × List Nat) : Bool :=
  let y := ai_y q.2.2.2.1
  decide (y.cls ≠ "java/lang/invoke/MethodHandle") && decide (y.cls ≠ "java/lang/invoke/VarHandle") && decide ((parseMethodDescriptor y.desc).map (fun d => d.parameters.length) = some q.2.2.1) && decide (ai_cn (ai_cl q.2.2.2.1) = ai_own q.2.2.2.1) && decide (y.cls = ai_own q.2.2.2.1) &&
  (match q.2.1 with
  | 0 => decide (lw_tbl[q.2.2.2.2.getD 0 0]? = some (Jvm.Cond.methodLink (ai_cn c) q.1 y)) && decide (lw_tbl[q.2.2.2.2.getD 1 0]? = some (Jvm.Cond.instanceMethod y)) && decide (lw_tbl[q.2.2.2.2.getD 2 0]? = some (Jvm.Cond.selects y.cls y y)) && decide (lw_tbl[q.2.2.2.2.getD 3 0]? = some (Jvm.Cond.initialized y.cls)) && (match ai_nth vwCl (ai_cl q.2.2.2.1) with | some t => decide (t.1 = y.cls) | none => false)
  | 1 => decide (lw_tbl[q.2.2.2.2.getD 0 0]? = some (Jvm.Cond.methodLink (ai_cn c) q.1 y)) && decide (lw_tbl[q.2.2.2.2.getD 1 0]? = some (Jvm.Cond.static y)) && decide (lw_tbl[q.2.2.2.2.getD 2 0]? = some (Jvm.Cond.initialized y.cls))
  | 2 => decide (lw_tbl[q.2.2.2.2.getD 0 0]? = some (Jvm.Cond.methodLink (ai_cn c) q.1 y)) && decide (lw_tbl[q.2.2.2.2.getD 1 0]? = some (Jvm.Cond.instanceMethod y)) && decide (lw_tbl[q.2.2.2.2.getD 2 0]? = some (Jvm.Cond.initialized y.cls)) && decide (y.name = "<init>") && decide (ai_rt q.2.2.2.1 = none)
  | 4 => decide (lw_tbl[q.2.2.2.2.getD 0 0]? = some (Jvm.Cond.methodLinkNest (ai_cn c) q.1 y "FourWaters")) && (ai_nwI.contains (q.2.2.2.2.getD 0 0)) && decide (lw_tbl[q.2.2.2.2.getD 1 0]? = some (Jvm.Cond.static y)) && decide (lw_tbl[q.2.2.2.2.getD 2 0]? = some (Jvm.Cond.initialized y.cls))
  | 5 => decide (lw_tbl[q.2.2.2.2.getD 0 0]? = some (Jvm.Cond.methodLinkNest (ai_cn c) q.1 y "FourWaters")) && (ai_nwI.contains (q.2.2.2.2.getD 0 0)) && decide (lw_tbl[q.2.2.2.2.getD 1 0]? = some (Jvm.Cond.instanceMethod y)) && decide (lw_tbl[q.2.2.2.2.getD 2 0]? = some (Jvm.Cond.initialized y.cls)) && decide (y.name = "<init>") && decide (ai_rt q.2.2.2.1 = none)
  | _ => false)
def ai_okKq (c : Nat) (q : Nat × Nat × Nat × ai_M × List Nat) : Bool :=
  let y := ai_y q.2.2.2.1
  decide (y.cls ≠ "java/lang/invoke/MethodHandle") && decide (y.cls ≠ "java/lang/invoke/VarHandle") && decide ((parseMethodDescriptor y.desc).map (fun d => d.parameters.length) = some q.2.2.1) && decide (ai_cn (ai_cl q.2.2.2.1) = ai_own q.2.2.2.1) && decide (y.cls = ai_own q.2.2.2.1) &&
  (match q.2.1 with
  | 0 => decide (lk (q.2.2.2.2.getD 0 0) = some (Jvm.Cond.methodLink (ai_cn c) q.1 y)) && decide (lk (q.2.2.2.2.getD 1 0) = some (Jvm.Cond.instanceMethod y)) && decide (lk (q.2.2.2.2.getD 2 0) = some (Jvm.Cond.selects y.cls y y)) && decide (lk (q.2.2.2.2.getD 3 0) = some (Jvm.Cond.initialized y.cls)) && (match ai_nth vwCl (ai_cl q.2.2.2.1) with | some t => decide (t.1 = y.cls) | none => false)
  | 1 => decide (lk (q.2.2.2.2.getD 0 0) = some (Jvm.Cond.methodLink (ai_cn c) q.1 y)) && decide (lk (q.2.2.2.2.getD 1 0) = some (Jvm.Cond.static y)) && decide (lk (q.2.2.2.2.getD 2 0) = some (Jvm.Cond.initialized y.cls))
  | 2 => decide (lk (q.2.2.2.2.getD 0 0) = some (Jvm.Cond.methodLink (ai_cn c) q.1 y)) && decide (lk (q.2.2.2.2.getD 1 0) = some (Jvm.Cond.instanceMethod y)) && decide (lk (q.2.2.2.2.getD 2 0) = some (Jvm.Cond.initialized y.cls)) && decide (y.name = "<init>") && decide (ai_rt q.2.2.2.1 = none)
  | 4 => decide (lk (q.2.2.2.2.getD 0 0) = some (Jvm.Cond.methodLinkNest (ai_cn c) q.1 y "FourWaters")) && (ai_nwI.contains (q.2.2.2.2.getD 0 0)) && decide (lk (q.2.2.2.2.getD 1 0) = some (Jvm.Cond.static y)) && decide (lk (q.2.2.2.2.getD 2 0) = some (Jvm.Cond.initialized y.cls))
  | 5 => decide (lk (q.2.2.2.2.getD 0 0) = some (Jvm.Cond.methodLinkNest (ai_cn c) q.1 y "FourWaters")) && (ai_nwI.contains (q.2.2.2.2.getD 0 0)) && decide (lk (q.2.2.2.2.getD 1 0) = some (Jvm.Cond.instanceMethod y)) && decide (lk (q.2.2.2.2.getD 2 0) = some (Jvm.Cond.initialized y.cls)) && decide (y.name = "<init>") && decide (ai_rt q.2.2.2.1 = none)
  | _ => false)
theorem ai_okKq_eq : ai_okK = ai_okKq := by
  funext c q
  unfold ai_okK ai_okKq
  simp only [lk_eq]
theorem ai_caK : ∀ c, (ai_caT c).all (ai_okK c) = true
  | 0 => by rw [ai_okKq_eq]; decide +kernel
  | 1 => by rw [ai_okKq_eq]; decide +kernel
  | 2 => by rw [ai_okKq_eq]; decide +kernel
  | 3 => by rw [ai_okKq_eq]; decide +kernel
  | 4 => by rw [ai_okKq_eq]; decide +kernel
  | 5 => by rw [ai_okKq_eq]; decide +kernel
  | 6 => by rw [ai_okKq_eq]; decide +kernel
  | 7 => by rw [ai_okKq_eq]; decide +kernel
  | 8 => by rw [ai_okKq_eq]; decide +kernel
  | 9 => by rw [ai_okKq_eq]; decide +kernel
  | 10 => by rw [ai_okKq_eq]; decide +kernel
  | 11 => by rw [ai_okKq_eq]; decide +kernel
  | 12 => by rw [ai_okKq_eq]; decide +kernel
  | _ + 13 => rfl
def ai_okS (c : Nat) (q : Nat × Nat) : Bool := decide (q.2 < 8) && decide (ai_stN.getD q.2 0 = q.1) && decide (ai_cn c = ai_stO)
theorem ai_stK : ∀ c, (ai_stT c).all (ai_okS c) = true
  | 4 => by decide +kernel
  | 0 => rfl
  | 1 => rfl
  | 2 => rfl
  | 3 => rfl
  | _ + 5 => rfl
/-! the classes of the world -/
def ai_okX (ci : Nat) (t : vw_C) : Prop := (∀ w ∈ u_ws t.1 t.2.1 t.2.2, w ∈ ai_gt) ∧ (∃ ty : Nat → FieldType, (∀ k, k < t.2.2 → parseFieldDescriptor (t.2.1 k).2.2.1 = some (ty k)) ∧ ∀ k, k < t.2.2 → defaultValue (ty k) = vp_V (ai_df ci) k) ∧ (∀ a, a < t.2.2 → ∀ b, b < t.2.2 → a ≠ b → (t.2.1 a).2.1 ≠ (t.2.1 b).2.1) ∧ Jvm.Cond.instantiable t.1 t.2.2 ∈ ai_gt ∧ Jvm.Cond.initialized t.1 ∈ ai_gt ∧ ai_cn ci = t.1 ∧ (ai_df ci).length = t.2.2 ∧ ai_dfN ci = t.2.2
theorem ai_inG {ws : List Jvm.Cond} (h : ∀ w ∈ ws, w ∈ lw_tbl) (g : ∀ w ∈ ws, goodWord w = true) : ∀ w ∈ ws, w ∈ ai_gt := fun w hw => List.mem_filter.mpr ⟨h w hw, g w hw⟩
theorem ai_xO0 : ai_okX 0 (RX0, TX0, 8) := ⟨ai_inG (by decide +kernel) (by decide +kernel), ⟨tyX0, tyX0_ok, by decide +kernel⟩, nmX0, List.mem_filter.mpr ⟨by decide +kernel, by decide +kernel⟩, List.mem_filter.mpr ⟨by decide +kernel, by decide +kernel⟩, rfl, rfl, rfl⟩
theorem ai_xO1 : ai_okX 1 (RX1, TX1, 4) := ⟨ai_inG (by decide +kernel) (by decide +kernel), ⟨tyX1, tyX1_ok, by decide +kernel⟩, nmX1, List.mem_filter.mpr ⟨by decide +kernel, by decide +kernel⟩, List.mem_filter.mpr ⟨by decide +kernel, by decide +kernel⟩, rfl, rfl, rfl⟩
theorem ai_xO2 : ai_okX 2 (RX2, TX2, 17) := ⟨ai_inG (by decide +kernel) (by decide +kernel), ⟨tyX2, tyX2_ok, by decide +kernel⟩, nmX2, List.mem_filter.mpr ⟨by decide +kernel, by decide +kernel⟩, List.mem_filter.mpr ⟨by decide +kernel, by decide +kernel⟩, rfl, rfl, rfl⟩
theorem ai_xO3 : ai_okX 3 (RX3, TX3, 2) := ⟨ai_inG (by decide +kernel) (by decide +kernel), ⟨tyX3, tyX3_ok, by decide +kernel⟩, nmX3, List.mem_filter.mpr ⟨by decide +kernel, by decide +kernel⟩, List.mem_filter.mpr ⟨by decide +kernel, by decide +kernel⟩, rfl, rfl, rfl⟩
theorem ai_xO4 : ai_okX 4 (RX4, TX4, 6) := ⟨ai_inG (by decide +kernel) (by decide +kernel), ⟨tyX4, tyX4_ok, by decide +kernel⟩, nmX4, List.mem_filter.mpr ⟨by decide +kernel, by decide +kernel⟩, List.mem_filter.mpr ⟨by decide +kernel, by decide +kernel⟩, rfl, rfl, rfl⟩
theorem ai_xO5 : ai_okX 5 (RX5, TX5, 5) := ⟨ai_inG (by decide +kernel) (by decide +kernel), ⟨tyX5, tyX5_ok, by decide +kernel⟩, nmX5, List.mem_filter.mpr ⟨by decide +kernel, by decide +kernel⟩, List.mem_filter.mpr ⟨by decide +kernel, by decide +kernel⟩, rfl, rfl, rfl⟩
theorem ai_xO6 : ai_okX 6 (RX6, TX6, 1) := ⟨ai_inG (by decide +kernel) (by decide +kernel), ⟨tyX6, tyX6_ok, by decide +kernel⟩, nmX6, List.mem_filter.mpr ⟨by decide +kernel, by decide +kernel⟩, List.mem_filter.mpr ⟨by decide +kernel, by decide +kernel⟩, rfl, rfl, rfl⟩
theorem ai_xO7 : ai_okX 7 (RX7, TX7, 15) := ⟨ai_inG (by decide +kernel) (by decide +kernel), ⟨tyX7, tyX7_ok, by decide +kernel⟩, nmX7, List.mem_filter.mpr ⟨by decide +kernel, by decide +kernel⟩, List.mem_filter.mpr ⟨by decide +kernel, by decide +kernel⟩, rfl, rfl, rfl⟩
theorem ai_xO8 : ai_okX 8 (RX8, TX8, 28) := ⟨ai_inG (by decide +kernel) (by decide +kernel), ⟨tyX8, tyX8_ok, by decide +kernel⟩, nmX8, List.mem_filter.mpr ⟨by decide +kernel, by decide +kernel⟩, List.mem_filter.mpr ⟨by decide +kernel, by decide +kernel⟩, rfl, rfl, rfl⟩
theorem ai_xO : ∀ (ci : Nat) (t : vw_C), ai_nth vwCl ci = some t → ai_okX ci t
  | 0, _, h => by cases h; exact ai_xO0
  | 1, _, h => by cases h; exact ai_xO1
  | 2, _, h => by cases h; exact ai_xO2
  | 3, _, h => by cases h; exact ai_xO3
  | 4, _, h => by cases h; exact ai_xO4
  | 5, _, h => by cases h; exact ai_xO5
  | 6, _, h => by cases h; exact ai_xO6
  | 7, _, h => by cases h; exact ai_xO7
  | 8, _, h => by cases h; exact ai_xO8
  | _ + 9, _, h => by cases h
/-! one instruction of the interpreter is one of the machine's -/
def ai_K (p : Program) (l : Launch) (e : Env) (s : State) (m : MethodId) (args : Array Value) (below : List Frame) (meth : Method) (c : Code) (Q : State → Prop) (M : ai_M) (G : ai_G) (pc : Nat) (L : ai_L) (st : List Value) (h : ai_H) (cs sl : Nat) : Prop :=
  ∀ (ls : Array Slot) (H : Heap) (locs : List Loc), s.heap.size + cs = G.1 + h.length → ai_P G h H → va_S (fun q => G.1 ≤ q) s.heap H locs → ai_I G (ai_mL M) L ls → W p l e (ai_rm M) s m args below meth c H locs cs sl Q (F0 m pc ls (st.map (ai_v G)))
section AIS
variable {p : Program} {l : Launch} {e : Env} {s : State} {m : MethodId} {args : Array Value} {below : List Frame} {meth : Method} {c : Code} {Q : State → Prop} {M : ai_M} {G : ai_G} {X : List (List Int32)} {H : Heap} {locs : List Loc} {ls : Array Slot} {pc pc' : Nat} {L L' : ai_L} {st st' r : List Value} {h h' : ai_H} {cs sl cs' sl' : Nat}

theorem ai_sz {g : JFrame} (hb : G.1 ≤ s.heap.size) (hN : s.heap.size + cs = G.1 + h.length) (hP : va_P (ai_D G) vwCl (ai_ws G G.1 h) H) (hS : va_S (fun q => G.1 ≤ q) s.heap H locs) (kk : ai_P G h H → W p l e (ai_rm M) s m args below meth c H locs cs sl Q g) : W p l e (ai_rm M) s m args below meth c H locs cs sl Q g := by
  intro T hT Y
  have up : H.size ≤ s.heap.size + cs := by rw [← hT]; exact Y.same.2.2.1
  have lo : G.1 + h.length ≤ H.size := by
    cases hl : h.length with
    | zero => have := hS.1; omega
    | succ n =>
      have hx : ai_nth h n = some h[n] := by rw [ai_nth_eq]; exact List.getElem?_eq_getElem (by omega)
      have := (hP n _ (ai_ws_at G.1 hx)).lt
      show G.1 + (n + 1) ≤ H.size
      have h2 : G.1 + n < H.size := this
      omega
  exact kk ⟨by omega, hP⟩ T hT Y
theorem ai_fvn {ty : FieldType} {k : Nat} {v : Value} (h1 : ai_tk2 (some ty) k = true) (h2 : ai_fv k v = true) : narrow ty (ai_v G v) = ai_v G v ∧ fits ty (ai_v G v) = true := by
  cases ty <;> simp only [ai_tk2] at h1 <;> (try cases h1) <;> have hk := Nat.eq_of_beq_eq_true h1 <;> subst hk <;> cases v <;> simp only [ai_fv] at h2 <;> (try cases h2)
  all_goals first | exact ⟨rfl, rfl⟩ | (rcases h2 with rfl | rfl <;> exact ⟨rfl, rfl⟩) | (simp at h2; rcases h2 with rfl | rfl <;> exact ⟨rfl, rfl⟩) | (simp at h2)
theorem ai_setm (G : ai_G) (fs : List Value) (j : Nat) (v : Value) : (fs.map (ai_v G)).set j (ai_v G v) = (fs.set j v).map (ai_v G) := by rw [List.map_set]
theorem ai_ixin {o : List Int32} {j x : Int32} (h : ai_ix o j = some x) : vp_in j o.length ∧ o.getD j.toNatClampNeg 0 = x := by
  unfold ai_ix at h
  split at h
  · cases h
  · rename_i hn
    rw [ai_nth_eq] at h
    have hl : j.toNatClampNeg < o.length := (List.getElem?_eq_some_iff.mp h).1
    refine ⟨fun q => ?_, ?_⟩
    · rcases q with q | q
      · exact hn q
      · omega
    · rw [List.getD_eq_getElem?_getD, h]; rfl
theorem ai_upin {o o2 : List Int32} {j x : Int32} (h : ai_up o j x = some o2) : vp_in j o.length ∧ o2 = o.set j.toNatClampNeg x ∧ o2.length = o.length ∧ upd (fun k => o.getD k 0) j.toNatClampNeg x = fun k => o2.getD k 0 := by
  unfold ai_up at h
  split at h
  · cases h
  · rename_i hn
    split at h
    · rename_i hb
      have hl : j.toNatClampNeg < o.length := Nat.le_of_ble_eq_true hb
      have e : o2 = o.set j.toNatClampNeg x := (Option.some.inj h).symm
      refine ⟨fun q => ?_, e, by rw [e, List.length_set], ?_⟩
      · rcases q with q | q
        · exact hn q
        · omega
      · funext k
        rw [e]
        unfold upd
        by_cases hk : k = j.toNatClampNeg
        · rw [if_pos hk, hk, List.getD_eq_getElem?_getD, List.getElem?_set]
          simp [hl]
        · rw [if_neg hk]
          show o.getD k 0 = _
          rw [List.getD_eq_getElem?_getD, List.getD_eq_getElem?_getD, List.getElem?_set_ne (fun q => hk q.symm)]
    · cases h
theorem ai_R_get (C : ai_C p s m args meth c M G X) {k a : Nat} {q : Nat × Nat × Bool × Nat × Nat} {o : Nat × List Value} {v : Value} (hd : decode (ai_cc M) pc = .ok (.getfield k, 3)) (hq : ai_by (ai_flT (ai_cl M)) k = some q) (ho : ai_nth h a = some (.inr o)) (hc : Nat.beq o.1 q.1 = true) (hv : ai_nth o.2 q.2.1 = some v) (hP : ai_P G h H)
    (kk : W p l e (ai_rm M) s m args below meth c H locs cs sl Q (F0 m (pc + 3) ls ((v :: r).map (ai_v G)))) : W p l e (ai_rm M) s m args below meth c H locs cs sl Q (F0 m pc ls ((.ref a :: r).map (ai_v G))) := by
  obtain ⟨hx, hb, hr, hml, hown, hts, hlk, hini, ⟨hK, hnw, hZ, hXs⟩, hbs, hok, hcn⟩ := C
  have hf := List.all_eq_true.mp (ai_flO (ai_cl M)) _ (ai_by_mem hq)
  unfold ai_okF at hf
  split at hf
  · rename_i t ht
    simp only [Bool.and_eq_true, decide_eq_true_eq] at hf
    obtain ⟨⟨⟨⟨f1, f2⟩, f3⟩, f4⟩, f5⟩ := hf
    obtain ⟨x1, ⟨ty, x2, x2'⟩, x3, x4, x5, x6, x7, x8⟩ := ai_xO _ _ ht
    have hci : o.1 = q.1 := Nat.eq_of_beq_eq_true hc
    have hcl : vwCl[o.1]? = some t := by rw [← ai_nth_eq, hci]; exact ht
    have hlt : q.2.1 < t.2.2 := Nat.le_of_ble_eq_true f1
    refine va_get (D := ai_D G) (ci := o.1) (v := ai_v G v) (C := t.1) (T := t.2.1) (N := t.2.2) (own := ai_own M) (ref := t.1) (fs := o.2.map (ai_v G)) hx hb hts x1 hown hK hP.2 a (ai_ws_at G.1 ho) hcl q.2.1 hlt (hts _ (ai_gt_at (by rw [← hcn]; exact f2) rfl)) (fun x hx => by rw [f3] at hx; exact hx) ?_ hd kk
    rw [List.getElem?_map, ← ai_nth_eq, hv]; rfl
  · cases hf
theorem ai_R_put (C : ai_C p s m args meth c M G X) {k a : Nat} {q : Nat × Nat × Bool × Nat × Nat} {o : Nat × List Value} {v : Value} (hd : decode (ai_cc M) pc = .ok (.putfield k, 3)) (hq : ai_by (ai_flT (ai_cl M)) k = some q) (ho : ai_nth h a = some (.inr o)) (hc : (Nat.beq o.1 q.1 && ai_fv q.2.2.2.1 v && Nat.blt q.2.1 o.2.length && (!q.2.2.1 || (Nat.beq (ai_cl M) q.1 && decide ((ai_y M).name = "<init>")))) = true) (hN : s.heap.size + cs = G.1 + h.length) (hP : ai_P G h H) (hS : va_S (fun q => G.1 ≤ q) s.heap H locs)
    (kk : ∀ (H : Heap) (locs : List Loc), ai_P G (h.set a (.inr (o.1, o.2.set q.2.1 v))) H → va_S (fun q => G.1 ≤ q) s.heap H locs → W p l e (ai_rm M) s m args below meth c H locs cs sl Q (F0 m (pc + 3) ls (r.map (ai_v G)))) : W p l e (ai_rm M) s m args below meth c H locs cs sl Q (F0 m pc ls ((v :: .ref a :: r).map (ai_v G))) := by
  obtain ⟨hx, hb, hr, hml, hown, hts, hlk, hini, ⟨hK, hnw, hZ, hXs⟩, hbs, hok, hcn⟩ := C
  have hf := List.all_eq_true.mp (ai_flO (ai_cl M)) _ (ai_by_mem hq)
  unfold ai_okF at hf
  split at hf
  · rename_i t ht
    simp only [Bool.and_eq_true, decide_eq_true_eq] at hf
    obtain ⟨⟨⟨⟨f1, f2⟩, f3⟩, f4⟩, f5⟩ := hf
    obtain ⟨x1, ⟨ty, x2, x2'⟩, x3, x4, x5, x6, x7, x8⟩ := ai_xO _ _ ht
    rw [Bool.and_eq_true, Bool.and_eq_true, Bool.and_eq_true] at hc
    obtain ⟨⟨⟨hc1, hc2⟩, hc3⟩, hc4⟩ := hc
    have hci : o.1 = q.1 := Nat.eq_of_beq_eq_true hc1
    have hcl : vwCl[o.1]? = some t := by rw [← ai_nth_eq, hci]; exact ht
    have hlt : q.2.1 < t.2.2 := Nat.le_of_ble_eq_true f1
    have hlen : q.2.1 < (o.2.map (ai_v G)).length := by rw [List.length_map]; exact Nat.le_of_ble_eq_true hc3
    have hpd := x2 _ hlt
    have f5' : ai_tk2 (some (ty q.2.1)) q.2.2.2.1 = true := by rw [← hpd]; exact f5
    obtain ⟨n1, n2⟩ := ai_fvn (G := G) f5' hc2
    have fin : ∀ (H1 : Heap) (locs1 : List Loc), va_P (ai_D G) vwCl ((ai_ws G G.1 h).set a (G.1 + a, .inr (o.1, (o.2.map (ai_v G)).set q.2.1 (ai_v G v)))) H1 → va_D (fun q => G.1 ≤ q) ((ai_ws G G.1 h).set a (G.1 + a, .inr (o.1, (o.2.map (ai_v G)).set q.2.1 (ai_v G v)))) → va_S (fun q => G.1 ≤ q) s.heap H1 locs1 → W p l e (ai_rm M) s m args below meth c H1 locs1 cs sl Q (F0 m (pc + 3) ls (r.map (ai_v G))) := by
      intro H1 locs1 hP1 _ hS1
      have e1 : (ai_ws G G.1 h).set a (G.1 + a, .inr (o.1, (o.2.map (ai_v G)).set q.2.1 (ai_v G v))) = ai_ws G G.1 (h.set a (.inr (o.1, o.2.set q.2.1 v))) := by
        rw [ai_setm]
        exact ai_ws_set G (.inr (o.1, o.2.set q.2.1 v)) h G.1 a
      rw [e1] at hP1
      exact ai_sz hbs (by rw [List.length_set]; exact hN) hP1 hS1 (fun hP2 => kk H1 locs1 hP2 hS1)
    cases hfin : q.2.2.1 with
    | false =>
      exact va_put (D := ai_D G) (ci := o.1) (v := ai_v G v) (C := t.1) (T := t.2.1) (N := t.2.2) (own := ai_own M) (ref := t.1) (fs := o.2.map (ai_v G)) hx hb hts x1 ty x2 x3 hown hK hP.2 (ai_ws_D G h) hS a (ai_ws_at G.1 ho) hcl q.2.1 hlt (hts _ (ai_gt_at (by rw [← hcn]; exact f2) rfl)) (fun x hx => by rw [f3] at hx; exact hx) (by rw [f4]; exact hfin) hpd n1 n2 hlen hd fin
    | true =>
      rw [hfin] at hc4
      simp only [Bool.not_true, Bool.false_or, Bool.and_eq_true, decide_eq_true_eq] at hc4
      have hcm : ai_cl M = q.1 := Nat.eq_of_beq_eq_true hc4.1
      exact va_putF (D := ai_D G) (ci := o.1) (v := ai_v G v) (C := t.1) (T := t.2.1) (N := t.2.2) (own := ai_own M) (ref := t.1) (fs := o.2.map (ai_v G)) hx hb hts x1 ty x2 x3 hown hK hP.2 (ai_ws_D G h) hS a (ai_ws_at G.1 ho) hcl q.2.1 hlt (hts _ (ai_gt_at (by rw [← hcn]; exact f2) rfl)) (fun x hx => by rw [f3] at hx; exact hx) (by rw [f4]; exact hfin) (hini hc4.2) (by rw [f3, ← hcn, hcm]; exact x6.symm) hpd n1 n2 hlen hd fin
  · cases hf
theorem ai_R_new (C : ai_C p s m args meth c M G X) {k : Nat} {q : Nat × Nat} (hd : decode (ai_cc M) pc = .ok (.new k, 3)) (hq : ai_by (ai_neT (ai_cl M)) k = some q) (hc : (Nat.blt cs (ai_rm M).cells && Nat.ble (sl + ai_dfN q.1) (ai_rm M).slots) = true) (hP : ai_P G h H) (hS : va_S (fun q => G.1 ≤ q) s.heap H locs)
    (kk : ∀ (H : Heap), ai_P G (h ++ [.inr (q.1, ai_df q.1)]) H → va_S (fun q => G.1 ≤ q) s.heap H locs → W p l e (ai_rm M) s m args below meth c H locs (cs + 1) (sl + ai_dfN q.1) Q (F0 m (pc + 3) ls ((.ref h.length :: r).map (ai_v G)))) : W p l e (ai_rm M) s m args below meth c H locs cs sl Q (F0 m pc ls (r.map (ai_v G))) := by
  obtain ⟨hx, hb, hr, hml, hown, hts, hlk, hini, ⟨hK, hnw, hZ, hXs⟩, hbs, hok, hcn⟩ := C
  have hf := List.all_eq_true.mp (ai_neO (ai_cl M)) _ (ai_by_mem hq)
  unfold ai_okE at hf
  split at hf
  · rename_i t ht
    rw [decide_eq_true_eq] at hf
    obtain ⟨x1, ⟨ty, x2, x2'⟩, x3, x4, x5, x6, x7, x8⟩ := ai_xO _ _ ht
    rw [Bool.and_eq_true] at hc
    have hcl : vwCl[q.1]? = some t := by rw [← ai_nth_eq]; exact ht
    have hKn := hK.1 q.1 t hcl
    have c1 : cs + 1 ≤ (ai_rm M).cells := Nat.le_of_ble_eq_true hc.1
    have c2 : sl + t.2.2 ≤ (ai_rm M).slots := by rw [← x8]; exact Nat.le_of_ble_eq_true hc.2
    rw [x8] at kk
    refine W.newcK (C := t.1) (n := t.2.2) hx hb hown (hts _ (ai_gt_at (by rw [← hcn]; exact hf) rfl)) (hts _ x4) (hts _ x5) rfl hd c1 c2 hKn.2.1 rfl fun H1 kC hkC e1 z1 o1 => ?_
    have hk : ∀ (k : Nat) (x : Nat × va_E), (ai_ws G G.1 h)[k]? = some x → H1[x.1]? = H[x.1]? := fun k x hx => o1 x.1 ((hP.2 k x hx).lt)
    have hsz : H.size = G.1 + h.length := hP.1
    have hP1 : va_P (ai_D G) vwCl (ai_ws G G.1 (h ++ [.inr (q.1, ai_df q.1)])) H1 := by
      rw [ai_ws_app]
      refine (hP.2.kept hk).app (fun k x hx => ?_)
      have hz : k < 1 := (List.getElem?_eq_some_iff.mp hx).1
      rw [show k = 0 by omega] at hx
      cases hx
      refine ⟨t, hcl, (u_born ty hts x1 hKn hkC (by rw [hsz] at e1; exact e1) x2).to (fun j hj => ?_)⟩
      rw [x2' j hj]
      unfold vp_V
      have hdf : ∀ v ∈ ai_df q.1, ai_v G v = v := by
        have : ∀ ci : Nat, ∀ v ∈ ai_df ci, ai_v G v = v := by
          intro ci
          unfold ai_df
          split <;> intro v hv <;> simp only [List.mem_cons, List.not_mem_nil, or_false] at hv <;> (try (rcases hv with hv | hv | hv | hv | hv | hv | hv | hv | hv | hv | hv | hv | hv | hv | hv | hv | hv | hv | hv | hv | hv | hv | hv | hv | hv | hv | hv | hv <;> subst hv <;> rfl)) <;> (try (rcases hv with hv | hv | hv | hv | hv | hv | hv | hv | hv | hv | hv | hv | hv | hv | hv | hv | hv <;> subst hv <;> rfl)) <;> (try (rcases hv with hv | hv | hv | hv | hv | hv | hv | hv | hv | hv | hv | hv | hv | hv | hv <;> subst hv <;> rfl)) <;> (try (rcases hv with hv | hv | hv | hv | hv | hv | hv | hv <;> subst hv <;> rfl)) <;> (try (rcases hv with hv | hv | hv | hv | hv | hv <;> subst hv <;> rfl)) <;> (try (rcases hv with hv | hv | hv | hv | hv <;> subst hv <;> rfl)) <;> (try (rcases hv with hv | hv | hv | hv <;> subst hv <;> rfl)) <;> (try (rcases hv with hv | hv <;> subst hv <;> rfl)) <;> (try (subst hv; rfl))
        exact this q.1
      rw [List.map_congr_left hdf, List.map_id']
    have e2 : ({ F0 m pc ls (r.map (ai_v G)) with pc := (F0 m pc ls (r.map (ai_v G))).pc + 3, stack := .ref H.size :: (F0 m pc ls (r.map (ai_v G))).stack } : JFrame) = F0 m (pc + 3) ls ((.ref h.length :: r).map (ai_v G)) := by
      rw [hsz]; rfl
    rw [e2]
    exact kk H1 ⟨by rw [z1, hsz, List.length_append]; rfl, hP1⟩ ⟨by have := hS.1; omega, fun x h1 h2 => (o1 x (Nat.lt_of_lt_of_le h1 hS.1)).trans (hS.2.1 x h1 h2), hS.2.2⟩
  · cases hf
end AIS
/-! rows of ints, made, read, written -/
theorem ai_wI : Jvm.Cond.arrayClass .int ∈ ai_gt := List.mem_filter.mpr ⟨by decide +kernel, rfl⟩
theorem ai_wZ : Jvm.Cond.arrayClass .boolean ∈ ai_gt := List.mem_filter.mpr ⟨by decide +kernel, rfl⟩
section AIS
variable {p : Program} {l : Launch} {e : Env} {s : State} {m : MethodId} {args : Array Value} {below : List Frame} {meth : Method} {c : Code} {Q : State → Prop} {M : ai_M} {G : ai_G} {X : List (List Int32)} {H : Heap} {locs : List Loc} {ls : Array Slot} {pc pc' : Nat} {L L' : ai_L} {st st' r : List Value} {h h' : ai_H} {cs sl cs' sl' : Nat}

theorem ai_R_newa (C : ai_C p s m args meth c M G X) {t : ArrayType} {z : Bool} (hz : (t = .int ∧ z = false) ∨ (t = .boolean ∧ z = true)) {n : Int32} (hd : decode (ai_cc M) pc = .ok (.newarray t, 2)) (hn : ¬ n < 0) (hc : (Nat.blt cs (ai_rm M).cells && Nat.ble (sl + n.toNatClampNeg) (ai_rm M).slots && Nat.ble n.toNatClampNeg 65536) = true) (hP : ai_P G h H) (hS : va_S (fun q => G.1 ≤ q) s.heap H locs)
    (kk : ∀ (H : Heap), ai_P G (h ++ [.inl (z, List.replicate n.toNatClampNeg 0)]) H → va_S (fun q => G.1 ≤ q) s.heap H locs → W p l e (ai_rm M) s m args below meth c H locs (cs + 1) (sl + n.toNatClampNeg) Q (F0 m (pc + 2) ls ((.ref h.length :: r).map (ai_v G)))) : W p l e (ai_rm M) s m args below meth c H locs cs sl Q (F0 m pc ls ((.int n :: r).map (ai_v G))) := by
  obtain ⟨hx, hb, hr, hml, hown, hts, hlk, hini, ⟨hK, hnw, hZ, hXs⟩, hbs, hok, hcn⟩ := C
  rw [Bool.and_eq_true, Bool.and_eq_true] at hc
  have c1 : cs + 1 ≤ (ai_rm M).cells := Nat.le_of_ble_eq_true hc.1.1
  have c2 : sl + n.toNatClampNeg ≤ (ai_rm M).slots := Nat.le_of_ble_eq_true hc.1.2
  have c3 : n.toNatClampNeg ≤ 65536 := Nat.le_of_ble_eq_true hc.2
  have harr : (Cond.arrayClass (newarray.typeOf t)).before args s = true := by
    rcases hz with ⟨rfl, rfl⟩ | ⟨rfl, rfl⟩
    · exact hts _ ai_wI
    · exact hts _ ai_wZ
  have hby : n.toNatClampNeg * componentBytes (newarray.typeOf t) ≤ 536870912 := by
    rcases hz with ⟨rfl, rfl⟩ | ⟨rfl, rfl⟩
    · show n.toNatClampNeg * 4 ≤ _
      omega
    · show n.toNatClampNeg * 1 ≤ _
      omega
  refine va_newaK hx hb harr rfl hd (N := n.toNatClampNeg) rfl hn rfl hby c1 c2 rfl fun H1 cA e1 z1 o1 hAr hNm => ?_
  have hcA : cA = ai_ca G z := by
    rcases hz with ⟨rfl, rfl⟩ | ⟨rfl, rfl⟩
    · have h2 := (hK.2 0 (G.2.2.1, .int) rfl).2
      exact Option.some.inj (hNm.symm.trans h2)
    · have h2 := (hK.2 1 (G.2.2.2.1, .boolean) rfl).2
      exact Option.some.inj (hNm.symm.trans h2)
  have hk : ∀ (k : Nat) (x : Nat × va_E), (ai_ws G G.1 h)[k]? = some x → H1[x.1]? = H[x.1]? := fun k x hx => o1 x.1 ((hP.2 k x hx).lt)
  have hsz : H.size = G.1 + h.length := hP.1
  have hP1 : va_P (ai_D G) vwCl (ai_ws G G.1 (h ++ [.inl (z, List.replicate n.toNatClampNeg 0)])) H1 := by
    rw [ai_ws_app]
    refine (hP.2.kept hk).app (fun k x hx => ?_)
    have hz1 : k < 1 := (List.getElem?_eq_some_iff.mp hx).1
    rw [show k = 0 by omega] at hx
    cases hx
    show H1[G.1 + h.length]? = some (vp_cell (ai_ca G z) ((List.replicate n.toNatClampNeg (0 : Int32)).length, .inl (fun j => (List.replicate n.toNatClampNeg (0 : Int32)).getD j 0)))
    rw [← hsz, e1, hcA, vp_cell_i, List.length_replicate]
    have hf : (fun j => Value.int ((List.replicate n.toNatClampNeg (0 : Int32)).getD j 0)) = fun _ => defaultValue (newarray.typeOf t) := by
      funext j
      have : (List.replicate n.toNatClampNeg (0 : Int32)).getD j 0 = 0 := by
        rw [List.getD_eq_getElem?_getD, List.getElem?_replicate]
        split <;> rfl
      rw [this]
      rcases hz with ⟨rfl, rfl⟩ | ⟨rfl, rfl⟩ <;> rfl
    rw [hf]
  have e2 : ({ F0 m pc ls ((.int n :: r).map (ai_v G)) with pc := (F0 m pc ls ((.int n :: r).map (ai_v G))).pc + 2, stack := .ref H.size :: r.map (ai_v G) } : JFrame) = F0 m (pc + 2) ls ((.ref h.length :: r).map (ai_v G)) := by
    rw [hsz]; rfl
  rw [e2]
  exact kk H1 ⟨by rw [z1, hsz, List.length_append]; rfl, hP1⟩ ⟨by have := hS.1; omega, fun x h1 h2 => (o1 x (Nat.lt_of_lt_of_le h1 hS.1)).trans (hS.2.1 x h1 h2), hS.2.2⟩
theorem ai_R_iald (C : ai_C p s m args meth c M G X) {a : Nat} {o : List Int32} {j x : Int32} (hd : decode (ai_cc M) pc = .ok (.iaload, 1)) (ho : ai_nth h a = some (.inl (false, o))) (hj : ai_ix o j = some x) (hP : ai_P G h H)
    (kk : W p l e (ai_rm M) s m args below meth c H locs cs sl Q (F0 m (pc + 1) ls ((.int x :: r).map (ai_v G)))) : W p l e (ai_rm M) s m args below meth c H locs cs sl Q (F0 m pc ls ((.int j :: .ref a :: r).map (ai_v G))) := by
  obtain ⟨hx, hb, hr, hml, hown, hts, hlk, hini, ⟨hK, hnw, hZ, hXs⟩, hbs, hok, hcn⟩ := C
  obtain ⟨h1, h2⟩ := ai_ixin hj
  subst h2
  exact va_iald hx hb hK hP.2 a 0 (ai_ws_at G.1 ho) rfl h1 hd kk
theorem ai_R_zald (C : ai_C p s m args meth c M G X) {a : Nat} {o : List Int32} {j x : Int32} (hd : decode (ai_cc M) pc = .ok (.baload, 1)) (ho : ai_nth h a = some (.inl (true, o))) (hj : ai_ix o j = some x) (hP : ai_P G h H)
    (kk : W p l e (ai_rm M) s m args below meth c H locs cs sl Q (F0 m (pc + 1) ls ((.int x :: r).map (ai_v G)))) : W p l e (ai_rm M) s m args below meth c H locs cs sl Q (F0 m pc ls ((.int j :: .ref a :: r).map (ai_v G))) := by
  obtain ⟨hx, hb, hr, hml, hown, hts, hlk, hini, ⟨hK, hnw, hZ, hXs⟩, hbs, hok, hcn⟩ := C
  obtain ⟨h1, h2⟩ := ai_ixin hj
  subst h2
  exact va_zald hx hb hK hP.2 a 1 (ai_ws_at G.1 ho) rfl h1 hd kk
theorem ai_R_xald (C : ai_C p s m args meth c M G X) {a : Nat} {o : List Int32} {j x : Int32} (hd : decode (ai_cc M) pc = .ok (.iaload, 1)) (ho : ai_nth X a = some o) (hj : ai_ix o j = some x) (hS : va_S (fun q => G.1 ≤ q) s.heap H locs)
    (kk : W p l e (ai_rm M) s m args below meth c H locs cs sl Q (F0 m (pc + 1) ls ((.int x :: r).map (ai_v G)))) : W p l e (ai_rm M) s m args below meth c H locs cs sl Q (F0 m pc ls ((.int j :: .retAddr a :: r).map (ai_v G))) := by
  obtain ⟨hx, hb, hr, hml, hown, hts, hlk, hini, ⟨hK, hnw, hZ, hXs⟩, hbs, hok, hcn⟩ := C
  obtain ⟨h1, h2⟩ := ai_ixin hj
  obtain ⟨x1, x2⟩ := hXs a o ho
  subst h2
  exact va_sld hx hb x1 (by omega) (by show ¬ G.1 ≤ G.2.1 a; omega) hS h1 hd kk
theorem ai_R_alen (C : ai_C p s m args meth c M G X) {a : Nat} {o : Bool × List Int32} (hd : decode (ai_cc M) pc = .ok (.arraylength, 1)) (ho : ai_nth h a = some (.inl o)) (hP : ai_P G h H)
    (kk : W p l e (ai_rm M) s m args below meth c H locs cs sl Q (F0 m (pc + 1) ls ((.int (Int32.ofNat o.2.length) :: r).map (ai_v G)))) : W p l e (ai_rm M) s m args below meth c H locs cs sl Q (F0 m pc ls ((.ref a :: r).map (ai_v G))) := by
  obtain ⟨hx, hb, hr, hml, hown, hts, hlk, hini, ⟨hK, hnw, hZ, hXs⟩, hbs, hok, hcn⟩ := C
  obtain ⟨z, o⟩ := o
  cases z with
  | false => exact va_alen (ty := .int) hx hb hK hP.2 a 0 (ai_ws_at G.1 ho) rfl rfl hd kk
  | true => exact va_alen (ty := .boolean) hx hb hK hP.2 a 1 (ai_ws_at G.1 ho) rfl rfl hd kk
theorem ai_R_xlen (C : ai_C p s m args meth c M G X) {a : Nat} {o : List Int32} (hd : decode (ai_cc M) pc = .ok (.arraylength, 1)) (ho : ai_nth X a = some o) (hS : va_S (fun q => G.1 ≤ q) s.heap H locs)
    (kk : W p l e (ai_rm M) s m args below meth c H locs cs sl Q (F0 m (pc + 1) ls ((.int (Int32.ofNat o.length) :: r).map (ai_v G)))) : W p l e (ai_rm M) s m args below meth c H locs cs sl Q (F0 m pc ls ((.retAddr a :: r).map (ai_v G))) := by
  obtain ⟨hx, hb, hr, hml, hown, hts, hlk, hini, ⟨hK, hnw, hZ, hXs⟩, hbs, hok, hcn⟩ := C
  obtain ⟨x1, x2⟩ := hXs a o ho
  exact va_slen hx hb x1 (by omega) (by show ¬ G.1 ≤ G.2.1 a; omega) hS hd kk
theorem ai_R_iast (C : ai_C p s m args meth c M G X) {a : Nat} {o o2 : List Int32} {j x : Int32} (hd : decode (ai_cc M) pc = .ok (.iastore, 1)) (ho : ai_nth h a = some (.inl (false, o))) (hj : ai_up o j x = some o2) (hN : s.heap.size + cs = G.1 + h.length) (hP : ai_P G h H) (hS : va_S (fun q => G.1 ≤ q) s.heap H locs)
    (kk : ∀ (H : Heap) (locs : List Loc), ai_P G (h.set a (.inl (false, o2))) H → va_S (fun q => G.1 ≤ q) s.heap H locs → W p l e (ai_rm M) s m args below meth c H locs cs sl Q (F0 m (pc + 1) ls (r.map (ai_v G)))) : W p l e (ai_rm M) s m args below meth c H locs cs sl Q (F0 m pc ls ((.int x :: .int j :: .ref a :: r).map (ai_v G))) := by
  obtain ⟨hx, hb, hr, hml, hown, hts, hlk, hini, ⟨hK, hnw, hZ, hXs⟩, hbs, hok, hcn⟩ := C
  obtain ⟨h1, h2, h3, h4⟩ := ai_upin hj
  refine va_iast hx hb hK hP.2 (ai_ws_D G h) hS a 0 (ai_ws_at G.1 ho) rfl h1 hd (fun H1 locs1 hP1 _ hS1 => ?_)
  have e1 : (ai_ws G G.1 h).set a (G.1 + a, .inl (ai_ca G false, o.length, .inl (upd (fun k => o.getD k 0) j.toNatClampNeg x))) = ai_ws G G.1 (h.set a (.inl (false, o2))) := by
    rw [h4, ← h3]
    exact ai_ws_set G (.inl (false, o2)) h G.1 a
  have hP2 := e1 ▸ hP1
  exact ai_sz hbs (by rw [List.length_set]; exact hN) hP2 hS1 (fun hP2 => kk H1 locs1 hP2 hS1)
theorem ai_R_zast (C : ai_C p s m args meth c M G X) {a : Nat} {o o2 : List Int32} {j x : Int32} (hd : decode (ai_cc M) pc = .ok (.bastore, 1)) (ho : ai_nth h a = some (.inl (true, o))) (hj : ai_up o j (vp_nar .boolean x) = some o2) (hN : s.heap.size + cs = G.1 + h.length) (hP : ai_P G h H) (hS : va_S (fun q => G.1 ≤ q) s.heap H locs)
    (kk : ∀ (H : Heap) (locs : List Loc), ai_P G (h.set a (.inl (true, o2))) H → va_S (fun q => G.1 ≤ q) s.heap H locs → W p l e (ai_rm M) s m args below meth c H locs cs sl Q (F0 m (pc + 1) ls (r.map (ai_v G)))) : W p l e (ai_rm M) s m args below meth c H locs cs sl Q (F0 m pc ls ((.int x :: .int j :: .ref a :: r).map (ai_v G))) := by
  obtain ⟨hx, hb, hr, hml, hown, hts, hlk, hini, ⟨hK, hnw, hZ, hXs⟩, hbs, hok, hcn⟩ := C
  obtain ⟨h1, h2, h3, h4⟩ := ai_upin hj
  refine va_zast hx hb hK hP.2 (ai_ws_D G h) hS a 1 (ai_ws_at G.1 ho) rfl h1 hd (fun H1 locs1 hP1 _ hS1 => ?_)
  have e1 : (ai_ws G G.1 h).set a (G.1 + a, .inl (ai_ca G true, o.length, .inl (upd (fun k => o.getD k 0) j.toNatClampNeg (vp_nar .boolean x)))) = ai_ws G G.1 (h.set a (.inl (true, o2))) := by
    rw [h4, ← h3]
    exact ai_ws_set G (.inl (true, o2)) h G.1 a
  have hP2 := e1 ▸ hP1
  exact ai_sz hbs (by rw [List.length_set]; exact hN) hP2 hS1 (fun hP2 => kk H1 locs1 hP2 hS1)
theorem ai_nwF : Jvm.Cond.fieldLinkNest "FourWaters$Sea" 80 "FourWaters" "FIRST_DENSITY" "[I" "FourWaters" ∈ ai_nw := by decide +kernel
theorem ai_R_gets (C : ai_C p s m args meth c M G X) {k : Nat} (hd : decode (ai_cc M) pc = .ok (.getstatic k, 3)) (hk : (Nat.beq k 80 && Nat.beq (ai_cl M) 2) = true) (hS : va_S (fun q => G.1 ≤ q) s.heap H locs)
    (kk : W p l e (ai_rm M) s m args below meth c H locs cs sl Q (F0 m (pc + 3) ls ((.retAddr 0 :: r).map (ai_v G)))) : W p l e (ai_rm M) s m args below meth c H locs cs sl Q (F0 m pc ls (r.map (ai_v G))) := by
  obtain ⟨hx, hb, hr, hml, hown, hts, hlk, hini, ⟨hK, hnw, hZ, hXs⟩, hbs, hok, hcn⟩ := C
  rw [Bool.and_eq_true] at hk
  have e1 : k = 80 := Nat.eq_of_beq_eq_true hk.1
  have e2 : ai_cl M = 2 := Nat.eq_of_beq_eq_true hk.2
  subst e1
  rw [e2] at hcn
  have hown2 : s.vm.findClass "FourWaters$Sea" = some m.cls := by rw [← hown, ← hcn]; rfl
  exact va_getsN hx hb hZ.1 hS hown2 (va_Nw.use rfl (hnw _ ai_nwF)) (fun x hx => hx) hd kk
end AIS
