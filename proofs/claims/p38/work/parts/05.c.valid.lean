/-! the pools' tables are what the words say -/
def ai_tk2 (ty : Option FieldType) (k : Nat) : Bool := match ty with
  | some .int => Nat.beq k 0
  | some .boolean => Nat.beq k 1
  | some .long => Nat.beq k 2
  | some (.object _) => Nat.beq k 3
  | some (.array _) => Nat.beq k 3
  | _ => false
def ai_okF (c : Nat) (q : Nat × Nat × Nat × Bool × Nat × Nat) : Bool := match ai_nth vwCl q.2.1 with
  | some t => Nat.blt q.2.2.1 t.2.2 && decide (lw_tbl[q.2.2.2.2.2]? = some (Jvm.Cond.fieldLink (ai_cn c) q.1 t.1 (t.2.1 q.2.2.1).2.1 (t.2.1 q.2.2.1).2.2.1)) && decide ((t.2.1 q.2.2.1).1 = t.1) && decide ((t.2.1 q.2.2.1).2.2.2 = q.2.2.2.1) && ai_tk2 (parseFieldDescriptor (t.2.1 q.2.2.1).2.2.1) q.2.2.2.2.1
  | none => false
theorem ai_flO : ∀ c, (ai_flT c).all (ai_okF c) = true
  | 0 => by decide +kernel
  | 1 => by decide +kernel
  | 2 => by decide +kernel
  | 3 => by decide +kernel
  | 4 => by decide +kernel
  | 5 => by decide +kernel
  | 6 => by decide +kernel
  | 7 => by decide +kernel
  | 8 => by decide +kernel
  | 9 => by decide +kernel
  | 10 => by decide +kernel
  | 11 => by decide +kernel
  | 12 => by decide +kernel
  | _ + 13 => rfl
def ai_okE (c : Nat) (q : Nat × Nat × Nat) : Bool := match ai_nth vwCl q.2.1 with
  | some t => decide (lw_tbl[q.2.2]? = some (Jvm.Cond.classLink (ai_cn c) q.1 t.1))
  | none => false
theorem ai_neO : ∀ c, (ai_neT c).all (ai_okE c) = true
  | 0 => by decide +kernel
  | 1 => by decide +kernel
  | 2 => by decide +kernel
  | 3 => by decide +kernel
  | 4 => by decide +kernel
  | 5 => by decide +kernel
  | 6 => by decide +kernel
  | 7 => by decide +kernel
  | 8 => by decide +kernel
  | 9 => by decide +kernel
  | 10 => by decide +kernel
  | 11 => by decide +kernel
  | 12 => by decide +kernel
  | _ + 13 => rfl
def ai_okJ (c : Nat) (q : Nat × Int32 × Nat) : Bool := decide (lw_tbl[q.2.2]? = some (Jvm.Cond.constant (ai_cn c) q.1 q.2.1))
theorem ai_ciO : ∀ c, (ai_ciT c).all (ai_okJ c) = true
  | 0 => by decide +kernel
  | 1 => by decide +kernel
  | 2 => by decide +kernel
  | 3 => by decide +kernel
  | 4 => by decide +kernel
  | 5 => by decide +kernel
  | 6 => by decide +kernel
  | 7 => by decide +kernel
  | 8 => by decide +kernel
  | 9 => by decide +kernel
  | 10 => by decide +kernel
  | 11 => by decide +kernel
  | 12 => by decide +kernel
  | _ + 13 => rfl
def ai_okL (c : Nat) (q : Nat × Int64 × Nat) : Bool := decide (lw_tbl[q.2.2]? = some (Jvm.Cond.constantLong (ai_cn c) q.1 q.2.1))
theorem ai_clO : ∀ c, (ai_clT c).all (ai_okL c) = true
  | 0 => by decide +kernel
  | 1 => by decide +kernel
  | 2 => by decide +kernel
  | 3 => by decide +kernel
  | 4 => by decide +kernel
  | 5 => by decide +kernel
  | 6 => by decide +kernel
  | 7 => by decide +kernel
  | 8 => by decide +kernel
  | 9 => by decide +kernel
  | 10 => by decide +kernel
  | 11 => by decide +kernel
  | 12 => by decide +kernel
  | _ + 13 => rfl
def ai_nn : Nat → Option MethodName
  | 0 => some Lib.objectInit
  | 1 => some arraycopyName
  | 2 => some ⟨"java/lang/String", "length", "()I"⟩
  | 3 => some ⟨"java/lang/String", "charAt", "(I)C"⟩
  | 4 => some Lib.Math.max.name
  | 5 => some Lib.Math.min.name
  | _ => none
def ai_okA (c : Nat) (q : Nat × Nat × Nat) : Bool := match ai_nn q.2.1 with
  | some y => decide (lw_tbl[q.2.2]? = some (Jvm.Cond.methodLink (ai_cn c) q.1 y))
  | none => true
theorem ai_naO : ∀ c, (ai_naT c).all (ai_okA c) = true
  | 0 => by decide +kernel
  | 1 => by decide +kernel
  | 2 => by decide +kernel
  | 3 => by decide +kernel
  | 4 => by decide +kernel
  | 5 => by decide +kernel
  | 6 => by decide +kernel
  | 7 => by decide +kernel
  | 8 => by decide +kernel
  | 9 => by decide +kernel
  | 10 => by decide +kernel
  | 11 => by decide +kernel
  | 12 => by decide +kernel
  | _ + 13 => rfl
def ai_okK (c : Nat) (q : Nat × Nat × Nat × ai_M × List Nat) : Bool :=
  let y := ai_y q.2.2.2.1
  decide (y.cls ≠ "java/lang/invoke/MethodHandle") && decide (y.cls ≠ "java/lang/invoke/VarHandle") && decide ((parseMethodDescriptor y.desc).map (fun d => d.parameters.length) = some q.2.2.1) && decide (ai_cn (ai_cl q.2.2.2.1) = ai_own q.2.2.2.1) && decide (y.cls = ai_own q.2.2.2.1) &&
  (match q.2.1 with
  | 0 => decide (lw_tbl[q.2.2.2.2.getD 0 0]? = some (Jvm.Cond.methodLink (ai_cn c) q.1 y)) && decide (lw_tbl[q.2.2.2.2.getD 1 0]? = some (Jvm.Cond.instanceMethod y)) && decide (lw_tbl[q.2.2.2.2.getD 2 0]? = some (Jvm.Cond.selects y.cls y y)) && decide (lw_tbl[q.2.2.2.2.getD 3 0]? = some (Jvm.Cond.initialized y.cls)) && (match ai_nth vwCl (ai_cl q.2.2.2.1) with | some t => decide (t.1 = y.cls) | none => false)
  | 1 => decide (lw_tbl[q.2.2.2.2.getD 0 0]? = some (Jvm.Cond.methodLink (ai_cn c) q.1 y)) && decide (lw_tbl[q.2.2.2.2.getD 1 0]? = some (Jvm.Cond.static y)) && decide (lw_tbl[q.2.2.2.2.getD 2 0]? = some (Jvm.Cond.initialized y.cls))
  | 2 => decide (lw_tbl[q.2.2.2.2.getD 0 0]? = some (Jvm.Cond.methodLink (ai_cn c) q.1 y)) && decide (lw_tbl[q.2.2.2.2.getD 1 0]? = some (Jvm.Cond.instanceMethod y)) && decide (lw_tbl[q.2.2.2.2.getD 2 0]? = some (Jvm.Cond.initialized y.cls)) && decide (y.name = "<init>") && decide (ai_rt q.2.2.2.1 = none)
  | 4 => decide (lw_tbl[q.2.2.2.2.getD 0 0]? = some (Jvm.Cond.methodLinkNest (ai_cn c) q.1 y "FourWaters")) && (ai_nwI.contains (q.2.2.2.2.getD 0 0)) && decide (lw_tbl[q.2.2.2.2.getD 1 0]? = some (Jvm.Cond.static y)) && decide (lw_tbl[q.2.2.2.2.getD 2 0]? = some (Jvm.Cond.initialized y.cls))
  | 5 => decide (lw_tbl[q.2.2.2.2.getD 0 0]? = some (Jvm.Cond.methodLinkNest (ai_cn c) q.1 y "FourWaters")) && (ai_nwI.contains (q.2.2.2.2.getD 0 0)) && decide (lw_tbl[q.2.2.2.2.getD 1 0]? = some (Jvm.Cond.instanceMethod y)) && decide (lw_tbl[q.2.2.2.2.getD 2 0]? = some (Jvm.Cond.initialized y.cls)) && decide (y.name = "<init>") && decide (ai_rt q.2.2.2.1 = none)
  | _ => false)
theorem ai_caK : ∀ c, (ai_caT c).all (ai_okK c) = true
  | 0 => by decide +kernel
  | 1 => by decide +kernel
  | 2 => by decide +kernel
  | 3 => by decide +kernel
  | 4 => by decide +kernel
  | 5 => by decide +kernel
  | 6 => by decide +kernel
  | 7 => by decide +kernel
  | 8 => by decide +kernel
  | 9 => by decide +kernel
  | 10 => by decide +kernel
  | 11 => by decide +kernel
  | 12 => by decide +kernel
  | _ + 13 => rfl
def ai_okS (c : Nat) (q : Nat × Nat) : Bool := decide (q.2 < 8) && decide (ai_stN.getD q.2 0 = q.1) && decide (ai_cn c = ai_stO)
theorem ai_stK : ∀ c, (ai_stT c).all (ai_okS c) = true
  | 4 => by decide +kernel
  | 0 => rfl
  | 1 => rfl
  | 2 => rfl
  | 3 => rfl
  | _ + 5 => rfl
