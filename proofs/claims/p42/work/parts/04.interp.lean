/-! an interpreter over abstract cells: refs are places of a list, retAddr k is the k-th thing outside -/
abbrev ai_E : Type := (Bool × List Int32) ⊕ (Nat × List Value)
abbrev ai_H : Type := List ai_E
abbrev ai_L : Type := List (Option Value)
def ai_fd : List (Nat × Instr × Nat) → Nat → Option Instr
  | [], _ => none
  | q :: t, pc => match Nat.beq q.1 pc with
    | true => some q.2.1
    | false => ai_fd t pc
def ai_by {α : Type} : List (Nat × α) → Nat → Option α
  | [], _ => none
  | q :: t, k => match Nat.beq q.1 k with
    | true => some q.2
    | false => ai_by t k
def ai_nth {α : Type} : List α → Nat → Option α
  | [], _ => none
  | a :: _, 0 => some a
  | _ :: t, k + 1 => ai_nth t k
def ai_lo (L : ai_L) (i : Nat) : Option Value := match ai_nth L i with
  | some (some v) => some v
  | _ => none
/-- a long just ahead of place i is lost -/
def ai_cu (L : ai_L) : Nat → ai_L
  | 0 => L
  | j + 1 => match ai_lo L j with
    | some w => match w.category with
      | 2 => L.set j none
      | _ => L
    | none => L
def ai_s1 (L : ai_L) (i : Nat) (v : Value) : ai_L := (ai_cu L i).set i (some v)
def ai_s2 (L : ai_L) (i : Nat) (v : Value) : ai_L := ((ai_cu L i).set i (some v)).set (i + 1) none
def ai_jp (pc : Nat) (off : Int) : Option Nat := match (pc : Int) + off with
  | .ofNat t => some t
  | .negSucc _ => none
def ai_br {α : Type} (c : Jvm.ClassFile.Cond) (x y : Int32) (a b : α) : α := match c with
  | .eq => if x = y then a else b
  | .ne => if x = y then b else a
  | .lt => if x < y then a else b
  | .ge => if y ≤ x then a else b
  | .gt => if y < x then a else b
  | .le => if x ≤ y then a else b
def ai_ix (l : List Int32) (i : Int32) : Option Int32 := if i < 0 then none else ai_nth l i.toNatClampNeg
def ai_up (l : List Int32) (i x : Int32) : Option (List Int32) := if i < 0 then none else match Nat.blt i.toNatClampNeg l.length with
  | true => some (l.set i.toNatClampNeg x)
  | false => none
def ai_fv (k : Nat) (v : Value) : Bool := match v with
  | .int x => match k with
    | 0 => true
    | 1 => decide (x = 0 ∨ x = 1)
    | _ => false
  | .long _ => Nat.beq k 2
  | .ref _ => Nat.beq k 3
  | .null => Nat.beq k 3
  | _ => false
def ai_cat (st : List Value) : Nat := (st.map fun v => v.category).sum
abbrev ai_S : Type := Nat × ai_L × List Value × ai_H × Nat × Nat
def ai_step (X : List (List Int32)) (M : ai_M) (i : Instr) (pc : Nat) (L : ai_L) (st : List Value) (h : ai_H) (cs sl : Nat) : Option ai_S :=
  match i with
  | .iconst k => some (pc + 1, L, .int (Int32.ofInt k) :: st, h, cs, sl)
  | .bipush k => some (pc + 2, L, .int (Int8.ofInt k).toInt32 :: st, h, cs, sl)
  | .sipush k => some (pc + 3, L, .int (Int16.ofInt k).toInt32 :: st, h, cs, sl)
  | .lconst k => some (pc + 1, L, .long (Int64.ofNat k.val) :: st, h, cs, sl)
  | .iload_n k => match ai_lo L k.val with
    | some (.int x) => some (pc + 1, L, .int x :: st, h, cs, sl)
    | _ => none
  | .iload k => match ai_lo L k with
    | some (.int x) => some (pc + 2, L, .int x :: st, h, cs, sl)
    | _ => none
  | .lload_n k => match ai_lo L k.val with
    | some (.long x) => some (pc + 1, L, .long x :: st, h, cs, sl)
    | _ => none
  | .lload k => match ai_lo L k with
    | some (.long x) => some (pc + 2, L, .long x :: st, h, cs, sl)
    | _ => none
  | .aload_n k => match ai_lo L k.val with
    | some (.ref x) => some (pc + 1, L, .ref x :: st, h, cs, sl)
    | some (.retAddr x) => some (pc + 1, L, .retAddr x :: st, h, cs, sl)
    | _ => none
  | .aload k => match ai_lo L k with
    | some (.ref x) => some (pc + 2, L, .ref x :: st, h, cs, sl)
    | some (.retAddr x) => some (pc + 2, L, .retAddr x :: st, h, cs, sl)
    | _ => none
  | .istore_n k => match st with
    | .int x :: r => match Nat.blt k.val L.length with
      | true => some (pc + 1, ai_s1 L k.val (.int x), r, h, cs, sl)
      | false => none
    | _ => none
  | .istore k => match st with
    | .int x :: r => match Nat.blt k L.length with
      | true => some (pc + 2, ai_s1 L k (.int x), r, h, cs, sl)
      | false => none
    | _ => none
  | .astore_n k => match st with
    | .ref x :: r => match Nat.blt k.val L.length with
      | true => some (pc + 1, ai_s1 L k.val (.ref x), r, h, cs, sl)
      | false => none
    | _ => none
  | .astore k => match st with
    | .ref x :: r => match Nat.blt k L.length with
      | true => some (pc + 2, ai_s1 L k (.ref x), r, h, cs, sl)
      | false => none
    | _ => none
  | .lstore_n k => match st with
    | .long x :: r => match Nat.blt (k.val + 1) L.length with
      | true => some (pc + 1, ai_s2 L k.val (.long x), r, h, cs, sl)
      | false => none
    | _ => none
  | .lstore k => match st with
    | .long x :: r => match Nat.blt (k + 1) L.length with
      | true => some (pc + 2, ai_s2 L k (.long x), r, h, cs, sl)
      | false => none
    | _ => none
  | .iinc k d => match ai_lo L k with
    | some (.int x) => match Nat.blt k L.length with
      | true => some (pc + 3, ai_s1 L k (.int (x + Int32.ofInt d)), st, h, cs, sl)
      | false => none
    | _ => none
  | .iadd => match st with
    | .int y :: .int x :: r => some (pc + 1, L, .int (x + y) :: r, h, cs, sl)
    | _ => none
  | .isub => match st with
    | .int y :: .int x :: r => some (pc + 1, L, .int (x - y) :: r, h, cs, sl)
    | _ => none
  | .imul => match st with
    | .int y :: .int x :: r => some (pc + 1, L, .int (x * y) :: r, h, cs, sl)
    | _ => none
  | .iand => match st with
    | .int y :: .int x :: r => some (pc + 1, L, .int (x &&& y) :: r, h, cs, sl)
    | _ => none
  | .ior => match st with
    | .int y :: .int x :: r => some (pc + 1, L, .int (x ||| y) :: r, h, cs, sl)
    | _ => none
  | .ixor => match st with
    | .int y :: .int x :: r => some (pc + 1, L, .int (x ^^^ y) :: r, h, cs, sl)
    | _ => none
  | .ishl => match st with
    | .int y :: .int x :: r => some (pc + 1, L, .int (x <<< (y &&& 31)) :: r, h, cs, sl)
    | _ => none
  | .ishr => match st with
    | .int y :: .int x :: r => some (pc + 1, L, .int (x >>> (y &&& 31)) :: r, h, cs, sl)
    | _ => none
  | .iushr => match st with
    | .int y :: .int x :: r => some (pc + 1, L, .int (x.toUInt32 >>> (y.toUInt32 &&& Int32.toUInt32 31)).toInt32 :: r, h, cs, sl)
    | _ => none
  | .idiv => match st with
    | .int y :: .int x :: r => if y = 0 then none else some (pc + 1, L, .int (x / y) :: r, h, cs, sl)
    | _ => none
  | .irem => match st with
    | .int y :: .int x :: r => if y = 0 then none else some (pc + 1, L, .int (x - x / y * y) :: r, h, cs, sl)
    | _ => none
  | .ineg => match st with
    | .int x :: r => some (pc + 1, L, .int (-x) :: r, h, cs, sl)
    | _ => none
  | .ladd => match st with
    | .long y :: .long x :: r => some (pc + 1, L, .long (x + y) :: r, h, cs, sl)
    | _ => none
  | .lsub => match st with
    | .long y :: .long x :: r => some (pc + 1, L, .long (x - y) :: r, h, cs, sl)
    | _ => none
  | .lmul => match st with
    | .long y :: .long x :: r => some (pc + 1, L, .long (x * y) :: r, h, cs, sl)
    | _ => none
  | .ldiv => match st with
    | .long y :: .long x :: r => if y = 0 then none else some (pc + 1, L, .long (x / y) :: r, h, cs, sl)
    | _ => none
  | .lrem => match st with
    | .long y :: .long x :: r => if y = 0 then none else some (pc + 1, L, .long (x - x / y * y) :: r, h, cs, sl)
    | _ => none
  | .i2l => match st with
    | .int x :: r => some (pc + 1, L, .long x.toInt64 :: r, h, cs, sl)
    | _ => none
  | .lcmp => match st with
    | .long y :: .long x :: r => some (pc + 1, L, .int (lg_cmp x y) :: r, h, cs, sl)
    | _ => none
  | .dup => match st with
    | v :: r => match v.category with
      | 1 => some (pc + 1, L, v :: v :: r, h, cs, sl)
      | _ => none
    | _ => none
  | .pop => match st with
    | v :: r => match v.category with
      | 1 => some (pc + 1, L, r, h, cs, sl)
      | _ => none
    | _ => none
  | .pop2 => match st with
    | v :: r => match v.category with
      | 2 => some (pc + 1, L, r, h, cs, sl)
      | _ => none
    | _ => none
  | .dup_x1 => match st with
    | v :: w :: r => match v.category with
      | 1 => match w.category with
        | 1 => some (pc + 1, L, v :: w :: v :: r, h, cs, sl)
        | _ => none
      | _ => none
    | _ => none
  | .dup2 => match st with
    | v :: w :: r => match v.category with
      | 1 => match w.category with
        | 1 => some (pc + 1, L, v :: w :: v :: w :: r, h, cs, sl)
        | _ => none
      | _ => none
    | _ => none
  | .goto off => match ai_jp pc off with
    | some t => some (t, L, st, h, cs, sl)
    | none => none
  | .ifCond c off => match st with
    | .int x :: r => match ai_jp pc off with
      | some t => ai_br c x 0 (some (t, L, r, h, cs, sl)) (some (pc + 3, L, r, h, cs, sl))
      | none => none
    | _ => none
  | .if_icmp c off => match st with
    | .int y :: .int x :: r => match ai_jp pc off with
      | some t => ai_br c x y (some (t, L, r, h, cs, sl)) (some (pc + 3, L, r, h, cs, sl))
      | none => none
    | _ => none
  | .tableswitch d lo hi offs => match st with
    | .int x :: r => if x.toInt < lo ∨ hi < x.toInt then (match ai_jp pc d with
        | some t => some (t, L, r, h, cs, sl)
        | none => none)
      else match offs[(x.toInt - lo).toNat]? with
        | some off => match ai_jp pc off with
          | some t => some (t, L, r, h, cs, sl)
          | none => none
        | none => none
    | _ => none
  | .ldc k => match ai_by (ai_ciT (ai_cl M)) k with
    | some q => some (pc + 2, L, .int q.1 :: st, h, cs, sl)
    | none => match ai_by (ai_stT (ai_cl M)) k with
      | some j => some (pc + 2, L, .retAddr (j + 2) :: st, h, cs, sl)
      | none => none
  | .ldc_w k => match ai_by (ai_ciT (ai_cl M)) k with
    | some q => some (pc + 3, L, .int q.1 :: st, h, cs, sl)
    | none => none
  | .ldc2_w k => match ai_by (ai_clT (ai_cl M)) k with
    | some q => some (pc + 3, L, .long q.1 :: st, h, cs, sl)
    | none => none
  | .getfield k => match st with
    | .ref a :: r => match ai_by (ai_flT (ai_cl M)) k with
      | some q => match ai_nth h a with
        | some (.inr o) => match Nat.beq o.1 q.1 with
          | true => match ai_nth o.2 q.2.1 with
            | some v => some (pc + 3, L, v :: r, h, cs, sl)
            | none => none
          | false => none
        | _ => none
      | none => none
    | _ => none
  | .putfield k => match st with
    | v :: .ref a :: r => match ai_by (ai_flT (ai_cl M)) k with
      | some q => match ai_nth h a with
        | some (.inr o) => match Nat.beq o.1 q.1 && ai_fv q.2.2.2.1 v && Nat.blt q.2.1 o.2.length && (!q.2.2.1 || (Nat.beq (ai_cl M) q.1 && decide ((ai_y M).name = "<init>"))) with
          | true => some (pc + 3, L, r, h.set a (.inr (o.1, o.2.set q.2.1 v)), cs, sl)
          | false => none
        | _ => none
      | none => none
    | _ => none
  | .getstatic k => match Nat.beq k 80 && Nat.beq (ai_cl M) 2 with
    | true => some (pc + 3, L, .retAddr 0 :: st, h, cs, sl)
    | false => none
  | .iaload => match st with
    | .int j :: .ref a :: r => match ai_nth h a with
      | some (.inl o) => match o.1 with
        | false => match ai_ix o.2 j with
          | some x => some (pc + 1, L, .int x :: r, h, cs, sl)
          | none => none
        | true => none
      | _ => none
    | .int j :: .retAddr a :: r => match ai_nth X a with
      | some o => match ai_ix o j with
        | some x => some (pc + 1, L, .int x :: r, h, cs, sl)
        | none => none
      | none => none
    | _ => none
  | .baload => match st with
    | .int j :: .ref a :: r => match ai_nth h a with
      | some (.inl o) => match o.1 with
        | true => match ai_ix o.2 j with
          | some x => some (pc + 1, L, .int x :: r, h, cs, sl)
          | none => none
        | false => none
      | _ => none
    | _ => none
  | .iastore => match st with
    | .int x :: .int j :: .ref a :: r => match ai_nth h a with
      | some (.inl o) => match o.1 with
        | false => match ai_up o.2 j x with
          | some q => some (pc + 1, L, r, h.set a (.inl (false, q)), cs, sl)
          | none => none
        | true => none
      | _ => none
    | _ => none
  | .bastore => match st with
    | .int x :: .int j :: .ref a :: r => match ai_nth h a with
      | some (.inl o) => match o.1 with
        | true => match ai_up o.2 j (vp_nar .boolean x) with
          | some q => some (pc + 1, L, r, h.set a (.inl (true, q)), cs, sl)
          | none => none
        | false => none
      | _ => none
    | _ => none
  | .arraylength => match st with
    | .ref a :: r => match ai_nth h a with
      | some (.inl o) => some (pc + 1, L, .int (Int32.ofNat o.2.length) :: r, h, cs, sl)
      | _ => none
    | .retAddr a :: r => match ai_nth X a with
      | some o => some (pc + 1, L, .int (Int32.ofNat o.length) :: r, h, cs, sl)
      | none => none
    | _ => none
  | .newarray t => match st with
    | .int n :: r => if n < 0 then none else match Nat.blt cs (ai_rm M).cells && Nat.ble (sl + n.toNatClampNeg) (ai_rm M).slots && Nat.ble n.toNatClampNeg 65536 with
      | true => match t with
        | .int => some (pc + 2, L, .ref h.length :: r, h ++ [.inl (false, List.replicate n.toNatClampNeg 0)], cs + 1, sl + n.toNatClampNeg)
        | .boolean => some (pc + 2, L, .ref h.length :: r, h ++ [.inl (true, List.replicate n.toNatClampNeg 0)], cs + 1, sl + n.toNatClampNeg)
        | _ => none
      | false => none
    | _ => none
  | .new k => match ai_by (ai_neT (ai_cl M)) k with
    | some q => match Nat.blt cs (ai_rm M).cells && Nat.ble (sl + ai_dfN q.1) (ai_rm M).slots with
      | true => some (pc + 3, L, .ref h.length :: st, h ++ [.inr (q.1, ai_df q.1)], cs + 1, sl + ai_dfN q.1)
      | false => none
    | none => none
  | _ => none
def ai_rk : Instr → Bool
  | .return_ => true
  | .ireturn => true
  | .lreturn => true
  | .areturn => true
  | _ => false
def ai_ret (M : ai_M) (i : Instr) (st : List Value) (h : ai_H) (cs sl : Nat) : Option (Option Value × ai_H) :=
  match Nat.beq cs (ai_rm M).cells && Nat.ble sl (ai_rm M).slots with
  | false => none
  | true => match i with
    | .return_ => match st with
      | [] => match ai_rt M with
        | none => some (none, h)
        | some _ => none
      | _ => none
    | .ireturn => match st with
      | [.int v] => match ai_rt M with
        | some .int => some (some (.int v), h)
        | some .boolean => if v = 0 ∨ v = 1 then some (some (.int v), h) else none
        | _ => none
      | _ => none
    | .lreturn => match st with
      | [.long v] => match ai_rt M with
        | some .long => some (some (.long v), h)
        | _ => none
      | _ => none
    | .areturn => match st with
      | [.ref k] => match ai_rt M with
        | some (.object _) => some (some (.ref k), h)
        | _ => none
      | [.retAddr k] => match ai_rt M with
        | some (.object _) => some (some (.retAddr k), h)
        | _ => none
      | _ => none
    | _ => none
def ai_ci : Instr → Option (Nat × Nat)
  | .invokevirtual k => some (0, k)
  | .invokestatic k => some (1, k)
  | .invokespecial k => some (2, k)
  | _ => none
/-- a copy of n ints out of f at sp into g at dp -/
def ai_cp (f g : List Int32) (sp dp n : Nat) : List Int32 := g.take dp ++ ((f.drop sp).take n ++ g.drop (dp + n))
def ai_cpy (f g : List Int32) (sp dp n : Int32) : Option (List Int32) :=
  if sp < 0 ∨ dp < 0 ∨ n < 0 then none else match Nat.ble (sp.toNatClampNeg + n.toNatClampNeg) f.length && Nat.ble (dp.toNatClampNeg + n.toNatClampNeg) g.length with
  | true => some (ai_cp f g sp.toNatClampNeg dp.toNatClampNeg n.toNatClampNeg)
  | false => none
/-- a string's length and its signs -/
def ai_sln (k : Nat) : Option Int32 := match k with
  | j + 2 => match ai_nth ai_str j with
    | some l => some (Int32.ofNat l.length)
    | none => none
  | _ => none
def ai_sch (k : Nat) (i : Int32) : Option Int32 := match k with
  | j + 2 => match ai_nth ai_str j with
    | some l => ai_ix l i
    | none => none
  | _ => none
/-- calls that are rows of the kit: 0 Object's maker, 1 arraycopy, 2 a string's length, 3 its sign at a place, 4 max, 5 min -/
def ai_nat (X : List (List Int32)) (M : ai_M) (kb w : Nat) (st : List Value) (h : ai_H) (cs sl : Nat) : Option (List Value × ai_H) :=
  match Nat.ble 1 (ai_rm M).frames && Nat.ble cs (ai_rm M).cells && Nat.ble sl (ai_rm M).slots with
  | false => none
  | true => match w with
    | 0 => match st with
      | .ref _ :: r => match Nat.beq kb 2 && Nat.ble (ai_cat r + 12) (ai_rm M).locals with
        | true => some (r, h)
        | false => none
      | _ => none
    | 1 => match st with
      | .int n :: .int dp :: .ref a :: .int sp :: q :: r => match Nat.beq kb 1 && Nat.ble (ai_cat r + (nativeFrameWords "java/lang/System" "arraycopy" 5 + 11)) (ai_rm M).locals with
        | true => match ai_nth h a with
          | some (.inl o) => match o.1 with
            | false => match q with
              | .ref b => match ai_nth h b with
                | some (.inl f) => match f.1 with
                  | false => match ai_cpy f.2 o.2 sp dp n with
                    | some z => some (r, h.set a (.inl (false, z)))
                    | none => none
                  | true => none
                | _ => none
              | .retAddr b => match ai_nth X b with
                | some f => match ai_cpy f o.2 sp dp n with
                  | some z => some (r, h.set a (.inl (false, z)))
                  | none => none
                | none => none
              | _ => none
            | true => none
          | _ => none
        | false => none
      | _ => none
    | 2 => match st with
      | .retAddr k :: r => match Nat.beq kb 0 && Nat.ble 4 (ai_rm M).frames && Nat.ble 85 (ai_rm M).locals && Nat.ble (ai_cat r) 8 with
        | true => match ai_sln k with
          | some x => some (.int x :: r, h)
          | none => none
        | false => none
      | _ => none
    | 3 => match st with
      | .int i :: .retAddr k :: r => match Nat.beq kb 0 && Nat.ble 4 (ai_rm M).frames && Nat.ble 85 (ai_rm M).locals && Nat.ble (ai_cat r) 8 with
        | true => match ai_sch k i with
          | some x => some (.int x :: r, h)
          | none => none
        | false => none
      | _ => none
    | 4 => match st with
      | .int y :: .int x :: r => match Nat.beq kb 1 && Nat.ble (ai_cat r + 13) (ai_rm M).locals with
        | true => some (.int (if x < y then y else x) :: r, h)
        | false => none
      | _ => none
    | 5 => match st with
      | .int y :: .int x :: r => match Nat.beq kb 1 && Nat.ble (ai_cat r + 13) (ai_rm M).locals with
        | true => some (.int (if y < x then y else x) :: r, h)
        | false => none
      | _ => none
    | _ => none
def ai_tk : Nat → List Value → List Value → Option (List Value × List Value)
  | 0, st, acc => some (acc, st)
  | n + 1, v :: st, acc => ai_tk n st (v :: acc)
  | _ + 1, [], _ => none
def ai_en : List Value → ai_L
  | [] => []
  | v :: t => match v.category with
    | 2 => some v :: none :: ai_en t
    | _ => some v :: ai_en t
def ai_pad : Nat → ai_L → ai_L
  | 0, L => L
  | n + 1, [] => none :: ai_pad n []
  | n + 1, x :: t => x :: ai_pad n t
/-- room of a call: the callee's in the caller's -/
def ai_fit (R R' : Room) (mL cs sl : Nat) (rest : List Value) : Bool :=
  Nat.ble (R'.frames + 1) R.frames && Nat.ble (8 + (mL + 11) + R'.locals) R.locals && Nat.ble (cs + R'.cells) R.cells && Nat.ble (sl + R'.slots) R.slots && Nat.ble (ai_cat rest) 8
/-- a call's arguments: those off the stack; for a method of an object its cell must be of the method's class -/
def ai_arg (M : ai_M) (kb k n : Nat) (M' : ai_M) (st : List Value) (h : ai_H) (cs sl : Nat) : Option (List Value × List Value) :=
  match k with
  | 0 => match ai_tk n st [] with
    | some (as, .ref a :: rest) => match ai_nth h a with
      | some (.inr o) => match Nat.beq kb 0 && Nat.beq o.1 (ai_cl M') && ai_fit (ai_rm M) (ai_rm M') (ai_mL M') cs sl rest && Nat.ble (ai_en (.ref a :: as)).length (ai_mL M') with
        | true => some (.ref a :: as, rest)
        | false => none
      | _ => none
    | _ => none
  | 1 => match ai_tk n st [] with
    | some (as, rest) => match Nat.beq kb 1 && ai_fit (ai_rm M) (ai_rm M') (ai_mL M') cs sl rest && Nat.ble (ai_en as).length (ai_mL M') with
      | true => some (as, rest)
      | false => none
    | none => none
  | 4 => match ai_tk n st [] with
    | some (as, rest) => match Nat.beq kb 1 && ai_fit (ai_rm M) (ai_rm M') (ai_mL M') cs sl rest && Nat.ble (ai_en as).length (ai_mL M') with
      | true => some (as, rest)
      | false => none
    | none => none
  | 2 => match ai_tk n st [] with
    | some (as, .ref a :: rest) => match Nat.beq kb 2 && ai_fit (ai_rm M) (ai_rm M') (ai_mL M') cs sl rest && Nat.ble (ai_en (.ref a :: as)).length (ai_mL M') with
      | true => some (.ref a :: as, rest)
      | false => none
    | _ => none
  | 5 => match ai_tk n st [] with
    | some (as, .ref a :: rest) => match Nat.beq kb 2 && ai_fit (ai_rm M) (ai_rm M') (ai_mL M') cs sl rest && Nat.ble (ai_en (.ref a :: as)).length (ai_mL M') with
      | true => some (.ref a :: as, rest)
      | false => none
    | _ => none
  | _ => none
def ai_run (X : List (List Int32)) : Nat → ai_M → Nat → ai_L → List Value → ai_H → Nat → Nat → Option (Option Value × ai_H)
  | 0, _, _, _, _, _, _, _ => none
  | n + 1, M, pc, L, st, h, cs, sl => match ai_fd (ai_cd M) pc with
    | none => none
    | some i => match ai_ci i with
      | none => match ai_rk i with
        | true => ai_ret M i st h cs sl
        | false => match ai_step X M i pc L st h cs sl with
          | none => none
          | some q => ai_run X n M q.1 q.2.1 q.2.2.1 q.2.2.2.1 q.2.2.2.2.1 q.2.2.2.2.2
      | some k => match ai_by (ai_naT (ai_cl M)) k.2 with
        | some w => match ai_nat X M k.1 w.1 st h cs sl with
          | none => none
          | some q => ai_run X n M (pc + 3) L q.1 q.2 cs sl
        | none => match ai_by (ai_caT (ai_cl M)) k.2 with
          | none => none
          | some w => match ai_arg M k.1 w.1 w.2.1 w.2.2.1 st h cs sl with
            | none => none
            | some q => match ai_run X n w.2.2.1 0 (ai_pad (ai_mL w.2.2.1) (ai_en q.1)) [] h 0 0 with
              | none => none
              | some z => ai_run X n M (pc + 3) L (z.1.toList ++ q.2) z.2 (cs + (ai_rm w.2.2.1).cells) (sl + (ai_rm w.2.2.1).slots)
/-! the interpreter's cells and values in the machine -/
theorem ai_nth_eq {α : Type} : ∀ (l : List α) (k : Nat), ai_nth l k = l[k]?
  | [], _ => by simp [ai_nth]
  | _ :: _, 0 => by simp [ai_nth]
  | _ :: t, k + 1 => by simp [ai_nth, ai_nth_eq t k]
theorem ai_by_mem {α : Type} {k : Nat} {v : α} : ∀ {l : List (Nat × α)}, ai_by l k = some v → (k, v) ∈ l
  | [], h => by simp [ai_by] at h
  | q :: t, h => by
    unfold ai_by at h
    split at h
    · rename_i hb
      have e : q.1 = k := Nat.eq_of_beq_eq_true hb
      have e2 : q.2 = v := Option.some.inj h
      rw [← e, ← e2]
      exact List.mem_cons_self
    · exact List.mem_cons_of_mem _ (ai_by_mem h)
theorem ai_fd_mem {pc : Nat} {i : Instr} : ∀ {l : List (Nat × Instr × Nat)}, ai_fd l pc = some i → ∃ n, (pc, i, n) ∈ l
  | [], h => by simp [ai_fd] at h
  | q :: t, h => by
    unfold ai_fd at h
    split at h
    · rename_i hb
      have e : q.1 = pc := Nat.eq_of_beq_eq_true hb
      have e2 : q.2.1 = i := Option.some.inj h
      exact ⟨q.2.2, by rw [← e, ← e2]; exact List.mem_cons_self⟩
    · obtain ⟨n, hn⟩ := ai_fd_mem h
      exact ⟨n, List.mem_cons_of_mem _ hn⟩
theorem ai_dec {M : ai_M} (ok : ai_okC M = true) {pc : Nat} {i : Instr} (h : ai_fd (ai_cd M) pc = some i) : ∃ n, decode (ai_cc M) pc = .ok (i, n) ∧ (ai_sw i = true ∨ n = ai_len i) := by
  obtain ⟨n, hn⟩ := ai_fd_mem h
  have h1 := List.all_eq_true.mp ok _ hn
  unfold ai_okI at h1
  rw [Bool.and_eq_true, Bool.or_eq_true, decide_eq_true_eq] at h1
  exact ⟨n, h1.1, h1.2.imp id Nat.eq_of_beq_eq_true⟩
theorem ai_decN {M : ai_M} (ok : ai_okC M = true) {pc : Nat} {i : Instr} (h : ai_fd (ai_cd M) pc = some i) (hs : ai_sw i = false) : decode (ai_cc M) pc = .ok (i, ai_len i) := by
  obtain ⟨n, h1, h2⟩ := ai_dec ok h
  rcases h2 with h2 | h2
  · rw [hs] at h2; cases h2
  · rw [h1, h2]
theorem ai_jp_ok {pc t : Nat} {off : Int} (h : ai_jp pc off = some t) : (pc : Int) + off = (t : Int) := by
  unfold ai_jp at h
  split at h
  · rename_i k hk
    rw [hk, ← Option.some.inj h]
    rfl
  · cases h
abbrev ai_G : Type := Nat × (Nat → Nat) × ClassId × ClassId × va_G
abbrev ai_D (G : ai_G) : va_G := G.2.2.2.2
def ai_v (G : ai_G) : Value → Value
  | .ref k => .ref (G.1 + k)
  | .retAddr k => .ref (G.2.1 k)
  | .int x => .int x
  | .long x => .long x
  | .float x => .float x
  | .double x => .double x
  | .null => .null
theorem ai_v_cat (G : ai_G) (v : Value) : (ai_v G v).category = v.category := by cases v <;> rfl
theorem ai_cat_map (G : ai_G) (st : List Value) : ((st.map (ai_v G)).map fun v => v.category).sum = ai_cat st := by
  unfold ai_cat
  rw [List.map_map]
  congr 1
  exact List.map_congr_left (fun v _ => ai_v_cat G v)
def ai_ca (G : ai_G) : Bool → ClassId
  | false => G.2.2.1
  | true => G.2.2.2.1
def ai_c (G : ai_G) : ai_E → va_E
  | .inl q => .inl (ai_ca G q.1, q.2.length, .inl (fun j => q.2.getD j 0))
  | .inr q => .inr (q.1, q.2.map (ai_v G))
def ai_ws (G : ai_G) : Nat → ai_H → va_W
  | _, [] => []
  | a, x :: t => (a, ai_c G x) :: ai_ws G (a + 1) t
theorem ai_ws_get (G : ai_G) : ∀ (h : ai_H) (a k : Nat), (ai_ws G a h)[k]? = (ai_nth h k).map (fun x => (a + k, ai_c G x))
  | [], _, _ => by simp [ai_ws, ai_nth]
  | _ :: _, _, 0 => by simp [ai_ws, ai_nth]
  | _ :: t, a, k + 1 => by
    have := ai_ws_get G t (a + 1) k
    simp only [ai_ws, ai_nth, List.getElem?_cons_succ]
    rw [this]
    congr 1
    funext x
    rw [Nat.add_assoc, Nat.add_comm 1 k]
theorem ai_ws_at {G : ai_G} {h : ai_H} {k : Nat} {x : ai_E} (a : Nat) (hk : ai_nth h k = some x) : (ai_ws G a h)[k]? = some (a + k, ai_c G x) := by rw [ai_ws_get, hk]; rfl
theorem ai_ws_set (G : ai_G) (x : ai_E) : ∀ (h : ai_H) (a k : Nat), (ai_ws G a h).set k (a + k, ai_c G x) = ai_ws G a (h.set k x)
  | [], _, _ => by simp [ai_ws]
  | _ :: _, _, 0 => by simp [ai_ws]
  | _ :: t, a, k + 1 => by
    have := ai_ws_set G x t (a + 1) k
    simp only [ai_ws, List.set_cons_succ]
    rw [← this, Nat.add_assoc, Nat.add_comm 1 k]
theorem ai_ws_app (G : ai_G) (x : ai_E) : ∀ (h : ai_H) (a : Nat), ai_ws G a (h ++ [x]) = ai_ws G a h ++ [(a + h.length, ai_c G x)]
  | [], _ => by simp [ai_ws]
  | _ :: t, a => by
    have := ai_ws_app G x t (a + 1)
    simp only [List.cons_append, ai_ws, List.length_cons]
    rw [this, Nat.add_assoc, Nat.add_comm 1 t.length]
theorem ai_ws_D (G : ai_G) (h : ai_H) : va_D (fun q => G.1 ≤ q) (ai_ws G G.1 h) := by
  have key : ∀ (k : Nat) (q : Nat × va_E), (ai_ws G G.1 h)[k]? = some q → q.1 = G.1 + k := by
    intro k q hq
    rw [ai_ws_get] at hq
    cases hx : ai_nth h k with
    | none => rw [hx] at hq; cases hq
    | some x => rw [hx] at hq; cases hq; rfl
  refine ⟨fun i j p q h1 h2 h3 => ?_, fun k q h1 => ?_⟩
  · have e1 := key i p h1
    have e2 := key j q h2
    omega
  · have e1 := key k q h1
    show G.1 ≤ q.1
    omega
def ai_ty (G : ai_G) : List (ClassId × FieldType) := [(G.2.2.1, .int), (G.2.2.2.1, .boolean)]
/-- the heap from G.1 on is the list h -/
def ai_P (G : ai_G) (h : ai_H) (H : Heap) : Prop := H.size = G.1 + h.length ∧ va_P (ai_D G) vwCl (ai_ws G G.1 h) H
def ai_nw : List Jvm.Cond := ai_nwI.filterMap (fun i => lw_tbl[i]?)
/-- the string constants: their cells, their links, and what String and Preconditions hold -/
def ai_St (G : ai_G) (U : State) : Prop := (∃ adV : Nat → Nat, vk_S 8 ai_stL ai_str (fun i => G.2.1 (i + 2)) adV (fun q => G.1 ≤ q) U U.heap) ∧ (∀ i : Nat, i < 8 → vk_R ai_stO (ai_stN.getD i 0) (ai_stx.getD i "") (G.2.1 (i + 2)) U) ∧ va_Z "java/lang/String" "COMPACT_STRINGS" "Z" (.int 1) (fun q => G.1 ≤ q) U U.heap ∧ va_Zq "jdk/internal/util/Preconditions" "SIOOBE_FORMATTER" "Ljava/util/function/BiFunction;" (fun q => G.1 ≤ q) U U.heap
/-- what holds outside: tables, words of nest mates, the one static row, the rows outside -/
def ai_En (G : ai_G) (X : List (List Int32)) (U : State) : Prop := va_K (ai_D G) vwCl (ai_ty G) U ∧ (∀ w ∈ ai_nw, va_Nw w U) ∧ (va_Z "FourWaters" "FIRST_DENSITY" "[I" (.ref (G.2.1 0)) (fun q => G.1 ≤ q) U U.heap ∧ ai_St G U) ∧ ∀ (k : Nat) (o : List Int32), ai_nth X k = some o → va_X (G.2.1 k) o.length (fun j => o.getD j 0) U U.heap ∧ G.2.1 k < G.1
theorem ai_St_to {G : ai_G} {s U : State} {H : Heap} {locs : List Loc} (h : ai_St G s) (hS : va_S (fun q => G.1 ≤ q) s.heap H locs) (hU : U.heap = H) (hW : s.WarmedH U.vm) : ai_St G U := by
  obtain ⟨⟨adV, h1⟩, h2, h3, h4⟩ := h
  have hq : ∀ a : Nat, a < s.heap.size → ¬ (G.1 ≤ a) → U.heap[a]? = s.heap[a]? := fun a x y => by rw [hU]; exact hS.2.1 a x y
  exact ⟨⟨adV, (vk_S.moved hW.alike h1).kept hq⟩, fun i hi => vk_R.warm hW (h2 i hi), (h3.moved hW.alike).kept hq, (h4.moved hW.alike).kept hq⟩
theorem ai_St_eq {G : ai_G} {s U : State} (h : ai_St G s) (hh : U.heap = s.heap) (hv : s.vm = U.vm) : ai_St G U := by
  obtain ⟨⟨adV, h1⟩, h2, h3, h4⟩ := h
  have ha : s.vm.Alike U.vm := by rw [hv]; exact Vm.Alike.refl U.vm
  exact ⟨⟨adV, by rw [hh]; exact vk_S.moved ha h1⟩, fun i hi => vk_R.same hv.symm (h2 i hi), by rw [hh]; exact h3.moved ha, by rw [hh]; exact h4.moved ha⟩
def ai_gt : List Jvm.Cond := lw_tbl.filter goodWord
theorem ai_gt_at {i : Nat} {w : Jvm.Cond} (h : lw_tbl[i]? = some w) (g : goodWord w = true) : w ∈ ai_gt := List.mem_filter.mpr ⟨List.mem_of_getElem? h, g⟩
def ai_w (M : ai_M) : List Jvm.Cond := .code (ai_y M) (ai_cc M) (ai_mL M) (ai_rt M) :: ai_gt
def ai_C (p : Program) (s : State) (m : MethodId) (args : Array Value) (meth : Method) (c : Code) (M : ai_M) (G : ai_G) (X : List (List Int32)) : Prop :=
  p.tables.exec = Jvm.exec ∧ c.code = ai_cc M ∧ meth.sig.returnType = ai_rt M ∧ c.maxLocals = ai_mL M ∧ s.vm.findClass (ai_own M) = some m.cls ∧ (∀ w ∈ ai_gt, w.before args s = true) ∧ meth.locks = false ∧ ((ai_y M).name = "<init>" → meth.name = "<init>") ∧ ai_En G X s ∧ G.1 ≤ s.heap.size ∧ ai_okC M = true ∧ ai_cn (ai_cl M) = ai_own M
def ai_lv (G : ai_G) : Nat → ai_L → List (Nat × Value)
  | _, [] => []
  | k, none :: t => ai_lv G (k + 1) t
  | k, some v :: t => (k, ai_v G v) :: ai_lv G (k + 1) t
theorem ai_lv_mem (G : ai_G) : ∀ (L : ai_L) (k : Nat) (q : Nat × Value), q ∈ ai_lv G k L ↔ ∃ (j : Nat) (v : Value), L[j]? = some (some v) ∧ q = (k + j, ai_v G v)
  | [], k, q => by simp [ai_lv]
  | none :: t, k, q => by
    rw [ai_lv, ai_lv_mem G t (k + 1) q]
    constructor
    · rintro ⟨j, v, h, e⟩
      exact ⟨j + 1, v, by simpa using h, by rw [e, Nat.add_assoc, Nat.add_comm 1 j]⟩
    · rintro ⟨j, v, h, e⟩
      cases j with
      | zero => simp at h
      | succ j => exact ⟨j, v, by simpa using h, by rw [e, Nat.add_assoc, Nat.add_comm 1 j]⟩
  | some w :: t, k, q => by
    rw [ai_lv, List.mem_cons, ai_lv_mem G t (k + 1) q]
    constructor
    · rintro (h | ⟨j, v, h, e⟩)
      · exact ⟨0, w, by simp, by rw [h]; rfl⟩
      · exact ⟨j + 1, v, by simpa using h, by rw [e, Nat.add_assoc, Nat.add_comm 1 j]⟩
    · rintro ⟨j, v, h, e⟩
      cases j with
      | zero =>
        simp at h
        left
        rw [e, h]; rfl
      | succ j =>
        right
        exact ⟨j, v, by simpa using h, by rw [e, Nat.add_assoc, Nat.add_comm 1 j]⟩
def ai_I (G : ai_G) (nL : Nat) (L : ai_L) (ls : Array Slot) : Prop := L.length = nL ∧ lv_has ls nL (ai_lv G 0 L)
theorem ai_lo_get {L : ai_L} {i : Nat} {v : Value} (h : ai_lo L i = some v) : L[i]? = some (some v) := by
  unfold ai_lo at h
  rw [ai_nth_eq] at h
  split at h
  · rename_i w hw
    rw [hw, Option.some.inj h]
  · cases h
theorem ai_lo_mem {G : ai_G} {L : ai_L} {i : Nat} {v : Value} (h : ai_lo L i = some v) : (i, ai_v G v) ∈ ai_lv G 0 L := (ai_lv_mem G L 0 _).mpr ⟨i, v, ai_lo_get h, by rw [Nat.zero_add]⟩
theorem ai_lo_at {G : ai_G} {nL : Nat} {L : ai_L} {ls : Array Slot} {i : Nat} {v : Value} (hL : ai_I G nL L ls) (h : ai_lo L i = some v) : ls[i]? = some (.val (ai_v G v)) := hL.2.2.2 _ (ai_lo_mem h)
theorem ai_cu_len (L : ai_L) (i : Nat) : (ai_cu L i).length = L.length := by
  cases i with
  | zero => rfl
  | succ j =>
    simp only [ai_cu]
    split
    · split <;> simp
    · rfl
theorem ai_cu_get {L : ai_L} {i j : Nat} {v : Value} (h : (ai_cu L i)[j]? = some (some v)) : L[j]? = some (some v) ∧ ¬ (j + 1 = i ∧ v.category = 2) := by
  cases i with
  | zero => exact ⟨h, fun q => by omega⟩
  | succ i =>
    simp only [ai_cu] at h
    split at h
    · rename_i w hw
      have hg := ai_lo_get hw
      split at h
      · rename_i hc
        by_cases e : j = i
        · subst e
          rw [List.getElem?_set] at h
          simp at h
        · rw [List.getElem?_set_ne (fun q => e q.symm)] at h
          exact ⟨h, fun q => e (by omega)⟩
      · rename_i hc
        refine ⟨h, fun q => ?_⟩
        have e : j = i := by omega
        subst e
        rw [h] at hg
        cases hg
        exact hc q.2
    · rename_i hn
      refine ⟨h, fun q => ?_⟩
      have e : j = i := by omega
      subst e
      have hz : ai_lo L j = some v := by
        unfold ai_lo
        rw [ai_nth_eq, h]
      rw [hn] at hz
      cases hz
theorem ai_I_s1 {G : ai_G} {nL : Nat} {L : ai_L} {ls' : Array Slot} {i : Nat} {v : Value} (hl : L.length = nL) (h : lv_has ls' nL ((i, ai_v G v) :: (ai_lv G 0 L).filter (fun q => !(q.1 == i) && !(q.1 + 1 == i && q.2.category == 2)))) : ai_I G nL (ai_s1 L i v) ls' := by
  refine ⟨by rw [ai_s1, List.length_set, ai_cu_len, hl], h.1, h.2.1, fun q hq => h.2.2 q ?_⟩
  obtain ⟨j, w, hj, rfl⟩ := (ai_lv_mem G _ 0 q).mp hq
  rw [Nat.zero_add]
  unfold ai_s1 at hj
  by_cases e : j = i
  · subst e
    rw [List.getElem?_set] at hj
    simp at hj
    rw [hj.2]
    exact List.mem_cons_self
  · rw [List.getElem?_set_ne (fun q => e q.symm)] at hj
    obtain ⟨h1, h2⟩ := ai_cu_get hj
    refine List.mem_cons_of_mem _ (List.mem_filter.mpr ⟨(ai_lv_mem G L 0 _).mpr ⟨j, w, h1, by rw [Nat.zero_add]⟩, ?_⟩)
    simp only [ai_v_cat, Bool.and_eq_true, Bool.not_eq_true', beq_eq_false_iff_ne, ne_eq, Bool.and_eq_false_imp, beq_iff_eq]
    exact ⟨e, fun q1 q2 => h2 ⟨q1, q2⟩⟩
theorem ai_I_s2 {G : ai_G} {nL : Nat} {L : ai_L} {ls' : Array Slot} {i : Nat} {v : Value} (hl : L.length = nL) (h : lv_has ls' nL ((i, ai_v G v) :: (ai_lv G 0 L).filter (fun q => !(q.1 == i) && (!(q.1 == i + 1) && !(q.1 + 1 == i && q.2.category == 2))))) : ai_I G nL (ai_s2 L i v) ls' := by
  refine ⟨by rw [ai_s2, List.length_set, List.length_set, ai_cu_len, hl], h.1, h.2.1, fun q hq => h.2.2 q ?_⟩
  obtain ⟨j, w, hj, rfl⟩ := (ai_lv_mem G _ 0 q).mp hq
  rw [Nat.zero_add]
  unfold ai_s2 at hj
  by_cases e1 : j = i + 1
  · subst e1
    rw [List.getElem?_set] at hj
    simp at hj
  rw [List.getElem?_set_ne (fun q => e1 q.symm)] at hj
  by_cases e : j = i
  · subst e
    rw [List.getElem?_set] at hj
    simp at hj
    rw [hj.2]
    exact List.mem_cons_self
  · rw [List.getElem?_set_ne (fun q => e q.symm)] at hj
    obtain ⟨h1, h2⟩ := ai_cu_get hj
    refine List.mem_cons_of_mem _ (List.mem_filter.mpr ⟨(ai_lv_mem G L 0 _).mpr ⟨j, w, h1, by rw [Nat.zero_add]⟩, ?_⟩)
    simp only [ai_v_cat, Bool.and_eq_true, Bool.not_eq_true', beq_eq_false_iff_ne, ne_eq, Bool.and_eq_false_imp, beq_iff_eq]
    exact ⟨e, e1, fun q1 q2 => h2 ⟨q1, q2⟩⟩
theorem ai_pad_len : ∀ (n : Nat) (L : ai_L), L.length ≤ n → (ai_pad n L).length = n
  | 0, L, h => by simp at h; rw [h]; rfl
  | n + 1, [], _ => by rw [ai_pad, List.length_cons, ai_pad_len n [] (Nat.zero_le _)]
  | n + 1, x :: t, h => by rw [ai_pad, List.length_cons, ai_pad_len n t (by simpa using h)]
theorem ai_pad_get : ∀ (n : Nat) (L : ai_L) (j : Nat) (v : Value), (ai_pad n L)[j]? = some (some v) → L[j]? = some (some v)
  | 0, L, j, v, h => h
  | n + 1, [], 0, v, h => by simp [ai_pad] at h
  | n + 1, [], j + 1, v, h => by
    rw [ai_pad] at h
    have := ai_pad_get n [] j v (by simpa using h)
    simp at this
  | n + 1, x :: t, 0, v, h => by simpa [ai_pad] using h
  | n + 1, x :: t, j + 1, v, h => by
    rw [ai_pad] at h
    have := ai_pad_get n t j v (by simpa using h)
    simpa using this
theorem ai_en_args (G : ai_G) : ∀ (as : List Value) (k j : Nat) (v : Value), (ai_en as)[j]? = some (some v) → (k + j, ai_v G v) ∈ lv_args k (as.map (ai_v G))
  | [], _, _, _, h => by simp [ai_en] at h
  | w :: t, k, j, v, h => by
    rw [List.map_cons, lv_args, ai_v_cat]
    unfold ai_en at h
    split at h
    · rename_i hc
      rw [if_pos hc]
      match j, h with
      | 0, h =>
        simp at h
        rw [h]
        exact List.mem_cons_self
      | 1, h => simp at h
      | j + 2, h =>
        have := ai_en_args G t (k + 2) j v (by simpa using h)
        refine List.mem_cons_of_mem _ ?_
        rw [show k + (j + 2) = k + 2 + j by omega]
        exact this
    · rename_i hc
      rw [if_neg hc]
      match j, h with
      | 0, h =>
        simp at h
        rw [h]
        exact List.mem_cons_self
      | j + 1, h =>
        have := ai_en_args G t (k + 1) j v (by simpa using h)
        refine List.mem_cons_of_mem _ ?_
        rw [show k + (j + 1) = k + 1 + j by omega]
        exact this
theorem ai_en_len (G : ai_G) : ∀ (as : List Value), (lg_sl (as.map (ai_v G))).length = (ai_en as).length
  | [] => by simp [lg_sl, ai_en]
  | w :: t => by
    have ih := ai_en_len G t
    unfold lg_sl at ih ⊢
    rw [List.map_cons, List.flatMap_cons, ai_v_cat, List.length_append, ih]
    have e : ai_en (w :: t) = if w.category = 2 then some w :: none :: ai_en t else some w :: ai_en t := by
      simp only [ai_en]
      split
      · rename_i hc
        rw [if_pos hc]
      · rename_i hc
        rw [if_neg hc]
    rw [e]
    split
    · simp; omega
    · simp; omega
theorem ai_I_entry (G : ai_G) (as : List Value) {n : Nat} (h : (ai_en as).length ≤ n) : ai_I G n (ai_pad n (ai_en as)) ((lg_sl (as.map (ai_v G)) ++ List.replicate (n - (lg_sl (as.map (ai_v G))).length) Slot.unset).toArray) := by
  have e := lv_entry (as.map (ai_v G)) (n := n) (by rw [ai_en_len]; exact h)
  refine ⟨ai_pad_len n _ h, e.1, e.2.1, fun q hq => e.2.2 q ?_⟩
  obtain ⟨j, v, hj, rfl⟩ := (ai_lv_mem G _ 0 q).mp hq
  exact ai_en_args G as 0 j v (ai_pad_get n _ j v hj)
