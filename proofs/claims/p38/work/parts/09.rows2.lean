theorem ai_smP {α β : Type} {a a2 : α} {b b2 : β} (h : some (a, b) = some (a2, b2)) : a = a2 ∧ b = b2 := ⟨congrArg Prod.fst (Option.some.inj h), congrArg Prod.snd (Option.some.inj h)⟩
def ai_bd {α β : Type} (o : Option α) (f : α → Option β) : Option β := match o with
  | some a => f a
  | none => none
theorem ai_bdE {α β : Type} {o : Option α} {f : α → Option β} {r : β} (h : ai_bd o f = some r) : ∃ a, o = some a ∧ f a = some r := by
  cases o with
  | none => cases h
  | some a => exact ⟨a, rfl, h⟩
theorem ai_ifE {α : Type} {c : Prop} [Decidable c] {a b : Option α} {r : α} (h : (if c then a else b) = some r) : (c ∧ a = some r) ∨ (¬ c ∧ b = some r) := by
  by_cases hc : c
  · rw [if_pos hc] at h; exact Or.inl ⟨hc, h⟩
  · rw [if_neg hc] at h; exact Or.inr ⟨hc, h⟩
theorem ai_ifS {α : Type} {c : Prop} [Decidable c] {a : Option α} {r : α} (h : (if c then a else none) = some r) : c ∧ a = some r := by
  rcases ai_ifE h with h | h
  · exact h
  · cases h.2
theorem ai_ifN {α : Type} {c : Prop} [Decidable c] {b : Option α} {r : α} (h : (if c then none else b) = some r) : ¬ c ∧ b = some r := by
  rcases ai_ifE h with h | h
  · cases h.2
  · exact h
def D1 : List (List Int32) := [[10, 13, 16, 20]]
theorem sw_out {x : Int32} (lo n : Nat) (h : ∀ k, k < n → ¬ x = Int32.ofNat (lo + k)) (hb : lo + n < 2 ^ 31 := by decide) : x.toInt < (lo : Int) ∨ ((lo + n - 1 : Nat) : Int) < x.toInt ∨ n = 0 := by
  by_cases h1 : x.toInt < (lo : Int)
  · exact Or.inl h1
  · right
    by_cases h0 : n = 0
    · exact Or.inr h0
    · left
      refine Classical.byContradiction fun h2 => ?_
      have e1 : x.toInt = ((lo + (x.toInt.toNat - lo) : Nat) : Int) := by omega
      refine h (x.toInt.toNat - lo) (by omega) ?_
      have hlt : lo + (x.toInt.toNat - lo) < 2 ^ 31 := by omega
      exact Int32.toInt_inj.mp (e1.trans (nI_toInt hlt).symm)
section EV2
variable {X : List (List Int32)} {M : ai_M} {pc t : Nat} {L : ai_L} {st r : List Value} {h : ai_H} {cs sl : Nat} {q : Option Value × ai_H}
theorem ev_zend {v : Int32} (hi : ai_fd (ai_cd M) pc = some .ireturn) (hrt : ai_rt M = some .boolean) (hc : (Nat.beq cs (ai_rm M).cells && Nat.ble sl (ai_rm M).slots) = true) (hv : v = 0 ∨ v = 1) : ai_ev X M pc L [.int v] h cs sl (some (.int v), h) := by
  refine ev_end ?_
  simp only [hi, ai_ci, ai_rk, ai_ret, hc, hrt, if_pos hv]
theorem ev_zald {a : Nat} {o : List Int32} {j x : Int32} (hi : ai_fd (ai_cd M) pc = some .baload) (ho : ai_nth h a = some (.inl (true, o))) (hx : ai_ix o j = some x) (e : ai_ev X M (pc + 1) L (.int x :: r) h cs sl q) : ai_ev X M pc L (.int j :: .ref a :: r) h cs sl q := ev_step hi rfl rfl (by simp only [ai_step, ho, hx]) e
theorem ev_zast {a : Nat} {o o2 : List Int32} {j x : Int32} (hi : ai_fd (ai_cd M) pc = some .bastore) (ho : ai_nth h a = some (.inl (true, o))) (hx : ai_up o j (vp_nar .boolean x) = some o2) (e : ai_ev X M (pc + 1) L r (h.set a (.inl (true, o2))) cs sl q) : ai_ev X M pc L (.int x :: .int j :: .ref a :: r) h cs sl q := ev_step hi rfl rfl (by simp only [ai_step, ho, hx]) e
theorem ev_idiv {x y : Int32} (hi : ai_fd (ai_cd M) pc = some .idiv) (hc : ¬ y = 0) (e : ai_ev X M (pc + 1) L (.int (x / y) :: r) h cs sl q) : ai_ev X M pc L (.int y :: .int x :: r) h cs sl q := ev_step hi rfl rfl (by simp only [ai_step, if_neg hc]) e
theorem ev_irem {x y : Int32} (hi : ai_fd (ai_cd M) pc = some .irem) (hc : ¬ y = 0) (e : ai_ev X M (pc + 1) L (.int (x - x / y * y) :: r) h cs sl q) : ai_ev X M pc L (.int y :: .int x :: r) h cs sl q := ev_step hi rfl rfl (by simp only [ai_step, if_neg hc]) e
theorem ev_ldiv {x y : Int64} (hi : ai_fd (ai_cd M) pc = some .ldiv) (hc : ¬ y = 0) (e : ai_ev X M (pc + 1) L (.long (x / y) :: r) h cs sl q) : ai_ev X M pc L (.long y :: .long x :: r) h cs sl q := ev_step hi rfl rfl (by simp only [ai_step, if_neg hc]) e
theorem ev_lrem {x y : Int64} (hi : ai_fd (ai_cd M) pc = some .lrem) (hc : ¬ y = 0) (e : ai_ev X M (pc + 1) L (.long (x - x / y * y) :: r) h cs sl q) : ai_ev X M pc L (.long y :: .long x :: r) h cs sl q := ev_step hi rfl rfl (by simp only [ai_step, if_neg hc]) e
theorem ev_swi {d lo hh : Int} {offs : Array Int} {x k : Int32} {off : Int} (hi : ai_fd (ai_cd M) pc = some (.tableswitch d lo hh offs)) (hx : x = k) (h1 : ¬ k.toInt < lo) (h2 : ¬ hh < k.toInt) (ho : offs[(k.toInt - lo).toNat]? = some off) (ht : ai_jp pc off = some t) (e : ai_ev X M t L r h cs sl q) : ai_ev X M pc L (.int x :: r) h cs sl q := by
  subst hx
  exact ev_step hi rfl rfl (by simp only [ai_step]; rw [if_neg (fun z => z.elim h1 h2)]; simp only [ho, ht]) e
theorem ev_swo {d : Int} {lo n : Nat} {hh : Int} {offs : Array Int} {x : Int32} (hi : ai_fd (ai_cd M) pc = some (.tableswitch d (lo : Int) hh offs)) (hx : x.toInt < (lo : Int) ∨ ((lo + n - 1 : Nat) : Int) < x.toInt ∨ n = 0) (hh2 : hh = ((lo + n - 1 : Nat) : Int) ∧ n ≠ 0) (ht : ai_jp pc d = some t) (e : ai_ev X M t L r h cs sl q) : ai_ev X M pc L (.int x :: r) h cs sl q := by
  have hc : x.toInt < (lo : Int) ∨ hh < x.toInt := by
    rcases hx with z | z | z
    · exact Or.inl z
    · exact Or.inr (by rw [hh2.1]; exact z)
    · exact absurd z hh2.2
  exact ev_step hi rfl rfl (by simp only [ai_step]; rw [if_pos hc]; simp only [ht]) e
theorem ev_natv {i : Instr} {kb k w wi : Nat} {st' : List Value} {h' : ai_H} (hi : ai_fd (ai_cd M) pc = some i) (hci : ai_ci i = some (kb, k)) (hw : ai_by (ai_naT (ai_cl M)) k = some (w, wi)) (hs : ai_nat X M kb w st h cs sl = some (st', h')) (e : ai_ev X M (pc + 3) L st' h' cs sl q) : ai_ev X M pc L st h cs sl q := by
  obtain ⟨n, hn⟩ := e
  refine ⟨n + 1, ?_⟩
  rw [ai_run]
  simp only [hi, hci, hw, hs]
  exact hn
theorem ev_cpy {k wi a b : Nat} {o f z : List Int32} {n dp sp : Int32} (hi : ai_fd (ai_cd M) pc = some (.invokestatic k)) (hw : ai_by (ai_naT (ai_cl M)) k = some (1, wi)) (hg : (Nat.ble 1 (ai_rm M).frames && Nat.ble cs (ai_rm M).cells && Nat.ble sl (ai_rm M).slots) = true) (hg2 : Nat.ble (ai_cat r + (nativeFrameWords "java/lang/System" "arraycopy" 5 + 11)) (ai_rm M).locals = true) (ho : ai_nth h a = some (.inl (false, o))) (hf : ai_nth h b = some (.inl (false, f))) (hz : ai_cpy f o sp dp n = some z) (e : ai_ev X M (pc + 3) L r (h.set a (.inl (false, z))) cs sl q) : ai_ev X M pc L (.int n :: .int dp :: .ref a :: .int sp :: .ref b :: r) h cs sl q :=
  ev_natv hi rfl hw (by simp only [ai_nat, hg, show Nat.beq 1 1 = true from rfl, hg2, Bool.and_self, ho, hf, hz]) e
theorem ev_cpx {k wi a b : Nat} {o f z : List Int32} {n dp sp : Int32} (hi : ai_fd (ai_cd M) pc = some (.invokestatic k)) (hw : ai_by (ai_naT (ai_cl M)) k = some (1, wi)) (hg : (Nat.ble 1 (ai_rm M).frames && Nat.ble cs (ai_rm M).cells && Nat.ble sl (ai_rm M).slots) = true) (hg2 : Nat.ble (ai_cat r + (nativeFrameWords "java/lang/System" "arraycopy" 5 + 11)) (ai_rm M).locals = true) (ho : ai_nth h a = some (.inl (false, o))) (hf : ai_nth X b = some f) (hz : ai_cpy f o sp dp n = some z) (e : ai_ev X M (pc + 3) L r (h.set a (.inl (false, z))) cs sl q) : ai_ev X M pc L (.int n :: .int dp :: .ref a :: .int sp :: .retAddr b :: r) h cs sl q :=
  ev_natv hi rfl hw (by simp only [ai_nat, hg, show Nat.beq 1 1 = true from rfl, hg2, Bool.and_self, ho, hf, hz]) e
theorem ev_putz {k a : Nat} {v : Int32} {z : Nat × Nat × Bool × Nat × Nat} {o : Nat × List Value} (hi : ai_fd (ai_cd M) pc = some (.putfield k)) (hq : ai_by (ai_flT (ai_cl M)) k = some z) (ho : ai_nth h a = some (.inr o)) (h1 : Nat.beq o.1 z.1 = true) (h2 : z.2.2.2.1 = 1) (h3 : Nat.blt z.2.1 o.2.length = true) (h4 : z.2.2.1 = false) (hv : v = 0 ∨ v = 1) (e : ai_ev X M (pc + 3) L r (h.set a (.inr (o.1, o.2.set z.2.1 (.int v)))) cs sl q) : ai_ev X M pc L (.int v :: .ref a :: r) h cs sl q :=
  ev_step hi rfl rfl (by simp only [ai_step, hq, ho, h1, h2, h3, h4, ai_fv, decide_eq_true hv, Bool.and_self, Bool.not_false, Bool.true_or]) e
end EV2
