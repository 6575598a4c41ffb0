/-! what the interpreter comes to, rows for walking it -/
def ai_sub (X X' : List (List Int32)) : Prop := ∀ (k : Nat) (o : List Int32), ai_nth X k = some o → ai_nth X' k = some o
theorem ai_step_sub {X X' : List (List Int32)} (hX : ai_sub X X') {M : ai_M} {i : Instr} {pc : Nat} {L : ai_L} {st : List Value} {h : ai_H} {cs sl : Nat} {q : ai_S} (hs : ai_step X M i pc L st h cs sl = some q) : ai_step X' M i pc L st h cs sl = some q := by
  cases i with
  | iaload =>
    simp only [ai_step] at hs ⊢
    split at hs
    · exact hs
    · rename_i j a r
      split at hs
      · rename_i o ho
        rw [hX a o ho]
        exact hs
      · cases hs
    · cases hs
  | arraylength =>
    simp only [ai_step] at hs ⊢
    split at hs
    · exact hs
    · rename_i a r
      split at hs
      · rename_i o ho
        rw [hX a o ho]
        exact hs
      · cases hs
    · cases hs
  | _ => exact hs
theorem ai_nat_sub {X X' : List (List Int32)} (hX : ai_sub X X') {M : ai_M} {kb w : Nat} {st : List Value} {h : ai_H} {cs sl : Nat} {q : List Value × ai_H} (hs : ai_nat X M kb w st h cs sl = some q) : ai_nat X' M kb w st h cs sl = some q := by
  unfold ai_nat at hs ⊢
  split at hs
  · cases hs
  · rename_i hg
    try rw [hg]
    try simp only
    split at hs
    · exact hs
    · split at hs
      · split at hs
        · rename_i hq
          try simp only [hq]
          split at hs
          · rename_i o ho
            try simp only [ho]
            split at hs
            · rename_i hz
              try simp only [hz]
              split at hs
              · exact hs
              · rename_i b
                split at hs
                · rename_i f hf
                  try simp only [hX b f hf]
                  exact hs
                · cases hs
              · cases hs
            · cases hs
          · cases hs
        · cases hs
      · cases hs
    · exact hs
    · exact hs
    · exact hs
    · exact hs
    · cases hs
theorem ai_run_sub {X X' : List (List Int32)} (hX : ai_sub X X') : ∀ (n : Nat) (M : ai_M) (pc : Nat) (L : ai_L) (st : List Value) (h : ai_H) (cs sl : Nat) (q : Option Value × ai_H), ai_run X n M pc L st h cs sl = some q → ai_run X' n M pc L st h cs sl = some q := by
  intro n
  induction n with
  | zero => intro M pc L st h cs sl q hr; simp [ai_run] at hr
  | succ n ih =>
    intro M pc L st h cs sl q hr
    rw [ai_run] at hr ⊢
    split at hr
    · cases hr
    · rename_i i hi
      try simp only [hi]
      split at hr
      · rename_i hci
        try simp only [hci]
        split at hr
        · rename_i hk
          try simp only [hk]
          exact hr
        · rename_i hk
          try simp only [hk]
          split at hr
          · cases hr
          · rename_i z hz
            try simp only [ai_step_sub hX hz]
            exact ih _ _ _ _ _ _ _ _ hr
      · rename_i k hci
        try simp only [hci]
        split at hr
        · rename_i w hw
          try simp only [hw]
          split at hr
          · cases hr
          · rename_i z hz
            try simp only [ai_nat_sub hX hz]
            exact ih _ _ _ _ _ _ _ _ hr
        · rename_i hw
          try simp only [hw]
          split at hr
          · cases hr
          · rename_i w hw2
            try simp only [hw2]
            split at hr
            · cases hr
            · rename_i z hz
              try simp only [hz]
              split at hr
              · cases hr
              · rename_i y hy
                try simp only [ih _ _ _ _ _ _ _ _ hy]
                exact ih _ _ _ _ _ _ _ _ hr
theorem ai_run_more {X : List (List Int32)} : ∀ (n : Nat) (M : ai_M) (pc : Nat) (L : ai_L) (st : List Value) (h : ai_H) (cs sl : Nat) (q : Option Value × ai_H), ai_run X n M pc L st h cs sl = some q → ai_run X (n + 1) M pc L st h cs sl = some q := by
  intro n
  induction n with
  | zero => intro M pc L st h cs sl q hr; simp [ai_run] at hr
  | succ n ih =>
    intro M pc L st h cs sl q hr
    rw [ai_run] at hr ⊢
    split at hr
    · cases hr
    · rename_i i hi
      try simp only [hi]
      split at hr
      · rename_i hci
        try simp only [hci]
        split at hr
        · rename_i hk
          try simp only [hk]
          exact hr
        · rename_i hk
          try simp only [hk]
          split at hr
          · cases hr
          · rename_i z hz
            try simp only [hz]
            exact ih _ _ _ _ _ _ _ _ hr
      · rename_i k hci
        try simp only [hci]
        split at hr
        · rename_i w hw
          try simp only [hw]
          split at hr
          · cases hr
          · rename_i z hz
            try simp only [hz]
            exact ih _ _ _ _ _ _ _ _ hr
        · rename_i hw
          try simp only [hw]
          split at hr
          · cases hr
          · rename_i w hw2
            try simp only [hw2]
            split at hr
            · cases hr
            · rename_i z hz
              try simp only [hz]
              split at hr
              · cases hr
              · rename_i y hy
                try simp only [ih _ _ _ _ _ _ _ _ hy]
                exact ih _ _ _ _ _ _ _ _ hr
theorem ai_run_le {X : List (List Int32)} {n k : Nat} (hk : n ≤ k) {M : ai_M} {pc : Nat} {L : ai_L} {st : List Value} {h : ai_H} {cs sl : Nat} {q : Option Value × ai_H} (hr : ai_run X n M pc L st h cs sl = some q) : ai_run X k M pc L st h cs sl = some q := by
  induction hk with
  | refl => exact hr
  | step _ ih => exact ai_run_more _ _ _ _ _ _ _ _ _ ih
/-- the run from here comes to q -/
def ai_ev (X : List (List Int32)) (M : ai_M) (pc : Nat) (L : ai_L) (st : List Value) (h : ai_H) (cs sl : Nat) (q : Option Value × ai_H) : Prop := ∃ n, ai_run X n M pc L st h cs sl = some q
/-- k instructions that are no calls of methods and no ends -/
def ai_go (X : List (List Int32)) (M : ai_M) : Nat → Nat → ai_L → List Value → ai_H → Nat → Nat → Option ai_S
  | 0, pc, L, st, h, cs, sl => some (pc, L, st, h, cs, sl)
  | k + 1, pc, L, st, h, cs, sl => match ai_fd (ai_cd M) pc with
    | none => none
    | some i => match ai_ci i with
      | none => match ai_rk i with
        | true => none
        | false => match ai_step X M i pc L st h cs sl with
          | none => none
          | some (pc', L', st', h', cs', sl') => ai_go X M k pc' L' st' h' cs' sl'
      | some w => match ai_by (ai_naT (ai_cl M)) w.2 with
        | none => none
        | some z => match ai_nat X M w.1 z.1 st h cs sl with
          | none => none
          | some (st', h') => ai_go X M k (pc + 3) L st' h' cs sl
section EV
variable {X : List (List Int32)} {M : ai_M} {pc t : Nat} {L : ai_L} {st r : List Value} {h : ai_H} {cs sl : Nat} {q : Option Value × ai_H}
theorem ev_go (k : Nat) {pc' : Nat} {L' : ai_L} {st' : List Value} {h' : ai_H} {cs' sl' : Nat} (hg : ai_go X M k pc L st h cs sl = some (pc', L', st', h', cs', sl')) (e : ai_ev X M pc' L' st' h' cs' sl' q) : ai_ev X M pc L st h cs sl q := by
  induction k generalizing pc L st h cs sl with
  | zero =>
    simp only [ai_go, Option.some.injEq, Prod.mk.injEq] at hg
    obtain ⟨rfl, rfl, rfl, rfl, rfl, rfl⟩ := hg
    exact e
  | succ k ih =>
    rw [ai_go] at hg
    split at hg
    · cases hg
    · rename_i i hi
      split at hg
      · rename_i hci
        split at hg
        · cases hg
        · rename_i hk
          split at hg
          · cases hg
          · rename_i p1 L1 s1 h1 c1 l1 hs
            obtain ⟨n, hn⟩ := ih hg
            refine ⟨n + 1, ?_⟩
            rw [ai_run]
            simp only [hi, hci, hk, hs]
            exact hn
      · rename_i w hci
        split at hg
        · cases hg
        · rename_i z hz
          split at hg
          · cases hg
          · rename_i s1 h1 hs
            obtain ⟨n, hn⟩ := ih hg
            refine ⟨n + 1, ?_⟩
            rw [ai_run]
            simp only [hi, hci, hz, hs]
            exact hn
theorem ev_end (he : (match ai_fd (ai_cd M) pc with | none => none | some i => (match ai_ci i with | none => (match ai_rk i with | true => ai_ret M i st h cs sl | false => none) | some _ => none)) = some q) : ai_ev X M pc L st h cs sl q := by
  refine ⟨1, ?_⟩
  rw [ai_run]
  split at he
  · cases he
  · rename_i i hi
    simp only [hi]
    split at he
    · rename_i hci
      simp only [hci]
      split at he
      · rename_i hk
        simp only [hk]
        exact he
      · cases he
    · cases he
/-- the callee, its first locals, what stays on the stack -/
def ai_pre (M : ai_M) (pc : Nat) (st : List Value) (h : ai_H) (cs sl : Nat) : Option (ai_M × ai_L × List Value) := match ai_fd (ai_cd M) pc with
  | none => none
  | some i => match ai_ci i with
    | none => none
    | some k => match ai_by (ai_naT (ai_cl M)) k.2 with
      | some _ => none
      | none => match ai_by (ai_caT (ai_cl M)) k.2 with
        | none => none
        | some w => match ai_arg M k.1 w.1 w.2.1 w.2.2.1 st h cs sl with
          | none => none
          | some z => some (w.2.2.1, ai_pad (ai_mL w.2.2.1) (ai_en z.1), z.2)
theorem ev_call {M' : ai_M} {L' : ai_L} {rest : List Value} {rv : Option Value} {h' : ai_H} (hp : ai_pre M pc st h cs sl = some (M', L', rest)) (e1 : ai_ev X M' 0 L' [] h 0 0 (rv, h')) (e2 : ai_ev X M (pc + 3) L (rv.toList ++ rest) h' (cs + (ai_rm M').cells) (sl + (ai_rm M').slots) q) : ai_ev X M pc L st h cs sl q := by
  obtain ⟨n1, h1⟩ := e1
  obtain ⟨n2, h2⟩ := e2
  refine ⟨max n1 n2 + 1, ?_⟩
  rw [ai_run]
  unfold ai_pre at hp
  split at hp
  · cases hp
  · rename_i i hi
    simp only [hi]
    split at hp
    · cases hp
    · rename_i k hk
      simp only [hk]
      split at hp
      · cases hp
      · rename_i hn
        simp only [hn]
        split at hp
        · cases hp
        · rename_i w hw
          simp only [hw]
          split at hp
          · cases hp
          · rename_i z hz
            simp only [hz]
            simp only [Option.some.injEq, Prod.mk.injEq] at hp
            obtain ⟨rfl, rfl, rfl⟩ := hp
            simp only [ai_run_le (Nat.le_max_left n1 n2) h1]
            exact ai_run_le (Nat.le_max_right n1 n2) h2
theorem ev_step {i : Instr} (hi : ai_fd (ai_cd M) pc = some i) (hci : ai_ci i = none) (hk : ai_rk i = false) {pc' : Nat} {L' : ai_L} {st' : List Value} {h' : ai_H} {cs' sl' : Nat} (hs : ai_step X M i pc L st h cs sl = some (pc', L', st', h', cs', sl')) (e : ai_ev X M pc' L' st' h' cs' sl' q) : ai_ev X M pc L st h cs sl q := by
  obtain ⟨n, hn⟩ := e
  refine ⟨n + 1, ?_⟩
  rw [ai_run]
  simp only [hi, hci, hk, hs]
  exact hn
theorem ev_ic_eq {off : Int} {x y : Int32} (hi : ai_fd (ai_cd M) pc = some (.if_icmp .eq off)) (ht : ai_jp pc off = some t) (a : x = y → ai_ev X M t L r h cs sl q) (b : ¬ x = y → ai_ev X M (pc + 3) L r h cs sl q) : ai_ev X M pc L (.int y :: .int x :: r) h cs sl q := by
  by_cases hc : x = y
  · exact ev_step hi rfl rfl (by simp only [ai_step, ht, ai_br]; exact if_pos hc) (a hc)
  · exact ev_step hi rfl rfl (by simp only [ai_step, ht, ai_br]; exact if_neg hc) (b hc)
theorem ev_if_eq {off : Int} {x : Int32} (hi : ai_fd (ai_cd M) pc = some (.ifCond .eq off)) (ht : ai_jp pc off = some t) (a : x = 0 → ai_ev X M t L r h cs sl q) (b : ¬ x = 0 → ai_ev X M (pc + 3) L r h cs sl q) : ai_ev X M pc L (.int x :: r) h cs sl q := by
  by_cases hc : x = 0
  · exact ev_step hi rfl rfl (by simp only [ai_step, ht, ai_br]; exact if_pos hc) (a hc)
  · exact ev_step hi rfl rfl (by simp only [ai_step, ht, ai_br]; exact if_neg hc) (b hc)
theorem ev_ic_ne {off : Int} {x y : Int32} (hi : ai_fd (ai_cd M) pc = some (.if_icmp .ne off)) (ht : ai_jp pc off = some t) (a : ¬ x = y → ai_ev X M t L r h cs sl q) (b : x = y → ai_ev X M (pc + 3) L r h cs sl q) : ai_ev X M pc L (.int y :: .int x :: r) h cs sl q := by
  by_cases hc : ¬ x = y
  · exact ev_step hi rfl rfl (by simp only [ai_step, ht, ai_br]; exact if_neg hc) (a hc)
  · exact ev_step hi rfl rfl (by simp only [ai_step, ht, ai_br]; exact if_pos (Classical.not_not.mp hc)) (b (Classical.not_not.mp hc))
theorem ev_if_ne {off : Int} {x : Int32} (hi : ai_fd (ai_cd M) pc = some (.ifCond .ne off)) (ht : ai_jp pc off = some t) (a : ¬ x = 0 → ai_ev X M t L r h cs sl q) (b : x = 0 → ai_ev X M (pc + 3) L r h cs sl q) : ai_ev X M pc L (.int x :: r) h cs sl q := by
  by_cases hc : ¬ x = 0
  · exact ev_step hi rfl rfl (by simp only [ai_step, ht, ai_br]; exact if_neg hc) (a hc)
  · exact ev_step hi rfl rfl (by simp only [ai_step, ht, ai_br]; exact if_pos (Classical.not_not.mp hc)) (b (Classical.not_not.mp hc))
theorem ev_ic_lt {off : Int} {x y : Int32} (hi : ai_fd (ai_cd M) pc = some (.if_icmp .lt off)) (ht : ai_jp pc off = some t) (a : x < y → ai_ev X M t L r h cs sl q) (b : ¬ x < y → ai_ev X M (pc + 3) L r h cs sl q) : ai_ev X M pc L (.int y :: .int x :: r) h cs sl q := by
  by_cases hc : x < y
  · exact ev_step hi rfl rfl (by simp only [ai_step, ht, ai_br]; exact if_pos hc) (a hc)
  · exact ev_step hi rfl rfl (by simp only [ai_step, ht, ai_br]; exact if_neg hc) (b hc)
theorem ev_if_lt {off : Int} {x : Int32} (hi : ai_fd (ai_cd M) pc = some (.ifCond .lt off)) (ht : ai_jp pc off = some t) (a : x < 0 → ai_ev X M t L r h cs sl q) (b : ¬ x < 0 → ai_ev X M (pc + 3) L r h cs sl q) : ai_ev X M pc L (.int x :: r) h cs sl q := by
  by_cases hc : x < 0
  · exact ev_step hi rfl rfl (by simp only [ai_step, ht, ai_br]; exact if_pos hc) (a hc)
  · exact ev_step hi rfl rfl (by simp only [ai_step, ht, ai_br]; exact if_neg hc) (b hc)
theorem ev_ic_ge {off : Int} {x y : Int32} (hi : ai_fd (ai_cd M) pc = some (.if_icmp .ge off)) (ht : ai_jp pc off = some t) (a : y ≤ x → ai_ev X M t L r h cs sl q) (b : ¬ y ≤ x → ai_ev X M (pc + 3) L r h cs sl q) : ai_ev X M pc L (.int y :: .int x :: r) h cs sl q := by
  by_cases hc : y ≤ x
  · exact ev_step hi rfl rfl (by simp only [ai_step, ht, ai_br]; exact if_pos hc) (a hc)
  · exact ev_step hi rfl rfl (by simp only [ai_step, ht, ai_br]; exact if_neg hc) (b hc)
theorem ev_if_ge {off : Int} {x : Int32} (hi : ai_fd (ai_cd M) pc = some (.ifCond .ge off)) (ht : ai_jp pc off = some t) (a : 0 ≤ x → ai_ev X M t L r h cs sl q) (b : ¬ 0 ≤ x → ai_ev X M (pc + 3) L r h cs sl q) : ai_ev X M pc L (.int x :: r) h cs sl q := by
  by_cases hc : 0 ≤ x
  · exact ev_step hi rfl rfl (by simp only [ai_step, ht, ai_br]; exact if_pos hc) (a hc)
  · exact ev_step hi rfl rfl (by simp only [ai_step, ht, ai_br]; exact if_neg hc) (b hc)
theorem ev_ic_gt {off : Int} {x y : Int32} (hi : ai_fd (ai_cd M) pc = some (.if_icmp .gt off)) (ht : ai_jp pc off = some t) (a : y < x → ai_ev X M t L r h cs sl q) (b : ¬ y < x → ai_ev X M (pc + 3) L r h cs sl q) : ai_ev X M pc L (.int y :: .int x :: r) h cs sl q := by
  by_cases hc : y < x
  · exact ev_step hi rfl rfl (by simp only [ai_step, ht, ai_br]; exact if_pos hc) (a hc)
  · exact ev_step hi rfl rfl (by simp only [ai_step, ht, ai_br]; exact if_neg hc) (b hc)
theorem ev_if_gt {off : Int} {x : Int32} (hi : ai_fd (ai_cd M) pc = some (.ifCond .gt off)) (ht : ai_jp pc off = some t) (a : 0 < x → ai_ev X M t L r h cs sl q) (b : ¬ 0 < x → ai_ev X M (pc + 3) L r h cs sl q) : ai_ev X M pc L (.int x :: r) h cs sl q := by
  by_cases hc : 0 < x
  · exact ev_step hi rfl rfl (by simp only [ai_step, ht, ai_br]; exact if_pos hc) (a hc)
  · exact ev_step hi rfl rfl (by simp only [ai_step, ht, ai_br]; exact if_neg hc) (b hc)
theorem ev_ic_le {off : Int} {x y : Int32} (hi : ai_fd (ai_cd M) pc = some (.if_icmp .le off)) (ht : ai_jp pc off = some t) (a : x ≤ y → ai_ev X M t L r h cs sl q) (b : ¬ x ≤ y → ai_ev X M (pc + 3) L r h cs sl q) : ai_ev X M pc L (.int y :: .int x :: r) h cs sl q := by
  by_cases hc : x ≤ y
  · exact ev_step hi rfl rfl (by simp only [ai_step, ht, ai_br]; exact if_pos hc) (a hc)
  · exact ev_step hi rfl rfl (by simp only [ai_step, ht, ai_br]; exact if_neg hc) (b hc)
theorem ev_if_le {off : Int} {x : Int32} (hi : ai_fd (ai_cd M) pc = some (.ifCond .le off)) (ht : ai_jp pc off = some t) (a : x ≤ 0 → ai_ev X M t L r h cs sl q) (b : ¬ x ≤ 0 → ai_ev X M (pc + 3) L r h cs sl q) : ai_ev X M pc L (.int x :: r) h cs sl q := by
  by_cases hc : x ≤ 0
  · exact ev_step hi rfl rfl (by simp only [ai_step, ht, ai_br]; exact if_pos hc) (a hc)
  · exact ev_step hi rfl rfl (by simp only [ai_step, ht, ai_br]; exact if_neg hc) (b hc)
theorem ev_iald {a : Nat} {o : List Int32} {j x : Int32} (hi : ai_fd (ai_cd M) pc = some .iaload) (ho : ai_nth h a = some (.inl (false, o))) (hx : ai_ix o j = some x) (e : ai_ev X M (pc + 1) L (.int x :: r) h cs sl q) : ai_ev X M pc L (.int j :: .ref a :: r) h cs sl q := ev_step hi rfl rfl (by simp only [ai_step, ho, hx]) e
theorem ev_iast {a : Nat} {o o2 : List Int32} {j x : Int32} (hi : ai_fd (ai_cd M) pc = some .iastore) (ho : ai_nth h a = some (.inl (false, o))) (hx : ai_up o j x = some o2) (e : ai_ev X M (pc + 1) L r (h.set a (.inl (false, o2))) cs sl q) : ai_ev X M pc L (.int x :: .int j :: .ref a :: r) h cs sl q := ev_step hi rfl rfl (by simp only [ai_step, ho, hx]) e
theorem ev_sub {X' : List (List Int32)} (hX : ai_sub X X') (e : ai_ev X M pc L st h cs sl q) : ai_ev X' M pc L st h cs sl q := by
  obtain ⟨n, hn⟩ := e
  exact ⟨n, ai_run_sub hX _ _ _ _ _ _ _ _ _ hn⟩
theorem ev_of {n : Nat} (hn : ai_run X n M pc L st h cs sl = some q) : ai_ev X M pc L st h cs sl q := ⟨n, hn⟩
end EV
