section EV3
variable {X : List (List Int32)} {M : ai_M} {pc t : Nat} {L : ai_L} {st r : List Value} {h : ai_H} {cs sl : Nat} {q : Option Value × ai_H}
theorem ev_sln {k wi j : Nat} {x : Int32} (hi : ai_fd (ai_cd M) pc = some (.invokevirtual k)) (hw : ai_by (ai_naT (ai_cl M)) k = some (2, wi)) (hg : (Nat.ble 1 (ai_rm M).frames && Nat.ble cs (ai_rm M).cells && Nat.ble sl (ai_rm M).slots) = true) (hg2 : (Nat.beq 0 0 && Nat.ble 4 (ai_rm M).frames && Nat.ble 85 (ai_rm M).locals && Nat.ble (ai_cat r) 8) = true) (hz : ai_sln j = some x) (e : ai_ev X M (pc + 3) L (.int x :: r) h cs sl q) : ai_ev X M pc L (.retAddr j :: r) h cs sl q :=
  ev_natv hi rfl hw (by simp only [ai_nat, hg, hg2, hz]) e
theorem ev_sch {k wi j : Nat} {y x : Int32} (hi : ai_fd (ai_cd M) pc = some (.invokevirtual k)) (hw : ai_by (ai_naT (ai_cl M)) k = some (3, wi)) (hg : (Nat.ble 1 (ai_rm M).frames && Nat.ble cs (ai_rm M).cells && Nat.ble sl (ai_rm M).slots) = true) (hg2 : (Nat.beq 0 0 && Nat.ble 4 (ai_rm M).frames && Nat.ble 85 (ai_rm M).locals && Nat.ble (ai_cat r) 8) = true) (hz : ai_sch j y = some x) (e : ai_ev X M (pc + 3) L (.int x :: r) h cs sl q) : ai_ev X M pc L (.int y :: .retAddr j :: r) h cs sl q :=
  ev_natv hi rfl hw (by simp only [ai_nat, hg, hg2, hz]) e
end EV3
