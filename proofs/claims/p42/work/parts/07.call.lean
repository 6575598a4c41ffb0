theorem ai_caO0 : ∀ q ∈ ai_caT 0, ai_okM q.2.2.2.1 := List.forall_mem_cons.mpr ⟨ok_mfall_weightOf, List.forall_mem_cons.mpr ⟨ok_mfall_roomOf, List.forall_mem_cons.mpr ⟨ok_mfall_forceOf, List.forall_mem_cons.mpr ⟨ok_mfall_forget, List.forall_mem_cons.mpr ⟨ok_msea_thickAt, List.forall_mem_cons.mpr ⟨ok_mfall_getsThrough, List.forall_mem_cons.mpr ⟨ok_marr_fill, List.forall_mem_nil _⟩⟩⟩⟩⟩⟩⟩
theorem ai_caO2 : ∀ q ∈ ai_caT 2, ai_okM q.2.2.2.1 := List.forall_mem_cons.mpr ⟨ok_mthg_init, List.forall_mem_cons.mpr ⟨ok_mlift_init, List.forall_mem_cons.mpr ⟨ok_msea_startAnew, List.forall_mem_cons.mpr ⟨ok_mf_within, List.forall_mem_cons.mpr ⟨ok_marr_fill, List.forall_mem_cons.mpr ⟨ok_mthg_copyFrom, List.forall_mem_cons.mpr ⟨ok_mlift_copyFrom, List.forall_mem_cons.mpr ⟨ok_msea_hasCell, List.forall_mem_cons.mpr ⟨ok_mf_isLayer, List.forall_mem_cons.mpr ⟨ok_msea_hasPlace, List.forall_mem_cons.mpr ⟨ok_mlift_add, List.forall_mem_cons.mpr ⟨ok_msea_thickAt, List.forall_mem_nil _⟩⟩⟩⟩⟩⟩⟩⟩⟩⟩⟩⟩
theorem ai_caO3 : ∀ q ∈ ai_caT 3, ai_okM q.2.2.2.1 := List.forall_mem_cons.mpr ⟨ok_marr_fill, List.forall_mem_nil _⟩
theorem ai_caO4 : ∀ q ∈ ai_caT 4, ai_okM q.2.2.2.1 := List.forall_mem_cons.mpr ⟨ok_mf_within, List.forall_mem_cons.mpr ⟨ok_mtxt_skipBlanks, List.forall_mem_cons.mpr ⟨ok_mtxt_takeWord, List.forall_mem_cons.mpr ⟨ok_mtxt_numbersBehind, List.forall_mem_cons.mpr ⟨ok_mtxt_takeNumbers, List.forall_mem_cons.mpr ⟨ok_mtxt_tellItem, List.forall_mem_cons.mpr ⟨ok_mtxt_nameOf, List.forall_mem_cons.mpr ⟨ok_mtxt_isWord, List.forall_mem_cons.mpr ⟨ok_mtxt_isFigure, List.forall_mem_cons.mpr ⟨ok_msea_startAnew, List.forall_mem_cons.mpr ⟨ok_msea_putDensity, List.forall_mem_cons.mpr ⟨ok_msea_putThick, List.forall_mem_cons.mpr ⟨ok_msea_putSkin, List.forall_mem_cons.mpr ⟨ok_mthg_add, List.forall_mem_cons.mpr ⟨ok_msea_addLift, List.forall_mem_cons.mpr ⟨ok_msea_addTown, List.forall_mem_cons.mpr ⟨ok_msea_putDam, List.forall_mem_nil _⟩⟩⟩⟩⟩⟩⟩⟩⟩⟩⟩⟩⟩⟩⟩⟩⟩
theorem ai_caO5 : ∀ q ∈ ai_caT 5, ai_okM q.2.2.2.1 := List.forall_mem_cons.mpr ⟨ok_mf_within, List.forall_mem_nil _⟩
theorem ai_caO6 : ∀ q ∈ ai_caT 6, ai_okM q.2.2.2.1 := List.forall_mem_cons.mpr ⟨ok_marr_fill, List.forall_mem_cons.mpr ⟨ok_mway_numberOf, List.forall_mem_cons.mpr ⟨ok_mway_goByLifts, List.forall_mem_cons.mpr ⟨ok_mway_goBeside, List.forall_mem_cons.mpr ⟨ok_mway_join, List.forall_mem_cons.mpr ⟨ok_msea_thickAt, List.forall_mem_nil _⟩⟩⟩⟩⟩⟩
theorem ai_caO7 : ∀ q ∈ ai_caT 7, ai_okM q.2.2.2.1 := List.forall_mem_cons.mpr ⟨ok_msea_init, List.forall_mem_cons.mpr ⟨ok_mtxt_init, List.forall_mem_cons.mpr ⟨ok_mfall_init, List.forall_mem_cons.mpr ⟨ok_mspr_init, List.forall_mem_cons.mpr ⟨ok_mway_init, List.forall_mem_cons.mpr ⟨ok_msea_startAnew, List.forall_mem_cons.mpr ⟨ok_mf_counted, List.forall_mem_cons.mpr ⟨ok_msea_putDensity, List.forall_mem_cons.mpr ⟨ok_msea_putThick, List.forall_mem_cons.mpr ⟨ok_msea_putSkin, List.forall_mem_cons.mpr ⟨ok_mf_isLayer, List.forall_mem_cons.mpr ⟨ok_mf_within, List.forall_mem_cons.mpr ⟨ok_mf_bad, List.forall_mem_cons.mpr ⟨ok_mthg_add, List.forall_mem_cons.mpr ⟨ok_mthg_has, List.forall_mem_cons.mpr ⟨ok_msea_addLift, List.forall_mem_cons.mpr ⟨ok_msea_addTown, List.forall_mem_cons.mpr ⟨ok_msea_putDam, List.forall_mem_cons.mpr ⟨ok_msea_addDrop, List.forall_mem_cons.mpr ⟨ok_msea_empty, List.forall_mem_cons.mpr ⟨ok_mtxt_add, List.forall_mem_cons.mpr ⟨ok_mtxt_tell, List.forall_mem_cons.mpr ⟨ok_msea_copyFrom, List.forall_mem_cons.mpr ⟨ok_msea_goOn, List.forall_mem_cons.mpr ⟨ok_msea_goBack, List.forall_mem_cons.mpr ⟨ok_mf_shapeNow, List.forall_mem_cons.mpr ⟨ok_msea_hasCell, List.forall_mem_cons.mpr ⟨ok_msea_thickAt, List.forall_mem_cons.mpr ⟨ok_mf_letGoNow, List.forall_mem_cons.mpr ⟨ok_mf_takesBallast, List.forall_mem_cons.mpr ⟨ok_mf_leastBallast, List.forall_mem_cons.mpr ⟨ok_mf_letGoWithBallast, List.forall_mem_cons.mpr ⟨ok_msea_hasPlace, List.forall_mem_cons.mpr ⟨ok_mway_soonestWay, List.forall_mem_cons.mpr ⟨ok_msea_ceilingOf, List.forall_mem_cons.mpr ⟨ok_msea_duesOf, List.forall_mem_cons.mpr ⟨ok_mf_isSpill, List.forall_mem_cons.mpr ⟨ok_mspr_start, List.forall_mem_cons.mpr ⟨ok_mspr_goOn, List.forall_mem_cons.mpr ⟨ok_mint_bitCount, List.forall_mem_cons.mpr ⟨ok_mf_keepsOut, List.forall_mem_cons.mpr ⟨ok_msea_allThick, List.forall_mem_cons.mpr ⟨ok_mfall_shape, List.forall_mem_cons.mpr ⟨ok_mfall_letGo, List.forall_mem_cons.mpr ⟨ok_mfall_driftFrom, List.forall_mem_cons.mpr ⟨ok_mf_areFish, List.forall_mem_cons.mpr ⟨ok_mf_fillDowns, List.forall_mem_cons.mpr ⟨ok_mf_caught, List.forall_mem_cons.mpr ⟨ok_msea_sweetInAll, List.forall_mem_cons.mpr ⟨ok_mf_isBestTap, List.forall_mem_cons.mpr ⟨ok_msea_fitsDrops, List.forall_mem_cons.mpr ⟨ok_mf_nextToTry, List.forall_mem_cons.mpr ⟨ok_mf_chanceOf, List.forall_mem_cons.mpr ⟨ok_mf_putFraction, List.forall_mem_cons.mpr ⟨ok_mf_imageAt, List.forall_mem_cons.mpr ⟨ok_msea_countOf, List.forall_mem_cons.mpr ⟨ok_msea_digestWaters, List.forall_mem_cons.mpr ⟨ok_msea_digestRows, List.forall_mem_cons.mpr ⟨ok_mf_shapeWithBallast, List.forall_mem_cons.mpr ⟨ok_mspr_isIn, List.forall_mem_cons.mpr ⟨ok_mf_tapped, List.forall_mem_nil _⟩⟩⟩⟩⟩⟩⟩⟩⟩⟩⟩⟩⟩⟩⟩⟩⟩⟩⟩⟩⟩⟩⟩⟩⟩⟩⟩⟩⟩⟩⟩⟩⟩⟩⟩⟩⟩⟩⟩⟩⟩⟩⟩⟩⟩⟩⟩⟩⟩⟩⟩⟩⟩⟩⟩⟩⟩⟩⟩⟩⟩
theorem ai_caO8 : ∀ q ∈ ai_caT 8, ai_okM q.2.2.2.1 := List.forall_mem_cons.mpr ⟨ok_mm_begins, List.forall_mem_cons.mpr ⟨ok_mm_met, List.forall_mem_cons.mpr ⟨ok_mm_in, List.forall_mem_cons.mpr ⟨ok_mm_isCellOf, List.forall_mem_cons.mpr ⟨ok_mm_isLayer, List.forall_mem_cons.mpr ⟨ok_mm_becomes, List.forall_mem_cons.mpr ⟨ok_mm_isPlaceOf, List.forall_mem_cons.mpr ⟨ok_mm_has, List.forall_mem_cons.mpr ⟨ok_mm_seaTo, List.forall_mem_cons.mpr ⟨ok_mm_waterTo, List.forall_mem_cons.mpr ⟨ok_mm_thickTo, List.forall_mem_cons.mpr ⟨ok_mm_skinTo, List.forall_mem_cons.mpr ⟨ok_mm_badAs, List.forall_mem_cons.mpr ⟨ok_mm_thingTo, List.forall_mem_cons.mpr ⟨ok_mm_isThing, List.forall_mem_cons.mpr ⟨ok_mm_bad, List.forall_mem_cons.mpr ⟨ok_mm_liftTo, List.forall_mem_cons.mpr ⟨ok_mm_townTo, List.forall_mem_cons.mpr ⟨ok_mm_damTo, List.forall_mem_cons.mpr ⟨ok_mm_byteAt, List.forall_mem_cons.mpr ⟨ok_mm_isNamed, List.forall_mem_cons.mpr ⟨ok_mm_wordNow, List.forall_mem_cons.mpr ⟨ok_mm_manyOf, List.forall_mem_cons.mpr ⟨ok_mm_token, List.forall_mem_cons.mpr ⟨ok_mm_takesItem, List.forall_mem_cons.mpr ⟨ok_mm_done, List.forall_mem_cons.mpr ⟨ok_mm_copy, List.forall_mem_cons.mpr ⟨ok_mm_lesser, List.forall_mem_cons.mpr ⟨ok_mm_weighs, List.forall_mem_cons.mpr ⟨ok_mm_thickIn, List.forall_mem_cons.mpr ⟨ok_mm_breaks, List.forall_mem_cons.mpr ⟨ok_mm_room, List.forall_mem_cons.mpr ⟨ok_mm_lay, List.forall_mem_cons.mpr ⟨ok_mm_isCell, List.forall_mem_cons.mpr ⟨ok_mm_comesDown, List.forall_mem_cons.mpr ⟨ok_mm_isLoaded, List.forall_mem_cons.mpr ⟨ok_mm_leastFor, List.forall_mem_cons.mpr ⟨ok_mm_comesTo, List.forall_mem_cons.mpr ⟨ok_mm_isThick, List.forall_mem_cons.mpr ⟨ok_mm_ceilingOf, List.forall_mem_cons.mpr ⟨ok_mm_duesOf, List.forall_mem_cons.mpr ⟨ok_mm_laySpill, List.forall_mem_cons.mpr ⟨ok_mm_spills, List.forall_mem_cons.mpr ⟨ok_mm_ones, List.forall_mem_cons.mpr ⟨ok_mm_keepsOut, List.forall_mem_cons.mpr ⟨ok_mm_driftsTo, List.forall_mem_cons.mpr ⟨ok_mm_tapped, List.forall_mem_cons.mpr ⟨ok_mm_fits, List.forall_mem_cons.mpr ⟨ok_mm_tells, List.forall_mem_cons.mpr ⟨ok_mm_countOf, List.forall_mem_cons.mpr ⟨ok_mm_mix, List.forall_mem_cons.mpr ⟨ok_mm_mixSea, List.forall_mem_nil _⟩⟩⟩⟩⟩⟩⟩⟩⟩⟩⟩⟩⟩⟩⟩⟩⟩⟩⟩⟩⟩⟩⟩⟩⟩⟩⟩⟩⟩⟩⟩⟩⟩⟩⟩⟩⟩⟩⟩⟩⟩⟩⟩⟩⟩⟩⟩⟩⟩⟩⟩⟩
theorem ai_caO9 : ∀ q ∈ ai_caT 9, ai_okM q.2.2.2.1 := List.forall_mem_cons.mpr ⟨ok_mf_init, List.forall_mem_cons.mpr ⟨ok_mm_init, List.forall_mem_cons.mpr ⟨ok_mf_sea, List.forall_mem_cons.mpr ⟨ok_mm_sea, List.forall_mem_cons.mpr ⟨ok_mf_water, List.forall_mem_cons.mpr ⟨ok_mm_water, List.forall_mem_cons.mpr ⟨ok_mf_thick, List.forall_mem_cons.mpr ⟨ok_mm_thick, List.forall_mem_cons.mpr ⟨ok_mf_skin, List.forall_mem_cons.mpr ⟨ok_mm_skin, List.forall_mem_cons.mpr ⟨ok_mf_tide, List.forall_mem_cons.mpr ⟨ok_mm_tide, List.forall_mem_cons.mpr ⟨ok_mf_current, List.forall_mem_cons.mpr ⟨ok_mm_current, List.forall_mem_cons.mpr ⟨ok_mf_thing, List.forall_mem_cons.mpr ⟨ok_mm_thing, List.forall_mem_cons.mpr ⟨ok_mf_ballast, List.forall_mem_cons.mpr ⟨ok_mm_ballast, List.forall_mem_cons.mpr ⟨ok_mf_lift, List.forall_mem_cons.mpr ⟨ok_mm_lift, List.forall_mem_cons.mpr ⟨ok_mf_town, List.forall_mem_cons.mpr ⟨ok_mm_town, List.forall_mem_cons.mpr ⟨ok_mf_dam, List.forall_mem_cons.mpr ⟨ok_mm_dam, List.forall_mem_cons.mpr ⟨ok_mf_drop, List.forall_mem_cons.mpr ⟨ok_mm_drop, List.forall_mem_cons.mpr ⟨ok_mf_clean, List.forall_mem_cons.mpr ⟨ok_mm_clean, List.forall_mem_cons.mpr ⟨ok_mf_type, List.forall_mem_cons.mpr ⟨ok_mm_type, List.forall_mem_cons.mpr ⟨ok_mf_clear, List.forall_mem_cons.mpr ⟨ok_mm_clear, List.forall_mem_cons.mpr ⟨ok_mf_read, List.forall_mem_cons.mpr ⟨ok_mm_read, List.forall_mem_cons.mpr ⟨ok_mf_hours, List.forall_mem_cons.mpr ⟨ok_mm_hours, List.forall_mem_cons.mpr ⟨ok_mf_undo, List.forall_mem_cons.mpr ⟨ok_mm_undo, List.forall_mem_cons.mpr ⟨ok_mf_of, List.forall_mem_cons.mpr ⟨ok_mm_of, List.forall_mem_cons.mpr ⟨ok_mf_deep, List.forall_mem_cons.mpr ⟨ok_mm_deep, List.forall_mem_cons.mpr ⟨ok_mf_rests, List.forall_mem_cons.mpr ⟨ok_mm_rests, List.forall_mem_cons.mpr ⟨ok_mf_sink, List.forall_mem_cons.mpr ⟨ok_mm_sink, List.forall_mem_cons.mpr ⟨ok_mf_holds, List.forall_mem_cons.mpr ⟨ok_mm_holds, List.forall_mem_cons.mpr ⟨ok_mf_bestHour, List.forall_mem_cons.mpr ⟨ok_mm_bestHour, List.forall_mem_cons.mpr ⟨ok_mf_soonest, List.forall_mem_cons.mpr ⟨ok_mm_soonest, List.forall_mem_cons.mpr ⟨ok_mf_net, List.forall_mem_cons.mpr ⟨ok_mm_net, List.forall_mem_cons.mpr ⟨ok_mf_spill, List.forall_mem_cons.mpr ⟨ok_mm_spill, List.forall_mem_cons.mpr ⟨ok_mf_keepOut, List.forall_mem_cons.mpr ⟨ok_mm_keepOut, List.forall_mem_cons.mpr ⟨ok_mf_shaken, List.forall_mem_cons.mpr ⟨ok_mm_shaken, List.forall_mem_cons.mpr ⟨ok_mf_lies, List.forall_mem_cons.mpr ⟨ok_mm_lies, List.forall_mem_cons.mpr ⟨ok_mf_wentIn, List.forall_mem_cons.mpr ⟨ok_mm_wentIn, List.forall_mem_cons.mpr ⟨ok_mf_nets, List.forall_mem_cons.mpr ⟨ok_mm_nets, List.forall_mem_cons.mpr ⟨ok_mf_tap, List.forall_mem_cons.mpr ⟨ok_mm_tap, List.forall_mem_cons.mpr ⟨ok_mf_known, List.forall_mem_cons.mpr ⟨ok_mm_known, List.forall_mem_cons.mpr ⟨ok_mf_storm, List.forall_mem_cons.mpr ⟨ok_mm_storm, List.forall_mem_cons.mpr ⟨ok_mf_part, List.forall_mem_cons.mpr ⟨ok_mm_part, List.forall_mem_cons.mpr ⟨ok_mf_image, List.forall_mem_cons.mpr ⟨ok_mm_image, List.forall_mem_cons.mpr ⟨ok_mf_from, List.forall_mem_cons.mpr ⟨ok_mm_from, List.forall_mem_cons.mpr ⟨ok_mf_status, List.forall_mem_cons.mpr ⟨ok_mm_status, List.forall_mem_cons.mpr ⟨ok_mf_count, List.forall_mem_cons.mpr ⟨ok_mm_count, List.forall_mem_cons.mpr ⟨ok_mf_digest, List.forall_mem_cons.mpr ⟨ok_mm_digest, List.forall_mem_nil _⟩⟩⟩⟩⟩⟩⟩⟩⟩⟩⟩⟩⟩⟩⟩⟩⟩⟩⟩⟩⟩⟩⟩⟩⟩⟩⟩⟩⟩⟩⟩⟩⟩⟩⟩⟩⟩⟩⟩⟩⟩⟩⟩⟩⟩⟩⟩⟩⟩⟩⟩⟩⟩⟩⟩⟩⟩⟩⟩⟩⟩⟩⟩⟩⟩⟩⟩⟩⟩⟩⟩⟩⟩⟩⟩⟩⟩⟩⟩⟩⟩⟩⟩⟩
theorem ai_caOK : ∀ c, ∀ q ∈ ai_caT c, ai_okM q.2.2.2.1
  | 0 => ai_caO0
  | 1 => fun q h => by cases h
  | 2 => ai_caO2
  | 3 => ai_caO3
  | 4 => ai_caO4
  | 5 => ai_caO5
  | 6 => ai_caO6
  | 7 => ai_caO7
  | 8 => ai_caO8
  | 9 => ai_caO9
  | 10 => fun q h => by cases h
  | 11 => fun q h => by cases h
  | 12 => fun q h => by cases h
  | _ + 13 => fun q h => by cases h
/-! what the interpreter comes to, rows for walking it -/
def ai_sub (X X' : List (List Int32)) : Prop := ∀ (k : Nat) (o : List Int32), ai_nth X k = some o → ai_nth X' k = some o
theorem ai_step_sub {X X' : List (List Int32)} (hX : ai_sub X X') {M : ai_M} {i : Instr} {pc : Nat} {L : ai_L} {st : List Value} {h : ai_H} {cs sl : Nat} {q : ai_S} (hs : ai_step X M i pc L st h cs sl = some q) : ai_step X' M i pc L st h cs sl = some q := by
  cases i with
  | iaload =>
    simp only [ai_step] at hs ⊢
    split at hs
    · exact hs
    · rename_i j a r
      split at hs
      · rename_i o ho
        rw [hX a o ho]
        exact hs
      · cases hs
    · cases hs
  | arraylength =>
    simp only [ai_step] at hs ⊢
    split at hs
    · exact hs
    · rename_i a r
      split at hs
      · rename_i o ho
        rw [hX a o ho]
        exact hs
      · cases hs
    · cases hs
  | _ => exact hs
theorem ai_nat_sub {X X' : List (List Int32)} (hX : ai_sub X X') {M : ai_M} {kb w : Nat} {st : List Value} {h : ai_H} {cs sl : Nat} {q : List Value × ai_H} (hs : ai_nat X M kb w st h cs sl = some q) : ai_nat X' M kb w st h cs sl = some q := by
  unfold ai_nat at hs ⊢
  split at hs
  · cases hs
  · rename_i hg
    try rw [hg]
    try simp only
    split at hs
    · exact hs
    · split at hs
      · split at hs
        · rename_i hq
          try simp only [hq]
          split at hs
          · rename_i o ho
            try simp only [ho]
            split at hs
            · rename_i hz
              try simp only [hz]
              split at hs
              · exact hs
              · rename_i b
                split at hs
                · rename_i f hf
                  try simp only [hX b f hf]
                  exact hs
                · cases hs
              · cases hs
            · cases hs
          · cases hs
        · cases hs
      · cases hs
    · exact hs
    · exact hs
    · exact hs
    · exact hs
    · cases hs
theorem ai_run_sub {X X' : List (List Int32)} (hX : ai_sub X X') : ∀ (n : Nat) (M : ai_M) (pc : Nat) (L : ai_L) (st : List Value) (h : ai_H) (cs sl : Nat) (q : Option Value × ai_H), ai_run X n M pc L st h cs sl = some q → ai_run X' n M pc L st h cs sl = some q := by
  intro n
  induction n with
  | zero => intro M pc L st h cs sl q hr; simp [ai_run] at hr
  | succ n ih =>
    intro M pc L st h cs sl q hr
    rw [ai_run] at hr ⊢
    split at hr
    · cases hr
    · rename_i i hi
      try simp only [hi]
      split at hr
      · rename_i hci
        try simp only [hci]
        split at hr
        · rename_i hk
          try simp only [hk]
          exact hr
        · rename_i hk
          try simp only [hk]
          split at hr
          · cases hr
          · rename_i z hz
            try simp only [ai_step_sub hX hz]
            exact ih _ _ _ _ _ _ _ _ hr
      · rename_i k hci
        try simp only [hci]
        split at hr
        · rename_i w hw
          try simp only [hw]
          split at hr
          · cases hr
          · rename_i z hz
            try simp only [ai_nat_sub hX hz]
            exact ih _ _ _ _ _ _ _ _ hr
        · rename_i hw
          try simp only [hw]
          split at hr
          · cases hr
          · rename_i w hw2
            try simp only [hw2]
            split at hr
            · cases hr
            · rename_i z hz
              try simp only [hz]
              split at hr
              · cases hr
              · rename_i y hy
                try simp only [ih _ _ _ _ _ _ _ _ hy]
                exact ih _ _ _ _ _ _ _ _ hr
theorem ai_run_more {X : List (List Int32)} : ∀ (n : Nat) (M : ai_M) (pc : Nat) (L : ai_L) (st : List Value) (h : ai_H) (cs sl : Nat) (q : Option Value × ai_H), ai_run X n M pc L st h cs sl = some q → ai_run X (n + 1) M pc L st h cs sl = some q := by
  intro n
  induction n with
  | zero => intro M pc L st h cs sl q hr; simp [ai_run] at hr
  | succ n ih =>
    intro M pc L st h cs sl q hr
    rw [ai_run] at hr ⊢
    split at hr
    · cases hr
    · rename_i i hi
      try simp only [hi]
      split at hr
      · rename_i hci
        try simp only [hci]
        split at hr
        · rename_i hk
          try simp only [hk]
          exact hr
        · rename_i hk
          try simp only [hk]
          split at hr
          · cases hr
          · rename_i z hz
            try simp only [hz]
            exact ih _ _ _ _ _ _ _ _ hr
      · rename_i k hci
        try simp only [hci]
        split at hr
        · rename_i w hw
          try simp only [hw]
          split at hr
          · cases hr
          · rename_i z hz
            try simp only [hz]
            exact ih _ _ _ _ _ _ _ _ hr
        · rename_i hw
          try simp only [hw]
          split at hr
          · cases hr
          · rename_i w hw2
            try simp only [hw2]
            split at hr
            · cases hr
            · rename_i z hz
              try simp only [hz]
              split at hr
              · cases hr
              · rename_i y hy
                try simp only [ih _ _ _ _ _ _ _ _ hy]
                exact ih _ _ _ _ _ _ _ _ hr
theorem ai_run_le {X : List (List Int32)} {n k : Nat} (hk : n ≤ k) {M : ai_M} {pc : Nat} {L : ai_L} {st : List Value} {h : ai_H} {cs sl : Nat} {q : Option Value × ai_H} (hr : ai_run X n M pc L st h cs sl = some q) : ai_run X k M pc L st h cs sl = some q := by
  induction hk with
  | refl => exact hr
  | step _ ih => exact ai_run_more _ _ _ _ _ _ _ _ _ ih
/-- the run from here comes to q -/
def ai_ev (X : List (List Int32)) (M : ai_M) (pc : Nat) (L : ai_L) (st : List Value) (h : ai_H) (cs sl : Nat) (q : Option Value × ai_H) : Prop := ∃ n, ai_run X n M pc L st h cs sl = some q
/-- k instructions that are no calls of methods and no ends -/
def ai_go (X : List (List Int32)) (M : ai_M) : Nat → Nat → ai_L → List Value → ai_H → Nat → Nat → Option ai_S
  | 0, pc, L, st, h, cs, sl => some (pc, L, st, h, cs, sl)
  | k + 1, pc, L, st, h, cs, sl => match ai_fd (ai_cd M) pc with
    | none => none
    | some i => match ai_ci i with
      | none => match ai_rk i with
        | true => none
        | false => match ai_step X M i pc L st h cs sl with
          | none => none
          | some (pc', L', st', h', cs', sl') => ai_go X M k pc' L' st' h' cs' sl'
      | some w => match ai_by (ai_naT (ai_cl M)) w.2 with
        | none => none
        | some z => match ai_nat X M w.1 z.1 st h cs sl with
          | none => none
          | some (st', h') => ai_go X M k (pc + 3) L st' h' cs sl
section EV
variable {X : List (List Int32)} {M : ai_M} {pc t : Nat} {L : ai_L} {st r : List Value} {h : ai_H} {cs sl : Nat} {q : Option Value × ai_H}
theorem ev_go (k : Nat) {pc' : Nat} {L' : ai_L} {st' : List Value} {h' : ai_H} {cs' sl' : Nat} (hg : ai_go X M k pc L st h cs sl = some (pc', L', st', h', cs', sl')) (e : ai_ev X M pc' L' st' h' cs' sl' q) : ai_ev X M pc L st h cs sl q := by
  induction k generalizing pc L st h cs sl with
  | zero =>
    simp only [ai_go, Option.some.injEq, Prod.mk.injEq] at hg
    obtain ⟨rfl, rfl, rfl, rfl, rfl, rfl⟩ := hg
    exact e
  | succ k ih =>
    rw [ai_go] at hg
    split at hg
    · cases hg
    · rename_i i hi
      split at hg
      · rename_i hci
        split at hg
        · cases hg
        · rename_i hk
          split at hg
          · cases hg
          · rename_i p1 L1 s1 h1 c1 l1 hs
            obtain ⟨n, hn⟩ := ih hg
            refine ⟨n + 1, ?_⟩
            rw [ai_run]
            simp only [hi, hci, hk, hs]
            exact hn
      · rename_i w hci
        split at hg
        · cases hg
        · rename_i z hz
          split at hg
          · cases hg
          · rename_i s1 h1 hs
            obtain ⟨n, hn⟩ := ih hg
            refine ⟨n + 1, ?_⟩
            rw [ai_run]
            simp only [hi, hci, hz, hs]
            exact hn
theorem ev_end (he : (match ai_fd (ai_cd M) pc with | none => none | some i => (match ai_ci i with | none => (match ai_rk i with | true => ai_ret M i st h cs sl | false => none) | some _ => none)) = some q) : ai_ev X M pc L st h cs sl q := by
  refine ⟨1, ?_⟩
  rw [ai_run]
  split at he
  · cases he
  · rename_i i hi
    simp only [hi]
    split at he
    · rename_i hci
      simp only [hci]
      split at he
      · rename_i hk
        simp only [hk]
        exact he
      · cases he
    · cases he
/-- the callee, its first locals, what stays on the stack -/
def ai_pre (M : ai_M) (pc : Nat) (st : List Value) (h : ai_H) (cs sl : Nat) : Option (ai_M × ai_L × List Value) := match ai_fd (ai_cd M) pc with
  | none => none
  | some i => match ai_ci i with
    | none => none
    | some k => match ai_by (ai_naT (ai_cl M)) k.2 with
      | some _ => none
      | none => match ai_by (ai_caT (ai_cl M)) k.2 with
        | none => none
        | some w => match ai_arg M k.1 w.1 w.2.1 w.2.2.1 st h cs sl with
          | none => none
          | some z => some (w.2.2.1, ai_pad (ai_mL w.2.2.1) (ai_en z.1), z.2)
theorem ev_call {M' : ai_M} {L' : ai_L} {rest : List Value} {rv : Option Value} {h' : ai_H} (hp : ai_pre M pc st h cs sl = some (M', L', rest)) (e1 : ai_ev X M' 0 L' [] h 0 0 (rv, h')) (e2 : ai_ev X M (pc + 3) L (rv.toList ++ rest) h' (cs + (ai_rm M').cells) (sl + (ai_rm M').slots) q) : ai_ev X M pc L st h cs sl q := by
  obtain ⟨n1, h1⟩ := e1
  obtain ⟨n2, h2⟩ := e2
  refine ⟨max n1 n2 + 1, ?_⟩
  rw [ai_run]
  unfold ai_pre at hp
  split at hp
  · cases hp
  · rename_i i hi
    simp only [hi]
    split at hp
    · cases hp
    · rename_i k hk
      simp only [hk]
      split at hp
      · cases hp
      · rename_i hn
        simp only [hn]
        split at hp
        · cases hp
        · rename_i w hw
          simp only [hw]
          split at hp
          · cases hp
          · rename_i z hz
            simp only [hz]
            simp only [Option.some.injEq, Prod.mk.injEq] at hp
            obtain ⟨rfl, rfl, rfl⟩ := hp
            simp only [ai_run_le (Nat.le_max_left n1 n2) h1]
            exact ai_run_le (Nat.le_max_right n1 n2) h2
theorem ev_step {i : Instr} (hi : ai_fd (ai_cd M) pc = some i) (hci : ai_ci i = none) (hk : ai_rk i = false) {pc' : Nat} {L' : ai_L} {st' : List Value} {h' : ai_H} {cs' sl' : Nat} (hs : ai_step X M i pc L st h cs sl = some (pc', L', st', h', cs', sl')) (e : ai_ev X M pc' L' st' h' cs' sl' q) : ai_ev X M pc L st h cs sl q := by
  obtain ⟨n, hn⟩ := e
  refine ⟨n + 1, ?_⟩
  rw [ai_run]
  simp only [hi, hci, hk, hs]
  exact hn
theorem ev_ic_eq {off : Int} {x y : Int32} (hi : ai_fd (ai_cd M) pc = some (.if_icmp .eq off)) (ht : ai_jp pc off = some t) (a : x = y → ai_ev X M t L r h cs sl q) (b : ¬ x = y → ai_ev X M (pc + 3) L r h cs sl q) : ai_ev X M pc L (.int y :: .int x :: r) h cs sl q := by
  by_cases hc : x = y
  · exact ev_step hi rfl rfl (by simp only [ai_step, ht, ai_br]; exact if_pos hc) (a hc)
  · exact ev_step hi rfl rfl (by simp only [ai_step, ht, ai_br]; exact if_neg hc) (b hc)
theorem ev_if_eq {off : Int} {x : Int32} (hi : ai_fd (ai_cd M) pc = some (.ifCond .eq off)) (ht : ai_jp pc off = some t) (a : x = 0 → ai_ev X M t L r h cs sl q) (b : ¬ x = 0 → ai_ev X M (pc + 3) L r h cs sl q) : ai_ev X M pc L (.int x :: r) h cs sl q := by
  by_cases hc : x = 0
  · exact ev_step hi rfl rfl (by simp only [ai_step, ht, ai_br]; exact if_pos hc) (a hc)
  · exact ev_step hi rfl rfl (by simp only [ai_step, ht, ai_br]; exact if_neg hc) (b hc)
theorem ev_ic_ne {off : Int} {x y : Int32} (hi : ai_fd (ai_cd M) pc = some (.if_icmp .ne off)) (ht : ai_jp pc off = some t) (a : ¬ x = y → ai_ev X M t L r h cs sl q) (b : x = y → ai_ev X M (pc + 3) L r h cs sl q) : ai_ev X M pc L (.int y :: .int x :: r) h cs sl q := by
  by_cases hc : ¬ x = y
  · exact ev_step hi rfl rfl (by simp only [ai_step, ht, ai_br]; exact if_neg hc) (a hc)
  · exact ev_step hi rfl rfl (by simp only [ai_step, ht, ai_br]; exact if_pos (Classical.not_not.mp hc)) (b (Classical.not_not.mp hc))
theorem ev_if_ne {off : Int} {x : Int32} (hi : ai_fd (ai_cd M) pc = some (.ifCond .ne off)) (ht : ai_jp pc off = some t) (a : ¬ x = 0 → ai_ev X M t L r h cs sl q) (b : x = 0 → ai_ev X M (pc + 3) L r h cs sl q) : ai_ev X M pc L (.int x :: r) h cs sl q := by
  by_cases hc : ¬ x = 0
  · exact ev_step hi rfl rfl (by simp only [ai_step, ht, ai_br]; exact if_neg hc) (a hc)
  · exact ev_step hi rfl rfl (by simp only [ai_step, ht, ai_br]; exact if_pos (Classical.not_not.mp hc)) (b (Classical.not_not.mp hc))
theorem ev_ic_lt {off : Int} {x y : Int32} (hi : ai_fd (ai_cd M) pc = some (.if_icmp .lt off)) (ht : ai_jp pc off = some t) (a : x < y → ai_ev X M t L r h cs sl q) (b : ¬ x < y → ai_ev X M (pc + 3) L r h cs sl q) : ai_ev X M pc L (.int y :: .int x :: r) h cs sl q := by
  by_cases hc : x < y
  · exact ev_step hi rfl rfl (by simp only [ai_step, ht, ai_br]; exact if_pos hc) (a hc)
  · exact ev_step hi rfl rfl (by simp only [ai_step, ht, ai_br]; exact if_neg hc) (b hc)
theorem ev_if_lt {off : Int} {x : Int32} (hi : ai_fd (ai_cd M) pc = some (.ifCond .lt off)) (ht : ai_jp pc off = some t) (a : x < 0 → ai_ev X M t L r h cs sl q) (b : ¬ x < 0 → ai_ev X M (pc + 3) L r h cs sl q) : ai_ev X M pc L (.int x :: r) h cs sl q := by
  by_cases hc : x < 0
  · exact ev_step hi rfl rfl (by simp only [ai_step, ht, ai_br]; exact if_pos hc) (a hc)
  · exact ev_step hi rfl rfl (by simp only [ai_step, ht, ai_br]; exact if_neg hc) (b hc)
theorem ev_ic_ge {off : Int} {x y : Int32} (hi : ai_fd (ai_cd M) pc = some (.if_icmp .ge off)) (ht : ai_jp pc off = some t) (a : y ≤ x → ai_ev X M t L r h cs sl q) (b : ¬ y ≤ x → ai_ev X M (pc + 3) L r h cs sl q) : ai_ev X M pc L (.int y :: .int x :: r) h cs sl q := by
  by_cases hc : y ≤ x
  · exact ev_step hi rfl rfl (by simp only [ai_step, ht, ai_br]; exact if_pos hc) (a hc)
  · exact ev_step hi rfl rfl (by simp only [ai_step, ht, ai_br]; exact if_neg hc) (b hc)
theorem ev_if_ge {off : Int} {x : Int32} (hi : ai_fd (ai_cd M) pc = some (.ifCond .ge off)) (ht : ai_jp pc off = some t) (a : 0 ≤ x → ai_ev X M t L r h cs sl q) (b : ¬ 0 ≤ x → ai_ev X M (pc + 3) L r h cs sl q) : ai_ev X M pc L (.int x :: r) h cs sl q := by
  by_cases hc : 0 ≤ x
  · exact ev_step hi rfl rfl (by simp only [ai_step, ht, ai_br]; exact if_pos hc) (a hc)
  · exact ev_step hi rfl rfl (by simp only [ai_step, ht, ai_br]; exact if_neg hc) (b hc)
theorem ev_ic_gt {off : Int} {x y : Int32} (hi : ai_fd (ai_cd M) pc = some (.if_icmp .gt off)) (ht : ai_jp pc off = some t) (a : y < x → ai_ev X M t L r h cs sl q) (b : ¬ y < x → ai_ev X M (pc + 3) L r h cs sl q) : ai_ev X M pc L (.int y :: .int x :: r) h cs sl q := by
  by_cases hc : y < x
  · exact ev_step hi rfl rfl (by simp only [ai_step, ht, ai_br]; exact if_pos hc) (a hc)
  · exact ev_step hi rfl rfl (by simp only [ai_step, ht, ai_br]; exact if_neg hc) (b hc)
theorem ev_if_gt {off : Int} {x : Int32} (hi : ai_fd (ai_cd M) pc = some (.ifCond .gt off)) (ht : ai_jp pc off = some t) (a : 0 < x → ai_ev X M t L r h cs sl q) (b : ¬ 0 < x → ai_ev X M (pc + 3) L r h cs sl q) : ai_ev X M pc L (.int x :: r) h cs sl q := by
  by_cases hc : 0 < x
  · exact ev_step hi rfl rfl (by simp only [ai_step, ht, ai_br]; exact if_pos hc) (a hc)
  · exact ev_step hi rfl rfl (by simp only [ai_step, ht, ai_br]; exact if_neg hc) (b hc)
theorem ev_ic_le {off : Int} {x y : Int32} (hi : ai_fd (ai_cd M) pc = some (.if_icmp .le off)) (ht : ai_jp pc off = some t) (a : x ≤ y → ai_ev X M t L r h cs sl q) (b : ¬ x ≤ y → ai_ev X M (pc + 3) L r h cs sl q) : ai_ev X M pc L (.int y :: .int x :: r) h cs sl q := by
  by_cases hc : x ≤ y
  · exact ev_step hi rfl rfl (by simp only [ai_step, ht, ai_br]; exact if_pos hc) (a hc)
  · exact ev_step hi rfl rfl (by simp only [ai_step, ht, ai_br]; exact if_neg hc) (b hc)
theorem ev_if_le {off : Int} {x : Int32} (hi : ai_fd (ai_cd M) pc = some (.ifCond .le off)) (ht : ai_jp pc off = some t) (a : x ≤ 0 → ai_ev X M t L r h cs sl q) (b : ¬ x ≤ 0 → ai_ev X M (pc + 3) L r h cs sl q) : ai_ev X M pc L (.int x :: r) h cs sl q := by
  by_cases hc : x ≤ 0
  · exact ev_step hi rfl rfl (by simp only [ai_step, ht, ai_br]; exact if_pos hc) (a hc)
  · exact ev_step hi rfl rfl (by simp only [ai_step, ht, ai_br]; exact if_neg hc) (b hc)
theorem ev_iald {a : Nat} {o : List Int32} {j x : Int32} (hi : ai_fd (ai_cd M) pc = some .iaload) (ho : ai_nth h a = some (.inl (false, o))) (hx : ai_ix o j = some x) (e : ai_ev X M (pc + 1) L (.int x :: r) h cs sl q) : ai_ev X M pc L (.int j :: .ref a :: r) h cs sl q := ev_step hi rfl rfl (by simp only [ai_step, ho, hx]) e
theorem ev_iast {a : Nat} {o o2 : List Int32} {j x : Int32} (hi : ai_fd (ai_cd M) pc = some .iastore) (ho : ai_nth h a = some (.inl (false, o))) (hx : ai_up o j x = some o2) (e : ai_ev X M (pc + 1) L r (h.set a (.inl (false, o2))) cs sl q) : ai_ev X M pc L (.int x :: .int j :: .ref a :: r) h cs sl q := ev_step hi rfl rfl (by simp only [ai_step, ho, hx]) e
theorem ev_sub {X' : List (List Int32)} (hX : ai_sub X X') (e : ai_ev X M pc L st h cs sl q) : ai_ev X' M pc L st h cs sl q := by
  obtain ⟨n, hn⟩ := e
  exact ⟨n, ai_run_sub hX _ _ _ _ _ _ _ _ _ hn⟩
theorem ev_of {n : Nat} (hn : ai_run X n M pc L st h cs sl = some q) : ai_ev X M pc L st h cs sl q := ⟨n, hn⟩
end EV
theorem ai_smP {α β : Type} {a a2 : α} {b b2 : β} (h : some (a, b) = some (a2, b2)) : a = a2 ∧ b = b2 := ⟨congrArg Prod.fst (Option.some.inj h), congrArg Prod.snd (Option.some.inj h)⟩
def ai_bd {α β : Type} (o : Option α) (f : α → Option β) : Option β := match o with
  | some a => f a
  | none => none
theorem ai_bdE {α β : Type} {o : Option α} {f : α → Option β} {r : β} (h : ai_bd o f = some r) : ∃ a, o = some a ∧ f a = some r := by
  cases o with
  | none => cases h
  | some a => exact ⟨a, rfl, h⟩
theorem ai_ifE {α : Type} {c : Prop} [Decidable c] {a b : Option α} {r : α} (h : (if c then a else b) = some r) : (c ∧ a = some r) ∨ (¬ c ∧ b = some r) := by
  by_cases hc : c
  · rw [if_pos hc] at h; exact Or.inl ⟨hc, h⟩
  · rw [if_neg hc] at h; exact Or.inr ⟨hc, h⟩
theorem ai_ifS {α : Type} {c : Prop} [Decidable c] {a : Option α} {r : α} (h : (if c then a else none) = some r) : c ∧ a = some r := by
  rcases ai_ifE h with h | h
  · exact h
  · cases h.2
theorem ai_ifN {α : Type} {c : Prop} [Decidable c] {b : Option α} {r : α} (h : (if c then none else b) = some r) : ¬ c ∧ b = some r := by
  rcases ai_ifE h with h | h
  · cases h.2
  · exact h
def D1 : List (List Int32) := [[10, 13, 16, 20]]
theorem sw_out {x : Int32} (lo n : Nat) (h : ∀ k, k < n → ¬ x = Int32.ofNat (lo + k)) (hb : lo + n < 2 ^ 31 := by decide) : x.toInt < (lo : Int) ∨ ((lo + n - 1 : Nat) : Int) < x.toInt ∨ n = 0 := by
  by_cases h1 : x.toInt < (lo : Int)
  · exact Or.inl h1
  · right
    by_cases h0 : n = 0
    · exact Or.inr h0
    · left
      refine Classical.byContradiction fun h2 => ?_
      have e1 : x.toInt = ((lo + (x.toInt.toNat - lo) : Nat) : Int) := by omega
      refine h (x.toInt.toNat - lo) (by omega) ?_
      have hlt : lo + (x.toInt.toNat - lo) < 2 ^ 31 := by omega
      exact Int32.toInt_inj.mp (e1.trans (nI_toInt hlt).symm)
section EV2
variable {X : List (List Int32)} {M : ai_M} {pc t : Nat} {L : ai_L} {st r : List Value} {h : ai_H} {cs sl : Nat} {q : Option Value × ai_H}
theorem ev_zend {v : Int32} (hi : ai_fd (ai_cd M) pc = some .ireturn) (hrt : ai_rt M = some .boolean) (hc : (Nat.beq cs (ai_rm M).cells && Nat.ble sl (ai_rm M).slots) = true) (hv : v = 0 ∨ v = 1) : ai_ev X M pc L [.int v] h cs sl (some (.int v), h) := by
  refine ev_end ?_
  simp only [hi, ai_ci, ai_rk, ai_ret, hc, hrt, if_pos hv]
theorem ev_zald {a : Nat} {o : List Int32} {j x : Int32} (hi : ai_fd (ai_cd M) pc = some .baload) (ho : ai_nth h a = some (.inl (true, o))) (hx : ai_ix o j = some x) (e : ai_ev X M (pc + 1) L (.int x :: r) h cs sl q) : ai_ev X M pc L (.int j :: .ref a :: r) h cs sl q := ev_step hi rfl rfl (by simp only [ai_step, ho, hx]) e
theorem ev_zast {a : Nat} {o o2 : List Int32} {j x : Int32} (hi : ai_fd (ai_cd M) pc = some .bastore) (ho : ai_nth h a = some (.inl (true, o))) (hx : ai_up o j (vp_nar .boolean x) = some o2) (e : ai_ev X M (pc + 1) L r (h.set a (.inl (true, o2))) cs sl q) : ai_ev X M pc L (.int x :: .int j :: .ref a :: r) h cs sl q := ev_step hi rfl rfl (by simp only [ai_step, ho, hx]) e
theorem ev_idiv {x y : Int32} (hi : ai_fd (ai_cd M) pc = some .idiv) (hc : ¬ y = 0) (e : ai_ev X M (pc + 1) L (.int (x / y) :: r) h cs sl q) : ai_ev X M pc L (.int y :: .int x :: r) h cs sl q := ev_step hi rfl rfl (by simp only [ai_step, if_neg hc]) e
theorem ev_irem {x y : Int32} (hi : ai_fd (ai_cd M) pc = some .irem) (hc : ¬ y = 0) (e : ai_ev X M (pc + 1) L (.int (x - x / y * y) :: r) h cs sl q) : ai_ev X M pc L (.int y :: .int x :: r) h cs sl q := ev_step hi rfl rfl (by simp only [ai_step, if_neg hc]) e
theorem ev_ldiv {x y : Int64} (hi : ai_fd (ai_cd M) pc = some .ldiv) (hc : ¬ y = 0) (e : ai_ev X M (pc + 1) L (.long (x / y) :: r) h cs sl q) : ai_ev X M pc L (.long y :: .long x :: r) h cs sl q := ev_step hi rfl rfl (by simp only [ai_step, if_neg hc]) e
theorem ev_lrem {x y : Int64} (hi : ai_fd (ai_cd M) pc = some .lrem) (hc : ¬ y = 0) (e : ai_ev X M (pc + 1) L (.long (x - x / y * y) :: r) h cs sl q) : ai_ev X M pc L (.long y :: .long x :: r) h cs sl q := ev_step hi rfl rfl (by simp only [ai_step, if_neg hc]) e
theorem ev_swi {d lo hh : Int} {offs : Array Int} {x k : Int32} {off : Int} (hi : ai_fd (ai_cd M) pc = some (.tableswitch d lo hh offs)) (hx : x = k) (h1 : ¬ k.toInt < lo) (h2 : ¬ hh < k.toInt) (ho : offs[(k.toInt - lo).toNat]? = some off) (ht : ai_jp pc off = some t) (e : ai_ev X M t L r h cs sl q) : ai_ev X M pc L (.int x :: r) h cs sl q := by
  subst hx
  exact ev_step hi rfl rfl (by simp only [ai_step]; rw [if_neg (fun z => z.elim h1 h2)]; simp only [ho, ht]) e
theorem ev_swo {d : Int} {lo n : Nat} {hh : Int} {offs : Array Int} {x : Int32} (hi : ai_fd (ai_cd M) pc = some (.tableswitch d (lo : Int) hh offs)) (hx : x.toInt < (lo : Int) ∨ ((lo + n - 1 : Nat) : Int) < x.toInt ∨ n = 0) (hh2 : hh = ((lo + n - 1 : Nat) : Int) ∧ n ≠ 0) (ht : ai_jp pc d = some t) (e : ai_ev X M t L r h cs sl q) : ai_ev X M pc L (.int x :: r) h cs sl q := by
  have hc : x.toInt < (lo : Int) ∨ hh < x.toInt := by
    rcases hx with z | z | z
    · exact Or.inl z
    · exact Or.inr (by rw [hh2.1]; exact z)
    · exact absurd z hh2.2
  exact ev_step hi rfl rfl (by simp only [ai_step]; rw [if_pos hc]; simp only [ht]) e
theorem ev_natv {i : Instr} {kb k w wi : Nat} {st' : List Value} {h' : ai_H} (hi : ai_fd (ai_cd M) pc = some i) (hci : ai_ci i = some (kb, k)) (hw : ai_by (ai_naT (ai_cl M)) k = some (w, wi)) (hs : ai_nat X M kb w st h cs sl = some (st', h')) (e : ai_ev X M (pc + 3) L st' h' cs sl q) : ai_ev X M pc L st h cs sl q := by
  obtain ⟨n, hn⟩ := e
  refine ⟨n + 1, ?_⟩
  rw [ai_run]
  simp only [hi, hci, hw, hs]
  exact hn
theorem ev_cpy {k wi a b : Nat} {o f z : List Int32} {n dp sp : Int32} (hi : ai_fd (ai_cd M) pc = some (.invokestatic k)) (hw : ai_by (ai_naT (ai_cl M)) k = some (1, wi)) (hg : (Nat.ble 1 (ai_rm M).frames && Nat.ble cs (ai_rm M).cells && Nat.ble sl (ai_rm M).slots) = true) (hg2 : Nat.ble (ai_cat r + (nativeFrameWords "java/lang/System" "arraycopy" 5 + 11)) (ai_rm M).locals = true) (ho : ai_nth h a = some (.inl (false, o))) (hf : ai_nth h b = some (.inl (false, f))) (hz : ai_cpy f o sp dp n = some z) (e : ai_ev X M (pc + 3) L r (h.set a (.inl (false, z))) cs sl q) : ai_ev X M pc L (.int n :: .int dp :: .ref a :: .int sp :: .ref b :: r) h cs sl q :=
  ev_natv hi rfl hw (by simp only [ai_nat, hg, show Nat.beq 1 1 = true from rfl, hg2, Bool.and_self, ho, hf, hz]) e
theorem ev_cpx {k wi a b : Nat} {o f z : List Int32} {n dp sp : Int32} (hi : ai_fd (ai_cd M) pc = some (.invokestatic k)) (hw : ai_by (ai_naT (ai_cl M)) k = some (1, wi)) (hg : (Nat.ble 1 (ai_rm M).frames && Nat.ble cs (ai_rm M).cells && Nat.ble sl (ai_rm M).slots) = true) (hg2 : Nat.ble (ai_cat r + (nativeFrameWords "java/lang/System" "arraycopy" 5 + 11)) (ai_rm M).locals = true) (ho : ai_nth h a = some (.inl (false, o))) (hf : ai_nth X b = some f) (hz : ai_cpy f o sp dp n = some z) (e : ai_ev X M (pc + 3) L r (h.set a (.inl (false, z))) cs sl q) : ai_ev X M pc L (.int n :: .int dp :: .ref a :: .int sp :: .retAddr b :: r) h cs sl q :=
  ev_natv hi rfl hw (by simp only [ai_nat, hg, show Nat.beq 1 1 = true from rfl, hg2, Bool.and_self, ho, hf, hz]) e
theorem ev_putz {k a : Nat} {v : Int32} {z : Nat × Nat × Bool × Nat × Nat} {o : Nat × List Value} (hi : ai_fd (ai_cd M) pc = some (.putfield k)) (hq : ai_by (ai_flT (ai_cl M)) k = some z) (ho : ai_nth h a = some (.inr o)) (h1 : Nat.beq o.1 z.1 = true) (h2 : z.2.2.2.1 = 1) (h3 : Nat.blt z.2.1 o.2.length = true) (h4 : z.2.2.1 = false) (hv : v = 0 ∨ v = 1) (e : ai_ev X M (pc + 3) L r (h.set a (.inr (o.1, o.2.set z.2.1 (.int v)))) cs sl q) : ai_ev X M pc L (.int v :: .ref a :: r) h cs sl q :=
  ev_step hi rfl rfl (by simp only [ai_step, hq, ho, h1, h2, h3, h4, ai_fv, decide_eq_true hv, Bool.and_self, Bool.not_false, Bool.true_or]) e
end EV2
section EV3
variable {X : List (List Int32)} {M : ai_M} {pc t : Nat} {L : ai_L} {st r : List Value} {h : ai_H} {cs sl : Nat} {q : Option Value × ai_H}
theorem ev_sln {k wi j : Nat} {x : Int32} (hi : ai_fd (ai_cd M) pc = some (.invokevirtual k)) (hw : ai_by (ai_naT (ai_cl M)) k = some (2, wi)) (hg : (Nat.ble 1 (ai_rm M).frames && Nat.ble cs (ai_rm M).cells && Nat.ble sl (ai_rm M).slots) = true) (hg2 : (Nat.beq 0 0 && Nat.ble 4 (ai_rm M).frames && Nat.ble 85 (ai_rm M).locals && Nat.ble (ai_cat r) 8) = true) (hz : ai_sln j = some x) (e : ai_ev X M (pc + 3) L (.int x :: r) h cs sl q) : ai_ev X M pc L (.retAddr j :: r) h cs sl q :=
  ev_natv hi rfl hw (by simp only [ai_nat, hg, hg2, hz]) e
theorem ev_sch {k wi j : Nat} {y x : Int32} (hi : ai_fd (ai_cd M) pc = some (.invokevirtual k)) (hw : ai_by (ai_naT (ai_cl M)) k = some (3, wi)) (hg : (Nat.ble 1 (ai_rm M).frames && Nat.ble cs (ai_rm M).cells && Nat.ble sl (ai_rm M).slots) = true) (hg2 : (Nat.beq 0 0 && Nat.ble 4 (ai_rm M).frames && Nat.ble 85 (ai_rm M).locals && Nat.ble (ai_cat r) 8) = true) (hz : ai_sch j y = some x) (e : ai_ev X M (pc + 3) L (.int x :: r) h cs sl q) : ai_ev X M pc L (.int y :: .retAddr j :: r) h cs sl q :=
  ev_natv hi rfl hw (by simp only [ai_nat, hg, hg2, hz]) e
end EV3
/-! the two worlds, written by a program of the verifier -/
abbrev WX : Type := (List Int32 × List Int32 × Int64 × Int64 × Int32 × Int32 × Int32) × (Int32 × Int32 × Int32 × List Int32 × List Int32 × List Int32 × List Int32 × List Int32 × Int32 × List Int32 × Int32 × List Int32 × List Int32 × Int32 × List Int32) × (Int32 × List Int32 × List Int32 × List Int32 × List Int32) × (Int32 × List Int32 × List Int32 × List Int32) × (Int32 × Int32 × Int32 × List Int32 × List Int32 × List Int32 × List Int32 × List Int32 × Int32 × List Int32 × Int32 × List Int32 × List Int32 × Int32 × List Int32) × (Int32 × List Int32 × List Int32 × List Int32 × List Int32) × (Int32 × List Int32 × List Int32 × List Int32) × (Int32 × Int32 × Int32 × List Int32 × List Int32 × List Int32 × List Int32 × List Int32 × Int32 × List Int32 × Int32 × List Int32 × List Int32 × Int32 × List Int32) × (Int32 × List Int32 × List Int32 × List Int32 × List Int32) × (Int32 × List Int32 × List Int32 × List Int32) × (Int32 × Int32 × Int32 × List Int32 × List Int32 × List Int32 × List Int32 × List Int32 × Int32 × List Int32 × Int32 × List Int32 × List Int32 × Int32 × List Int32) × (Int32 × List Int32 × List Int32 × List Int32 × List Int32) × (Int32 × List Int32 × List Int32 × List Int32) × (Int32 × Int32 × Int32 × List Int32 × List Int32 × Int32) × (Int32 × Int32 × Int32 × Int32 × Int32 × Int32 × Int32 × List Int32) × (List Int32 × List Int32) × (List Int32)
abbrev a_f_imageKept (w : WX) : List Int32 := w.1.1
abbrev a_f_downs (w : WX) : List Int32 := w.1.2.1
abbrev a_f_above (w : WX) : Int64 := w.1.2.2.1
abbrev a_f_below (w : WX) : Int64 := w.1.2.2.2.1
abbrev a_f_refusedBad (w : WX) : Int32 := w.1.2.2.2.2.1
abbrev a_f_refusedNo (w : WX) : Int32 := w.1.2.2.2.2.2.1
abbrev a_f_refusedFull (w : WX) : Int32 := w.1.2.2.2.2.2.2
abbrev a_s1_cells (w : WX) : Int32 := w.2.1.1
abbrev a_s1_hour (w : WX) : Int32 := w.2.1.2.1
abbrev a_s1_dams (w : WX) : Int32 := w.2.1.2.2.1
abbrev a_s1_densities (w : WX) : List Int32 := w.2.1.2.2.2.1
abbrev a_s1_currents (w : WX) : List Int32 := w.2.1.2.2.2.2.1
abbrev a_s1_tides (w : WX) : List Int32 := w.2.1.2.2.2.2.2.1
abbrev a_s1_thicks (w : WX) : List Int32 := w.2.1.2.2.2.2.2.2.1
abbrev a_s1_skins (w : WX) : List Int32 := w.2.1.2.2.2.2.2.2.2.1
abbrev a_s1_towns (w : WX) : Int32 := w.2.1.2.2.2.2.2.2.2.2.1
abbrev a_s1_townPlaces (w : WX) : List Int32 := w.2.1.2.2.2.2.2.2.2.2.2.1
abbrev a_s1_drops (w : WX) : Int32 := w.2.1.2.2.2.2.2.2.2.2.2.2.1
abbrev a_s1_dropLayers (w : WX) : List Int32 := w.2.1.2.2.2.2.2.2.2.2.2.2.2.1
abbrev a_s1_dropFloats (w : WX) : List Int32 := w.2.1.2.2.2.2.2.2.2.2.2.2.2.2.1
abbrev a_s1_undos (w : WX) : Int32 := w.2.1.2.2.2.2.2.2.2.2.2.2.2.2.2.1
abbrev a_s1_hoursBefore (w : WX) : List Int32 := w.2.1.2.2.2.2.2.2.2.2.2.2.2.2.2.2
abbrev a_s1things_count (w : WX) : Int32 := w.2.2.1.1
abbrev a_s1things_kinds (w : WX) : List Int32 := w.2.2.1.2.1
abbrev a_s1things_weights (w : WX) : List Int32 := w.2.2.1.2.2.1
abbrev a_s1things_volumes (w : WX) : List Int32 := w.2.2.1.2.2.2.1
abbrev a_s1things_ballasts (w : WX) : List Int32 := w.2.2.1.2.2.2.2
abbrev a_s1lifts_count (w : WX) : Int32 := w.2.2.2.1.1
abbrev a_s1lifts_froms (w : WX) : List Int32 := w.2.2.2.1.2.1
abbrev a_s1lifts_tos (w : WX) : List Int32 := w.2.2.2.1.2.2.1
abbrev a_s1lifts_times (w : WX) : List Int32 := w.2.2.2.1.2.2.2
abbrev a_s2_cells (w : WX) : Int32 := w.2.2.2.2.1.1
abbrev a_s2_hour (w : WX) : Int32 := w.2.2.2.2.1.2.1
abbrev a_s2_dams (w : WX) : Int32 := w.2.2.2.2.1.2.2.1
abbrev a_s2_densities (w : WX) : List Int32 := w.2.2.2.2.1.2.2.2.1
abbrev a_s2_currents (w : WX) : List Int32 := w.2.2.2.2.1.2.2.2.2.1
abbrev a_s2_tides (w : WX) : List Int32 := w.2.2.2.2.1.2.2.2.2.2.1
abbrev a_s2_thicks (w : WX) : List Int32 := w.2.2.2.2.1.2.2.2.2.2.2.1
abbrev a_s2_skins (w : WX) : List Int32 := w.2.2.2.2.1.2.2.2.2.2.2.2.1
abbrev a_s2_towns (w : WX) : Int32 := w.2.2.2.2.1.2.2.2.2.2.2.2.2.1
abbrev a_s2_townPlaces (w : WX) : List Int32 := w.2.2.2.2.1.2.2.2.2.2.2.2.2.2.1
abbrev a_s2_drops (w : WX) : Int32 := w.2.2.2.2.1.2.2.2.2.2.2.2.2.2.2.1
abbrev a_s2_dropLayers (w : WX) : List Int32 := w.2.2.2.2.1.2.2.2.2.2.2.2.2.2.2.2.1
abbrev a_s2_dropFloats (w : WX) : List Int32 := w.2.2.2.2.1.2.2.2.2.2.2.2.2.2.2.2.2.1
abbrev a_s2_undos (w : WX) : Int32 := w.2.2.2.2.1.2.2.2.2.2.2.2.2.2.2.2.2.2.1
abbrev a_s2_hoursBefore (w : WX) : List Int32 := w.2.2.2.2.1.2.2.2.2.2.2.2.2.2.2.2.2.2.2
abbrev a_s2things_count (w : WX) : Int32 := w.2.2.2.2.2.1.1
abbrev a_s2things_kinds (w : WX) : List Int32 := w.2.2.2.2.2.1.2.1
abbrev a_s2things_weights (w : WX) : List Int32 := w.2.2.2.2.2.1.2.2.1
abbrev a_s2things_volumes (w : WX) : List Int32 := w.2.2.2.2.2.1.2.2.2.1
abbrev a_s2things_ballasts (w : WX) : List Int32 := w.2.2.2.2.2.1.2.2.2.2
abbrev a_s2lifts_count (w : WX) : Int32 := w.2.2.2.2.2.2.1.1
abbrev a_s2lifts_froms (w : WX) : List Int32 := w.2.2.2.2.2.2.1.2.1
abbrev a_s2lifts_tos (w : WX) : List Int32 := w.2.2.2.2.2.2.1.2.2.1
abbrev a_s2lifts_times (w : WX) : List Int32 := w.2.2.2.2.2.2.1.2.2.2
abbrev a_s3_cells (w : WX) : Int32 := w.2.2.2.2.2.2.2.1.1
abbrev a_s3_hour (w : WX) : Int32 := w.2.2.2.2.2.2.2.1.2.1
abbrev a_s3_dams (w : WX) : Int32 := w.2.2.2.2.2.2.2.1.2.2.1
abbrev a_s3_densities (w : WX) : List Int32 := w.2.2.2.2.2.2.2.1.2.2.2.1
abbrev a_s3_currents (w : WX) : List Int32 := w.2.2.2.2.2.2.2.1.2.2.2.2.1
abbrev a_s3_tides (w : WX) : List Int32 := w.2.2.2.2.2.2.2.1.2.2.2.2.2.1
abbrev a_s3_thicks (w : WX) : List Int32 := w.2.2.2.2.2.2.2.1.2.2.2.2.2.2.1
abbrev a_s3_skins (w : WX) : List Int32 := w.2.2.2.2.2.2.2.1.2.2.2.2.2.2.2.1
abbrev a_s3_towns (w : WX) : Int32 := w.2.2.2.2.2.2.2.1.2.2.2.2.2.2.2.2.1
abbrev a_s3_townPlaces (w : WX) : List Int32 := w.2.2.2.2.2.2.2.1.2.2.2.2.2.2.2.2.2.1
abbrev a_s3_drops (w : WX) : Int32 := w.2.2.2.2.2.2.2.1.2.2.2.2.2.2.2.2.2.2.1
abbrev a_s3_dropLayers (w : WX) : List Int32 := w.2.2.2.2.2.2.2.1.2.2.2.2.2.2.2.2.2.2.2.1
abbrev a_s3_dropFloats (w : WX) : List Int32 := w.2.2.2.2.2.2.2.1.2.2.2.2.2.2.2.2.2.2.2.2.1
abbrev a_s3_undos (w : WX) : Int32 := w.2.2.2.2.2.2.2.1.2.2.2.2.2.2.2.2.2.2.2.2.2.1
abbrev a_s3_hoursBefore (w : WX) : List Int32 := w.2.2.2.2.2.2.2.1.2.2.2.2.2.2.2.2.2.2.2.2.2.2
abbrev a_s3things_count (w : WX) : Int32 := w.2.2.2.2.2.2.2.2.1.1
abbrev a_s3things_kinds (w : WX) : List Int32 := w.2.2.2.2.2.2.2.2.1.2.1
abbrev a_s3things_weights (w : WX) : List Int32 := w.2.2.2.2.2.2.2.2.1.2.2.1
abbrev a_s3things_volumes (w : WX) : List Int32 := w.2.2.2.2.2.2.2.2.1.2.2.2.1
abbrev a_s3things_ballasts (w : WX) : List Int32 := w.2.2.2.2.2.2.2.2.1.2.2.2.2
abbrev a_s3lifts_count (w : WX) : Int32 := w.2.2.2.2.2.2.2.2.2.1.1
abbrev a_s3lifts_froms (w : WX) : List Int32 := w.2.2.2.2.2.2.2.2.2.1.2.1
abbrev a_s3lifts_tos (w : WX) : List Int32 := w.2.2.2.2.2.2.2.2.2.1.2.2.1
abbrev a_s3lifts_times (w : WX) : List Int32 := w.2.2.2.2.2.2.2.2.2.1.2.2.2
abbrev a_s4_cells (w : WX) : Int32 := w.2.2.2.2.2.2.2.2.2.2.1.1
abbrev a_s4_hour (w : WX) : Int32 := w.2.2.2.2.2.2.2.2.2.2.1.2.1
abbrev a_s4_dams (w : WX) : Int32 := w.2.2.2.2.2.2.2.2.2.2.1.2.2.1
abbrev a_s4_densities (w : WX) : List Int32 := w.2.2.2.2.2.2.2.2.2.2.1.2.2.2.1
abbrev a_s4_currents (w : WX) : List Int32 := w.2.2.2.2.2.2.2.2.2.2.1.2.2.2.2.1
abbrev a_s4_tides (w : WX) : List Int32 := w.2.2.2.2.2.2.2.2.2.2.1.2.2.2.2.2.1
abbrev a_s4_thicks (w : WX) : List Int32 := w.2.2.2.2.2.2.2.2.2.2.1.2.2.2.2.2.2.1
abbrev a_s4_skins (w : WX) : List Int32 := w.2.2.2.2.2.2.2.2.2.2.1.2.2.2.2.2.2.2.1
abbrev a_s4_towns (w : WX) : Int32 := w.2.2.2.2.2.2.2.2.2.2.1.2.2.2.2.2.2.2.2.1
abbrev a_s4_townPlaces (w : WX) : List Int32 := w.2.2.2.2.2.2.2.2.2.2.1.2.2.2.2.2.2.2.2.2.1
abbrev a_s4_drops (w : WX) : Int32 := w.2.2.2.2.2.2.2.2.2.2.1.2.2.2.2.2.2.2.2.2.2.1
abbrev a_s4_dropLayers (w : WX) : List Int32 := w.2.2.2.2.2.2.2.2.2.2.1.2.2.2.2.2.2.2.2.2.2.2.1
abbrev a_s4_dropFloats (w : WX) : List Int32 := w.2.2.2.2.2.2.2.2.2.2.1.2.2.2.2.2.2.2.2.2.2.2.2.1
abbrev a_s4_undos (w : WX) : Int32 := w.2.2.2.2.2.2.2.2.2.2.1.2.2.2.2.2.2.2.2.2.2.2.2.2.1
abbrev a_s4_hoursBefore (w : WX) : List Int32 := w.2.2.2.2.2.2.2.2.2.2.1.2.2.2.2.2.2.2.2.2.2.2.2.2.2
abbrev a_s4things_count (w : WX) : Int32 := w.2.2.2.2.2.2.2.2.2.2.2.1.1
abbrev a_s4things_kinds (w : WX) : List Int32 := w.2.2.2.2.2.2.2.2.2.2.2.1.2.1
abbrev a_s4things_weights (w : WX) : List Int32 := w.2.2.2.2.2.2.2.2.2.2.2.1.2.2.1
abbrev a_s4things_volumes (w : WX) : List Int32 := w.2.2.2.2.2.2.2.2.2.2.2.1.2.2.2.1
abbrev a_s4things_ballasts (w : WX) : List Int32 := w.2.2.2.2.2.2.2.2.2.2.2.1.2.2.2.2
abbrev a_s4lifts_count (w : WX) : Int32 := w.2.2.2.2.2.2.2.2.2.2.2.2.1.1
abbrev a_s4lifts_froms (w : WX) : List Int32 := w.2.2.2.2.2.2.2.2.2.2.2.2.1.2.1
abbrev a_s4lifts_tos (w : WX) : List Int32 := w.2.2.2.2.2.2.2.2.2.2.2.2.1.2.2.1
abbrev a_s4lifts_times (w : WX) : List Int32 := w.2.2.2.2.2.2.2.2.2.2.2.2.1.2.2.2
abbrev a_text_length (w : WX) : Int32 := w.2.2.2.2.2.2.2.2.2.2.2.2.2.1.1
abbrev a_text_items (w : WX) : Int32 := w.2.2.2.2.2.2.2.2.2.2.2.2.2.1.2.1
abbrev a_text_refusedItem (w : WX) : Int32 := w.2.2.2.2.2.2.2.2.2.2.2.2.2.1.2.2.1
abbrev a_text_bytes (w : WX) : List Int32 := w.2.2.2.2.2.2.2.2.2.2.2.2.2.1.2.2.2.1
abbrev a_text_numbers (w : WX) : List Int32 := w.2.2.2.2.2.2.2.2.2.2.2.2.2.1.2.2.2.2.1
abbrev a_text_at (w : WX) : Int32 := w.2.2.2.2.2.2.2.2.2.2.2.2.2.1.2.2.2.2.2
abbrev a_fall_weighs (w : WX) : Int32 := w.2.2.2.2.2.2.2.2.2.2.2.2.2.2.1.1
abbrev a_fall_room (w : WX) : Int32 := w.2.2.2.2.2.2.2.2.2.2.2.2.2.2.1.2.1
abbrev a_fall_force (w : WX) : Int32 := w.2.2.2.2.2.2.2.2.2.2.2.2.2.2.1.2.2.1
abbrev a_fall_layer (w : WX) : Int32 := w.2.2.2.2.2.2.2.2.2.2.2.2.2.2.1.2.2.2.1
abbrev a_fall_down (w : WX) : Int32 := w.2.2.2.2.2.2.2.2.2.2.2.2.2.2.1.2.2.2.2.1
abbrev a_fall_broken (w : WX) : Int32 := w.2.2.2.2.2.2.2.2.2.2.2.2.2.2.1.2.2.2.2.2.1
abbrev a_fall_stopper (w : WX) : Int32 := w.2.2.2.2.2.2.2.2.2.2.2.2.2.2.1.2.2.2.2.2.2.1
abbrev a_fall_passedThick (w : WX) : List Int32 := w.2.2.2.2.2.2.2.2.2.2.2.2.2.2.1.2.2.2.2.2.2.2
abbrev a_spread_amounts (w : WX) : List Int32 := w.2.2.2.2.2.2.2.2.2.2.2.2.2.2.2.1.1
abbrev a_spread_gifts (w : WX) : List Int32 := w.2.2.2.2.2.2.2.2.2.2.2.2.2.2.2.1.2
abbrev a_ways_reached (w : WX) : List Int32 := w.2.2.2.2.2.2.2.2.2.2.2.2.2.2.2.2
abbrev u_f_imageKept (w : WX) (x : List Int32) : WX := ((x, w.1.2), w.2)
abbrev u_f_downs (w : WX) (x : List Int32) : WX := ((w.1.1, x, w.1.2.2), w.2)
abbrev u_f_above (w : WX) (x : Int64) : WX := ((w.1.1, w.1.2.1, x, w.1.2.2.2), w.2)
abbrev u_f_below (w : WX) (x : Int64) : WX := ((w.1.1, w.1.2.1, w.1.2.2.1, x, w.1.2.2.2.2), w.2)
abbrev u_f_refusedBad (w : WX) (x : Int32) : WX := ((w.1.1, w.1.2.1, w.1.2.2.1, w.1.2.2.2.1, x, w.1.2.2.2.2.2), w.2)
abbrev u_f_refusedNo (w : WX) (x : Int32) : WX := ((w.1.1, w.1.2.1, w.1.2.2.1, w.1.2.2.2.1, w.1.2.2.2.2.1, x, w.1.2.2.2.2.2.2), w.2)
abbrev u_f_refusedFull (w : WX) (x : Int32) : WX := ((w.1.1, w.1.2.1, w.1.2.2.1, w.1.2.2.2.1, w.1.2.2.2.2.1, w.1.2.2.2.2.2.1, x), w.2)
abbrev u_s1_cells (w : WX) (x : Int32) : WX := (w.1, (x, w.2.1.2), w.2.2)
abbrev u_s1_hour (w : WX) (x : Int32) : WX := (w.1, (w.2.1.1, x, w.2.1.2.2), w.2.2)
abbrev u_s1_dams (w : WX) (x : Int32) : WX := (w.1, (w.2.1.1, w.2.1.2.1, x, w.2.1.2.2.2), w.2.2)
abbrev u_s1_densities (w : WX) (x : List Int32) : WX := (w.1, (w.2.1.1, w.2.1.2.1, w.2.1.2.2.1, x, w.2.1.2.2.2.2), w.2.2)
abbrev u_s1_currents (w : WX) (x : List Int32) : WX := (w.1, (w.2.1.1, w.2.1.2.1, w.2.1.2.2.1, w.2.1.2.2.2.1, x, w.2.1.2.2.2.2.2), w.2.2)
abbrev u_s1_tides (w : WX) (x : List Int32) : WX := (w.1, (w.2.1.1, w.2.1.2.1, w.2.1.2.2.1, w.2.1.2.2.2.1, w.2.1.2.2.2.2.1, x, w.2.1.2.2.2.2.2.2), w.2.2)
abbrev u_s1_thicks (w : WX) (x : List Int32) : WX := (w.1, (w.2.1.1, w.2.1.2.1, w.2.1.2.2.1, w.2.1.2.2.2.1, w.2.1.2.2.2.2.1, w.2.1.2.2.2.2.2.1, x, w.2.1.2.2.2.2.2.2.2), w.2.2)
abbrev u_s1_skins (w : WX) (x : List Int32) : WX := (w.1, (w.2.1.1, w.2.1.2.1, w.2.1.2.2.1, w.2.1.2.2.2.1, w.2.1.2.2.2.2.1, w.2.1.2.2.2.2.2.1, w.2.1.2.2.2.2.2.2.1, x, w.2.1.2.2.2.2.2.2.2.2), w.2.2)
abbrev u_s1_towns (w : WX) (x : Int32) : WX := (w.1, (w.2.1.1, w.2.1.2.1, w.2.1.2.2.1, w.2.1.2.2.2.1, w.2.1.2.2.2.2.1, w.2.1.2.2.2.2.2.1, w.2.1.2.2.2.2.2.2.1, w.2.1.2.2.2.2.2.2.2.1, x, w.2.1.2.2.2.2.2.2.2.2.2), w.2.2)
abbrev u_s1_townPlaces (w : WX) (x : List Int32) : WX := (w.1, (w.2.1.1, w.2.1.2.1, w.2.1.2.2.1, w.2.1.2.2.2.1, w.2.1.2.2.2.2.1, w.2.1.2.2.2.2.2.1, w.2.1.2.2.2.2.2.2.1, w.2.1.2.2.2.2.2.2.2.1, w.2.1.2.2.2.2.2.2.2.2.1, x, w.2.1.2.2.2.2.2.2.2.2.2.2), w.2.2)
abbrev u_s1_drops (w : WX) (x : Int32) : WX := (w.1, (w.2.1.1, w.2.1.2.1, w.2.1.2.2.1, w.2.1.2.2.2.1, w.2.1.2.2.2.2.1, w.2.1.2.2.2.2.2.1, w.2.1.2.2.2.2.2.2.1, w.2.1.2.2.2.2.2.2.2.1, w.2.1.2.2.2.2.2.2.2.2.1, w.2.1.2.2.2.2.2.2.2.2.2.1, x, w.2.1.2.2.2.2.2.2.2.2.2.2.2), w.2.2)
abbrev u_s1_dropLayers (w : WX) (x : List Int32) : WX := (w.1, (w.2.1.1, w.2.1.2.1, w.2.1.2.2.1, w.2.1.2.2.2.1, w.2.1.2.2.2.2.1, w.2.1.2.2.2.2.2.1, w.2.1.2.2.2.2.2.2.1, w.2.1.2.2.2.2.2.2.2.1, w.2.1.2.2.2.2.2.2.2.2.1, w.2.1.2.2.2.2.2.2.2.2.2.1, w.2.1.2.2.2.2.2.2.2.2.2.2.1, x, w.2.1.2.2.2.2.2.2.2.2.2.2.2.2), w.2.2)
abbrev u_s1_dropFloats (w : WX) (x : List Int32) : WX := (w.1, (w.2.1.1, w.2.1.2.1, w.2.1.2.2.1, w.2.1.2.2.2.1, w.2.1.2.2.2.2.1, w.2.1.2.2.2.2.2.1, w.2.1.2.2.2.2.2.2.1, w.2.1.2.2.2.2.2.2.2.1, w.2.1.2.2.2.2.2.2.2.2.1, w.2.1.2.2.2.2.2.2.2.2.2.1, w.2.1.2.2.2.2.2.2.2.2.2.2.1, w.2.1.2.2.2.2.2.2.2.2.2.2.2.1, x, w.2.1.2.2.2.2.2.2.2.2.2.2.2.2.2), w.2.2)
abbrev u_s1_undos (w : WX) (x : Int32) : WX := (w.1, (w.2.1.1, w.2.1.2.1, w.2.1.2.2.1, w.2.1.2.2.2.1, w.2.1.2.2.2.2.1, w.2.1.2.2.2.2.2.1, w.2.1.2.2.2.2.2.2.1, w.2.1.2.2.2.2.2.2.2.1, w.2.1.2.2.2.2.2.2.2.2.1, w.2.1.2.2.2.2.2.2.2.2.2.1, w.2.1.2.2.2.2.2.2.2.2.2.2.1, w.2.1.2.2.2.2.2.2.2.2.2.2.2.1, w.2.1.2.2.2.2.2.2.2.2.2.2.2.2.1, x, w.2.1.2.2.2.2.2.2.2.2.2.2.2.2.2.2), w.2.2)
abbrev u_s1_hoursBefore (w : WX) (x : List Int32) : WX := (w.1, (w.2.1.1, w.2.1.2.1, w.2.1.2.2.1, w.2.1.2.2.2.1, w.2.1.2.2.2.2.1, w.2.1.2.2.2.2.2.1, w.2.1.2.2.2.2.2.2.1, w.2.1.2.2.2.2.2.2.2.1, w.2.1.2.2.2.2.2.2.2.2.1, w.2.1.2.2.2.2.2.2.2.2.2.1, w.2.1.2.2.2.2.2.2.2.2.2.2.1, w.2.1.2.2.2.2.2.2.2.2.2.2.2.1, w.2.1.2.2.2.2.2.2.2.2.2.2.2.2.1, w.2.1.2.2.2.2.2.2.2.2.2.2.2.2.2.1, x), w.2.2)
abbrev u_s1things_count (w : WX) (x : Int32) : WX := (w.1, w.2.1, (x, w.2.2.1.2), w.2.2.2)
abbrev u_s1things_kinds (w : WX) (x : List Int32) : WX := (w.1, w.2.1, (w.2.2.1.1, x, w.2.2.1.2.2), w.2.2.2)
abbrev u_s1things_weights (w : WX) (x : List Int32) : WX := (w.1, w.2.1, (w.2.2.1.1, w.2.2.1.2.1, x, w.2.2.1.2.2.2), w.2.2.2)
abbrev u_s1things_volumes (w : WX) (x : List Int32) : WX := (w.1, w.2.1, (w.2.2.1.1, w.2.2.1.2.1, w.2.2.1.2.2.1, x, w.2.2.1.2.2.2.2), w.2.2.2)
abbrev u_s1things_ballasts (w : WX) (x : List Int32) : WX := (w.1, w.2.1, (w.2.2.1.1, w.2.2.1.2.1, w.2.2.1.2.2.1, w.2.2.1.2.2.2.1, x), w.2.2.2)
abbrev u_s1lifts_count (w : WX) (x : Int32) : WX := (w.1, w.2.1, w.2.2.1, (x, w.2.2.2.1.2), w.2.2.2.2)
abbrev u_s1lifts_froms (w : WX) (x : List Int32) : WX := (w.1, w.2.1, w.2.2.1, (w.2.2.2.1.1, x, w.2.2.2.1.2.2), w.2.2.2.2)
abbrev u_s1lifts_tos (w : WX) (x : List Int32) : WX := (w.1, w.2.1, w.2.2.1, (w.2.2.2.1.1, w.2.2.2.1.2.1, x, w.2.2.2.1.2.2.2), w.2.2.2.2)
abbrev u_s1lifts_times (w : WX) (x : List Int32) : WX := (w.1, w.2.1, w.2.2.1, (w.2.2.2.1.1, w.2.2.2.1.2.1, w.2.2.2.1.2.2.1, x), w.2.2.2.2)
abbrev u_s2_cells (w : WX) (x : Int32) : WX := (w.1, w.2.1, w.2.2.1, w.2.2.2.1, (x, w.2.2.2.2.1.2), w.2.2.2.2.2)
abbrev u_s2_hour (w : WX) (x : Int32) : WX := (w.1, w.2.1, w.2.2.1, w.2.2.2.1, (w.2.2.2.2.1.1, x, w.2.2.2.2.1.2.2), w.2.2.2.2.2)
abbrev u_s2_dams (w : WX) (x : Int32) : WX := (w.1, w.2.1, w.2.2.1, w.2.2.2.1, (w.2.2.2.2.1.1, w.2.2.2.2.1.2.1, x, w.2.2.2.2.1.2.2.2), w.2.2.2.2.2)
abbrev u_s2_densities (w : WX) (x : List Int32) : WX := (w.1, w.2.1, w.2.2.1, w.2.2.2.1, (w.2.2.2.2.1.1, w.2.2.2.2.1.2.1, w.2.2.2.2.1.2.2.1, x, w.2.2.2.2.1.2.2.2.2), w.2.2.2.2.2)
abbrev u_s2_currents (w : WX) (x : List Int32) : WX := (w.1, w.2.1, w.2.2.1, w.2.2.2.1, (w.2.2.2.2.1.1, w.2.2.2.2.1.2.1, w.2.2.2.2.1.2.2.1, w.2.2.2.2.1.2.2.2.1, x, w.2.2.2.2.1.2.2.2.2.2), w.2.2.2.2.2)
abbrev u_s2_tides (w : WX) (x : List Int32) : WX := (w.1, w.2.1, w.2.2.1, w.2.2.2.1, (w.2.2.2.2.1.1, w.2.2.2.2.1.2.1, w.2.2.2.2.1.2.2.1, w.2.2.2.2.1.2.2.2.1, w.2.2.2.2.1.2.2.2.2.1, x, w.2.2.2.2.1.2.2.2.2.2.2), w.2.2.2.2.2)
abbrev u_s2_thicks (w : WX) (x : List Int32) : WX := (w.1, w.2.1, w.2.2.1, w.2.2.2.1, (w.2.2.2.2.1.1, w.2.2.2.2.1.2.1, w.2.2.2.2.1.2.2.1, w.2.2.2.2.1.2.2.2.1, w.2.2.2.2.1.2.2.2.2.1, w.2.2.2.2.1.2.2.2.2.2.1, x, w.2.2.2.2.1.2.2.2.2.2.2.2), w.2.2.2.2.2)
abbrev u_s2_skins (w : WX) (x : List Int32) : WX := (w.1, w.2.1, w.2.2.1, w.2.2.2.1, (w.2.2.2.2.1.1, w.2.2.2.2.1.2.1, w.2.2.2.2.1.2.2.1, w.2.2.2.2.1.2.2.2.1, w.2.2.2.2.1.2.2.2.2.1, w.2.2.2.2.1.2.2.2.2.2.1, w.2.2.2.2.1.2.2.2.2.2.2.1, x, w.2.2.2.2.1.2.2.2.2.2.2.2.2), w.2.2.2.2.2)
abbrev u_s2_towns (w : WX) (x : Int32) : WX := (w.1, w.2.1, w.2.2.1, w.2.2.2.1, (w.2.2.2.2.1.1, w.2.2.2.2.1.2.1, w.2.2.2.2.1.2.2.1, w.2.2.2.2.1.2.2.2.1, w.2.2.2.2.1.2.2.2.2.1, w.2.2.2.2.1.2.2.2.2.2.1, w.2.2.2.2.1.2.2.2.2.2.2.1, w.2.2.2.2.1.2.2.2.2.2.2.2.1, x, w.2.2.2.2.1.2.2.2.2.2.2.2.2.2), w.2.2.2.2.2)
abbrev u_s2_townPlaces (w : WX) (x : List Int32) : WX := (w.1, w.2.1, w.2.2.1, w.2.2.2.1, (w.2.2.2.2.1.1, w.2.2.2.2.1.2.1, w.2.2.2.2.1.2.2.1, w.2.2.2.2.1.2.2.2.1, w.2.2.2.2.1.2.2.2.2.1, w.2.2.2.2.1.2.2.2.2.2.1, w.2.2.2.2.1.2.2.2.2.2.2.1, w.2.2.2.2.1.2.2.2.2.2.2.2.1, w.2.2.2.2.1.2.2.2.2.2.2.2.2.1, x, w.2.2.2.2.1.2.2.2.2.2.2.2.2.2.2), w.2.2.2.2.2)
abbrev u_s2_drops (w : WX) (x : Int32) : WX := (w.1, w.2.1, w.2.2.1, w.2.2.2.1, (w.2.2.2.2.1.1, w.2.2.2.2.1.2.1, w.2.2.2.2.1.2.2.1, w.2.2.2.2.1.2.2.2.1, w.2.2.2.2.1.2.2.2.2.1, w.2.2.2.2.1.2.2.2.2.2.1, w.2.2.2.2.1.2.2.2.2.2.2.1, w.2.2.2.2.1.2.2.2.2.2.2.2.1, w.2.2.2.2.1.2.2.2.2.2.2.2.2.1, w.2.2.2.2.1.2.2.2.2.2.2.2.2.2.1, x, w.2.2.2.2.1.2.2.2.2.2.2.2.2.2.2.2), w.2.2.2.2.2)
abbrev u_s2_dropLayers (w : WX) (x : List Int32) : WX := (w.1, w.2.1, w.2.2.1, w.2.2.2.1, (w.2.2.2.2.1.1, w.2.2.2.2.1.2.1, w.2.2.2.2.1.2.2.1, w.2.2.2.2.1.2.2.2.1, w.2.2.2.2.1.2.2.2.2.1, w.2.2.2.2.1.2.2.2.2.2.1, w.2.2.2.2.1.2.2.2.2.2.2.1, w.2.2.2.2.1.2.2.2.2.2.2.2.1, w.2.2.2.2.1.2.2.2.2.2.2.2.2.1, w.2.2.2.2.1.2.2.2.2.2.2.2.2.2.1, w.2.2.2.2.1.2.2.2.2.2.2.2.2.2.2.1, x, w.2.2.2.2.1.2.2.2.2.2.2.2.2.2.2.2.2), w.2.2.2.2.2)
abbrev u_s2_dropFloats (w : WX) (x : List Int32) : WX := (w.1, w.2.1, w.2.2.1, w.2.2.2.1, (w.2.2.2.2.1.1, w.2.2.2.2.1.2.1, w.2.2.2.2.1.2.2.1, w.2.2.2.2.1.2.2.2.1, w.2.2.2.2.1.2.2.2.2.1, w.2.2.2.2.1.2.2.2.2.2.1, w.2.2.2.2.1.2.2.2.2.2.2.1, w.2.2.2.2.1.2.2.2.2.2.2.2.1, w.2.2.2.2.1.2.2.2.2.2.2.2.2.1, w.2.2.2.2.1.2.2.2.2.2.2.2.2.2.1, w.2.2.2.2.1.2.2.2.2.2.2.2.2.2.2.1, w.2.2.2.2.1.2.2.2.2.2.2.2.2.2.2.2.1, x, w.2.2.2.2.1.2.2.2.2.2.2.2.2.2.2.2.2.2), w.2.2.2.2.2)
abbrev u_s2_undos (w : WX) (x : Int32) : WX := (w.1, w.2.1, w.2.2.1, w.2.2.2.1, (w.2.2.2.2.1.1, w.2.2.2.2.1.2.1, w.2.2.2.2.1.2.2.1, w.2.2.2.2.1.2.2.2.1, w.2.2.2.2.1.2.2.2.2.1, w.2.2.2.2.1.2.2.2.2.2.1, w.2.2.2.2.1.2.2.2.2.2.2.1, w.2.2.2.2.1.2.2.2.2.2.2.2.1, w.2.2.2.2.1.2.2.2.2.2.2.2.2.1, w.2.2.2.2.1.2.2.2.2.2.2.2.2.2.1, w.2.2.2.2.1.2.2.2.2.2.2.2.2.2.2.1, w.2.2.2.2.1.2.2.2.2.2.2.2.2.2.2.2.1, w.2.2.2.2.1.2.2.2.2.2.2.2.2.2.2.2.2.1, x, w.2.2.2.2.1.2.2.2.2.2.2.2.2.2.2.2.2.2.2), w.2.2.2.2.2)
abbrev u_s2_hoursBefore (w : WX) (x : List Int32) : WX := (w.1, w.2.1, w.2.2.1, w.2.2.2.1, (w.2.2.2.2.1.1, w.2.2.2.2.1.2.1, w.2.2.2.2.1.2.2.1, w.2.2.2.2.1.2.2.2.1, w.2.2.2.2.1.2.2.2.2.1, w.2.2.2.2.1.2.2.2.2.2.1, w.2.2.2.2.1.2.2.2.2.2.2.1, w.2.2.2.2.1.2.2.2.2.2.2.2.1, w.2.2.2.2.1.2.2.2.2.2.2.2.2.1, w.2.2.2.2.1.2.2.2.2.2.2.2.2.2.1, w.2.2.2.2.1.2.2.2.2.2.2.2.2.2.2.1, w.2.2.2.2.1.2.2.2.2.2.2.2.2.2.2.2.1, w.2.2.2.2.1.2.2.2.2.2.2.2.2.2.2.2.2.1, w.2.2.2.2.1.2.2.2.2.2.2.2.2.2.2.2.2.2.1, x), w.2.2.2.2.2)
abbrev u_s2things_count (w : WX) (x : Int32) : WX := (w.1, w.2.1, w.2.2.1, w.2.2.2.1, w.2.2.2.2.1, (x, w.2.2.2.2.2.1.2), w.2.2.2.2.2.2)
abbrev u_s2things_kinds (w : WX) (x : List Int32) : WX := (w.1, w.2.1, w.2.2.1, w.2.2.2.1, w.2.2.2.2.1, (w.2.2.2.2.2.1.1, x, w.2.2.2.2.2.1.2.2), w.2.2.2.2.2.2)
abbrev u_s2things_weights (w : WX) (x : List Int32) : WX := (w.1, w.2.1, w.2.2.1, w.2.2.2.1, w.2.2.2.2.1, (w.2.2.2.2.2.1.1, w.2.2.2.2.2.1.2.1, x, w.2.2.2.2.2.1.2.2.2), w.2.2.2.2.2.2)
abbrev u_s2things_volumes (w : WX) (x : List Int32) : WX := (w.1, w.2.1, w.2.2.1, w.2.2.2.1, w.2.2.2.2.1, (w.2.2.2.2.2.1.1, w.2.2.2.2.2.1.2.1, w.2.2.2.2.2.1.2.2.1, x, w.2.2.2.2.2.1.2.2.2.2), w.2.2.2.2.2.2)
abbrev u_s2things_ballasts (w : WX) (x : List Int32) : WX := (w.1, w.2.1, w.2.2.1, w.2.2.2.1, w.2.2.2.2.1, (w.2.2.2.2.2.1.1, w.2.2.2.2.2.1.2.1, w.2.2.2.2.2.1.2.2.1, w.2.2.2.2.2.1.2.2.2.1, x), w.2.2.2.2.2.2)
abbrev u_s2lifts_count (w : WX) (x : Int32) : WX := (w.1, w.2.1, w.2.2.1, w.2.2.2.1, w.2.2.2.2.1, w.2.2.2.2.2.1, (x, w.2.2.2.2.2.2.1.2), w.2.2.2.2.2.2.2)
abbrev u_s2lifts_froms (w : WX) (x : List Int32) : WX := (w.1, w.2.1, w.2.2.1, w.2.2.2.1, w.2.2.2.2.1, w.2.2.2.2.2.1, (w.2.2.2.2.2.2.1.1, x, w.2.2.2.2.2.2.1.2.2), w.2.2.2.2.2.2.2)
abbrev u_s2lifts_tos (w : WX) (x : List Int32) : WX := (w.1, w.2.1, w.2.2.1, w.2.2.2.1, w.2.2.2.2.1, w.2.2.2.2.2.1, (w.2.2.2.2.2.2.1.1, w.2.2.2.2.2.2.1.2.1, x, w.2.2.2.2.2.2.1.2.2.2), w.2.2.2.2.2.2.2)
abbrev u_s2lifts_times (w : WX) (x : List Int32) : WX := (w.1, w.2.1, w.2.2.1, w.2.2.2.1, w.2.2.2.2.1, w.2.2.2.2.2.1, (w.2.2.2.2.2.2.1.1, w.2.2.2.2.2.2.1.2.1, w.2.2.2.2.2.2.1.2.2.1, x), w.2.2.2.2.2.2.2)
abbrev u_s3_cells (w : WX) (x : Int32) : WX := (w.1, w.2.1, w.2.2.1, w.2.2.2.1, w.2.2.2.2.1, w.2.2.2.2.2.1, w.2.2.2.2.2.2.1, (x, w.2.2.2.2.2.2.2.1.2), w.2.2.2.2.2.2.2.2)
abbrev u_s3_hour (w : WX) (x : Int32) : WX := (w.1, w.2.1, w.2.2.1, w.2.2.2.1, w.2.2.2.2.1, w.2.2.2.2.2.1, w.2.2.2.2.2.2.1, (w.2.2.2.2.2.2.2.1.1, x, w.2.2.2.2.2.2.2.1.2.2), w.2.2.2.2.2.2.2.2)
abbrev u_s3_dams (w : WX) (x : Int32) : WX := (w.1, w.2.1, w.2.2.1, w.2.2.2.1, w.2.2.2.2.1, w.2.2.2.2.2.1, w.2.2.2.2.2.2.1, (w.2.2.2.2.2.2.2.1.1, w.2.2.2.2.2.2.2.1.2.1, x, w.2.2.2.2.2.2.2.1.2.2.2), w.2.2.2.2.2.2.2.2)
abbrev u_s3_densities (w : WX) (x : List Int32) : WX := (w.1, w.2.1, w.2.2.1, w.2.2.2.1, w.2.2.2.2.1, w.2.2.2.2.2.1, w.2.2.2.2.2.2.1, (w.2.2.2.2.2.2.2.1.1, w.2.2.2.2.2.2.2.1.2.1, w.2.2.2.2.2.2.2.1.2.2.1, x, w.2.2.2.2.2.2.2.1.2.2.2.2), w.2.2.2.2.2.2.2.2)
abbrev u_s3_currents (w : WX) (x : List Int32) : WX := (w.1, w.2.1, w.2.2.1, w.2.2.2.1, w.2.2.2.2.1, w.2.2.2.2.2.1, w.2.2.2.2.2.2.1, (w.2.2.2.2.2.2.2.1.1, w.2.2.2.2.2.2.2.1.2.1, w.2.2.2.2.2.2.2.1.2.2.1, w.2.2.2.2.2.2.2.1.2.2.2.1, x, w.2.2.2.2.2.2.2.1.2.2.2.2.2), w.2.2.2.2.2.2.2.2)
abbrev u_s3_tides (w : WX) (x : List Int32) : WX := (w.1, w.2.1, w.2.2.1, w.2.2.2.1, w.2.2.2.2.1, w.2.2.2.2.2.1, w.2.2.2.2.2.2.1, (w.2.2.2.2.2.2.2.1.1, w.2.2.2.2.2.2.2.1.2.1, w.2.2.2.2.2.2.2.1.2.2.1, w.2.2.2.2.2.2.2.1.2.2.2.1, w.2.2.2.2.2.2.2.1.2.2.2.2.1, x, w.2.2.2.2.2.2.2.1.2.2.2.2.2.2), w.2.2.2.2.2.2.2.2)
abbrev u_s3_thicks (w : WX) (x : List Int32) : WX := (w.1, w.2.1, w.2.2.1, w.2.2.2.1, w.2.2.2.2.1, w.2.2.2.2.2.1, w.2.2.2.2.2.2.1, (w.2.2.2.2.2.2.2.1.1, w.2.2.2.2.2.2.2.1.2.1, w.2.2.2.2.2.2.2.1.2.2.1, w.2.2.2.2.2.2.2.1.2.2.2.1, w.2.2.2.2.2.2.2.1.2.2.2.2.1, w.2.2.2.2.2.2.2.1.2.2.2.2.2.1, x, w.2.2.2.2.2.2.2.1.2.2.2.2.2.2.2), w.2.2.2.2.2.2.2.2)
abbrev u_s3_skins (w : WX) (x : List Int32) : WX := (w.1, w.2.1, w.2.2.1, w.2.2.2.1, w.2.2.2.2.1, w.2.2.2.2.2.1, w.2.2.2.2.2.2.1, (w.2.2.2.2.2.2.2.1.1, w.2.2.2.2.2.2.2.1.2.1, w.2.2.2.2.2.2.2.1.2.2.1, w.2.2.2.2.2.2.2.1.2.2.2.1, w.2.2.2.2.2.2.2.1.2.2.2.2.1, w.2.2.2.2.2.2.2.1.2.2.2.2.2.1, w.2.2.2.2.2.2.2.1.2.2.2.2.2.2.1, x, w.2.2.2.2.2.2.2.1.2.2.2.2.2.2.2.2), w.2.2.2.2.2.2.2.2)
abbrev u_s3_towns (w : WX) (x : Int32) : WX := (w.1, w.2.1, w.2.2.1, w.2.2.2.1, w.2.2.2.2.1, w.2.2.2.2.2.1, w.2.2.2.2.2.2.1, (w.2.2.2.2.2.2.2.1.1, w.2.2.2.2.2.2.2.1.2.1, w.2.2.2.2.2.2.2.1.2.2.1, w.2.2.2.2.2.2.2.1.2.2.2.1, w.2.2.2.2.2.2.2.1.2.2.2.2.1, w.2.2.2.2.2.2.2.1.2.2.2.2.2.1, w.2.2.2.2.2.2.2.1.2.2.2.2.2.2.1, w.2.2.2.2.2.2.2.1.2.2.2.2.2.2.2.1, x, w.2.2.2.2.2.2.2.1.2.2.2.2.2.2.2.2.2), w.2.2.2.2.2.2.2.2)
abbrev u_s3_townPlaces (w : WX) (x : List Int32) : WX := (w.1, w.2.1, w.2.2.1, w.2.2.2.1, w.2.2.2.2.1, w.2.2.2.2.2.1, w.2.2.2.2.2.2.1, (w.2.2.2.2.2.2.2.1.1, w.2.2.2.2.2.2.2.1.2.1, w.2.2.2.2.2.2.2.1.2.2.1, w.2.2.2.2.2.2.2.1.2.2.2.1, w.2.2.2.2.2.2.2.1.2.2.2.2.1, w.2.2.2.2.2.2.2.1.2.2.2.2.2.1, w.2.2.2.2.2.2.2.1.2.2.2.2.2.2.1, w.2.2.2.2.2.2.2.1.2.2.2.2.2.2.2.1, w.2.2.2.2.2.2.2.1.2.2.2.2.2.2.2.2.1, x, w.2.2.2.2.2.2.2.1.2.2.2.2.2.2.2.2.2.2), w.2.2.2.2.2.2.2.2)
abbrev u_s3_drops (w : WX) (x : Int32) : WX := (w.1, w.2.1, w.2.2.1, w.2.2.2.1, w.2.2.2.2.1, w.2.2.2.2.2.1, w.2.2.2.2.2.2.1, (w.2.2.2.2.2.2.2.1.1, w.2.2.2.2.2.2.2.1.2.1, w.2.2.2.2.2.2.2.1.2.2.1, w.2.2.2.2.2.2.2.1.2.2.2.1, w.2.2.2.2.2.2.2.1.2.2.2.2.1, w.2.2.2.2.2.2.2.1.2.2.2.2.2.1, w.2.2.2.2.2.2.2.1.2.2.2.2.2.2.1, w.2.2.2.2.2.2.2.1.2.2.2.2.2.2.2.1, w.2.2.2.2.2.2.2.1.2.2.2.2.2.2.2.2.1, w.2.2.2.2.2.2.2.1.2.2.2.2.2.2.2.2.2.1, x, w.2.2.2.2.2.2.2.1.2.2.2.2.2.2.2.2.2.2.2), w.2.2.2.2.2.2.2.2)
abbrev u_s3_dropLayers (w : WX) (x : List Int32) : WX := (w.1, w.2.1, w.2.2.1, w.2.2.2.1, w.2.2.2.2.1, w.2.2.2.2.2.1, w.2.2.2.2.2.2.1, (w.2.2.2.2.2.2.2.1.1, w.2.2.2.2.2.2.2.1.2.1, w.2.2.2.2.2.2.2.1.2.2.1, w.2.2.2.2.2.2.2.1.2.2.2.1, w.2.2.2.2.2.2.2.1.2.2.2.2.1, w.2.2.2.2.2.2.2.1.2.2.2.2.2.1, w.2.2.2.2.2.2.2.1.2.2.2.2.2.2.1, w.2.2.2.2.2.2.2.1.2.2.2.2.2.2.2.1, w.2.2.2.2.2.2.2.1.2.2.2.2.2.2.2.2.1, w.2.2.2.2.2.2.2.1.2.2.2.2.2.2.2.2.2.1, w.2.2.2.2.2.2.2.1.2.2.2.2.2.2.2.2.2.2.1, x, w.2.2.2.2.2.2.2.1.2.2.2.2.2.2.2.2.2.2.2.2), w.2.2.2.2.2.2.2.2)
abbrev u_s3_dropFloats (w : WX) (x : List Int32) : WX := (w.1, w.2.1, w.2.2.1, w.2.2.2.1, w.2.2.2.2.1, w.2.2.2.2.2.1, w.2.2.2.2.2.2.1, (w.2.2.2.2.2.2.2.1.1, w.2.2.2.2.2.2.2.1.2.1, w.2.2.2.2.2.2.2.1.2.2.1, w.2.2.2.2.2.2.2.1.2.2.2.1, w.2.2.2.2.2.2.2.1.2.2.2.2.1, w.2.2.2.2.2.2.2.1.2.2.2.2.2.1, w.2.2.2.2.2.2.2.1.2.2.2.2.2.2.1, w.2.2.2.2.2.2.2.1.2.2.2.2.2.2.2.1, w.2.2.2.2.2.2.2.1.2.2.2.2.2.2.2.2.1, w.2.2.2.2.2.2.2.1.2.2.2.2.2.2.2.2.2.1, w.2.2.2.2.2.2.2.1.2.2.2.2.2.2.2.2.2.2.1, w.2.2.2.2.2.2.2.1.2.2.2.2.2.2.2.2.2.2.2.1, x, w.2.2.2.2.2.2.2.1.2.2.2.2.2.2.2.2.2.2.2.2.2), w.2.2.2.2.2.2.2.2)
abbrev u_s3_undos (w : WX) (x : Int32) : WX := (w.1, w.2.1, w.2.2.1, w.2.2.2.1, w.2.2.2.2.1, w.2.2.2.2.2.1, w.2.2.2.2.2.2.1, (w.2.2.2.2.2.2.2.1.1, w.2.2.2.2.2.2.2.1.2.1, w.2.2.2.2.2.2.2.1.2.2.1, w.2.2.2.2.2.2.2.1.2.2.2.1, w.2.2.2.2.2.2.2.1.2.2.2.2.1, w.2.2.2.2.2.2.2.1.2.2.2.2.2.1, w.2.2.2.2.2.2.2.1.2.2.2.2.2.2.1, w.2.2.2.2.2.2.2.1.2.2.2.2.2.2.2.1, w.2.2.2.2.2.2.2.1.2.2.2.2.2.2.2.2.1, w.2.2.2.2.2.2.2.1.2.2.2.2.2.2.2.2.2.1, w.2.2.2.2.2.2.2.1.2.2.2.2.2.2.2.2.2.2.1, w.2.2.2.2.2.2.2.1.2.2.2.2.2.2.2.2.2.2.2.1, w.2.2.2.2.2.2.2.1.2.2.2.2.2.2.2.2.2.2.2.2.1, x, w.2.2.2.2.2.2.2.1.2.2.2.2.2.2.2.2.2.2.2.2.2.2), w.2.2.2.2.2.2.2.2)
abbrev u_s3_hoursBefore (w : WX) (x : List Int32) : WX := (w.1, w.2.1, w.2.2.1, w.2.2.2.1, w.2.2.2.2.1, w.2.2.2.2.2.1, w.2.2.2.2.2.2.1, (w.2.2.2.2.2.2.2.1.1, w.2.2.2.2.2.2.2.1.2.1, w.2.2.2.2.2.2.2.1.2.2.1, w.2.2.2.2.2.2.2.1.2.2.2.1, w.2.2.2.2.2.2.2.1.2.2.2.2.1, w.2.2.2.2.2.2.2.1.2.2.2.2.2.1, w.2.2.2.2.2.2.2.1.2.2.2.2.2.2.1, w.2.2.2.2.2.2.2.1.2.2.2.2.2.2.2.1, w.2.2.2.2.2.2.2.1.2.2.2.2.2.2.2.2.1, w.2.2.2.2.2.2.2.1.2.2.2.2.2.2.2.2.2.1, w.2.2.2.2.2.2.2.1.2.2.2.2.2.2.2.2.2.2.1, w.2.2.2.2.2.2.2.1.2.2.2.2.2.2.2.2.2.2.2.1, w.2.2.2.2.2.2.2.1.2.2.2.2.2.2.2.2.2.2.2.2.1, w.2.2.2.2.2.2.2.1.2.2.2.2.2.2.2.2.2.2.2.2.2.1, x), w.2.2.2.2.2.2.2.2)
abbrev u_s3things_count (w : WX) (x : Int32) : WX := (w.1, w.2.1, w.2.2.1, w.2.2.2.1, w.2.2.2.2.1, w.2.2.2.2.2.1, w.2.2.2.2.2.2.1, w.2.2.2.2.2.2.2.1, (x, w.2.2.2.2.2.2.2.2.1.2), w.2.2.2.2.2.2.2.2.2)
abbrev u_s3things_kinds (w : WX) (x : List Int32) : WX := (w.1, w.2.1, w.2.2.1, w.2.2.2.1, w.2.2.2.2.1, w.2.2.2.2.2.1, w.2.2.2.2.2.2.1, w.2.2.2.2.2.2.2.1, (w.2.2.2.2.2.2.2.2.1.1, x, w.2.2.2.2.2.2.2.2.1.2.2), w.2.2.2.2.2.2.2.2.2)
abbrev u_s3things_weights (w : WX) (x : List Int32) : WX := (w.1, w.2.1, w.2.2.1, w.2.2.2.1, w.2.2.2.2.1, w.2.2.2.2.2.1, w.2.2.2.2.2.2.1, w.2.2.2.2.2.2.2.1, (w.2.2.2.2.2.2.2.2.1.1, w.2.2.2.2.2.2.2.2.1.2.1, x, w.2.2.2.2.2.2.2.2.1.2.2.2), w.2.2.2.2.2.2.2.2.2)
abbrev u_s3things_volumes (w : WX) (x : List Int32) : WX := (w.1, w.2.1, w.2.2.1, w.2.2.2.1, w.2.2.2.2.1, w.2.2.2.2.2.1, w.2.2.2.2.2.2.1, w.2.2.2.2.2.2.2.1, (w.2.2.2.2.2.2.2.2.1.1, w.2.2.2.2.2.2.2.2.1.2.1, w.2.2.2.2.2.2.2.2.1.2.2.1, x, w.2.2.2.2.2.2.2.2.1.2.2.2.2), w.2.2.2.2.2.2.2.2.2)
abbrev u_s3things_ballasts (w : WX) (x : List Int32) : WX := (w.1, w.2.1, w.2.2.1, w.2.2.2.1, w.2.2.2.2.1, w.2.2.2.2.2.1, w.2.2.2.2.2.2.1, w.2.2.2.2.2.2.2.1, (w.2.2.2.2.2.2.2.2.1.1, w.2.2.2.2.2.2.2.2.1.2.1, w.2.2.2.2.2.2.2.2.1.2.2.1, w.2.2.2.2.2.2.2.2.1.2.2.2.1, x), w.2.2.2.2.2.2.2.2.2)
abbrev u_s3lifts_count (w : WX) (x : Int32) : WX := (w.1, w.2.1, w.2.2.1, w.2.2.2.1, w.2.2.2.2.1, w.2.2.2.2.2.1, w.2.2.2.2.2.2.1, w.2.2.2.2.2.2.2.1, w.2.2.2.2.2.2.2.2.1, (x, w.2.2.2.2.2.2.2.2.2.1.2), w.2.2.2.2.2.2.2.2.2.2)
abbrev u_s3lifts_froms (w : WX) (x : List Int32) : WX := (w.1, w.2.1, w.2.2.1, w.2.2.2.1, w.2.2.2.2.1, w.2.2.2.2.2.1, w.2.2.2.2.2.2.1, w.2.2.2.2.2.2.2.1, w.2.2.2.2.2.2.2.2.1, (w.2.2.2.2.2.2.2.2.2.1.1, x, w.2.2.2.2.2.2.2.2.2.1.2.2), w.2.2.2.2.2.2.2.2.2.2)
abbrev u_s3lifts_tos (w : WX) (x : List Int32) : WX := (w.1, w.2.1, w.2.2.1, w.2.2.2.1, w.2.2.2.2.1, w.2.2.2.2.2.1, w.2.2.2.2.2.2.1, w.2.2.2.2.2.2.2.1, w.2.2.2.2.2.2.2.2.1, (w.2.2.2.2.2.2.2.2.2.1.1, w.2.2.2.2.2.2.2.2.2.1.2.1, x, w.2.2.2.2.2.2.2.2.2.1.2.2.2), w.2.2.2.2.2.2.2.2.2.2)
abbrev u_s3lifts_times (w : WX) (x : List Int32) : WX := (w.1, w.2.1, w.2.2.1, w.2.2.2.1, w.2.2.2.2.1, w.2.2.2.2.2.1, w.2.2.2.2.2.2.1, w.2.2.2.2.2.2.2.1, w.2.2.2.2.2.2.2.2.1, (w.2.2.2.2.2.2.2.2.2.1.1, w.2.2.2.2.2.2.2.2.2.1.2.1, w.2.2.2.2.2.2.2.2.2.1.2.2.1, x), w.2.2.2.2.2.2.2.2.2.2)
abbrev u_s4_cells (w : WX) (x : Int32) : WX := (w.1, w.2.1, w.2.2.1, w.2.2.2.1, w.2.2.2.2.1, w.2.2.2.2.2.1, w.2.2.2.2.2.2.1, w.2.2.2.2.2.2.2.1, w.2.2.2.2.2.2.2.2.1, w.2.2.2.2.2.2.2.2.2.1, (x, w.2.2.2.2.2.2.2.2.2.2.1.2), w.2.2.2.2.2.2.2.2.2.2.2)
abbrev u_s4_hour (w : WX) (x : Int32) : WX := (w.1, w.2.1, w.2.2.1, w.2.2.2.1, w.2.2.2.2.1, w.2.2.2.2.2.1, w.2.2.2.2.2.2.1, w.2.2.2.2.2.2.2.1, w.2.2.2.2.2.2.2.2.1, w.2.2.2.2.2.2.2.2.2.1, (w.2.2.2.2.2.2.2.2.2.2.1.1, x, w.2.2.2.2.2.2.2.2.2.2.1.2.2), w.2.2.2.2.2.2.2.2.2.2.2)
abbrev u_s4_dams (w : WX) (x : Int32) : WX := (w.1, w.2.1, w.2.2.1, w.2.2.2.1, w.2.2.2.2.1, w.2.2.2.2.2.1, w.2.2.2.2.2.2.1, w.2.2.2.2.2.2.2.1, w.2.2.2.2.2.2.2.2.1, w.2.2.2.2.2.2.2.2.2.1, (w.2.2.2.2.2.2.2.2.2.2.1.1, w.2.2.2.2.2.2.2.2.2.2.1.2.1, x, w.2.2.2.2.2.2.2.2.2.2.1.2.2.2), w.2.2.2.2.2.2.2.2.2.2.2)
abbrev u_s4_densities (w : WX) (x : List Int32) : WX := (w.1, w.2.1, w.2.2.1, w.2.2.2.1, w.2.2.2.2.1, w.2.2.2.2.2.1, w.2.2.2.2.2.2.1, w.2.2.2.2.2.2.2.1, w.2.2.2.2.2.2.2.2.1, w.2.2.2.2.2.2.2.2.2.1, (w.2.2.2.2.2.2.2.2.2.2.1.1, w.2.2.2.2.2.2.2.2.2.2.1.2.1, w.2.2.2.2.2.2.2.2.2.2.1.2.2.1, x, w.2.2.2.2.2.2.2.2.2.2.1.2.2.2.2), w.2.2.2.2.2.2.2.2.2.2.2)
abbrev u_s4_currents (w : WX) (x : List Int32) : WX := (w.1, w.2.1, w.2.2.1, w.2.2.2.1, w.2.2.2.2.1, w.2.2.2.2.2.1, w.2.2.2.2.2.2.1, w.2.2.2.2.2.2.2.1, w.2.2.2.2.2.2.2.2.1, w.2.2.2.2.2.2.2.2.2.1, (w.2.2.2.2.2.2.2.2.2.2.1.1, w.2.2.2.2.2.2.2.2.2.2.1.2.1, w.2.2.2.2.2.2.2.2.2.2.1.2.2.1, w.2.2.2.2.2.2.2.2.2.2.1.2.2.2.1, x, w.2.2.2.2.2.2.2.2.2.2.1.2.2.2.2.2), w.2.2.2.2.2.2.2.2.2.2.2)
abbrev u_s4_tides (w : WX) (x : List Int32) : WX := (w.1, w.2.1, w.2.2.1, w.2.2.2.1, w.2.2.2.2.1, w.2.2.2.2.2.1, w.2.2.2.2.2.2.1, w.2.2.2.2.2.2.2.1, w.2.2.2.2.2.2.2.2.1, w.2.2.2.2.2.2.2.2.2.1, (w.2.2.2.2.2.2.2.2.2.2.1.1, w.2.2.2.2.2.2.2.2.2.2.1.2.1, w.2.2.2.2.2.2.2.2.2.2.1.2.2.1, w.2.2.2.2.2.2.2.2.2.2.1.2.2.2.1, w.2.2.2.2.2.2.2.2.2.2.1.2.2.2.2.1, x, w.2.2.2.2.2.2.2.2.2.2.1.2.2.2.2.2.2), w.2.2.2.2.2.2.2.2.2.2.2)
abbrev u_s4_thicks (w : WX) (x : List Int32) : WX := (w.1, w.2.1, w.2.2.1, w.2.2.2.1, w.2.2.2.2.1, w.2.2.2.2.2.1, w.2.2.2.2.2.2.1, w.2.2.2.2.2.2.2.1, w.2.2.2.2.2.2.2.2.1, w.2.2.2.2.2.2.2.2.2.1, (w.2.2.2.2.2.2.2.2.2.2.1.1, w.2.2.2.2.2.2.2.2.2.2.1.2.1, w.2.2.2.2.2.2.2.2.2.2.1.2.2.1, w.2.2.2.2.2.2.2.2.2.2.1.2.2.2.1, w.2.2.2.2.2.2.2.2.2.2.1.2.2.2.2.1, w.2.2.2.2.2.2.2.2.2.2.1.2.2.2.2.2.1, x, w.2.2.2.2.2.2.2.2.2.2.1.2.2.2.2.2.2.2), w.2.2.2.2.2.2.2.2.2.2.2)
abbrev u_s4_skins (w : WX) (x : List Int32) : WX := (w.1, w.2.1, w.2.2.1, w.2.2.2.1, w.2.2.2.2.1, w.2.2.2.2.2.1, w.2.2.2.2.2.2.1, w.2.2.2.2.2.2.2.1, w.2.2.2.2.2.2.2.2.1, w.2.2.2.2.2.2.2.2.2.1, (w.2.2.2.2.2.2.2.2.2.2.1.1, w.2.2.2.2.2.2.2.2.2.2.1.2.1, w.2.2.2.2.2.2.2.2.2.2.1.2.2.1, w.2.2.2.2.2.2.2.2.2.2.1.2.2.2.1, w.2.2.2.2.2.2.2.2.2.2.1.2.2.2.2.1, w.2.2.2.2.2.2.2.2.2.2.1.2.2.2.2.2.1, w.2.2.2.2.2.2.2.2.2.2.1.2.2.2.2.2.2.1, x, w.2.2.2.2.2.2.2.2.2.2.1.2.2.2.2.2.2.2.2), w.2.2.2.2.2.2.2.2.2.2.2)
abbrev u_s4_towns (w : WX) (x : Int32) : WX := (w.1, w.2.1, w.2.2.1, w.2.2.2.1, w.2.2.2.2.1, w.2.2.2.2.2.1, w.2.2.2.2.2.2.1, w.2.2.2.2.2.2.2.1, w.2.2.2.2.2.2.2.2.1, w.2.2.2.2.2.2.2.2.2.1, (w.2.2.2.2.2.2.2.2.2.2.1.1, w.2.2.2.2.2.2.2.2.2.2.1.2.1, w.2.2.2.2.2.2.2.2.2.2.1.2.2.1, w.2.2.2.2.2.2.2.2.2.2.1.2.2.2.1, w.2.2.2.2.2.2.2.2.2.2.1.2.2.2.2.1, w.2.2.2.2.2.2.2.2.2.2.1.2.2.2.2.2.1, w.2.2.2.2.2.2.2.2.2.2.1.2.2.2.2.2.2.1, w.2.2.2.2.2.2.2.2.2.2.1.2.2.2.2.2.2.2.1, x, w.2.2.2.2.2.2.2.2.2.2.1.2.2.2.2.2.2.2.2.2), w.2.2.2.2.2.2.2.2.2.2.2)
abbrev u_s4_townPlaces (w : WX) (x : List Int32) : WX := (w.1, w.2.1, w.2.2.1, w.2.2.2.1, w.2.2.2.2.1, w.2.2.2.2.2.1, w.2.2.2.2.2.2.1, w.2.2.2.2.2.2.2.1, w.2.2.2.2.2.2.2.2.1, w.2.2.2.2.2.2.2.2.2.1, (w.2.2.2.2.2.2.2.2.2.2.1.1, w.2.2.2.2.2.2.2.2.2.2.1.2.1, w.2.2.2.2.2.2.2.2.2.2.1.2.2.1, w.2.2.2.2.2.2.2.2.2.2.1.2.2.2.1, w.2.2.2.2.2.2.2.2.2.2.1.2.2.2.2.1, w.2.2.2.2.2.2.2.2.2.2.1.2.2.2.2.2.1, w.2.2.2.2.2.2.2.2.2.2.1.2.2.2.2.2.2.1, w.2.2.2.2.2.2.2.2.2.2.1.2.2.2.2.2.2.2.1, w.2.2.2.2.2.2.2.2.2.2.1.2.2.2.2.2.2.2.2.1, x, w.2.2.2.2.2.2.2.2.2.2.1.2.2.2.2.2.2.2.2.2.2), w.2.2.2.2.2.2.2.2.2.2.2)
abbrev u_s4_drops (w : WX) (x : Int32) : WX := (w.1, w.2.1, w.2.2.1, w.2.2.2.1, w.2.2.2.2.1, w.2.2.2.2.2.1, w.2.2.2.2.2.2.1, w.2.2.2.2.2.2.2.1, w.2.2.2.2.2.2.2.2.1, w.2.2.2.2.2.2.2.2.2.1, (w.2.2.2.2.2.2.2.2.2.2.1.1, w.2.2.2.2.2.2.2.2.2.2.1.2.1, w.2.2.2.2.2.2.2.2.2.2.1.2.2.1, w.2.2.2.2.2.2.2.2.2.2.1.2.2.2.1, w.2.2.2.2.2.2.2.2.2.2.1.2.2.2.2.1, w.2.2.2.2.2.2.2.2.2.2.1.2.2.2.2.2.1, w.2.2.2.2.2.2.2.2.2.2.1.2.2.2.2.2.2.1, w.2.2.2.2.2.2.2.2.2.2.1.2.2.2.2.2.2.2.1, w.2.2.2.2.2.2.2.2.2.2.1.2.2.2.2.2.2.2.2.1, w.2.2.2.2.2.2.2.2.2.2.1.2.2.2.2.2.2.2.2.2.1, x, w.2.2.2.2.2.2.2.2.2.2.1.2.2.2.2.2.2.2.2.2.2.2), w.2.2.2.2.2.2.2.2.2.2.2)
abbrev u_s4_dropLayers (w : WX) (x : List Int32) : WX := (w.1, w.2.1, w.2.2.1, w.2.2.2.1, w.2.2.2.2.1, w.2.2.2.2.2.1, w.2.2.2.2.2.2.1, w.2.2.2.2.2.2.2.1, w.2.2.2.2.2.2.2.2.1, w.2.2.2.2.2.2.2.2.2.1, (w.2.2.2.2.2.2.2.2.2.2.1.1, w.2.2.2.2.2.2.2.2.2.2.1.2.1, w.2.2.2.2.2.2.2.2.2.2.1.2.2.1, w.2.2.2.2.2.2.2.2.2.2.1.2.2.2.1, w.2.2.2.2.2.2.2.2.2.2.1.2.2.2.2.1, w.2.2.2.2.2.2.2.2.2.2.1.2.2.2.2.2.1, w.2.2.2.2.2.2.2.2.2.2.1.2.2.2.2.2.2.1, w.2.2.2.2.2.2.2.2.2.2.1.2.2.2.2.2.2.2.1, w.2.2.2.2.2.2.2.2.2.2.1.2.2.2.2.2.2.2.2.1, w.2.2.2.2.2.2.2.2.2.2.1.2.2.2.2.2.2.2.2.2.1, w.2.2.2.2.2.2.2.2.2.2.1.2.2.2.2.2.2.2.2.2.2.1, x, w.2.2.2.2.2.2.2.2.2.2.1.2.2.2.2.2.2.2.2.2.2.2.2), w.2.2.2.2.2.2.2.2.2.2.2)
abbrev u_s4_dropFloats (w : WX) (x : List Int32) : WX := (w.1, w.2.1, w.2.2.1, w.2.2.2.1, w.2.2.2.2.1, w.2.2.2.2.2.1, w.2.2.2.2.2.2.1, w.2.2.2.2.2.2.2.1, w.2.2.2.2.2.2.2.2.1, w.2.2.2.2.2.2.2.2.2.1, (w.2.2.2.2.2.2.2.2.2.2.1.1, w.2.2.2.2.2.2.2.2.2.2.1.2.1, w.2.2.2.2.2.2.2.2.2.2.1.2.2.1, w.2.2.2.2.2.2.2.2.2.2.1.2.2.2.1, w.2.2.2.2.2.2.2.2.2.2.1.2.2.2.2.1, w.2.2.2.2.2.2.2.2.2.2.1.2.2.2.2.2.1, w.2.2.2.2.2.2.2.2.2.2.1.2.2.2.2.2.2.1, w.2.2.2.2.2.2.2.2.2.2.1.2.2.2.2.2.2.2.1, w.2.2.2.2.2.2.2.2.2.2.1.2.2.2.2.2.2.2.2.1, w.2.2.2.2.2.2.2.2.2.2.1.2.2.2.2.2.2.2.2.2.1, w.2.2.2.2.2.2.2.2.2.2.1.2.2.2.2.2.2.2.2.2.2.1, w.2.2.2.2.2.2.2.2.2.2.1.2.2.2.2.2.2.2.2.2.2.2.1, x, w.2.2.2.2.2.2.2.2.2.2.1.2.2.2.2.2.2.2.2.2.2.2.2.2), w.2.2.2.2.2.2.2.2.2.2.2)
abbrev u_s4_undos (w : WX) (x : Int32) : WX := (w.1, w.2.1, w.2.2.1, w.2.2.2.1, w.2.2.2.2.1, w.2.2.2.2.2.1, w.2.2.2.2.2.2.1, w.2.2.2.2.2.2.2.1, w.2.2.2.2.2.2.2.2.1, w.2.2.2.2.2.2.2.2.2.1, (w.2.2.2.2.2.2.2.2.2.2.1.1, w.2.2.2.2.2.2.2.2.2.2.1.2.1, w.2.2.2.2.2.2.2.2.2.2.1.2.2.1, w.2.2.2.2.2.2.2.2.2.2.1.2.2.2.1, w.2.2.2.2.2.2.2.2.2.2.1.2.2.2.2.1, w.2.2.2.2.2.2.2.2.2.2.1.2.2.2.2.2.1, w.2.2.2.2.2.2.2.2.2.2.1.2.2.2.2.2.2.1, w.2.2.2.2.2.2.2.2.2.2.1.2.2.2.2.2.2.2.1, w.2.2.2.2.2.2.2.2.2.2.1.2.2.2.2.2.2.2.2.1, w.2.2.2.2.2.2.2.2.2.2.1.2.2.2.2.2.2.2.2.2.1, w.2.2.2.2.2.2.2.2.2.2.1.2.2.2.2.2.2.2.2.2.2.1, w.2.2.2.2.2.2.2.2.2.2.1.2.2.2.2.2.2.2.2.2.2.2.1, w.2.2.2.2.2.2.2.2.2.2.1.2.2.2.2.2.2.2.2.2.2.2.2.1, x, w.2.2.2.2.2.2.2.2.2.2.1.2.2.2.2.2.2.2.2.2.2.2.2.2.2), w.2.2.2.2.2.2.2.2.2.2.2)
abbrev u_s4_hoursBefore (w : WX) (x : List Int32) : WX := (w.1, w.2.1, w.2.2.1, w.2.2.2.1, w.2.2.2.2.1, w.2.2.2.2.2.1, w.2.2.2.2.2.2.1, w.2.2.2.2.2.2.2.1, w.2.2.2.2.2.2.2.2.1, w.2.2.2.2.2.2.2.2.2.1, (w.2.2.2.2.2.2.2.2.2.2.1.1, w.2.2.2.2.2.2.2.2.2.2.1.2.1, w.2.2.2.2.2.2.2.2.2.2.1.2.2.1, w.2.2.2.2.2.2.2.2.2.2.1.2.2.2.1, w.2.2.2.2.2.2.2.2.2.2.1.2.2.2.2.1, w.2.2.2.2.2.2.2.2.2.2.1.2.2.2.2.2.1, w.2.2.2.2.2.2.2.2.2.2.1.2.2.2.2.2.2.1, w.2.2.2.2.2.2.2.2.2.2.1.2.2.2.2.2.2.2.1, w.2.2.2.2.2.2.2.2.2.2.1.2.2.2.2.2.2.2.2.1, w.2.2.2.2.2.2.2.2.2.2.1.2.2.2.2.2.2.2.2.2.1, w.2.2.2.2.2.2.2.2.2.2.1.2.2.2.2.2.2.2.2.2.2.1, w.2.2.2.2.2.2.2.2.2.2.1.2.2.2.2.2.2.2.2.2.2.2.1, w.2.2.2.2.2.2.2.2.2.2.1.2.2.2.2.2.2.2.2.2.2.2.2.1, w.2.2.2.2.2.2.2.2.2.2.1.2.2.2.2.2.2.2.2.2.2.2.2.2.1, x), w.2.2.2.2.2.2.2.2.2.2.2)
abbrev u_s4things_count (w : WX) (x : Int32) : WX := (w.1, w.2.1, w.2.2.1, w.2.2.2.1, w.2.2.2.2.1, w.2.2.2.2.2.1, w.2.2.2.2.2.2.1, w.2.2.2.2.2.2.2.1, w.2.2.2.2.2.2.2.2.1, w.2.2.2.2.2.2.2.2.2.1, w.2.2.2.2.2.2.2.2.2.2.1, (x, w.2.2.2.2.2.2.2.2.2.2.2.1.2), w.2.2.2.2.2.2.2.2.2.2.2.2)
abbrev u_s4things_kinds (w : WX) (x : List Int32) : WX := (w.1, w.2.1, w.2.2.1, w.2.2.2.1, w.2.2.2.2.1, w.2.2.2.2.2.1, w.2.2.2.2.2.2.1, w.2.2.2.2.2.2.2.1, w.2.2.2.2.2.2.2.2.1, w.2.2.2.2.2.2.2.2.2.1, w.2.2.2.2.2.2.2.2.2.2.1, (w.2.2.2.2.2.2.2.2.2.2.2.1.1, x, w.2.2.2.2.2.2.2.2.2.2.2.1.2.2), w.2.2.2.2.2.2.2.2.2.2.2.2)
abbrev u_s4things_weights (w : WX) (x : List Int32) : WX := (w.1, w.2.1, w.2.2.1, w.2.2.2.1, w.2.2.2.2.1, w.2.2.2.2.2.1, w.2.2.2.2.2.2.1, w.2.2.2.2.2.2.2.1, w.2.2.2.2.2.2.2.2.1, w.2.2.2.2.2.2.2.2.2.1, w.2.2.2.2.2.2.2.2.2.2.1, (w.2.2.2.2.2.2.2.2.2.2.2.1.1, w.2.2.2.2.2.2.2.2.2.2.2.1.2.1, x, w.2.2.2.2.2.2.2.2.2.2.2.1.2.2.2), w.2.2.2.2.2.2.2.2.2.2.2.2)
abbrev u_s4things_volumes (w : WX) (x : List Int32) : WX := (w.1, w.2.1, w.2.2.1, w.2.2.2.1, w.2.2.2.2.1, w.2.2.2.2.2.1, w.2.2.2.2.2.2.1, w.2.2.2.2.2.2.2.1, w.2.2.2.2.2.2.2.2.1, w.2.2.2.2.2.2.2.2.2.1, w.2.2.2.2.2.2.2.2.2.2.1, (w.2.2.2.2.2.2.2.2.2.2.2.1.1, w.2.2.2.2.2.2.2.2.2.2.2.1.2.1, w.2.2.2.2.2.2.2.2.2.2.2.1.2.2.1, x, w.2.2.2.2.2.2.2.2.2.2.2.1.2.2.2.2), w.2.2.2.2.2.2.2.2.2.2.2.2)
abbrev u_s4things_ballasts (w : WX) (x : List Int32) : WX := (w.1, w.2.1, w.2.2.1, w.2.2.2.1, w.2.2.2.2.1, w.2.2.2.2.2.1, w.2.2.2.2.2.2.1, w.2.2.2.2.2.2.2.1, w.2.2.2.2.2.2.2.2.1, w.2.2.2.2.2.2.2.2.2.1, w.2.2.2.2.2.2.2.2.2.2.1, (w.2.2.2.2.2.2.2.2.2.2.2.1.1, w.2.2.2.2.2.2.2.2.2.2.2.1.2.1, w.2.2.2.2.2.2.2.2.2.2.2.1.2.2.1, w.2.2.2.2.2.2.2.2.2.2.2.1.2.2.2.1, x), w.2.2.2.2.2.2.2.2.2.2.2.2)
abbrev u_s4lifts_count (w : WX) (x : Int32) : WX := (w.1, w.2.1, w.2.2.1, w.2.2.2.1, w.2.2.2.2.1, w.2.2.2.2.2.1, w.2.2.2.2.2.2.1, w.2.2.2.2.2.2.2.1, w.2.2.2.2.2.2.2.2.1, w.2.2.2.2.2.2.2.2.2.1, w.2.2.2.2.2.2.2.2.2.2.1, w.2.2.2.2.2.2.2.2.2.2.2.1, (x, w.2.2.2.2.2.2.2.2.2.2.2.2.1.2), w.2.2.2.2.2.2.2.2.2.2.2.2.2)
abbrev u_s4lifts_froms (w : WX) (x : List Int32) : WX := (w.1, w.2.1, w.2.2.1, w.2.2.2.1, w.2.2.2.2.1, w.2.2.2.2.2.1, w.2.2.2.2.2.2.1, w.2.2.2.2.2.2.2.1, w.2.2.2.2.2.2.2.2.1, w.2.2.2.2.2.2.2.2.2.1, w.2.2.2.2.2.2.2.2.2.2.1, w.2.2.2.2.2.2.2.2.2.2.2.1, (w.2.2.2.2.2.2.2.2.2.2.2.2.1.1, x, w.2.2.2.2.2.2.2.2.2.2.2.2.1.2.2), w.2.2.2.2.2.2.2.2.2.2.2.2.2)
abbrev u_s4lifts_tos (w : WX) (x : List Int32) : WX := (w.1, w.2.1, w.2.2.1, w.2.2.2.1, w.2.2.2.2.1, w.2.2.2.2.2.1, w.2.2.2.2.2.2.1, w.2.2.2.2.2.2.2.1, w.2.2.2.2.2.2.2.2.1, w.2.2.2.2.2.2.2.2.2.1, w.2.2.2.2.2.2.2.2.2.2.1, w.2.2.2.2.2.2.2.2.2.2.2.1, (w.2.2.2.2.2.2.2.2.2.2.2.2.1.1, w.2.2.2.2.2.2.2.2.2.2.2.2.1.2.1, x, w.2.2.2.2.2.2.2.2.2.2.2.2.1.2.2.2), w.2.2.2.2.2.2.2.2.2.2.2.2.2)
abbrev u_s4lifts_times (w : WX) (x : List Int32) : WX := (w.1, w.2.1, w.2.2.1, w.2.2.2.1, w.2.2.2.2.1, w.2.2.2.2.2.1, w.2.2.2.2.2.2.1, w.2.2.2.2.2.2.2.1, w.2.2.2.2.2.2.2.2.1, w.2.2.2.2.2.2.2.2.2.1, w.2.2.2.2.2.2.2.2.2.2.1, w.2.2.2.2.2.2.2.2.2.2.2.1, (w.2.2.2.2.2.2.2.2.2.2.2.2.1.1, w.2.2.2.2.2.2.2.2.2.2.2.2.1.2.1, w.2.2.2.2.2.2.2.2.2.2.2.2.1.2.2.1, x), w.2.2.2.2.2.2.2.2.2.2.2.2.2)
abbrev u_text_length (w : WX) (x : Int32) : WX := (w.1, w.2.1, w.2.2.1, w.2.2.2.1, w.2.2.2.2.1, w.2.2.2.2.2.1, w.2.2.2.2.2.2.1, w.2.2.2.2.2.2.2.1, w.2.2.2.2.2.2.2.2.1, w.2.2.2.2.2.2.2.2.2.1, w.2.2.2.2.2.2.2.2.2.2.1, w.2.2.2.2.2.2.2.2.2.2.2.1, w.2.2.2.2.2.2.2.2.2.2.2.2.1, (x, w.2.2.2.2.2.2.2.2.2.2.2.2.2.1.2), w.2.2.2.2.2.2.2.2.2.2.2.2.2.2)
abbrev u_text_items (w : WX) (x : Int32) : WX := (w.1, w.2.1, w.2.2.1, w.2.2.2.1, w.2.2.2.2.1, w.2.2.2.2.2.1, w.2.2.2.2.2.2.1, w.2.2.2.2.2.2.2.1, w.2.2.2.2.2.2.2.2.1, w.2.2.2.2.2.2.2.2.2.1, w.2.2.2.2.2.2.2.2.2.2.1, w.2.2.2.2.2.2.2.2.2.2.2.1, w.2.2.2.2.2.2.2.2.2.2.2.2.1, (w.2.2.2.2.2.2.2.2.2.2.2.2.2.1.1, x, w.2.2.2.2.2.2.2.2.2.2.2.2.2.1.2.2), w.2.2.2.2.2.2.2.2.2.2.2.2.2.2)
abbrev u_text_refusedItem (w : WX) (x : Int32) : WX := (w.1, w.2.1, w.2.2.1, w.2.2.2.1, w.2.2.2.2.1, w.2.2.2.2.2.1, w.2.2.2.2.2.2.1, w.2.2.2.2.2.2.2.1, w.2.2.2.2.2.2.2.2.1, w.2.2.2.2.2.2.2.2.2.1, w.2.2.2.2.2.2.2.2.2.2.1, w.2.2.2.2.2.2.2.2.2.2.2.1, w.2.2.2.2.2.2.2.2.2.2.2.2.1, (w.2.2.2.2.2.2.2.2.2.2.2.2.2.1.1, w.2.2.2.2.2.2.2.2.2.2.2.2.2.1.2.1, x, w.2.2.2.2.2.2.2.2.2.2.2.2.2.1.2.2.2), w.2.2.2.2.2.2.2.2.2.2.2.2.2.2)
abbrev u_text_bytes (w : WX) (x : List Int32) : WX := (w.1, w.2.1, w.2.2.1, w.2.2.2.1, w.2.2.2.2.1, w.2.2.2.2.2.1, w.2.2.2.2.2.2.1, w.2.2.2.2.2.2.2.1, w.2.2.2.2.2.2.2.2.1, w.2.2.2.2.2.2.2.2.2.1, w.2.2.2.2.2.2.2.2.2.2.1, w.2.2.2.2.2.2.2.2.2.2.2.1, w.2.2.2.2.2.2.2.2.2.2.2.2.1, (w.2.2.2.2.2.2.2.2.2.2.2.2.2.1.1, w.2.2.2.2.2.2.2.2.2.2.2.2.2.1.2.1, w.2.2.2.2.2.2.2.2.2.2.2.2.2.1.2.2.1, x, w.2.2.2.2.2.2.2.2.2.2.2.2.2.1.2.2.2.2), w.2.2.2.2.2.2.2.2.2.2.2.2.2.2)
abbrev u_text_numbers (w : WX) (x : List Int32) : WX := (w.1, w.2.1, w.2.2.1, w.2.2.2.1, w.2.2.2.2.1, w.2.2.2.2.2.1, w.2.2.2.2.2.2.1, w.2.2.2.2.2.2.2.1, w.2.2.2.2.2.2.2.2.1, w.2.2.2.2.2.2.2.2.2.1, w.2.2.2.2.2.2.2.2.2.2.1, w.2.2.2.2.2.2.2.2.2.2.2.1, w.2.2.2.2.2.2.2.2.2.2.2.2.1, (w.2.2.2.2.2.2.2.2.2.2.2.2.2.1.1, w.2.2.2.2.2.2.2.2.2.2.2.2.2.1.2.1, w.2.2.2.2.2.2.2.2.2.2.2.2.2.1.2.2.1, w.2.2.2.2.2.2.2.2.2.2.2.2.2.1.2.2.2.1, x, w.2.2.2.2.2.2.2.2.2.2.2.2.2.1.2.2.2.2.2), w.2.2.2.2.2.2.2.2.2.2.2.2.2.2)
abbrev u_text_at (w : WX) (x : Int32) : WX := (w.1, w.2.1, w.2.2.1, w.2.2.2.1, w.2.2.2.2.1, w.2.2.2.2.2.1, w.2.2.2.2.2.2.1, w.2.2.2.2.2.2.2.1, w.2.2.2.2.2.2.2.2.1, w.2.2.2.2.2.2.2.2.2.1, w.2.2.2.2.2.2.2.2.2.2.1, w.2.2.2.2.2.2.2.2.2.2.2.1, w.2.2.2.2.2.2.2.2.2.2.2.2.1, (w.2.2.2.2.2.2.2.2.2.2.2.2.2.1.1, w.2.2.2.2.2.2.2.2.2.2.2.2.2.1.2.1, w.2.2.2.2.2.2.2.2.2.2.2.2.2.1.2.2.1, w.2.2.2.2.2.2.2.2.2.2.2.2.2.1.2.2.2.1, w.2.2.2.2.2.2.2.2.2.2.2.2.2.1.2.2.2.2.1, x), w.2.2.2.2.2.2.2.2.2.2.2.2.2.2)
abbrev u_fall_weighs (w : WX) (x : Int32) : WX := (w.1, w.2.1, w.2.2.1, w.2.2.2.1, w.2.2.2.2.1, w.2.2.2.2.2.1, w.2.2.2.2.2.2.1, w.2.2.2.2.2.2.2.1, w.2.2.2.2.2.2.2.2.1, w.2.2.2.2.2.2.2.2.2.1, w.2.2.2.2.2.2.2.2.2.2.1, w.2.2.2.2.2.2.2.2.2.2.2.1, w.2.2.2.2.2.2.2.2.2.2.2.2.1, w.2.2.2.2.2.2.2.2.2.2.2.2.2.1, (x, w.2.2.2.2.2.2.2.2.2.2.2.2.2.2.1.2), w.2.2.2.2.2.2.2.2.2.2.2.2.2.2.2)
abbrev u_fall_room (w : WX) (x : Int32) : WX := (w.1, w.2.1, w.2.2.1, w.2.2.2.1, w.2.2.2.2.1, w.2.2.2.2.2.1, w.2.2.2.2.2.2.1, w.2.2.2.2.2.2.2.1, w.2.2.2.2.2.2.2.2.1, w.2.2.2.2.2.2.2.2.2.1, w.2.2.2.2.2.2.2.2.2.2.1, w.2.2.2.2.2.2.2.2.2.2.2.1, w.2.2.2.2.2.2.2.2.2.2.2.2.1, w.2.2.2.2.2.2.2.2.2.2.2.2.2.1, (w.2.2.2.2.2.2.2.2.2.2.2.2.2.2.1.1, x, w.2.2.2.2.2.2.2.2.2.2.2.2.2.2.1.2.2), w.2.2.2.2.2.2.2.2.2.2.2.2.2.2.2)
abbrev u_fall_force (w : WX) (x : Int32) : WX := (w.1, w.2.1, w.2.2.1, w.2.2.2.1, w.2.2.2.2.1, w.2.2.2.2.2.1, w.2.2.2.2.2.2.1, w.2.2.2.2.2.2.2.1, w.2.2.2.2.2.2.2.2.1, w.2.2.2.2.2.2.2.2.2.1, w.2.2.2.2.2.2.2.2.2.2.1, w.2.2.2.2.2.2.2.2.2.2.2.1, w.2.2.2.2.2.2.2.2.2.2.2.2.1, w.2.2.2.2.2.2.2.2.2.2.2.2.2.1, (w.2.2.2.2.2.2.2.2.2.2.2.2.2.2.1.1, w.2.2.2.2.2.2.2.2.2.2.2.2.2.2.1.2.1, x, w.2.2.2.2.2.2.2.2.2.2.2.2.2.2.1.2.2.2), w.2.2.2.2.2.2.2.2.2.2.2.2.2.2.2)
abbrev u_fall_layer (w : WX) (x : Int32) : WX := (w.1, w.2.1, w.2.2.1, w.2.2.2.1, w.2.2.2.2.1, w.2.2.2.2.2.1, w.2.2.2.2.2.2.1, w.2.2.2.2.2.2.2.1, w.2.2.2.2.2.2.2.2.1, w.2.2.2.2.2.2.2.2.2.1, w.2.2.2.2.2.2.2.2.2.2.1, w.2.2.2.2.2.2.2.2.2.2.2.1, w.2.2.2.2.2.2.2.2.2.2.2.2.1, w.2.2.2.2.2.2.2.2.2.2.2.2.2.1, (w.2.2.2.2.2.2.2.2.2.2.2.2.2.2.1.1, w.2.2.2.2.2.2.2.2.2.2.2.2.2.2.1.2.1, w.2.2.2.2.2.2.2.2.2.2.2.2.2.2.1.2.2.1, x, w.2.2.2.2.2.2.2.2.2.2.2.2.2.2.1.2.2.2.2), w.2.2.2.2.2.2.2.2.2.2.2.2.2.2.2)
abbrev u_fall_down (w : WX) (x : Int32) : WX := (w.1, w.2.1, w.2.2.1, w.2.2.2.1, w.2.2.2.2.1, w.2.2.2.2.2.1, w.2.2.2.2.2.2.1, w.2.2.2.2.2.2.2.1, w.2.2.2.2.2.2.2.2.1, w.2.2.2.2.2.2.2.2.2.1, w.2.2.2.2.2.2.2.2.2.2.1, w.2.2.2.2.2.2.2.2.2.2.2.1, w.2.2.2.2.2.2.2.2.2.2.2.2.1, w.2.2.2.2.2.2.2.2.2.2.2.2.2.1, (w.2.2.2.2.2.2.2.2.2.2.2.2.2.2.1.1, w.2.2.2.2.2.2.2.2.2.2.2.2.2.2.1.2.1, w.2.2.2.2.2.2.2.2.2.2.2.2.2.2.1.2.2.1, w.2.2.2.2.2.2.2.2.2.2.2.2.2.2.1.2.2.2.1, x, w.2.2.2.2.2.2.2.2.2.2.2.2.2.2.1.2.2.2.2.2), w.2.2.2.2.2.2.2.2.2.2.2.2.2.2.2)
abbrev u_fall_broken (w : WX) (x : Int32) : WX := (w.1, w.2.1, w.2.2.1, w.2.2.2.1, w.2.2.2.2.1, w.2.2.2.2.2.1, w.2.2.2.2.2.2.1, w.2.2.2.2.2.2.2.1, w.2.2.2.2.2.2.2.2.1, w.2.2.2.2.2.2.2.2.2.1, w.2.2.2.2.2.2.2.2.2.2.1, w.2.2.2.2.2.2.2.2.2.2.2.1, w.2.2.2.2.2.2.2.2.2.2.2.2.1, w.2.2.2.2.2.2.2.2.2.2.2.2.2.1, (w.2.2.2.2.2.2.2.2.2.2.2.2.2.2.1.1, w.2.2.2.2.2.2.2.2.2.2.2.2.2.2.1.2.1, w.2.2.2.2.2.2.2.2.2.2.2.2.2.2.1.2.2.1, w.2.2.2.2.2.2.2.2.2.2.2.2.2.2.1.2.2.2.1, w.2.2.2.2.2.2.2.2.2.2.2.2.2.2.1.2.2.2.2.1, x, w.2.2.2.2.2.2.2.2.2.2.2.2.2.2.1.2.2.2.2.2.2), w.2.2.2.2.2.2.2.2.2.2.2.2.2.2.2)
abbrev u_fall_stopper (w : WX) (x : Int32) : WX := (w.1, w.2.1, w.2.2.1, w.2.2.2.1, w.2.2.2.2.1, w.2.2.2.2.2.1, w.2.2.2.2.2.2.1, w.2.2.2.2.2.2.2.1, w.2.2.2.2.2.2.2.2.1, w.2.2.2.2.2.2.2.2.2.1, w.2.2.2.2.2.2.2.2.2.2.1, w.2.2.2.2.2.2.2.2.2.2.2.1, w.2.2.2.2.2.2.2.2.2.2.2.2.1, w.2.2.2.2.2.2.2.2.2.2.2.2.2.1, (w.2.2.2.2.2.2.2.2.2.2.2.2.2.2.1.1, w.2.2.2.2.2.2.2.2.2.2.2.2.2.2.1.2.1, w.2.2.2.2.2.2.2.2.2.2.2.2.2.2.1.2.2.1, w.2.2.2.2.2.2.2.2.2.2.2.2.2.2.1.2.2.2.1, w.2.2.2.2.2.2.2.2.2.2.2.2.2.2.1.2.2.2.2.1, w.2.2.2.2.2.2.2.2.2.2.2.2.2.2.1.2.2.2.2.2.1, x, w.2.2.2.2.2.2.2.2.2.2.2.2.2.2.1.2.2.2.2.2.2.2), w.2.2.2.2.2.2.2.2.2.2.2.2.2.2.2)
abbrev u_fall_passedThick (w : WX) (x : List Int32) : WX := (w.1, w.2.1, w.2.2.1, w.2.2.2.1, w.2.2.2.2.1, w.2.2.2.2.2.1, w.2.2.2.2.2.2.1, w.2.2.2.2.2.2.2.1, w.2.2.2.2.2.2.2.2.1, w.2.2.2.2.2.2.2.2.2.1, w.2.2.2.2.2.2.2.2.2.2.1, w.2.2.2.2.2.2.2.2.2.2.2.1, w.2.2.2.2.2.2.2.2.2.2.2.2.1, w.2.2.2.2.2.2.2.2.2.2.2.2.2.1, (w.2.2.2.2.2.2.2.2.2.2.2.2.2.2.1.1, w.2.2.2.2.2.2.2.2.2.2.2.2.2.2.1.2.1, w.2.2.2.2.2.2.2.2.2.2.2.2.2.2.1.2.2.1, w.2.2.2.2.2.2.2.2.2.2.2.2.2.2.1.2.2.2.1, w.2.2.2.2.2.2.2.2.2.2.2.2.2.2.1.2.2.2.2.1, w.2.2.2.2.2.2.2.2.2.2.2.2.2.2.1.2.2.2.2.2.1, w.2.2.2.2.2.2.2.2.2.2.2.2.2.2.1.2.2.2.2.2.2.1, x), w.2.2.2.2.2.2.2.2.2.2.2.2.2.2.2)
abbrev u_spread_amounts (w : WX) (x : List Int32) : WX := (w.1, w.2.1, w.2.2.1, w.2.2.2.1, w.2.2.2.2.1, w.2.2.2.2.2.1, w.2.2.2.2.2.2.1, w.2.2.2.2.2.2.2.1, w.2.2.2.2.2.2.2.2.1, w.2.2.2.2.2.2.2.2.2.1, w.2.2.2.2.2.2.2.2.2.2.1, w.2.2.2.2.2.2.2.2.2.2.2.1, w.2.2.2.2.2.2.2.2.2.2.2.2.1, w.2.2.2.2.2.2.2.2.2.2.2.2.2.1, w.2.2.2.2.2.2.2.2.2.2.2.2.2.2.1, (x, w.2.2.2.2.2.2.2.2.2.2.2.2.2.2.2.1.2), w.2.2.2.2.2.2.2.2.2.2.2.2.2.2.2.2)
abbrev u_spread_gifts (w : WX) (x : List Int32) : WX := (w.1, w.2.1, w.2.2.1, w.2.2.2.1, w.2.2.2.2.1, w.2.2.2.2.2.1, w.2.2.2.2.2.2.1, w.2.2.2.2.2.2.2.1, w.2.2.2.2.2.2.2.2.1, w.2.2.2.2.2.2.2.2.2.1, w.2.2.2.2.2.2.2.2.2.2.1, w.2.2.2.2.2.2.2.2.2.2.2.1, w.2.2.2.2.2.2.2.2.2.2.2.2.1, w.2.2.2.2.2.2.2.2.2.2.2.2.2.1, w.2.2.2.2.2.2.2.2.2.2.2.2.2.2.1, (w.2.2.2.2.2.2.2.2.2.2.2.2.2.2.2.1.1, x), w.2.2.2.2.2.2.2.2.2.2.2.2.2.2.2.2)
abbrev u_ways_reached (w : WX) (x : List Int32) : WX := (w.1, w.2.1, w.2.2.1, w.2.2.2.1, w.2.2.2.2.1, w.2.2.2.2.2.1, w.2.2.2.2.2.2.1, w.2.2.2.2.2.2.2.1, w.2.2.2.2.2.2.2.2.1, w.2.2.2.2.2.2.2.2.2.1, w.2.2.2.2.2.2.2.2.2.2.1, w.2.2.2.2.2.2.2.2.2.2.2.1, w.2.2.2.2.2.2.2.2.2.2.2.2.1, w.2.2.2.2.2.2.2.2.2.2.2.2.2.1, w.2.2.2.2.2.2.2.2.2.2.2.2.2.2.1, w.2.2.2.2.2.2.2.2.2.2.2.2.2.2.2.1, x)
abbrev WM : Type := (List Int32 × List Int32 × List Int32 × Int32 × List Int32 × Int64 × Int64 × Int32 × Int32 × Int32 × Int32 × List Int32 × Int32 × Int32 × Int32 × Int32 × Int32 × Int32 × Int32 × Int32 × Int32 × Int32 × Int32 × Int32 × List Int32 × List Int32 × List Int32 × Int64)
abbrev a_m_w (w : WM) : List Int32 := w.1
abbrev a_m_isKept (w : WM) : List Int32 := w.2.1
abbrev a_m_text (w : WM) : List Int32 := w.2.2.1
abbrev a_m_texted (w : WM) : Int32 := w.2.2.2.1
abbrev a_m_refused (w : WM) : List Int32 := w.2.2.2.2.1
abbrev a_m_above (w : WM) : Int64 := w.2.2.2.2.2.1
abbrev a_m_below (w : WM) : Int64 := w.2.2.2.2.2.2.1
abbrev a_m_at (w : WM) : Int32 := w.2.2.2.2.2.2.2.1
abbrev a_m_start (w : WM) : Int32 := w.2.2.2.2.2.2.2.2.1
abbrev a_m_isWord (w : WM) : Int32 := w.2.2.2.2.2.2.2.2.2.1
abbrev a_m_isFigures (w : WM) : Int32 := w.2.2.2.2.2.2.2.2.2.2.1
abbrev a_m_numbers (w : WM) : List Int32 := w.2.2.2.2.2.2.2.2.2.2.2.1
abbrev a_m_word (w : WM) : Int32 := w.2.2.2.2.2.2.2.2.2.2.2.2.1
abbrev a_m_kind (w : WM) : Int32 := w.2.2.2.2.2.2.2.2.2.2.2.2.2.1
abbrev a_m_weight (w : WM) : Int32 := w.2.2.2.2.2.2.2.2.2.2.2.2.2.2.1
abbrev a_m_volume (w : WM) : Int32 := w.2.2.2.2.2.2.2.2.2.2.2.2.2.2.2.1
abbrev a_m_load (w : WM) : Int32 := w.2.2.2.2.2.2.2.2.2.2.2.2.2.2.2.2.1
abbrev a_m_hour (w : WM) : Int32 := w.2.2.2.2.2.2.2.2.2.2.2.2.2.2.2.2.2.1
abbrev a_m_torn (w : WM) : Int32 := w.2.2.2.2.2.2.2.2.2.2.2.2.2.2.2.2.2.2.1
abbrev a_m_restsIn (w : WM) : Int32 := w.2.2.2.2.2.2.2.2.2.2.2.2.2.2.2.2.2.2.2.1
abbrev a_m_down (w : WM) : Int32 := w.2.2.2.2.2.2.2.2.2.2.2.2.2.2.2.2.2.2.2.2.1
abbrev a_m_broken (w : WM) : Int32 := w.2.2.2.2.2.2.2.2.2.2.2.2.2.2.2.2.2.2.2.2.2.1
abbrev a_m_passes (w : WM) : Int32 := w.2.2.2.2.2.2.2.2.2.2.2.2.2.2.2.2.2.2.2.2.2.2.1
abbrev a_m_stops (w : WM) : Int32 := w.2.2.2.2.2.2.2.2.2.2.2.2.2.2.2.2.2.2.2.2.2.2.2.1
abbrev a_m_far (w : WM) : List Int32 := w.2.2.2.2.2.2.2.2.2.2.2.2.2.2.2.2.2.2.2.2.2.2.2.2.1
abbrev a_m_there (w : WM) : List Int32 := w.2.2.2.2.2.2.2.2.2.2.2.2.2.2.2.2.2.2.2.2.2.2.2.2.2.1
abbrev a_m_gives (w : WM) : List Int32 := w.2.2.2.2.2.2.2.2.2.2.2.2.2.2.2.2.2.2.2.2.2.2.2.2.2.2.1
abbrev a_m_h (w : WM) : Int64 := w.2.2.2.2.2.2.2.2.2.2.2.2.2.2.2.2.2.2.2.2.2.2.2.2.2.2.2
abbrev u_m_w (w : WM) (x : List Int32) : WM := (x, w.2)
abbrev u_m_isKept (w : WM) (x : List Int32) : WM := (w.1, x, w.2.2)
abbrev u_m_text (w : WM) (x : List Int32) : WM := (w.1, w.2.1, x, w.2.2.2)
abbrev u_m_texted (w : WM) (x : Int32) : WM := (w.1, w.2.1, w.2.2.1, x, w.2.2.2.2)
abbrev u_m_refused (w : WM) (x : List Int32) : WM := (w.1, w.2.1, w.2.2.1, w.2.2.2.1, x, w.2.2.2.2.2)
abbrev u_m_above (w : WM) (x : Int64) : WM := (w.1, w.2.1, w.2.2.1, w.2.2.2.1, w.2.2.2.2.1, x, w.2.2.2.2.2.2)
abbrev u_m_below (w : WM) (x : Int64) : WM := (w.1, w.2.1, w.2.2.1, w.2.2.2.1, w.2.2.2.2.1, w.2.2.2.2.2.1, x, w.2.2.2.2.2.2.2)
abbrev u_m_at (w : WM) (x : Int32) : WM := (w.1, w.2.1, w.2.2.1, w.2.2.2.1, w.2.2.2.2.1, w.2.2.2.2.2.1, w.2.2.2.2.2.2.1, x, w.2.2.2.2.2.2.2.2)
abbrev u_m_start (w : WM) (x : Int32) : WM := (w.1, w.2.1, w.2.2.1, w.2.2.2.1, w.2.2.2.2.1, w.2.2.2.2.2.1, w.2.2.2.2.2.2.1, w.2.2.2.2.2.2.2.1, x, w.2.2.2.2.2.2.2.2.2)
abbrev u_m_isWord (w : WM) (x : Int32) : WM := (w.1, w.2.1, w.2.2.1, w.2.2.2.1, w.2.2.2.2.1, w.2.2.2.2.2.1, w.2.2.2.2.2.2.1, w.2.2.2.2.2.2.2.1, w.2.2.2.2.2.2.2.2.1, x, w.2.2.2.2.2.2.2.2.2.2)
abbrev u_m_isFigures (w : WM) (x : Int32) : WM := (w.1, w.2.1, w.2.2.1, w.2.2.2.1, w.2.2.2.2.1, w.2.2.2.2.2.1, w.2.2.2.2.2.2.1, w.2.2.2.2.2.2.2.1, w.2.2.2.2.2.2.2.2.1, w.2.2.2.2.2.2.2.2.2.1, x, w.2.2.2.2.2.2.2.2.2.2.2)
abbrev u_m_numbers (w : WM) (x : List Int32) : WM := (w.1, w.2.1, w.2.2.1, w.2.2.2.1, w.2.2.2.2.1, w.2.2.2.2.2.1, w.2.2.2.2.2.2.1, w.2.2.2.2.2.2.2.1, w.2.2.2.2.2.2.2.2.1, w.2.2.2.2.2.2.2.2.2.1, w.2.2.2.2.2.2.2.2.2.2.1, x, w.2.2.2.2.2.2.2.2.2.2.2.2)
abbrev u_m_word (w : WM) (x : Int32) : WM := (w.1, w.2.1, w.2.2.1, w.2.2.2.1, w.2.2.2.2.1, w.2.2.2.2.2.1, w.2.2.2.2.2.2.1, w.2.2.2.2.2.2.2.1, w.2.2.2.2.2.2.2.2.1, w.2.2.2.2.2.2.2.2.2.1, w.2.2.2.2.2.2.2.2.2.2.1, w.2.2.2.2.2.2.2.2.2.2.2.1, x, w.2.2.2.2.2.2.2.2.2.2.2.2.2)
abbrev u_m_kind (w : WM) (x : Int32) : WM := (w.1, w.2.1, w.2.2.1, w.2.2.2.1, w.2.2.2.2.1, w.2.2.2.2.2.1, w.2.2.2.2.2.2.1, w.2.2.2.2.2.2.2.1, w.2.2.2.2.2.2.2.2.1, w.2.2.2.2.2.2.2.2.2.1, w.2.2.2.2.2.2.2.2.2.2.1, w.2.2.2.2.2.2.2.2.2.2.2.1, w.2.2.2.2.2.2.2.2.2.2.2.2.1, x, w.2.2.2.2.2.2.2.2.2.2.2.2.2.2)
abbrev u_m_weight (w : WM) (x : Int32) : WM := (w.1, w.2.1, w.2.2.1, w.2.2.2.1, w.2.2.2.2.1, w.2.2.2.2.2.1, w.2.2.2.2.2.2.1, w.2.2.2.2.2.2.2.1, w.2.2.2.2.2.2.2.2.1, w.2.2.2.2.2.2.2.2.2.1, w.2.2.2.2.2.2.2.2.2.2.1, w.2.2.2.2.2.2.2.2.2.2.2.1, w.2.2.2.2.2.2.2.2.2.2.2.2.1, w.2.2.2.2.2.2.2.2.2.2.2.2.2.1, x, w.2.2.2.2.2.2.2.2.2.2.2.2.2.2.2)
abbrev u_m_volume (w : WM) (x : Int32) : WM := (w.1, w.2.1, w.2.2.1, w.2.2.2.1, w.2.2.2.2.1, w.2.2.2.2.2.1, w.2.2.2.2.2.2.1, w.2.2.2.2.2.2.2.1, w.2.2.2.2.2.2.2.2.1, w.2.2.2.2.2.2.2.2.2.1, w.2.2.2.2.2.2.2.2.2.2.1, w.2.2.2.2.2.2.2.2.2.2.2.1, w.2.2.2.2.2.2.2.2.2.2.2.2.1, w.2.2.2.2.2.2.2.2.2.2.2.2.2.1, w.2.2.2.2.2.2.2.2.2.2.2.2.2.2.1, x, w.2.2.2.2.2.2.2.2.2.2.2.2.2.2.2.2)
abbrev u_m_load (w : WM) (x : Int32) : WM := (w.1, w.2.1, w.2.2.1, w.2.2.2.1, w.2.2.2.2.1, w.2.2.2.2.2.1, w.2.2.2.2.2.2.1, w.2.2.2.2.2.2.2.1, w.2.2.2.2.2.2.2.2.1, w.2.2.2.2.2.2.2.2.2.1, w.2.2.2.2.2.2.2.2.2.2.1, w.2.2.2.2.2.2.2.2.2.2.2.1, w.2.2.2.2.2.2.2.2.2.2.2.2.1, w.2.2.2.2.2.2.2.2.2.2.2.2.2.1, w.2.2.2.2.2.2.2.2.2.2.2.2.2.2.1, w.2.2.2.2.2.2.2.2.2.2.2.2.2.2.2.1, x, w.2.2.2.2.2.2.2.2.2.2.2.2.2.2.2.2.2)
abbrev u_m_hour (w : WM) (x : Int32) : WM := (w.1, w.2.1, w.2.2.1, w.2.2.2.1, w.2.2.2.2.1, w.2.2.2.2.2.1, w.2.2.2.2.2.2.1, w.2.2.2.2.2.2.2.1, w.2.2.2.2.2.2.2.2.1, w.2.2.2.2.2.2.2.2.2.1, w.2.2.2.2.2.2.2.2.2.2.1, w.2.2.2.2.2.2.2.2.2.2.2.1, w.2.2.2.2.2.2.2.2.2.2.2.2.1, w.2.2.2.2.2.2.2.2.2.2.2.2.2.1, w.2.2.2.2.2.2.2.2.2.2.2.2.2.2.1, w.2.2.2.2.2.2.2.2.2.2.2.2.2.2.2.1, w.2.2.2.2.2.2.2.2.2.2.2.2.2.2.2.2.1, x, w.2.2.2.2.2.2.2.2.2.2.2.2.2.2.2.2.2.2)
abbrev u_m_torn (w : WM) (x : Int32) : WM := (w.1, w.2.1, w.2.2.1, w.2.2.2.1, w.2.2.2.2.1, w.2.2.2.2.2.1, w.2.2.2.2.2.2.1, w.2.2.2.2.2.2.2.1, w.2.2.2.2.2.2.2.2.1, w.2.2.2.2.2.2.2.2.2.1, w.2.2.2.2.2.2.2.2.2.2.1, w.2.2.2.2.2.2.2.2.2.2.2.1, w.2.2.2.2.2.2.2.2.2.2.2.2.1, w.2.2.2.2.2.2.2.2.2.2.2.2.2.1, w.2.2.2.2.2.2.2.2.2.2.2.2.2.2.1, w.2.2.2.2.2.2.2.2.2.2.2.2.2.2.2.1, w.2.2.2.2.2.2.2.2.2.2.2.2.2.2.2.2.1, w.2.2.2.2.2.2.2.2.2.2.2.2.2.2.2.2.2.1, x, w.2.2.2.2.2.2.2.2.2.2.2.2.2.2.2.2.2.2.2)
abbrev u_m_restsIn (w : WM) (x : Int32) : WM := (w.1, w.2.1, w.2.2.1, w.2.2.2.1, w.2.2.2.2.1, w.2.2.2.2.2.1, w.2.2.2.2.2.2.1, w.2.2.2.2.2.2.2.1, w.2.2.2.2.2.2.2.2.1, w.2.2.2.2.2.2.2.2.2.1, w.2.2.2.2.2.2.2.2.2.2.1, w.2.2.2.2.2.2.2.2.2.2.2.1, w.2.2.2.2.2.2.2.2.2.2.2.2.1, w.2.2.2.2.2.2.2.2.2.2.2.2.2.1, w.2.2.2.2.2.2.2.2.2.2.2.2.2.2.1, w.2.2.2.2.2.2.2.2.2.2.2.2.2.2.2.1, w.2.2.2.2.2.2.2.2.2.2.2.2.2.2.2.2.1, w.2.2.2.2.2.2.2.2.2.2.2.2.2.2.2.2.2.1, w.2.2.2.2.2.2.2.2.2.2.2.2.2.2.2.2.2.2.1, x, w.2.2.2.2.2.2.2.2.2.2.2.2.2.2.2.2.2.2.2.2)
abbrev u_m_down (w : WM) (x : Int32) : WM := (w.1, w.2.1, w.2.2.1, w.2.2.2.1, w.2.2.2.2.1, w.2.2.2.2.2.1, w.2.2.2.2.2.2.1, w.2.2.2.2.2.2.2.1, w.2.2.2.2.2.2.2.2.1, w.2.2.2.2.2.2.2.2.2.1, w.2.2.2.2.2.2.2.2.2.2.1, w.2.2.2.2.2.2.2.2.2.2.2.1, w.2.2.2.2.2.2.2.2.2.2.2.2.1, w.2.2.2.2.2.2.2.2.2.2.2.2.2.1, w.2.2.2.2.2.2.2.2.2.2.2.2.2.2.1, w.2.2.2.2.2.2.2.2.2.2.2.2.2.2.2.1, w.2.2.2.2.2.2.2.2.2.2.2.2.2.2.2.2.1, w.2.2.2.2.2.2.2.2.2.2.2.2.2.2.2.2.2.1, w.2.2.2.2.2.2.2.2.2.2.2.2.2.2.2.2.2.2.1, w.2.2.2.2.2.2.2.2.2.2.2.2.2.2.2.2.2.2.2.1, x, w.2.2.2.2.2.2.2.2.2.2.2.2.2.2.2.2.2.2.2.2.2)
abbrev u_m_broken (w : WM) (x : Int32) : WM := (w.1, w.2.1, w.2.2.1, w.2.2.2.1, w.2.2.2.2.1, w.2.2.2.2.2.1, w.2.2.2.2.2.2.1, w.2.2.2.2.2.2.2.1, w.2.2.2.2.2.2.2.2.1, w.2.2.2.2.2.2.2.2.2.1, w.2.2.2.2.2.2.2.2.2.2.1, w.2.2.2.2.2.2.2.2.2.2.2.1, w.2.2.2.2.2.2.2.2.2.2.2.2.1, w.2.2.2.2.2.2.2.2.2.2.2.2.2.1, w.2.2.2.2.2.2.2.2.2.2.2.2.2.2.1, w.2.2.2.2.2.2.2.2.2.2.2.2.2.2.2.1, w.2.2.2.2.2.2.2.2.2.2.2.2.2.2.2.2.1, w.2.2.2.2.2.2.2.2.2.2.2.2.2.2.2.2.2.1, w.2.2.2.2.2.2.2.2.2.2.2.2.2.2.2.2.2.2.1, w.2.2.2.2.2.2.2.2.2.2.2.2.2.2.2.2.2.2.2.1, w.2.2.2.2.2.2.2.2.2.2.2.2.2.2.2.2.2.2.2.2.1, x, w.2.2.2.2.2.2.2.2.2.2.2.2.2.2.2.2.2.2.2.2.2.2)
abbrev u_m_passes (w : WM) (x : Int32) : WM := (w.1, w.2.1, w.2.2.1, w.2.2.2.1, w.2.2.2.2.1, w.2.2.2.2.2.1, w.2.2.2.2.2.2.1, w.2.2.2.2.2.2.2.1, w.2.2.2.2.2.2.2.2.1, w.2.2.2.2.2.2.2.2.2.1, w.2.2.2.2.2.2.2.2.2.2.1, w.2.2.2.2.2.2.2.2.2.2.2.1, w.2.2.2.2.2.2.2.2.2.2.2.2.1, w.2.2.2.2.2.2.2.2.2.2.2.2.2.1, w.2.2.2.2.2.2.2.2.2.2.2.2.2.2.1, w.2.2.2.2.2.2.2.2.2.2.2.2.2.2.2.1, w.2.2.2.2.2.2.2.2.2.2.2.2.2.2.2.2.1, w.2.2.2.2.2.2.2.2.2.2.2.2.2.2.2.2.2.1, w.2.2.2.2.2.2.2.2.2.2.2.2.2.2.2.2.2.2.1, w.2.2.2.2.2.2.2.2.2.2.2.2.2.2.2.2.2.2.2.1, w.2.2.2.2.2.2.2.2.2.2.2.2.2.2.2.2.2.2.2.2.1, w.2.2.2.2.2.2.2.2.2.2.2.2.2.2.2.2.2.2.2.2.2.1, x, w.2.2.2.2.2.2.2.2.2.2.2.2.2.2.2.2.2.2.2.2.2.2.2)
abbrev u_m_stops (w : WM) (x : Int32) : WM := (w.1, w.2.1, w.2.2.1, w.2.2.2.1, w.2.2.2.2.1, w.2.2.2.2.2.1, w.2.2.2.2.2.2.1, w.2.2.2.2.2.2.2.1, w.2.2.2.2.2.2.2.2.1, w.2.2.2.2.2.2.2.2.2.1, w.2.2.2.2.2.2.2.2.2.2.1, w.2.2.2.2.2.2.2.2.2.2.2.1, w.2.2.2.2.2.2.2.2.2.2.2.2.1, w.2.2.2.2.2.2.2.2.2.2.2.2.2.1, w.2.2.2.2.2.2.2.2.2.2.2.2.2.2.1, w.2.2.2.2.2.2.2.2.2.2.2.2.2.2.2.1, w.2.2.2.2.2.2.2.2.2.2.2.2.2.2.2.2.1, w.2.2.2.2.2.2.2.2.2.2.2.2.2.2.2.2.2.1, w.2.2.2.2.2.2.2.2.2.2.2.2.2.2.2.2.2.2.1, w.2.2.2.2.2.2.2.2.2.2.2.2.2.2.2.2.2.2.2.1, w.2.2.2.2.2.2.2.2.2.2.2.2.2.2.2.2.2.2.2.2.1, w.2.2.2.2.2.2.2.2.2.2.2.2.2.2.2.2.2.2.2.2.2.1, w.2.2.2.2.2.2.2.2.2.2.2.2.2.2.2.2.2.2.2.2.2.2.1, x, w.2.2.2.2.2.2.2.2.2.2.2.2.2.2.2.2.2.2.2.2.2.2.2.2)
abbrev u_m_far (w : WM) (x : List Int32) : WM := (w.1, w.2.1, w.2.2.1, w.2.2.2.1, w.2.2.2.2.1, w.2.2.2.2.2.1, w.2.2.2.2.2.2.1, w.2.2.2.2.2.2.2.1, w.2.2.2.2.2.2.2.2.1, w.2.2.2.2.2.2.2.2.2.1, w.2.2.2.2.2.2.2.2.2.2.1, w.2.2.2.2.2.2.2.2.2.2.2.1, w.2.2.2.2.2.2.2.2.2.2.2.2.1, w.2.2.2.2.2.2.2.2.2.2.2.2.2.1, w.2.2.2.2.2.2.2.2.2.2.2.2.2.2.1, w.2.2.2.2.2.2.2.2.2.2.2.2.2.2.2.1, w.2.2.2.2.2.2.2.2.2.2.2.2.2.2.2.2.1, w.2.2.2.2.2.2.2.2.2.2.2.2.2.2.2.2.2.1, w.2.2.2.2.2.2.2.2.2.2.2.2.2.2.2.2.2.2.1, w.2.2.2.2.2.2.2.2.2.2.2.2.2.2.2.2.2.2.2.1, w.2.2.2.2.2.2.2.2.2.2.2.2.2.2.2.2.2.2.2.2.1, w.2.2.2.2.2.2.2.2.2.2.2.2.2.2.2.2.2.2.2.2.2.1, w.2.2.2.2.2.2.2.2.2.2.2.2.2.2.2.2.2.2.2.2.2.2.1, w.2.2.2.2.2.2.2.2.2.2.2.2.2.2.2.2.2.2.2.2.2.2.2.1, x, w.2.2.2.2.2.2.2.2.2.2.2.2.2.2.2.2.2.2.2.2.2.2.2.2.2)
abbrev u_m_there (w : WM) (x : List Int32) : WM := (w.1, w.2.1, w.2.2.1, w.2.2.2.1, w.2.2.2.2.1, w.2.2.2.2.2.1, w.2.2.2.2.2.2.1, w.2.2.2.2.2.2.2.1, w.2.2.2.2.2.2.2.2.1, w.2.2.2.2.2.2.2.2.2.1, w.2.2.2.2.2.2.2.2.2.2.1, w.2.2.2.2.2.2.2.2.2.2.2.1, w.2.2.2.2.2.2.2.2.2.2.2.2.1, w.2.2.2.2.2.2.2.2.2.2.2.2.2.1, w.2.2.2.2.2.2.2.2.2.2.2.2.2.2.1, w.2.2.2.2.2.2.2.2.2.2.2.2.2.2.2.1, w.2.2.2.2.2.2.2.2.2.2.2.2.2.2.2.2.1, w.2.2.2.2.2.2.2.2.2.2.2.2.2.2.2.2.2.1, w.2.2.2.2.2.2.2.2.2.2.2.2.2.2.2.2.2.2.1, w.2.2.2.2.2.2.2.2.2.2.2.2.2.2.2.2.2.2.2.1, w.2.2.2.2.2.2.2.2.2.2.2.2.2.2.2.2.2.2.2.2.1, w.2.2.2.2.2.2.2.2.2.2.2.2.2.2.2.2.2.2.2.2.2.1, w.2.2.2.2.2.2.2.2.2.2.2.2.2.2.2.2.2.2.2.2.2.2.1, w.2.2.2.2.2.2.2.2.2.2.2.2.2.2.2.2.2.2.2.2.2.2.2.1, w.2.2.2.2.2.2.2.2.2.2.2.2.2.2.2.2.2.2.2.2.2.2.2.2.1, x, w.2.2.2.2.2.2.2.2.2.2.2.2.2.2.2.2.2.2.2.2.2.2.2.2.2.2)
abbrev u_m_gives (w : WM) (x : List Int32) : WM := (w.1, w.2.1, w.2.2.1, w.2.2.2.1, w.2.2.2.2.1, w.2.2.2.2.2.1, w.2.2.2.2.2.2.1, w.2.2.2.2.2.2.2.1, w.2.2.2.2.2.2.2.2.1, w.2.2.2.2.2.2.2.2.2.1, w.2.2.2.2.2.2.2.2.2.2.1, w.2.2.2.2.2.2.2.2.2.2.2.1, w.2.2.2.2.2.2.2.2.2.2.2.2.1, w.2.2.2.2.2.2.2.2.2.2.2.2.2.1, w.2.2.2.2.2.2.2.2.2.2.2.2.2.2.1, w.2.2.2.2.2.2.2.2.2.2.2.2.2.2.2.1, w.2.2.2.2.2.2.2.2.2.2.2.2.2.2.2.2.1, w.2.2.2.2.2.2.2.2.2.2.2.2.2.2.2.2.2.1, w.2.2.2.2.2.2.2.2.2.2.2.2.2.2.2.2.2.2.1, w.2.2.2.2.2.2.2.2.2.2.2.2.2.2.2.2.2.2.2.1, w.2.2.2.2.2.2.2.2.2.2.2.2.2.2.2.2.2.2.2.2.1, w.2.2.2.2.2.2.2.2.2.2.2.2.2.2.2.2.2.2.2.2.2.1, w.2.2.2.2.2.2.2.2.2.2.2.2.2.2.2.2.2.2.2.2.2.2.1, w.2.2.2.2.2.2.2.2.2.2.2.2.2.2.2.2.2.2.2.2.2.2.2.1, w.2.2.2.2.2.2.2.2.2.2.2.2.2.2.2.2.2.2.2.2.2.2.2.2.1, w.2.2.2.2.2.2.2.2.2.2.2.2.2.2.2.2.2.2.2.2.2.2.2.2.2.1, x, w.2.2.2.2.2.2.2.2.2.2.2.2.2.2.2.2.2.2.2.2.2.2.2.2.2.2.2)
abbrev u_m_h (w : WM) (x : Int64) : WM := (w.1, w.2.1, w.2.2.1, w.2.2.2.1, w.2.2.2.2.1, w.2.2.2.2.2.1, w.2.2.2.2.2.2.1, w.2.2.2.2.2.2.2.1, w.2.2.2.2.2.2.2.2.1, w.2.2.2.2.2.2.2.2.2.1, w.2.2.2.2.2.2.2.2.2.2.1, w.2.2.2.2.2.2.2.2.2.2.2.1, w.2.2.2.2.2.2.2.2.2.2.2.2.1, w.2.2.2.2.2.2.2.2.2.2.2.2.2.1, w.2.2.2.2.2.2.2.2.2.2.2.2.2.2.1, w.2.2.2.2.2.2.2.2.2.2.2.2.2.2.2.1, w.2.2.2.2.2.2.2.2.2.2.2.2.2.2.2.2.1, w.2.2.2.2.2.2.2.2.2.2.2.2.2.2.2.2.2.1, w.2.2.2.2.2.2.2.2.2.2.2.2.2.2.2.2.2.2.1, w.2.2.2.2.2.2.2.2.2.2.2.2.2.2.2.2.2.2.2.1, w.2.2.2.2.2.2.2.2.2.2.2.2.2.2.2.2.2.2.2.2.1, w.2.2.2.2.2.2.2.2.2.2.2.2.2.2.2.2.2.2.2.2.2.1, w.2.2.2.2.2.2.2.2.2.2.2.2.2.2.2.2.2.2.2.2.2.2.1, w.2.2.2.2.2.2.2.2.2.2.2.2.2.2.2.2.2.2.2.2.2.2.2.1, w.2.2.2.2.2.2.2.2.2.2.2.2.2.2.2.2.2.2.2.2.2.2.2.2.1, w.2.2.2.2.2.2.2.2.2.2.2.2.2.2.2.2.2.2.2.2.2.2.2.2.2.1, w.2.2.2.2.2.2.2.2.2.2.2.2.2.2.2.2.2.2.2.2.2.2.2.2.2.2.1, x)
def HX (w : WX) (T : ai_H) : ai_H := .inr (7, [.ref 1, .ref 20, .ref 39, .ref 58, .ref 77, .ref 78, .ref 81, .ref 83, .ref 86, .ref 88, .long (a_f_above w), .long (a_f_below w), .int (a_f_refusedBad w), .int (a_f_refusedNo w), .int (a_f_refusedFull w)]) :: .inr (2, [.int (a_s1_cells w), .int (a_s1_hour w), .int (a_s1_dams w), .ref 2, .ref 3, .ref 4, .ref 5, .ref 6, .ref 7, .ref 12, .int (a_s1_towns w), .ref 16, .int (a_s1_drops w), .ref 17, .ref 18, .int (a_s1_undos w), .ref 19]) :: .inl (false, a_s1_densities w) :: .inl (false, a_s1_currents w) :: .inl (false, a_s1_tides w) :: .inl (false, a_s1_thicks w) :: .inl (false, a_s1_skins w) :: .inr (5, [.int (a_s1things_count w), .ref 8, .ref 9, .ref 10, .ref 11]) :: .inl (false, a_s1things_kinds w) :: .inl (false, a_s1things_weights w) :: .inl (false, a_s1things_volumes w) :: .inl (false, a_s1things_ballasts w) :: .inr (1, [.int (a_s1lifts_count w), .ref 13, .ref 14, .ref 15]) :: .inl (false, a_s1lifts_froms w) :: .inl (false, a_s1lifts_tos w) :: .inl (false, a_s1lifts_times w) :: .inl (false, a_s1_townPlaces w) :: .inl (false, a_s1_dropLayers w) :: .inl (false, a_s1_dropFloats w) :: .inl (false, a_s1_hoursBefore w) :: .inr (2, [.int (a_s2_cells w), .int (a_s2_hour w), .int (a_s2_dams w), .ref 21, .ref 22, .ref 23, .ref 24, .ref 25, .ref 26, .ref 31, .int (a_s2_towns w), .ref 35, .int (a_s2_drops w), .ref 36, .ref 37, .int (a_s2_undos w), .ref 38]) :: .inl (false, a_s2_densities w) :: .inl (false, a_s2_currents w) :: .inl (false, a_s2_tides w) :: .inl (false, a_s2_thicks w) :: .inl (false, a_s2_skins w) :: .inr (5, [.int (a_s2things_count w), .ref 27, .ref 28, .ref 29, .ref 30]) :: .inl (false, a_s2things_kinds w) :: .inl (false, a_s2things_weights w) :: .inl (false, a_s2things_volumes w) :: .inl (false, a_s2things_ballasts w) :: .inr (1, [.int (a_s2lifts_count w), .ref 32, .ref 33, .ref 34]) :: .inl (false, a_s2lifts_froms w) :: .inl (false, a_s2lifts_tos w) :: .inl (false, a_s2lifts_times w) :: .inl (false, a_s2_townPlaces w) :: .inl (false, a_s2_dropLayers w) :: .inl (false, a_s2_dropFloats w) :: .inl (false, a_s2_hoursBefore w) :: .inr (2, [.int (a_s3_cells w), .int (a_s3_hour w), .int (a_s3_dams w), .ref 40, .ref 41, .ref 42, .ref 43, .ref 44, .ref 45, .ref 50, .int (a_s3_towns w), .ref 54, .int (a_s3_drops w), .ref 55, .ref 56, .int (a_s3_undos w), .ref 57]) :: .inl (false, a_s3_densities w) :: .inl (false, a_s3_currents w) :: .inl (false, a_s3_tides w) :: .inl (false, a_s3_thicks w) :: .inl (false, a_s3_skins w) :: .inr (5, [.int (a_s3things_count w), .ref 46, .ref 47, .ref 48, .ref 49]) :: .inl (false, a_s3things_kinds w) :: .inl (false, a_s3things_weights w) :: .inl (false, a_s3things_volumes w) :: .inl (false, a_s3things_ballasts w) :: .inr (1, [.int (a_s3lifts_count w), .ref 51, .ref 52, .ref 53]) :: .inl (false, a_s3lifts_froms w) :: .inl (false, a_s3lifts_tos w) :: .inl (false, a_s3lifts_times w) :: .inl (false, a_s3_townPlaces w) :: .inl (false, a_s3_dropLayers w) :: .inl (false, a_s3_dropFloats w) :: .inl (false, a_s3_hoursBefore w) :: .inr (2, [.int (a_s4_cells w), .int (a_s4_hour w), .int (a_s4_dams w), .ref 59, .ref 60, .ref 61, .ref 62, .ref 63, .ref 64, .ref 69, .int (a_s4_towns w), .ref 73, .int (a_s4_drops w), .ref 74, .ref 75, .int (a_s4_undos w), .ref 76]) :: .inl (false, a_s4_densities w) :: .inl (false, a_s4_currents w) :: .inl (false, a_s4_tides w) :: .inl (false, a_s4_thicks w) :: .inl (false, a_s4_skins w) :: .inr (5, [.int (a_s4things_count w), .ref 65, .ref 66, .ref 67, .ref 68]) :: .inl (false, a_s4things_kinds w) :: .inl (false, a_s4things_weights w) :: .inl (false, a_s4things_volumes w) :: .inl (false, a_s4things_ballasts w) :: .inr (1, [.int (a_s4lifts_count w), .ref 70, .ref 71, .ref 72]) :: .inl (false, a_s4lifts_froms w) :: .inl (false, a_s4lifts_tos w) :: .inl (false, a_s4lifts_times w) :: .inl (false, a_s4_townPlaces w) :: .inl (false, a_s4_dropLayers w) :: .inl (false, a_s4_dropFloats w) :: .inl (false, a_s4_hoursBefore w) :: .inl (true, a_f_imageKept w) :: .inr (4, [.int (a_text_length w), .int (a_text_items w), .int (a_text_refusedItem w), .ref 79, .ref 80, .int (a_text_at w)]) :: .inl (false, a_text_bytes w) :: .inl (false, a_text_numbers w) :: .inr (0, [.int (a_fall_weighs w), .int (a_fall_room w), .int (a_fall_force w), .int (a_fall_layer w), .int (a_fall_down w), .int (a_fall_broken w), .int (a_fall_stopper w), .ref 82]) :: .inl (false, a_fall_passedThick w) :: .inr (3, [.ref 84, .ref 85]) :: .inl (false, a_spread_amounts w) :: .inl (false, a_spread_gifts w) :: .inr (6, [.ref 87]) :: .inl (false, a_ways_reached w) :: .inl (false, a_f_downs w) :: T
def HM (P : Nat → ai_E) (w : WM) (T : ai_H) : ai_H := P 0 :: P 1 :: P 2 :: P 3 :: P 4 :: P 5 :: P 6 :: P 7 :: P 8 :: P 9 :: P 10 :: P 11 :: P 12 :: P 13 :: P 14 :: P 15 :: P 16 :: P 17 :: P 18 :: P 19 :: P 20 :: P 21 :: P 22 :: P 23 :: P 24 :: P 25 :: P 26 :: P 27 :: P 28 :: P 29 :: P 30 :: P 31 :: P 32 :: P 33 :: P 34 :: P 35 :: P 36 :: P 37 :: P 38 :: P 39 :: P 40 :: P 41 :: P 42 :: P 43 :: P 44 :: P 45 :: P 46 :: P 47 :: P 48 :: P 49 :: P 50 :: P 51 :: P 52 :: P 53 :: P 54 :: P 55 :: P 56 :: P 57 :: P 58 :: P 59 :: P 60 :: P 61 :: P 62 :: P 63 :: P 64 :: P 65 :: P 66 :: P 67 :: P 68 :: P 69 :: P 70 :: P 71 :: P 72 :: P 73 :: P 74 :: P 75 :: P 76 :: P 77 :: P 78 :: P 79 :: P 80 :: P 81 :: P 82 :: P 83 :: P 84 :: P 85 :: P 86 :: P 87 :: P 88 :: .inr (8, [.ref 90, .ref 91, .ref 92, .int (a_m_texted w), .ref 93, .long (a_m_above w), .long (a_m_below w), .int (a_m_at w), .int (a_m_start w), .int (a_m_isWord w), .int (a_m_isFigures w), .ref 94, .int (a_m_word w), .int (a_m_kind w), .int (a_m_weight w), .int (a_m_volume w), .int (a_m_load w), .int (a_m_hour w), .int (a_m_torn w), .int (a_m_restsIn w), .int (a_m_down w), .int (a_m_broken w), .int (a_m_passes w), .int (a_m_stops w), .ref 95, .ref 96, .ref 97, .long (a_m_h w)]) :: .inl (false, a_m_w w) :: .inl (true, a_m_isKept w) :: .inl (false, a_m_text w) :: .inl (false, a_m_refused w) :: .inl (false, a_m_numbers w) :: .inl (false, a_m_far w) :: .inl (false, a_m_there w) :: .inl (false, a_m_gives w) :: T
theorem HXs_77 (w : WX) (T : ai_H) (q : List Int32) : (HX w T).set 77 (.inl (true, q)) = HX (u_f_imageKept w q) T := rfl
theorem HXs_88 (w : WX) (T : ai_H) (q : List Int32) : (HX w T).set 88 (.inl (false, q)) = HX (u_f_downs w q) T := rfl
theorem HXs_2 (w : WX) (T : ai_H) (q : List Int32) : (HX w T).set 2 (.inl (false, q)) = HX (u_s1_densities w q) T := rfl
theorem HXs_3 (w : WX) (T : ai_H) (q : List Int32) : (HX w T).set 3 (.inl (false, q)) = HX (u_s1_currents w q) T := rfl
theorem HXs_4 (w : WX) (T : ai_H) (q : List Int32) : (HX w T).set 4 (.inl (false, q)) = HX (u_s1_tides w q) T := rfl
theorem HXs_5 (w : WX) (T : ai_H) (q : List Int32) : (HX w T).set 5 (.inl (false, q)) = HX (u_s1_thicks w q) T := rfl
theorem HXs_6 (w : WX) (T : ai_H) (q : List Int32) : (HX w T).set 6 (.inl (false, q)) = HX (u_s1_skins w q) T := rfl
theorem HXs_16 (w : WX) (T : ai_H) (q : List Int32) : (HX w T).set 16 (.inl (false, q)) = HX (u_s1_townPlaces w q) T := rfl
theorem HXs_17 (w : WX) (T : ai_H) (q : List Int32) : (HX w T).set 17 (.inl (false, q)) = HX (u_s1_dropLayers w q) T := rfl
theorem HXs_18 (w : WX) (T : ai_H) (q : List Int32) : (HX w T).set 18 (.inl (false, q)) = HX (u_s1_dropFloats w q) T := rfl
theorem HXs_19 (w : WX) (T : ai_H) (q : List Int32) : (HX w T).set 19 (.inl (false, q)) = HX (u_s1_hoursBefore w q) T := rfl
theorem HXs_8 (w : WX) (T : ai_H) (q : List Int32) : (HX w T).set 8 (.inl (false, q)) = HX (u_s1things_kinds w q) T := rfl
theorem HXs_9 (w : WX) (T : ai_H) (q : List Int32) : (HX w T).set 9 (.inl (false, q)) = HX (u_s1things_weights w q) T := rfl
theorem HXs_10 (w : WX) (T : ai_H) (q : List Int32) : (HX w T).set 10 (.inl (false, q)) = HX (u_s1things_volumes w q) T := rfl
theorem HXs_11 (w : WX) (T : ai_H) (q : List Int32) : (HX w T).set 11 (.inl (false, q)) = HX (u_s1things_ballasts w q) T := rfl
theorem HXs_13 (w : WX) (T : ai_H) (q : List Int32) : (HX w T).set 13 (.inl (false, q)) = HX (u_s1lifts_froms w q) T := rfl
theorem HXs_14 (w : WX) (T : ai_H) (q : List Int32) : (HX w T).set 14 (.inl (false, q)) = HX (u_s1lifts_tos w q) T := rfl
theorem HXs_15 (w : WX) (T : ai_H) (q : List Int32) : (HX w T).set 15 (.inl (false, q)) = HX (u_s1lifts_times w q) T := rfl
theorem HXs_21 (w : WX) (T : ai_H) (q : List Int32) : (HX w T).set 21 (.inl (false, q)) = HX (u_s2_densities w q) T := rfl
theorem HXs_22 (w : WX) (T : ai_H) (q : List Int32) : (HX w T).set 22 (.inl (false, q)) = HX (u_s2_currents w q) T := rfl
theorem HXs_23 (w : WX) (T : ai_H) (q : List Int32) : (HX w T).set 23 (.inl (false, q)) = HX (u_s2_tides w q) T := rfl
theorem HXs_24 (w : WX) (T : ai_H) (q : List Int32) : (HX w T).set 24 (.inl (false, q)) = HX (u_s2_thicks w q) T := rfl
theorem HXs_25 (w : WX) (T : ai_H) (q : List Int32) : (HX w T).set 25 (.inl (false, q)) = HX (u_s2_skins w q) T := rfl
theorem HXs_35 (w : WX) (T : ai_H) (q : List Int32) : (HX w T).set 35 (.inl (false, q)) = HX (u_s2_townPlaces w q) T := rfl
theorem HXs_36 (w : WX) (T : ai_H) (q : List Int32) : (HX w T).set 36 (.inl (false, q)) = HX (u_s2_dropLayers w q) T := rfl
theorem HXs_37 (w : WX) (T : ai_H) (q : List Int32) : (HX w T).set 37 (.inl (false, q)) = HX (u_s2_dropFloats w q) T := rfl
theorem HXs_38 (w : WX) (T : ai_H) (q : List Int32) : (HX w T).set 38 (.inl (false, q)) = HX (u_s2_hoursBefore w q) T := rfl
theorem HXs_27 (w : WX) (T : ai_H) (q : List Int32) : (HX w T).set 27 (.inl (false, q)) = HX (u_s2things_kinds w q) T := rfl
theorem HXs_28 (w : WX) (T : ai_H) (q : List Int32) : (HX w T).set 28 (.inl (false, q)) = HX (u_s2things_weights w q) T := rfl
theorem HXs_29 (w : WX) (T : ai_H) (q : List Int32) : (HX w T).set 29 (.inl (false, q)) = HX (u_s2things_volumes w q) T := rfl
theorem HXs_30 (w : WX) (T : ai_H) (q : List Int32) : (HX w T).set 30 (.inl (false, q)) = HX (u_s2things_ballasts w q) T := rfl
theorem HXs_32 (w : WX) (T : ai_H) (q : List Int32) : (HX w T).set 32 (.inl (false, q)) = HX (u_s2lifts_froms w q) T := rfl
theorem HXs_33 (w : WX) (T : ai_H) (q : List Int32) : (HX w T).set 33 (.inl (false, q)) = HX (u_s2lifts_tos w q) T := rfl
theorem HXs_34 (w : WX) (T : ai_H) (q : List Int32) : (HX w T).set 34 (.inl (false, q)) = HX (u_s2lifts_times w q) T := rfl
theorem HXs_40 (w : WX) (T : ai_H) (q : List Int32) : (HX w T).set 40 (.inl (false, q)) = HX (u_s3_densities w q) T := rfl
theorem HXs_41 (w : WX) (T : ai_H) (q : List Int32) : (HX w T).set 41 (.inl (false, q)) = HX (u_s3_currents w q) T := rfl
theorem HXs_42 (w : WX) (T : ai_H) (q : List Int32) : (HX w T).set 42 (.inl (false, q)) = HX (u_s3_tides w q) T := rfl
theorem HXs_43 (w : WX) (T : ai_H) (q : List Int32) : (HX w T).set 43 (.inl (false, q)) = HX (u_s3_thicks w q) T := rfl
theorem HXs_44 (w : WX) (T : ai_H) (q : List Int32) : (HX w T).set 44 (.inl (false, q)) = HX (u_s3_skins w q) T := rfl
theorem HXs_54 (w : WX) (T : ai_H) (q : List Int32) : (HX w T).set 54 (.inl (false, q)) = HX (u_s3_townPlaces w q) T := rfl
theorem HXs_55 (w : WX) (T : ai_H) (q : List Int32) : (HX w T).set 55 (.inl (false, q)) = HX (u_s3_dropLayers w q) T := rfl
theorem HXs_56 (w : WX) (T : ai_H) (q : List Int32) : (HX w T).set 56 (.inl (false, q)) = HX (u_s3_dropFloats w q) T := rfl
theorem HXs_57 (w : WX) (T : ai_H) (q : List Int32) : (HX w T).set 57 (.inl (false, q)) = HX (u_s3_hoursBefore w q) T := rfl
theorem HXs_46 (w : WX) (T : ai_H) (q : List Int32) : (HX w T).set 46 (.inl (false, q)) = HX (u_s3things_kinds w q) T := rfl
theorem HXs_47 (w : WX) (T : ai_H) (q : List Int32) : (HX w T).set 47 (.inl (false, q)) = HX (u_s3things_weights w q) T := rfl
theorem HXs_48 (w : WX) (T : ai_H) (q : List Int32) : (HX w T).set 48 (.inl (false, q)) = HX (u_s3things_volumes w q) T := rfl
theorem HXs_49 (w : WX) (T : ai_H) (q : List Int32) : (HX w T).set 49 (.inl (false, q)) = HX (u_s3things_ballasts w q) T := rfl
theorem HXs_51 (w : WX) (T : ai_H) (q : List Int32) : (HX w T).set 51 (.inl (false, q)) = HX (u_s3lifts_froms w q) T := rfl
theorem HXs_52 (w : WX) (T : ai_H) (q : List Int32) : (HX w T).set 52 (.inl (false, q)) = HX (u_s3lifts_tos w q) T := rfl
theorem HXs_53 (w : WX) (T : ai_H) (q : List Int32) : (HX w T).set 53 (.inl (false, q)) = HX (u_s3lifts_times w q) T := rfl
theorem HXs_59 (w : WX) (T : ai_H) (q : List Int32) : (HX w T).set 59 (.inl (false, q)) = HX (u_s4_densities w q) T := rfl
theorem HXs_60 (w : WX) (T : ai_H) (q : List Int32) : (HX w T).set 60 (.inl (false, q)) = HX (u_s4_currents w q) T := rfl
theorem HXs_61 (w : WX) (T : ai_H) (q : List Int32) : (HX w T).set 61 (.inl (false, q)) = HX (u_s4_tides w q) T := rfl
theorem HXs_62 (w : WX) (T : ai_H) (q : List Int32) : (HX w T).set 62 (.inl (false, q)) = HX (u_s4_thicks w q) T := rfl
theorem HXs_63 (w : WX) (T : ai_H) (q : List Int32) : (HX w T).set 63 (.inl (false, q)) = HX (u_s4_skins w q) T := rfl
theorem HXs_73 (w : WX) (T : ai_H) (q : List Int32) : (HX w T).set 73 (.inl (false, q)) = HX (u_s4_townPlaces w q) T := rfl
theorem HXs_74 (w : WX) (T : ai_H) (q : List Int32) : (HX w T).set 74 (.inl (false, q)) = HX (u_s4_dropLayers w q) T := rfl
theorem HXs_75 (w : WX) (T : ai_H) (q : List Int32) : (HX w T).set 75 (.inl (false, q)) = HX (u_s4_dropFloats w q) T := rfl
theorem HXs_76 (w : WX) (T : ai_H) (q : List Int32) : (HX w T).set 76 (.inl (false, q)) = HX (u_s4_hoursBefore w q) T := rfl
theorem HXs_65 (w : WX) (T : ai_H) (q : List Int32) : (HX w T).set 65 (.inl (false, q)) = HX (u_s4things_kinds w q) T := rfl
theorem HXs_66 (w : WX) (T : ai_H) (q : List Int32) : (HX w T).set 66 (.inl (false, q)) = HX (u_s4things_weights w q) T := rfl
theorem HXs_67 (w : WX) (T : ai_H) (q : List Int32) : (HX w T).set 67 (.inl (false, q)) = HX (u_s4things_volumes w q) T := rfl
theorem HXs_68 (w : WX) (T : ai_H) (q : List Int32) : (HX w T).set 68 (.inl (false, q)) = HX (u_s4things_ballasts w q) T := rfl
theorem HXs_70 (w : WX) (T : ai_H) (q : List Int32) : (HX w T).set 70 (.inl (false, q)) = HX (u_s4lifts_froms w q) T := rfl
theorem HXs_71 (w : WX) (T : ai_H) (q : List Int32) : (HX w T).set 71 (.inl (false, q)) = HX (u_s4lifts_tos w q) T := rfl
theorem HXs_72 (w : WX) (T : ai_H) (q : List Int32) : (HX w T).set 72 (.inl (false, q)) = HX (u_s4lifts_times w q) T := rfl
theorem HXs_79 (w : WX) (T : ai_H) (q : List Int32) : (HX w T).set 79 (.inl (false, q)) = HX (u_text_bytes w q) T := rfl
theorem HXs_80 (w : WX) (T : ai_H) (q : List Int32) : (HX w T).set 80 (.inl (false, q)) = HX (u_text_numbers w q) T := rfl
theorem HXs_82 (w : WX) (T : ai_H) (q : List Int32) : (HX w T).set 82 (.inl (false, q)) = HX (u_fall_passedThick w q) T := rfl
theorem HXs_84 (w : WX) (T : ai_H) (q : List Int32) : (HX w T).set 84 (.inl (false, q)) = HX (u_spread_amounts w q) T := rfl
theorem HXs_85 (w : WX) (T : ai_H) (q : List Int32) : (HX w T).set 85 (.inl (false, q)) = HX (u_spread_gifts w q) T := rfl
theorem HXs_87 (w : WX) (T : ai_H) (q : List Int32) : (HX w T).set 87 (.inl (false, q)) = HX (u_ways_reached w q) T := rfl
theorem HMs_90 (P : Nat → ai_E) (w : WM) (T : ai_H) (q : List Int32) : (HM P w T).set 90 (.inl (false, q)) = HM P (u_m_w w q) T := rfl
theorem HMs_91 (P : Nat → ai_E) (w : WM) (T : ai_H) (q : List Int32) : (HM P w T).set 91 (.inl (true, q)) = HM P (u_m_isKept w q) T := rfl
theorem HMs_92 (P : Nat → ai_E) (w : WM) (T : ai_H) (q : List Int32) : (HM P w T).set 92 (.inl (false, q)) = HM P (u_m_text w q) T := rfl
theorem HMs_93 (P : Nat → ai_E) (w : WM) (T : ai_H) (q : List Int32) : (HM P w T).set 93 (.inl (false, q)) = HM P (u_m_refused w q) T := rfl
theorem HMs_94 (P : Nat → ai_E) (w : WM) (T : ai_H) (q : List Int32) : (HM P w T).set 94 (.inl (false, q)) = HM P (u_m_numbers w q) T := rfl
theorem HMs_95 (P : Nat → ai_E) (w : WM) (T : ai_H) (q : List Int32) : (HM P w T).set 95 (.inl (false, q)) = HM P (u_m_far w q) T := rfl
theorem HMs_96 (P : Nat → ai_E) (w : WM) (T : ai_H) (q : List Int32) : (HM P w T).set 96 (.inl (false, q)) = HM P (u_m_there w q) T := rfl
theorem HMs_97 (P : Nat → ai_E) (w : WM) (T : ai_H) (q : List Int32) : (HM P w T).set 97 (.inl (false, q)) = HM P (u_m_gives w q) T := rfl
theorem PFM_8_23_89 {M : ai_M} (hM : ai_cl M = 8) {X : List (List Int32)} {pc : Nat} {L : ai_L} {r : List Value} {P : Nat → ai_E} {w : WM} {T : ai_H} {x : Int64} {cs sl : Nat} : ai_step X M (.putfield 23) pc L (.long x :: .ref 89 :: r) (HM P w T) cs sl = some (pc + 3, L, r, HM P (u_m_below w x) T, cs, sl) := by
  simp only [ai_step, hM]
  rfl
theorem PFM_8_124_89 {M : ai_M} (hM : ai_cl M = 8) {X : List (List Int32)} {pc : Nat} {L : ai_L} {r : List Value} {P : Nat → ai_E} {w : WM} {T : ai_H} {x : Int32} {cs sl : Nat} : ai_step X M (.putfield 124) pc L (.int x :: .ref 89 :: r) (HM P w T) cs sl = some (pc + 3, L, r, HM P (u_m_texted w x) T, cs, sl) := by
  simp only [ai_step, hM]
  rfl
theorem PFM_8_128_89 {M : ai_M} (hM : ai_cl M = 8) {X : List (List Int32)} {pc : Nat} {L : ai_L} {r : List Value} {P : Nat → ai_E} {w : WM} {T : ai_H} {x : Int32} {cs sl : Nat} : ai_step X M (.putfield 128) pc L (.int x :: .ref 89 :: r) (HM P w T) cs sl = some (pc + 3, L, r, HM P (u_m_at w x) T, cs, sl) := by
  simp only [ai_step, hM]
  rfl
theorem PFM_8_134_89 {M : ai_M} (hM : ai_cl M = 8) {X : List (List Int32)} {pc : Nat} {L : ai_L} {r : List Value} {P : Nat → ai_E} {w : WM} {T : ai_H} {x : Int32} {cs sl : Nat} : ai_step X M (.putfield 134) pc L (.int x :: .ref 89 :: r) (HM P w T) cs sl = some (pc + 3, L, r, HM P (u_m_start w x) T, cs, sl) := by
  simp only [ai_step, hM]
  rfl
theorem PFM_8_159_89 {M : ai_M} (hM : ai_cl M = 8) {X : List (List Int32)} {pc : Nat} {L : ai_L} {r : List Value} {P : Nat → ai_E} {w : WM} {T : ai_H} {x : Int32} {cs sl : Nat} : ai_step X M (.putfield 159) pc L (.int x :: .ref 89 :: r) (HM P w T) cs sl = some (pc + 3, L, r, HM P (u_m_word w x) T, cs, sl) := by
  simp only [ai_step, hM]
  rfl
theorem PFM_8_177_89 {M : ai_M} (hM : ai_cl M = 8) {X : List (List Int32)} {pc : Nat} {L : ai_L} {r : List Value} {P : Nat → ai_E} {w : WM} {T : ai_H} {x : Int32} {cs sl : Nat} : ai_step X M (.putfield 177) pc L (.int x :: .ref 89 :: r) (HM P w T) cs sl = some (pc + 3, L, r, HM P (u_m_kind w x) T, cs, sl) := by
  simp only [ai_step, hM]
  rfl
theorem PFM_8_180_89 {M : ai_M} (hM : ai_cl M = 8) {X : List (List Int32)} {pc : Nat} {L : ai_L} {r : List Value} {P : Nat → ai_E} {w : WM} {T : ai_H} {x : Int32} {cs sl : Nat} : ai_step X M (.putfield 180) pc L (.int x :: .ref 89 :: r) (HM P w T) cs sl = some (pc + 3, L, r, HM P (u_m_weight w x) T, cs, sl) := by
  simp only [ai_step, hM]
  rfl
theorem PFM_8_183_89 {M : ai_M} (hM : ai_cl M = 8) {X : List (List Int32)} {pc : Nat} {L : ai_L} {r : List Value} {P : Nat → ai_E} {w : WM} {T : ai_H} {x : Int32} {cs sl : Nat} : ai_step X M (.putfield 183) pc L (.int x :: .ref 89 :: r) (HM P w T) cs sl = some (pc + 3, L, r, HM P (u_m_volume w x) T, cs, sl) := by
  simp only [ai_step, hM]
  rfl
theorem PFM_8_186_89 {M : ai_M} (hM : ai_cl M = 8) {X : List (List Int32)} {pc : Nat} {L : ai_L} {r : List Value} {P : Nat → ai_E} {w : WM} {T : ai_H} {x : Int32} {cs sl : Nat} : ai_step X M (.putfield 186) pc L (.int x :: .ref 89 :: r) (HM P w T) cs sl = some (pc + 3, L, r, HM P (u_m_load w x) T, cs, sl) := by
  simp only [ai_step, hM]
  rfl
theorem PFM_8_189_89 {M : ai_M} (hM : ai_cl M = 8) {X : List (List Int32)} {pc : Nat} {L : ai_L} {r : List Value} {P : Nat → ai_E} {w : WM} {T : ai_H} {x : Int32} {cs sl : Nat} : ai_step X M (.putfield 189) pc L (.int x :: .ref 89 :: r) (HM P w T) cs sl = some (pc + 3, L, r, HM P (u_m_hour w x) T, cs, sl) := by
  simp only [ai_step, hM]
  rfl
theorem PFM_8_192_89 {M : ai_M} (hM : ai_cl M = 8) {X : List (List Int32)} {pc : Nat} {L : ai_L} {r : List Value} {P : Nat → ai_E} {w : WM} {T : ai_H} {x : Int32} {cs sl : Nat} : ai_step X M (.putfield 192) pc L (.int x :: .ref 89 :: r) (HM P w T) cs sl = some (pc + 3, L, r, HM P (u_m_torn w x) T, cs, sl) := by
  simp only [ai_step, hM]
  rfl
theorem PFM_8_201_89 {M : ai_M} (hM : ai_cl M = 8) {X : List (List Int32)} {pc : Nat} {L : ai_L} {r : List Value} {P : Nat → ai_E} {w : WM} {T : ai_H} {x : Int32} {cs sl : Nat} : ai_step X M (.putfield 201) pc L (.int x :: .ref 89 :: r) (HM P w T) cs sl = some (pc + 3, L, r, HM P (u_m_restsIn w x) T, cs, sl) := by
  simp only [ai_step, hM]
  rfl
theorem PFM_8_204_89 {M : ai_M} (hM : ai_cl M = 8) {X : List (List Int32)} {pc : Nat} {L : ai_L} {r : List Value} {P : Nat → ai_E} {w : WM} {T : ai_H} {x : Int32} {cs sl : Nat} : ai_step X M (.putfield 204) pc L (.int x :: .ref 89 :: r) (HM P w T) cs sl = some (pc + 3, L, r, HM P (u_m_down w x) T, cs, sl) := by
  simp only [ai_step, hM]
  rfl
theorem PFM_8_207_89 {M : ai_M} (hM : ai_cl M = 8) {X : List (List Int32)} {pc : Nat} {L : ai_L} {r : List Value} {P : Nat → ai_E} {w : WM} {T : ai_H} {x : Int32} {cs sl : Nat} : ai_step X M (.putfield 207) pc L (.int x :: .ref 89 :: r) (HM P w T) cs sl = some (pc + 3, L, r, HM P (u_m_broken w x) T, cs, sl) := by
  simp only [ai_step, hM]
  rfl
theorem PFM_8_210_89 {M : ai_M} (hM : ai_cl M = 8) {X : List (List Int32)} {pc : Nat} {L : ai_L} {r : List Value} {P : Nat → ai_E} {w : WM} {T : ai_H} {x : Int32} {cs sl : Nat} : ai_step X M (.putfield 210) pc L (.int x :: .ref 89 :: r) (HM P w T) cs sl = some (pc + 3, L, r, HM P (u_m_passes w x) T, cs, sl) := by
  simp only [ai_step, hM]
  rfl
theorem PFM_8_213_89 {M : ai_M} (hM : ai_cl M = 8) {X : List (List Int32)} {pc : Nat} {L : ai_L} {r : List Value} {P : Nat → ai_E} {w : WM} {T : ai_H} {x : Int32} {cs sl : Nat} : ai_step X M (.putfield 213) pc L (.int x :: .ref 89 :: r) (HM P w T) cs sl = some (pc + 3, L, r, HM P (u_m_stops w x) T, cs, sl) := by
  simp only [ai_step, hM]
  rfl
theorem PFM_8_282_89 {M : ai_M} (hM : ai_cl M = 8) {X : List (List Int32)} {pc : Nat} {L : ai_L} {r : List Value} {P : Nat → ai_E} {w : WM} {T : ai_H} {x : Int64} {cs sl : Nat} : ai_step X M (.putfield 282) pc L (.long x :: .ref 89 :: r) (HM P w T) cs sl = some (pc + 3, L, r, HM P (u_m_above w x) T, cs, sl) := by
  simp only [ai_step, hM]
  rfl
theorem PFM_8_298_89 {M : ai_M} (hM : ai_cl M = 8) {X : List (List Int32)} {pc : Nat} {L : ai_L} {r : List Value} {P : Nat → ai_E} {w : WM} {T : ai_H} {x : Int64} {cs sl : Nat} : ai_step X M (.putfield 298) pc L (.long x :: .ref 89 :: r) (HM P w T) cs sl = some (pc + 3, L, r, HM P (u_m_h w x) T, cs, sl) := by
  simp only [ai_step, hM]
  rfl
theorem PFX_0_9_81 {M : ai_M} (hM : ai_cl M = 0) {X : List (List Int32)} {pc : Nat} {L : ai_L} {r : List Value} {w : WX} {T : ai_H} {x : Int32} {cs sl : Nat} : ai_step X M (.putfield 9) pc L (.int x :: .ref 81 :: r) (HX w T) cs sl = some (pc + 3, L, r, HX (u_fall_weighs w x) T, cs, sl) := by
  simp only [ai_step, hM]
  rfl
theorem PFX_0_15_81 {M : ai_M} (hM : ai_cl M = 0) {X : List (List Int32)} {pc : Nat} {L : ai_L} {r : List Value} {w : WX} {T : ai_H} {x : Int32} {cs sl : Nat} : ai_step X M (.putfield 15) pc L (.int x :: .ref 81 :: r) (HX w T) cs sl = some (pc + 3, L, r, HX (u_fall_room w x) T, cs, sl) := by
  simp only [ai_step, hM]
  rfl
theorem PFX_0_18_81 {M : ai_M} (hM : ai_cl M = 0) {X : List (List Int32)} {pc : Nat} {L : ai_L} {r : List Value} {w : WX} {T : ai_H} {x : Int32} {cs sl : Nat} : ai_step X M (.putfield 18) pc L (.int x :: .ref 81 :: r) (HX w T) cs sl = some (pc + 3, L, r, HX (u_fall_force w x) T, cs, sl) := by
  simp only [ai_step, hM]
  rfl
theorem PFX_0_21_81 {M : ai_M} (hM : ai_cl M = 0) {X : List (List Int32)} {pc : Nat} {L : ai_L} {r : List Value} {w : WX} {T : ai_H} {x : Int32} {cs sl : Nat} : ai_step X M (.putfield 21) pc L (.int x :: .ref 81 :: r) (HX w T) cs sl = some (pc + 3, L, r, HX (u_fall_layer w x) T, cs, sl) := by
  simp only [ai_step, hM]
  rfl
theorem PFX_0_24_81 {M : ai_M} (hM : ai_cl M = 0) {X : List (List Int32)} {pc : Nat} {L : ai_L} {r : List Value} {w : WX} {T : ai_H} {x : Int32} {cs sl : Nat} : ai_step X M (.putfield 24) pc L (.int x :: .ref 81 :: r) (HX w T) cs sl = some (pc + 3, L, r, HX (u_fall_down w x) T, cs, sl) := by
  simp only [ai_step, hM]
  rfl
theorem PFX_0_27_81 {M : ai_M} (hM : ai_cl M = 0) {X : List (List Int32)} {pc : Nat} {L : ai_L} {r : List Value} {w : WX} {T : ai_H} {x : Int32} {cs sl : Nat} : ai_step X M (.putfield 27) pc L (.int x :: .ref 81 :: r) (HX w T) cs sl = some (pc + 3, L, r, HX (u_fall_broken w x) T, cs, sl) := by
  simp only [ai_step, hM]
  rfl
theorem PFX_0_30_81 {M : ai_M} (hM : ai_cl M = 0) {X : List (List Int32)} {pc : Nat} {L : ai_L} {r : List Value} {w : WX} {T : ai_H} {x : Int32} {cs sl : Nat} : ai_step X M (.putfield 30) pc L (.int x :: .ref 81 :: r) (HX w T) cs sl = some (pc + 3, L, r, HX (u_fall_stopper w x) T, cs, sl) := by
  simp only [ai_step, hM]
  rfl
theorem PFX_1_9_12 {M : ai_M} (hM : ai_cl M = 1) {X : List (List Int32)} {pc : Nat} {L : ai_L} {r : List Value} {w : WX} {T : ai_H} {x : Int32} {cs sl : Nat} : ai_step X M (.putfield 9) pc L (.int x :: .ref 12 :: r) (HX w T) cs sl = some (pc + 3, L, r, HX (u_s1lifts_count w x) T, cs, sl) := by
  simp only [ai_step, hM]
  rfl
theorem PFX_1_9_31 {M : ai_M} (hM : ai_cl M = 1) {X : List (List Int32)} {pc : Nat} {L : ai_L} {r : List Value} {w : WX} {T : ai_H} {x : Int32} {cs sl : Nat} : ai_step X M (.putfield 9) pc L (.int x :: .ref 31 :: r) (HX w T) cs sl = some (pc + 3, L, r, HX (u_s2lifts_count w x) T, cs, sl) := by
  simp only [ai_step, hM]
  rfl
theorem PFX_1_9_50 {M : ai_M} (hM : ai_cl M = 1) {X : List (List Int32)} {pc : Nat} {L : ai_L} {r : List Value} {w : WX} {T : ai_H} {x : Int32} {cs sl : Nat} : ai_step X M (.putfield 9) pc L (.int x :: .ref 50 :: r) (HX w T) cs sl = some (pc + 3, L, r, HX (u_s3lifts_count w x) T, cs, sl) := by
  simp only [ai_step, hM]
  rfl
theorem PFX_1_9_69 {M : ai_M} (hM : ai_cl M = 1) {X : List (List Int32)} {pc : Nat} {L : ai_L} {r : List Value} {w : WX} {T : ai_H} {x : Int32} {cs sl : Nat} : ai_step X M (.putfield 9) pc L (.int x :: .ref 69 :: r) (HX w T) cs sl = some (pc + 3, L, r, HX (u_s4lifts_count w x) T, cs, sl) := by
  simp only [ai_step, hM]
  rfl
theorem PFX_2_9_1 {M : ai_M} (hM : ai_cl M = 2) {X : List (List Int32)} {pc : Nat} {L : ai_L} {r : List Value} {w : WX} {T : ai_H} {x : Int32} {cs sl : Nat} : ai_step X M (.putfield 9) pc L (.int x :: .ref 1 :: r) (HX w T) cs sl = some (pc + 3, L, r, HX (u_s1_cells w x) T, cs, sl) := by
  simp only [ai_step, hM]
  rfl
theorem PFX_2_9_20 {M : ai_M} (hM : ai_cl M = 2) {X : List (List Int32)} {pc : Nat} {L : ai_L} {r : List Value} {w : WX} {T : ai_H} {x : Int32} {cs sl : Nat} : ai_step X M (.putfield 9) pc L (.int x :: .ref 20 :: r) (HX w T) cs sl = some (pc + 3, L, r, HX (u_s2_cells w x) T, cs, sl) := by
  simp only [ai_step, hM]
  rfl
theorem PFX_2_9_39 {M : ai_M} (hM : ai_cl M = 2) {X : List (List Int32)} {pc : Nat} {L : ai_L} {r : List Value} {w : WX} {T : ai_H} {x : Int32} {cs sl : Nat} : ai_step X M (.putfield 9) pc L (.int x :: .ref 39 :: r) (HX w T) cs sl = some (pc + 3, L, r, HX (u_s3_cells w x) T, cs, sl) := by
  simp only [ai_step, hM]
  rfl
theorem PFX_2_9_58 {M : ai_M} (hM : ai_cl M = 2) {X : List (List Int32)} {pc : Nat} {L : ai_L} {r : List Value} {w : WX} {T : ai_H} {x : Int32} {cs sl : Nat} : ai_step X M (.putfield 9) pc L (.int x :: .ref 58 :: r) (HX w T) cs sl = some (pc + 3, L, r, HX (u_s4_cells w x) T, cs, sl) := by
  simp only [ai_step, hM]
  rfl
theorem PFX_2_15_1 {M : ai_M} (hM : ai_cl M = 2) {X : List (List Int32)} {pc : Nat} {L : ai_L} {r : List Value} {w : WX} {T : ai_H} {x : Int32} {cs sl : Nat} : ai_step X M (.putfield 15) pc L (.int x :: .ref 1 :: r) (HX w T) cs sl = some (pc + 3, L, r, HX (u_s1_hour w x) T, cs, sl) := by
  simp only [ai_step, hM]
  rfl
theorem PFX_2_15_20 {M : ai_M} (hM : ai_cl M = 2) {X : List (List Int32)} {pc : Nat} {L : ai_L} {r : List Value} {w : WX} {T : ai_H} {x : Int32} {cs sl : Nat} : ai_step X M (.putfield 15) pc L (.int x :: .ref 20 :: r) (HX w T) cs sl = some (pc + 3, L, r, HX (u_s2_hour w x) T, cs, sl) := by
  simp only [ai_step, hM]
  rfl
theorem PFX_2_15_39 {M : ai_M} (hM : ai_cl M = 2) {X : List (List Int32)} {pc : Nat} {L : ai_L} {r : List Value} {w : WX} {T : ai_H} {x : Int32} {cs sl : Nat} : ai_step X M (.putfield 15) pc L (.int x :: .ref 39 :: r) (HX w T) cs sl = some (pc + 3, L, r, HX (u_s3_hour w x) T, cs, sl) := by
  simp only [ai_step, hM]
  rfl
theorem PFX_2_15_58 {M : ai_M} (hM : ai_cl M = 2) {X : List (List Int32)} {pc : Nat} {L : ai_L} {r : List Value} {w : WX} {T : ai_H} {x : Int32} {cs sl : Nat} : ai_step X M (.putfield 15) pc L (.int x :: .ref 58 :: r) (HX w T) cs sl = some (pc + 3, L, r, HX (u_s4_hour w x) T, cs, sl) := by
  simp only [ai_step, hM]
  rfl
theorem PFX_2_18_1 {M : ai_M} (hM : ai_cl M = 2) {X : List (List Int32)} {pc : Nat} {L : ai_L} {r : List Value} {w : WX} {T : ai_H} {x : Int32} {cs sl : Nat} : ai_step X M (.putfield 18) pc L (.int x :: .ref 1 :: r) (HX w T) cs sl = some (pc + 3, L, r, HX (u_s1_dams w x) T, cs, sl) := by
  simp only [ai_step, hM]
  rfl
theorem PFX_2_18_20 {M : ai_M} (hM : ai_cl M = 2) {X : List (List Int32)} {pc : Nat} {L : ai_L} {r : List Value} {w : WX} {T : ai_H} {x : Int32} {cs sl : Nat} : ai_step X M (.putfield 18) pc L (.int x :: .ref 20 :: r) (HX w T) cs sl = some (pc + 3, L, r, HX (u_s2_dams w x) T, cs, sl) := by
  simp only [ai_step, hM]
  rfl
theorem PFX_2_18_39 {M : ai_M} (hM : ai_cl M = 2) {X : List (List Int32)} {pc : Nat} {L : ai_L} {r : List Value} {w : WX} {T : ai_H} {x : Int32} {cs sl : Nat} : ai_step X M (.putfield 18) pc L (.int x :: .ref 39 :: r) (HX w T) cs sl = some (pc + 3, L, r, HX (u_s3_dams w x) T, cs, sl) := by
  simp only [ai_step, hM]
  rfl
theorem PFX_2_18_58 {M : ai_M} (hM : ai_cl M = 2) {X : List (List Int32)} {pc : Nat} {L : ai_L} {r : List Value} {w : WX} {T : ai_H} {x : Int32} {cs sl : Nat} : ai_step X M (.putfield 18) pc L (.int x :: .ref 58 :: r) (HX w T) cs sl = some (pc + 3, L, r, HX (u_s4_dams w x) T, cs, sl) := by
  simp only [ai_step, hM]
  rfl
theorem PFX_2_51_1 {M : ai_M} (hM : ai_cl M = 2) {X : List (List Int32)} {pc : Nat} {L : ai_L} {r : List Value} {w : WX} {T : ai_H} {x : Int32} {cs sl : Nat} : ai_step X M (.putfield 51) pc L (.int x :: .ref 1 :: r) (HX w T) cs sl = some (pc + 3, L, r, HX (u_s1_towns w x) T, cs, sl) := by
  simp only [ai_step, hM]
  rfl
theorem PFX_2_51_20 {M : ai_M} (hM : ai_cl M = 2) {X : List (List Int32)} {pc : Nat} {L : ai_L} {r : List Value} {w : WX} {T : ai_H} {x : Int32} {cs sl : Nat} : ai_step X M (.putfield 51) pc L (.int x :: .ref 20 :: r) (HX w T) cs sl = some (pc + 3, L, r, HX (u_s2_towns w x) T, cs, sl) := by
  simp only [ai_step, hM]
  rfl
theorem PFX_2_51_39 {M : ai_M} (hM : ai_cl M = 2) {X : List (List Int32)} {pc : Nat} {L : ai_L} {r : List Value} {w : WX} {T : ai_H} {x : Int32} {cs sl : Nat} : ai_step X M (.putfield 51) pc L (.int x :: .ref 39 :: r) (HX w T) cs sl = some (pc + 3, L, r, HX (u_s3_towns w x) T, cs, sl) := by
  simp only [ai_step, hM]
  rfl
theorem PFX_2_51_58 {M : ai_M} (hM : ai_cl M = 2) {X : List (List Int32)} {pc : Nat} {L : ai_L} {r : List Value} {w : WX} {T : ai_H} {x : Int32} {cs sl : Nat} : ai_step X M (.putfield 51) pc L (.int x :: .ref 58 :: r) (HX w T) cs sl = some (pc + 3, L, r, HX (u_s4_towns w x) T, cs, sl) := by
  simp only [ai_step, hM]
  rfl
theorem PFX_2_57_1 {M : ai_M} (hM : ai_cl M = 2) {X : List (List Int32)} {pc : Nat} {L : ai_L} {r : List Value} {w : WX} {T : ai_H} {x : Int32} {cs sl : Nat} : ai_step X M (.putfield 57) pc L (.int x :: .ref 1 :: r) (HX w T) cs sl = some (pc + 3, L, r, HX (u_s1_drops w x) T, cs, sl) := by
  simp only [ai_step, hM]
  rfl
theorem PFX_2_57_20 {M : ai_M} (hM : ai_cl M = 2) {X : List (List Int32)} {pc : Nat} {L : ai_L} {r : List Value} {w : WX} {T : ai_H} {x : Int32} {cs sl : Nat} : ai_step X M (.putfield 57) pc L (.int x :: .ref 20 :: r) (HX w T) cs sl = some (pc + 3, L, r, HX (u_s2_drops w x) T, cs, sl) := by
  simp only [ai_step, hM]
  rfl
theorem PFX_2_57_39 {M : ai_M} (hM : ai_cl M = 2) {X : List (List Int32)} {pc : Nat} {L : ai_L} {r : List Value} {w : WX} {T : ai_H} {x : Int32} {cs sl : Nat} : ai_step X M (.putfield 57) pc L (.int x :: .ref 39 :: r) (HX w T) cs sl = some (pc + 3, L, r, HX (u_s3_drops w x) T, cs, sl) := by
  simp only [ai_step, hM]
  rfl
theorem PFX_2_57_58 {M : ai_M} (hM : ai_cl M = 2) {X : List (List Int32)} {pc : Nat} {L : ai_L} {r : List Value} {w : WX} {T : ai_H} {x : Int32} {cs sl : Nat} : ai_step X M (.putfield 57) pc L (.int x :: .ref 58 :: r) (HX w T) cs sl = some (pc + 3, L, r, HX (u_s4_drops w x) T, cs, sl) := by
  simp only [ai_step, hM]
  rfl
theorem PFX_2_66_1 {M : ai_M} (hM : ai_cl M = 2) {X : List (List Int32)} {pc : Nat} {L : ai_L} {r : List Value} {w : WX} {T : ai_H} {x : Int32} {cs sl : Nat} : ai_step X M (.putfield 66) pc L (.int x :: .ref 1 :: r) (HX w T) cs sl = some (pc + 3, L, r, HX (u_s1_undos w x) T, cs, sl) := by
  simp only [ai_step, hM]
  rfl
theorem PFX_2_66_20 {M : ai_M} (hM : ai_cl M = 2) {X : List (List Int32)} {pc : Nat} {L : ai_L} {r : List Value} {w : WX} {T : ai_H} {x : Int32} {cs sl : Nat} : ai_step X M (.putfield 66) pc L (.int x :: .ref 20 :: r) (HX w T) cs sl = some (pc + 3, L, r, HX (u_s2_undos w x) T, cs, sl) := by
  simp only [ai_step, hM]
  rfl
theorem PFX_2_66_39 {M : ai_M} (hM : ai_cl M = 2) {X : List (List Int32)} {pc : Nat} {L : ai_L} {r : List Value} {w : WX} {T : ai_H} {x : Int32} {cs sl : Nat} : ai_step X M (.putfield 66) pc L (.int x :: .ref 39 :: r) (HX w T) cs sl = some (pc + 3, L, r, HX (u_s3_undos w x) T, cs, sl) := by
  simp only [ai_step, hM]
  rfl
theorem PFX_2_66_58 {M : ai_M} (hM : ai_cl M = 2) {X : List (List Int32)} {pc : Nat} {L : ai_L} {r : List Value} {w : WX} {T : ai_H} {x : Int32} {cs sl : Nat} : ai_step X M (.putfield 66) pc L (.int x :: .ref 58 :: r) (HX w T) cs sl = some (pc + 3, L, r, HX (u_s4_undos w x) T, cs, sl) := by
  simp only [ai_step, hM]
  rfl
theorem PFX_2_95_7 {M : ai_M} (hM : ai_cl M = 2) {X : List (List Int32)} {pc : Nat} {L : ai_L} {r : List Value} {w : WX} {T : ai_H} {x : Int32} {cs sl : Nat} : ai_step X M (.putfield 95) pc L (.int x :: .ref 7 :: r) (HX w T) cs sl = some (pc + 3, L, r, HX (u_s1things_count w x) T, cs, sl) := by
  simp only [ai_step, hM]
  rfl
theorem PFX_2_95_26 {M : ai_M} (hM : ai_cl M = 2) {X : List (List Int32)} {pc : Nat} {L : ai_L} {r : List Value} {w : WX} {T : ai_H} {x : Int32} {cs sl : Nat} : ai_step X M (.putfield 95) pc L (.int x :: .ref 26 :: r) (HX w T) cs sl = some (pc + 3, L, r, HX (u_s2things_count w x) T, cs, sl) := by
  simp only [ai_step, hM]
  rfl
theorem PFX_2_98_12 {M : ai_M} (hM : ai_cl M = 2) {X : List (List Int32)} {pc : Nat} {L : ai_L} {r : List Value} {w : WX} {T : ai_H} {x : Int32} {cs sl : Nat} : ai_step X M (.putfield 98) pc L (.int x :: .ref 12 :: r) (HX w T) cs sl = some (pc + 3, L, r, HX (u_s1lifts_count w x) T, cs, sl) := by
  simp only [ai_step, hM]
  rfl
theorem PFX_2_98_31 {M : ai_M} (hM : ai_cl M = 2) {X : List (List Int32)} {pc : Nat} {L : ai_L} {r : List Value} {w : WX} {T : ai_H} {x : Int32} {cs sl : Nat} : ai_step X M (.putfield 98) pc L (.int x :: .ref 31 :: r) (HX w T) cs sl = some (pc + 3, L, r, HX (u_s2lifts_count w x) T, cs, sl) := by
  simp only [ai_step, hM]
  rfl
theorem PFX_4_9_78 {M : ai_M} (hM : ai_cl M = 4) {X : List (List Int32)} {pc : Nat} {L : ai_L} {r : List Value} {w : WX} {T : ai_H} {x : Int32} {cs sl : Nat} : ai_step X M (.putfield 9) pc L (.int x :: .ref 78 :: r) (HX w T) cs sl = some (pc + 3, L, r, HX (u_text_length w x) T, cs, sl) := by
  simp only [ai_step, hM]
  rfl
theorem PFX_4_15_78 {M : ai_M} (hM : ai_cl M = 4) {X : List (List Int32)} {pc : Nat} {L : ai_L} {r : List Value} {w : WX} {T : ai_H} {x : Int32} {cs sl : Nat} : ai_step X M (.putfield 15) pc L (.int x :: .ref 78 :: r) (HX w T) cs sl = some (pc + 3, L, r, HX (u_text_items w x) T, cs, sl) := by
  simp only [ai_step, hM]
  rfl
theorem PFX_4_18_78 {M : ai_M} (hM : ai_cl M = 4) {X : List (List Int32)} {pc : Nat} {L : ai_L} {r : List Value} {w : WX} {T : ai_H} {x : Int32} {cs sl : Nat} : ai_step X M (.putfield 18) pc L (.int x :: .ref 78 :: r) (HX w T) cs sl = some (pc + 3, L, r, HX (u_text_refusedItem w x) T, cs, sl) := by
  simp only [ai_step, hM]
  rfl
theorem PFX_4_28_78 {M : ai_M} (hM : ai_cl M = 4) {X : List (List Int32)} {pc : Nat} {L : ai_L} {r : List Value} {w : WX} {T : ai_H} {x : Int32} {cs sl : Nat} : ai_step X M (.putfield 28) pc L (.int x :: .ref 78 :: r) (HX w T) cs sl = some (pc + 3, L, r, HX (u_text_at w x) T, cs, sl) := by
  simp only [ai_step, hM]
  rfl
theorem PFX_5_9_7 {M : ai_M} (hM : ai_cl M = 5) {X : List (List Int32)} {pc : Nat} {L : ai_L} {r : List Value} {w : WX} {T : ai_H} {x : Int32} {cs sl : Nat} : ai_step X M (.putfield 9) pc L (.int x :: .ref 7 :: r) (HX w T) cs sl = some (pc + 3, L, r, HX (u_s1things_count w x) T, cs, sl) := by
  simp only [ai_step, hM]
  rfl
theorem PFX_5_9_26 {M : ai_M} (hM : ai_cl M = 5) {X : List (List Int32)} {pc : Nat} {L : ai_L} {r : List Value} {w : WX} {T : ai_H} {x : Int32} {cs sl : Nat} : ai_step X M (.putfield 9) pc L (.int x :: .ref 26 :: r) (HX w T) cs sl = some (pc + 3, L, r, HX (u_s2things_count w x) T, cs, sl) := by
  simp only [ai_step, hM]
  rfl
theorem PFX_5_9_45 {M : ai_M} (hM : ai_cl M = 5) {X : List (List Int32)} {pc : Nat} {L : ai_L} {r : List Value} {w : WX} {T : ai_H} {x : Int32} {cs sl : Nat} : ai_step X M (.putfield 9) pc L (.int x :: .ref 45 :: r) (HX w T) cs sl = some (pc + 3, L, r, HX (u_s3things_count w x) T, cs, sl) := by
  simp only [ai_step, hM]
  rfl
theorem PFX_5_9_64 {M : ai_M} (hM : ai_cl M = 5) {X : List (List Int32)} {pc : Nat} {L : ai_L} {r : List Value} {w : WX} {T : ai_H} {x : Int32} {cs sl : Nat} : ai_step X M (.putfield 9) pc L (.int x :: .ref 64 :: r) (HX w T) cs sl = some (pc + 3, L, r, HX (u_s4things_count w x) T, cs, sl) := by
  simp only [ai_step, hM]
  rfl
theorem PFX_7_61_0 {M : ai_M} (hM : ai_cl M = 7) {X : List (List Int32)} {pc : Nat} {L : ai_L} {r : List Value} {w : WX} {T : ai_H} {x : Int64} {cs sl : Nat} : ai_step X M (.putfield 61) pc L (.long x :: .ref 0 :: r) (HX w T) cs sl = some (pc + 3, L, r, HX (u_f_above w x) T, cs, sl) := by
  simp only [ai_step, hM]
  rfl
theorem PFX_7_65_0 {M : ai_M} (hM : ai_cl M = 7) {X : List (List Int32)} {pc : Nat} {L : ai_L} {r : List Value} {w : WX} {T : ai_H} {x : Int64} {cs sl : Nat} : ai_step X M (.putfield 65) pc L (.long x :: .ref 0 :: r) (HX w T) cs sl = some (pc + 3, L, r, HX (u_f_below w x) T, cs, sl) := by
  simp only [ai_step, hM]
  rfl
theorem PFX_7_68_0 {M : ai_M} (hM : ai_cl M = 7) {X : List (List Int32)} {pc : Nat} {L : ai_L} {r : List Value} {w : WX} {T : ai_H} {x : Int32} {cs sl : Nat} : ai_step X M (.putfield 68) pc L (.int x :: .ref 0 :: r) (HX w T) cs sl = some (pc + 3, L, r, HX (u_f_refusedBad w x) T, cs, sl) := by
  simp only [ai_step, hM]
  rfl
theorem PFX_7_72_0 {M : ai_M} (hM : ai_cl M = 7) {X : List (List Int32)} {pc : Nat} {L : ai_L} {r : List Value} {w : WX} {T : ai_H} {x : Int32} {cs sl : Nat} : ai_step X M (.putfield 72) pc L (.int x :: .ref 0 :: r) (HX w T) cs sl = some (pc + 3, L, r, HX (u_f_refusedNo w x) T, cs, sl) := by
  simp only [ai_step, hM]
  rfl
theorem PFX_7_75_0 {M : ai_M} (hM : ai_cl M = 7) {X : List (List Int32)} {pc : Nat} {L : ai_L} {r : List Value} {w : WX} {T : ai_H} {x : Int32} {cs sl : Nat} : ai_step X M (.putfield 75) pc L (.int x :: .ref 0 :: r) (HX w T) cs sl = some (pc + 3, L, r, HX (u_f_refusedFull w x) T, cs, sl) := by
  simp only [ai_step, hM]
  rfl
theorem PFX_7_146_78 {M : ai_M} (hM : ai_cl M = 7) {X : List (List Int32)} {pc : Nat} {L : ai_L} {r : List Value} {w : WX} {T : ai_H} {x : Int32} {cs sl : Nat} : ai_step X M (.putfield 146) pc L (.int x :: .ref 78 :: r) (HX w T) cs sl = some (pc + 3, L, r, HX (u_text_length w x) T, cs, sl) := by
  simp only [ai_step, hM]
  rfl
theorem Eimg0 {x : Int32} (h : x = 0) (w : WX) (T : ai_H) : ai_ev D1 mf_imageAt 0 [some (.ref 0), some (.int x)] [] (HX w T) 0 0 (some (.ref 39), HX w T) := by
  refine ev_go 1 (pc' := 1) (L' := [some (.ref 0), some (.int x)]) (st' := [.int x]) (h' := HX w T) (cs' := 0) (sl' := 0) rfl ?_
  refine ev_if_ne (t := 11) rfl rfl (fun c9 => absurd h c9) (fun _ => ?_)
  refine ev_go 3 (pc' := 15) (L' := [some (.ref 0), some (.int x)]) (st' := [.ref 39]) (h' := HX w T) (cs' := 0) (sl' := 0) rfl ?_
  exact ev_end rfl
theorem Eimg1 {x : Int32} (h : ¬ x = 0) (w : WX) (T : ai_H) : ai_ev D1 mf_imageAt 0 [some (.ref 0), some (.int x)] [] (HX w T) 0 0 (some (.ref 58), HX w T) := by
  refine ev_go 1 (pc' := 1) (L' := [some (.ref 0), some (.int x)]) (st' := [.int x]) (h' := HX w T) (cs' := 0) (sl' := 0) rfl ?_
  refine ev_if_ne (t := 11) rfl rfl (fun _ => ?_) (fun c9 => absurd c9 h)
  refine ev_go 2 (pc' := 15) (L' := [some (.ref 0), some (.int x)]) (st' := [.ref 58]) (h' := HX w T) (cs' := 0) (sl' := 0) rfl ?_
  exact ev_end rfl
def ai_nm (x : Int32) : Nat :=
  if x = 0 then 2 else
  if x = 1 then 3 else
  if x = 2 then 4 else
  if x = 3 then 5 else
  if x = 4 then 6 else
  if x = 5 then 7 else
  if x = 6 then 8 else
  9
set_option maxRecDepth 100000 in
theorem Enam (x : Int32) (hh : ai_H) : ai_ev D1 mtxt_nameOf 0 [some (.int x)] [] hh 0 0 (some (.retAddr (ai_nm x)), hh) := by
  unfold ai_nm
  refine ev_go 1 (pc' := 1) (L' := [some (.int x)]) (st' := [.int x]) (h' := hh) (cs' := 0) (sl' := 0) rfl ?_
  by_cases hs0 : x = 0
  · rw [if_pos hs0]
    refine ev_swi (k := 0) (t := 44) rfl hs0 (by decide) (by decide) rfl rfl ?_
    refine ev_go 1 (pc' := 46) (L' := [some (.int x)]) (st' := [.retAddr 2]) (h' := hh) (cs' := 0) (sl' := 0) rfl ?_
    exact ev_end rfl
  rw [if_neg hs0]
  by_cases hs1 : x = 1
  · rw [if_pos hs1]
    refine ev_swi (k := 1) (t := 47) rfl hs1 (by decide) (by decide) rfl rfl ?_
    refine ev_go 1 (pc' := 49) (L' := [some (.int x)]) (st' := [.retAddr 3]) (h' := hh) (cs' := 0) (sl' := 0) rfl ?_
    exact ev_end rfl
  rw [if_neg hs1]
  by_cases hs2 : x = 2
  · rw [if_pos hs2]
    refine ev_swi (k := 2) (t := 50) rfl hs2 (by decide) (by decide) rfl rfl ?_
    refine ev_go 1 (pc' := 52) (L' := [some (.int x)]) (st' := [.retAddr 4]) (h' := hh) (cs' := 0) (sl' := 0) rfl ?_
    exact ev_end rfl
  rw [if_neg hs2]
  by_cases hs3 : x = 3
  · rw [if_pos hs3]
    refine ev_swi (k := 3) (t := 53) rfl hs3 (by decide) (by decide) rfl rfl ?_
    refine ev_go 1 (pc' := 55) (L' := [some (.int x)]) (st' := [.retAddr 5]) (h' := hh) (cs' := 0) (sl' := 0) rfl ?_
    exact ev_end rfl
  rw [if_neg hs3]
  by_cases hs4 : x = 4
  · rw [if_pos hs4]
    refine ev_swi (k := 4) (t := 56) rfl hs4 (by decide) (by decide) rfl rfl ?_
    refine ev_go 1 (pc' := 58) (L' := [some (.int x)]) (st' := [.retAddr 6]) (h' := hh) (cs' := 0) (sl' := 0) rfl ?_
    exact ev_end rfl
  rw [if_neg hs4]
  by_cases hs5 : x = 5
  · rw [if_pos hs5]
    refine ev_swi (k := 5) (t := 59) rfl hs5 (by decide) (by decide) rfl rfl ?_
    refine ev_go 1 (pc' := 61) (L' := [some (.int x)]) (st' := [.retAddr 7]) (h' := hh) (cs' := 0) (sl' := 0) rfl ?_
    exact ev_end rfl
  rw [if_neg hs5]
  by_cases hs6 : x = 6
  · rw [if_pos hs6]
    refine ev_swi (k := 6) (t := 62) rfl hs6 (by decide) (by decide) rfl rfl ?_
    refine ev_go 1 (pc' := 64) (L' := [some (.int x)]) (st' := [.retAddr 8]) (h' := hh) (cs' := 0) (sl' := 0) rfl ?_
    exact ev_end rfl
  rw [if_neg hs6]
  refine ev_swo (t := 65) (lo := 0) (n := 7) rfl (sw_out 0 7 (fun k hk => by match k, hk with | 0, _ => exact hs0 | 1, _ => exact hs1 | 2, _ => exact hs2 | 3, _ => exact hs3 | 4, _ => exact hs4 | 5, _ => exact hs5 | 6, _ => exact hs6 | k + 7, hk => exact absurd hk (by omega))) ⟨rfl, by decide⟩ rfl ?_
  refine ev_go 1 (pc' := 67) (L' := [some (.int x)]) (st' := [.retAddr 9]) (h' := hh) (cs' := 0) (sl' := 0) rfl ?_
  exact ev_end rfl
