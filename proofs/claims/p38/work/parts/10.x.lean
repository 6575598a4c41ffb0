theorem HXs_77 (w : WX) (T : ai_H) (q : List Int32) : (HX w T).set 77 (.inl (true, q)) = HX (u_f_imageKept w q) T := rfl
theorem HXs_88 (w : WX) (T : ai_H) (q : List Int32) : (HX w T).set 88 (.inl (false, q)) = HX (u_f_downs w q) T := rfl
theorem HXs_2 (w : WX) (T : ai_H) (q : List Int32) : (HX w T).set 2 (.inl (false, q)) = HX (u_s1_densities w q) T := rfl
theorem HXs_3 (w : WX) (T : ai_H) (q : List Int32) : (HX w T).set 3 (.inl (false, q)) = HX (u_s1_currents w q) T := rfl
theorem HXs_4 (w : WX) (T : ai_H) (q : List Int32) : (HX w T).set 4 (.inl (false, q)) = HX (u_s1_tides w q) T := rfl
theorem HXs_5 (w : WX) (T : ai_H) (q : List Int32) : (HX w T).set 5 (.inl (false, q)) = HX (u_s1_thicks w q) T := rfl
theorem HXs_6 (w : WX) (T : ai_H) (q : List Int32) : (HX w T).set 6 (.inl (false, q)) = HX (u_s1_skins w q) T := rfl
theorem HXs_16 (w : WX) (T : ai_H) (q : List Int32) : (HX w T).set 16 (.inl (false, q)) = HX (u_s1_townPlaces w q) T := rfl
theorem HXs_17 (w : WX) (T : ai_H) (q : List Int32) : (HX w T).set 17 (.inl (false, q)) = HX (u_s1_dropLayers w q) T := rfl
theorem HXs_18 (w : WX) (T : ai_H) (q : List Int32) : (HX w T).set 18 (.inl (false, q)) = HX (u_s1_dropFloats w q) T := rfl
theorem HXs_19 (w : WX) (T : ai_H) (q : List Int32) : (HX w T).set 19 (.inl (false, q)) = HX (u_s1_hoursBefore w q) T := rfl
theorem HXs_8 (w : WX) (T : ai_H) (q : List Int32) : (HX w T).set 8 (.inl (false, q)) = HX (u_s1things_kinds w q) T := rfl
theorem HXs_9 (w : WX) (T : ai_H) (q : List Int32) : (HX w T).set 9 (.inl (false, q)) = HX (u_s1things_weights w q) T := rfl
theorem HXs_10 (w : WX) (T : ai_H) (q : List Int32) : (HX w T).set 10 (.inl (false, q)) = HX (u_s1things_volumes w q) T := rfl
theorem HXs_11 (w : WX) (T : ai_H) (q : List Int32) : (HX w T).set 11 (.inl (false, q)) = HX (u_s1things_ballasts w q) T := rfl
theorem HXs_13 (w : WX) (T : ai_H) (q : List Int32) : (HX w T).set 13 (.inl (false, q)) = HX (u_s1lifts_froms w q) T := rfl
theorem HXs_14 (w : WX) (T : ai_H) (q : List Int32) : (HX w T).set 14 (.inl (false, q)) = HX (u_s1lifts_tos w q) T := rfl
theorem HXs_15 (w : WX) (T : ai_H) (q : List Int32) : (HX w T).set 15 (.inl (false, q)) = HX (u_s1lifts_times w q) T := rfl
theorem HXs_21 (w : WX) (T : ai_H) (q : List Int32) : (HX w T).set 21 (.inl (false, q)) = HX (u_s2_densities w q) T := rfl
theorem HXs_22 (w : WX) (T : ai_H) (q : List Int32) : (HX w T).set 22 (.inl (false, q)) = HX (u_s2_currents w q) T := rfl
theorem HXs_23 (w : WX) (T : ai_H) (q : List Int32) : (HX w T).set 23 (.inl (false, q)) = HX (u_s2_tides w q) T := rfl
theorem HXs_24 (w : WX) (T : ai_H) (q : List Int32) : (HX w T).set 24 (.inl (false, q)) = HX (u_s2_thicks w q) T := rfl
theorem HXs_25 (w : WX) (T : ai_H) (q : List Int32) : (HX w T).set 25 (.inl (false, q)) = HX (u_s2_skins w q) T := rfl
theorem HXs_35 (w : WX) (T : ai_H) (q : List Int32) : (HX w T).set 35 (.inl (false, q)) = HX (u_s2_townPlaces w q) T := rfl
theorem HXs_36 (w : WX) (T : ai_H) (q : List Int32) : (HX w T).set 36 (.inl (false, q)) = HX (u_s2_dropLayers w q) T := rfl
theorem HXs_37 (w : WX) (T : ai_H) (q : List Int32) : (HX w T).set 37 (.inl (false, q)) = HX (u_s2_dropFloats w q) T := rfl
theorem HXs_38 (w : WX) (T : ai_H) (q : List Int32) : (HX w T).set 38 (.inl (false, q)) = HX (u_s2_hoursBefore w q) T := rfl
theorem HXs_27 (w : WX) (T : ai_H) (q : List Int32) : (HX w T).set 27 (.inl (false, q)) = HX (u_s2things_kinds w q) T := rfl
theorem HXs_28 (w : WX) (T : ai_H) (q : List Int32) : (HX w T).set 28 (.inl (false, q)) = HX (u_s2things_weights w q) T := rfl
theorem HXs_29 (w : WX) (T : ai_H) (q : List Int32) : (HX w T).set 29 (.inl (false, q)) = HX (u_s2things_volumes w q) T := rfl
theorem HXs_30 (w : WX) (T : ai_H) (q : List Int32) : (HX w T).set 30 (.inl (false, q)) = HX (u_s2things_ballasts w q) T := rfl
theorem HXs_32 (w : WX) (T : ai_H) (q : List Int32) : (HX w T).set 32 (.inl (false, q)) = HX (u_s2lifts_froms w q) T := rfl
theorem HXs_33 (w : WX) (T : ai_H) (q : List Int32) : (HX w T).set 33 (.inl (false, q)) = HX (u_s2lifts_tos w q) T := rfl
theorem HXs_34 (w : WX) (T : ai_H) (q : List Int32) : (HX w T).set 34 (.inl (false, q)) = HX (u_s2lifts_times w q) T := rfl
theorem HXs_40 (w : WX) (T : ai_H) (q : List Int32) : (HX w T).set 40 (.inl (false, q)) = HX (u_s3_densities w q) T := rfl
theorem HXs_41 (w : WX) (T : ai_H) (q : List Int32) : (HX w T).set 41 (.inl (false, q)) = HX (u_s3_currents w q) T := rfl
theorem HXs_42 (w : WX) (T : ai_H) (q : List Int32) : (HX w T).set 42 (.inl (false, q)) = HX (u_s3_tides w q) T := rfl
theorem HXs_43 (w : WX) (T : ai_H) (q : List Int32) : (HX w T).set 43 (.inl (false, q)) = HX (u_s3_thicks w q) T := rfl
theorem HXs_44 (w : WX) (T : ai_H) (q : List Int32) : (HX w T).set 44 (.inl (false, q)) = HX (u_s3_skins w q) T := rfl
theorem HXs_54 (w : WX) (T : ai_H) (q : List Int32) : (HX w T).set 54 (.inl (false, q)) = HX (u_s3_townPlaces w q) T := rfl
theorem HXs_55 (w : WX) (T : ai_H) (q : List Int32) : (HX w T).set 55 (.inl (false, q)) = HX (u_s3_dropLayers w q) T := rfl
theorem HXs_56 (w : WX) (T : ai_H) (q : List Int32) : (HX w T).set 56 (.inl (false, q)) = HX (u_s3_dropFloats w q) T := rfl
theorem HXs_57 (w : WX) (T : ai_H) (q : List Int32) : (HX w T).set 57 (.inl (false, q)) = HX (u_s3_hoursBefore w q) T := rfl
theorem HXs_46 (w : WX) (T : ai_H) (q : List Int32) : (HX w T).set 46 (.inl (false, q)) = HX (u_s3things_kinds w q) T := rfl
theorem HXs_47 (w : WX) (T : ai_H) (q : List Int32) : (HX w T).set 47 (.inl (false, q)) = HX (u_s3things_weights w q) T := rfl
theorem HXs_48 (w : WX) (T : ai_H) (q : List Int32) : (HX w T).set 48 (.inl (false, q)) = HX (u_s3things_volumes w q) T := rfl
theorem HXs_49 (w : WX) (T : ai_H) (q : List Int32) : (HX w T).set 49 (.inl (false, q)) = HX (u_s3things_ballasts w q) T := rfl
theorem HXs_51 (w : WX) (T : ai_H) (q : List Int32) : (HX w T).set 51 (.inl (false, q)) = HX (u_s3lifts_froms w q) T := rfl
theorem HXs_52 (w : WX) (T : ai_H) (q : List Int32) : (HX w T).set 52 (.inl (false, q)) = HX (u_s3lifts_tos w q) T := rfl
theorem HXs_53 (w : WX) (T : ai_H) (q : List Int32) : (HX w T).set 53 (.inl (false, q)) = HX (u_s3lifts_times w q) T := rfl
theorem HXs_59 (w : WX) (T : ai_H) (q : List Int32) : (HX w T).set 59 (.inl (false, q)) = HX (u_s4_densities w q) T := rfl
theorem HXs_60 (w : WX) (T : ai_H) (q : List Int32) : (HX w T).set 60 (.inl (false, q)) = HX (u_s4_currents w q) T := rfl
theorem HXs_61 (w : WX) (T : ai_H) (q : List Int32) : (HX w T).set 61 (.inl (false, q)) = HX (u_s4_tides w q) T := rfl
theorem HXs_62 (w : WX) (T : ai_H) (q : List Int32) : (HX w T).set 62 (.inl (false, q)) = HX (u_s4_thicks w q) T := rfl
theorem HXs_63 (w : WX) (T : ai_H) (q : List Int32) : (HX w T).set 63 (.inl (false, q)) = HX (u_s4_skins w q) T := rfl
theorem HXs_73 (w : WX) (T : ai_H) (q : List Int32) : (HX w T).set 73 (.inl (false, q)) = HX (u_s4_townPlaces w q) T := rfl
theorem HXs_74 (w : WX) (T : ai_H) (q : List Int32) : (HX w T).set 74 (.inl (false, q)) = HX (u_s4_dropLayers w q) T := rfl
theorem HXs_75 (w : WX) (T : ai_H) (q : List Int32) : (HX w T).set 75 (.inl (false, q)) = HX (u_s4_dropFloats w q) T := rfl
theorem HXs_76 (w : WX) (T : ai_H) (q : List Int32) : (HX w T).set 76 (.inl (false, q)) = HX (u_s4_hoursBefore w q) T := rfl
theorem HXs_65 (w : WX) (T : ai_H) (q : List Int32) : (HX w T).set 65 (.inl (false, q)) = HX (u_s4things_kinds w q) T := rfl
theorem HXs_66 (w : WX) (T : ai_H) (q : List Int32) : (HX w T).set 66 (.inl (false, q)) = HX (u_s4things_weights w q) T := rfl
theorem HXs_67 (w : WX) (T : ai_H) (q : List Int32) : (HX w T).set 67 (.inl (false, q)) = HX (u_s4things_volumes w q) T := rfl
theorem HXs_68 (w : WX) (T : ai_H) (q : List Int32) : (HX w T).set 68 (.inl (false, q)) = HX (u_s4things_ballasts w q) T := rfl
theorem HXs_70 (w : WX) (T : ai_H) (q : List Int32) : (HX w T).set 70 (.inl (false, q)) = HX (u_s4lifts_froms w q) T := rfl
theorem HXs_71 (w : WX) (T : ai_H) (q : List Int32) : (HX w T).set 71 (.inl (false, q)) = HX (u_s4lifts_tos w q) T := rfl
theorem HXs_72 (w : WX) (T : ai_H) (q : List Int32) : (HX w T).set 72 (.inl (false, q)) = HX (u_s4lifts_times w q) T := rfl
theorem HXs_79 (w : WX) (T : ai_H) (q : List Int32) : (HX w T).set 79 (.inl (false, q)) = HX (u_text_bytes w q) T := rfl
theorem HXs_80 (w : WX) (T : ai_H) (q : List Int32) : (HX w T).set 80 (.inl (false, q)) = HX (u_text_numbers w q) T := rfl
theorem HXs_82 (w : WX) (T : ai_H) (q : List Int32) : (HX w T).set 82 (.inl (false, q)) = HX (u_fall_passedThick w q) T := rfl
theorem HXs_84 (w : WX) (T : ai_H) (q : List Int32) : (HX w T).set 84 (.inl (false, q)) = HX (u_spread_amounts w q) T := rfl
theorem HXs_85 (w : WX) (T : ai_H) (q : List Int32) : (HX w T).set 85 (.inl (false, q)) = HX (u_spread_gifts w q) T := rfl
theorem HXs_87 (w : WX) (T : ai_H) (q : List Int32) : (HX w T).set 87 (.inl (false, q)) = HX (u_ways_reached w q) T := rfl
theorem HMs_90 (P : Nat → ai_E) (w : WM) (T : ai_H) (q : List Int32) : (HM P w T).set 90 (.inl (false, q)) = HM P (u_m_w w q) T := rfl
theorem HMs_91 (P : Nat → ai_E) (w : WM) (T : ai_H) (q : List Int32) : (HM P w T).set 91 (.inl (true, q)) = HM P (u_m_isKept w q) T := rfl
theorem HMs_92 (P : Nat → ai_E) (w : WM) (T : ai_H) (q : List Int32) : (HM P w T).set 92 (.inl (false, q)) = HM P (u_m_text w q) T := rfl
theorem HMs_93 (P : Nat → ai_E) (w : WM) (T : ai_H) (q : List Int32) : (HM P w T).set 93 (.inl (false, q)) = HM P (u_m_refused w q) T := rfl
theorem HMs_94 (P : Nat → ai_E) (w : WM) (T : ai_H) (q : List Int32) : (HM P w T).set 94 (.inl (false, q)) = HM P (u_m_numbers w q) T := rfl
theorem HMs_95 (P : Nat → ai_E) (w : WM) (T : ai_H) (q : List Int32) : (HM P w T).set 95 (.inl (false, q)) = HM P (u_m_far w q) T := rfl
theorem HMs_96 (P : Nat → ai_E) (w : WM) (T : ai_H) (q : List Int32) : (HM P w T).set 96 (.inl (false, q)) = HM P (u_m_there w q) T := rfl
theorem HMs_97 (P : Nat → ai_E) (w : WM) (T : ai_H) (q : List Int32) : (HM P w T).set 97 (.inl (false, q)) = HM P (u_m_gives w q) T := rfl
theorem PFM_8_23_89 {M : ai_M} (hM : ai_cl M = 8) {X : List (List Int32)} {pc : Nat} {L : ai_L} {r : List Value} {P : Nat → ai_E} {w : WM} {T : ai_H} {x : Int64} {cs sl : Nat} : ai_step X M (.putfield 23) pc L (.long x :: .ref 89 :: r) (HM P w T) cs sl = some (pc + 3, L, r, HM P (u_m_below w x) T, cs, sl) := by
  simp only [ai_step, hM]
  rfl
theorem PFM_8_124_89 {M : ai_M} (hM : ai_cl M = 8) {X : List (List Int32)} {pc : Nat} {L : ai_L} {r : List Value} {P : Nat → ai_E} {w : WM} {T : ai_H} {x : Int32} {cs sl : Nat} : ai_step X M (.putfield 124) pc L (.int x :: .ref 89 :: r) (HM P w T) cs sl = some (pc + 3, L, r, HM P (u_m_texted w x) T, cs, sl) := by
  simp only [ai_step, hM]
  rfl
theorem PFM_8_128_89 {M : ai_M} (hM : ai_cl M = 8) {X : List (List Int32)} {pc : Nat} {L : ai_L} {r : List Value} {P : Nat → ai_E} {w : WM} {T : ai_H} {x : Int32} {cs sl : Nat} : ai_step X M (.putfield 128) pc L (.int x :: .ref 89 :: r) (HM P w T) cs sl = some (pc + 3, L, r, HM P (u_m_at w x) T, cs, sl) := by
  simp only [ai_step, hM]
  rfl
theorem PFM_8_134_89 {M : ai_M} (hM : ai_cl M = 8) {X : List (List Int32)} {pc : Nat} {L : ai_L} {r : List Value} {P : Nat → ai_E} {w : WM} {T : ai_H} {x : Int32} {cs sl : Nat} : ai_step X M (.putfield 134) pc L (.int x :: .ref 89 :: r) (HM P w T) cs sl = some (pc + 3, L, r, HM P (u_m_start w x) T, cs, sl) := by
  simp only [ai_step, hM]
  rfl
theorem PFM_8_159_89 {M : ai_M} (hM : ai_cl M = 8) {X : List (List Int32)} {pc : Nat} {L : ai_L} {r : List Value} {P : Nat → ai_E} {w : WM} {T : ai_H} {x : Int32} {cs sl : Nat} : ai_step X M (.putfield 159) pc L (.int x :: .ref 89 :: r) (HM P w T) cs sl = some (pc + 3, L, r, HM P (u_m_word w x) T, cs, sl) := by
  simp only [ai_step, hM]
  rfl
theorem PFM_8_177_89 {M : ai_M} (hM : ai_cl M = 8) {X : List (List Int32)} {pc : Nat} {L : ai_L} {r : List Value} {P : Nat → ai_E} {w : WM} {T : ai_H} {x : Int32} {cs sl : Nat} : ai_step X M (.putfield 177) pc L (.int x :: .ref 89 :: r) (HM P w T) cs sl = some (pc + 3, L, r, HM P (u_m_kind w x) T, cs, sl) := by
  simp only [ai_step, hM]
  rfl
theorem PFM_8_180_89 {M : ai_M} (hM : ai_cl M = 8) {X : List (List Int32)} {pc : Nat} {L : ai_L} {r : List Value} {P : Nat → ai_E} {w : WM} {T : ai_H} {x : Int32} {cs sl : Nat} : ai_step X M (.putfield 180) pc L (.int x :: .ref 89 :: r) (HM P w T) cs sl = some (pc + 3, L, r, HM P (u_m_weight w x) T, cs, sl) := by
  simp only [ai_step, hM]
  rfl
theorem PFM_8_183_89 {M : ai_M} (hM : ai_cl M = 8) {X : List (List Int32)} {pc : Nat} {L : ai_L} {r : List Value} {P : Nat → ai_E} {w : WM} {T : ai_H} {x : Int32} {cs sl : Nat} : ai_step X M (.putfield 183) pc L (.int x :: .ref 89 :: r) (HM P w T) cs sl = some (pc + 3, L, r, HM P (u_m_volume w x) T, cs, sl) := by
  simp only [ai_step, hM]
  rfl
theorem PFM_8_186_89 {M : ai_M} (hM : ai_cl M = 8) {X : List (List Int32)} {pc : Nat} {L : ai_L} {r : List Value} {P : Nat → ai_E} {w : WM} {T : ai_H} {x : Int32} {cs sl : Nat} : ai_step X M (.putfield 186) pc L (.int x :: .ref 89 :: r) (HM P w T) cs sl = some (pc + 3, L, r, HM P (u_m_load w x) T, cs, sl) := by
  simp only [ai_step, hM]
  rfl
theorem PFM_8_189_89 {M : ai_M} (hM : ai_cl M = 8) {X : List (List Int32)} {pc : Nat} {L : ai_L} {r : List Value} {P : Nat → ai_E} {w : WM} {T : ai_H} {x : Int32} {cs sl : Nat} : ai_step X M (.putfield 189) pc L (.int x :: .ref 89 :: r) (HM P w T) cs sl = some (pc + 3, L, r, HM P (u_m_hour w x) T, cs, sl) := by
  simp only [ai_step, hM]
  rfl
theorem PFM_8_192_89 {M : ai_M} (hM : ai_cl M = 8) {X : List (List Int32)} {pc : Nat} {L : ai_L} {r : List Value} {P : Nat → ai_E} {w : WM} {T : ai_H} {x : Int32} {cs sl : Nat} : ai_step X M (.putfield 192) pc L (.int x :: .ref 89 :: r) (HM P w T) cs sl = some (pc + 3, L, r, HM P (u_m_torn w x) T, cs, sl) := by
  simp only [ai_step, hM]
  rfl
theorem PFM_8_201_89 {M : ai_M} (hM : ai_cl M = 8) {X : List (List Int32)} {pc : Nat} {L : ai_L} {r : List Value} {P : Nat → ai_E} {w : WM} {T : ai_H} {x : Int32} {cs sl : Nat} : ai_step X M (.putfield 201) pc L (.int x :: .ref 89 :: r) (HM P w T) cs sl = some (pc + 3, L, r, HM P (u_m_restsIn w x) T, cs, sl) := by
  simp only [ai_step, hM]
  rfl
theorem PFM_8_204_89 {M : ai_M} (hM : ai_cl M = 8) {X : List (List Int32)} {pc : Nat} {L : ai_L} {r : List Value} {P : Nat → ai_E} {w : WM} {T : ai_H} {x : Int32} {cs sl : Nat} : ai_step X M (.putfield 204) pc L (.int x :: .ref 89 :: r) (HM P w T) cs sl = some (pc + 3, L, r, HM P (u_m_down w x) T, cs, sl) := by
  simp only [ai_step, hM]
  rfl
theorem PFM_8_207_89 {M : ai_M} (hM : ai_cl M = 8) {X : List (List Int32)} {pc : Nat} {L : ai_L} {r : List Value} {P : Nat → ai_E} {w : WM} {T : ai_H} {x : Int32} {cs sl : Nat} : ai_step X M (.putfield 207) pc L (.int x :: .ref 89 :: r) (HM P w T) cs sl = some (pc + 3, L, r, HM P (u_m_broken w x) T, cs, sl) := by
  simp only [ai_step, hM]
  rfl
theorem PFM_8_210_89 {M : ai_M} (hM : ai_cl M = 8) {X : List (List Int32)} {pc : Nat} {L : ai_L} {r : List Value} {P : Nat → ai_E} {w : WM} {T : ai_H} {x : Int32} {cs sl : Nat} : ai_step X M (.putfield 210) pc L (.int x :: .ref 89 :: r) (HM P w T) cs sl = some (pc + 3, L, r, HM P (u_m_passes w x) T, cs, sl) := by
  simp only [ai_step, hM]
  rfl
theorem PFM_8_213_89 {M : ai_M} (hM : ai_cl M = 8) {X : List (List Int32)} {pc : Nat} {L : ai_L} {r : List Value} {P : Nat → ai_E} {w : WM} {T : ai_H} {x : Int32} {cs sl : Nat} : ai_step X M (.putfield 213) pc L (.int x :: .ref 89 :: r) (HM P w T) cs sl = some (pc + 3, L, r, HM P (u_m_stops w x) T, cs, sl) := by
  simp only [ai_step, hM]
  rfl
theorem PFM_8_282_89 {M : ai_M} (hM : ai_cl M = 8) {X : List (List Int32)} {pc : Nat} {L : ai_L} {r : List Value} {P : Nat → ai_E} {w : WM} {T : ai_H} {x : Int64} {cs sl : Nat} : ai_step X M (.putfield 282) pc L (.long x :: .ref 89 :: r) (HM P w T) cs sl = some (pc + 3, L, r, HM P (u_m_above w x) T, cs, sl) := by
  simp only [ai_step, hM]
  rfl
theorem PFM_8_298_89 {M : ai_M} (hM : ai_cl M = 8) {X : List (List Int32)} {pc : Nat} {L : ai_L} {r : List Value} {P : Nat → ai_E} {w : WM} {T : ai_H} {x : Int64} {cs sl : Nat} : ai_step X M (.putfield 298) pc L (.long x :: .ref 89 :: r) (HM P w T) cs sl = some (pc + 3, L, r, HM P (u_m_h w x) T, cs, sl) := by
  simp only [ai_step, hM]
  rfl
theorem PFX_0_9_81 {M : ai_M} (hM : ai_cl M = 0) {X : List (List Int32)} {pc : Nat} {L : ai_L} {r : List Value} {w : WX} {T : ai_H} {x : Int32} {cs sl : Nat} : ai_step X M (.putfield 9) pc L (.int x :: .ref 81 :: r) (HX w T) cs sl = some (pc + 3, L, r, HX (u_fall_weighs w x) T, cs, sl) := by
  simp only [ai_step, hM]
  rfl
theorem PFX_0_15_81 {M : ai_M} (hM : ai_cl M = 0) {X : List (List Int32)} {pc : Nat} {L : ai_L} {r : List Value} {w : WX} {T : ai_H} {x : Int32} {cs sl : Nat} : ai_step X M (.putfield 15) pc L (.int x :: .ref 81 :: r) (HX w T) cs sl = some (pc + 3, L, r, HX (u_fall_room w x) T, cs, sl) := by
  simp only [ai_step, hM]
  rfl
theorem PFX_0_18_81 {M : ai_M} (hM : ai_cl M = 0) {X : List (List Int32)} {pc : Nat} {L : ai_L} {r : List Value} {w : WX} {T : ai_H} {x : Int32} {cs sl : Nat} : ai_step X M (.putfield 18) pc L (.int x :: .ref 81 :: r) (HX w T) cs sl = some (pc + 3, L, r, HX (u_fall_force w x) T, cs, sl) := by
  simp only [ai_step, hM]
  rfl
theorem PFX_0_21_81 {M : ai_M} (hM : ai_cl M = 0) {X : List (List Int32)} {pc : Nat} {L : ai_L} {r : List Value} {w : WX} {T : ai_H} {x : Int32} {cs sl : Nat} : ai_step X M (.putfield 21) pc L (.int x :: .ref 81 :: r) (HX w T) cs sl = some (pc + 3, L, r, HX (u_fall_layer w x) T, cs, sl) := by
  simp only [ai_step, hM]
  rfl
theorem PFX_0_24_81 {M : ai_M} (hM : ai_cl M = 0) {X : List (List Int32)} {pc : Nat} {L : ai_L} {r : List Value} {w : WX} {T : ai_H} {x : Int32} {cs sl : Nat} : ai_step X M (.putfield 24) pc L (.int x :: .ref 81 :: r) (HX w T) cs sl = some (pc + 3, L, r, HX (u_fall_down w x) T, cs, sl) := by
  simp only [ai_step, hM]
  rfl
theorem PFX_0_27_81 {M : ai_M} (hM : ai_cl M = 0) {X : List (List Int32)} {pc : Nat} {L : ai_L} {r : List Value} {w : WX} {T : ai_H} {x : Int32} {cs sl : Nat} : ai_step X M (.putfield 27) pc L (.int x :: .ref 81 :: r) (HX w T) cs sl = some (pc + 3, L, r, HX (u_fall_broken w x) T, cs, sl) := by
  simp only [ai_step, hM]
  rfl
theorem PFX_0_30_81 {M : ai_M} (hM : ai_cl M = 0) {X : List (List Int32)} {pc : Nat} {L : ai_L} {r : List Value} {w : WX} {T : ai_H} {x : Int32} {cs sl : Nat} : ai_step X M (.putfield 30) pc L (.int x :: .ref 81 :: r) (HX w T) cs sl = some (pc + 3, L, r, HX (u_fall_stopper w x) T, cs, sl) := by
  simp only [ai_step, hM]
  rfl
theorem PFX_1_9_12 {M : ai_M} (hM : ai_cl M = 1) {X : List (List Int32)} {pc : Nat} {L : ai_L} {r : List Value} {w : WX} {T : ai_H} {x : Int32} {cs sl : Nat} : ai_step X M (.putfield 9) pc L (.int x :: .ref 12 :: r) (HX w T) cs sl = some (pc + 3, L, r, HX (u_s1lifts_count w x) T, cs, sl) := by
  simp only [ai_step, hM]
  rfl
theorem PFX_1_9_31 {M : ai_M} (hM : ai_cl M = 1) {X : List (List Int32)} {pc : Nat} {L : ai_L} {r : List Value} {w : WX} {T : ai_H} {x : Int32} {cs sl : Nat} : ai_step X M (.putfield 9) pc L (.int x :: .ref 31 :: r) (HX w T) cs sl = some (pc + 3, L, r, HX (u_s2lifts_count w x) T, cs, sl) := by
  simp only [ai_step, hM]
  rfl
theorem PFX_1_9_50 {M : ai_M} (hM : ai_cl M = 1) {X : List (List Int32)} {pc : Nat} {L : ai_L} {r : List Value} {w : WX} {T : ai_H} {x : Int32} {cs sl : Nat} : ai_step X M (.putfield 9) pc L (.int x :: .ref 50 :: r) (HX w T) cs sl = some (pc + 3, L, r, HX (u_s3lifts_count w x) T, cs, sl) := by
  simp only [ai_step, hM]
  rfl
theorem PFX_1_9_69 {M : ai_M} (hM : ai_cl M = 1) {X : List (List Int32)} {pc : Nat} {L : ai_L} {r : List Value} {w : WX} {T : ai_H} {x : Int32} {cs sl : Nat} : ai_step X M (.putfield 9) pc L (.int x :: .ref 69 :: r) (HX w T) cs sl = some (pc + 3, L, r, HX (u_s4lifts_count w x) T, cs, sl) := by
  simp only [ai_step, hM]
  rfl
theorem PFX_2_9_1 {M : ai_M} (hM : ai_cl M = 2) {X : List (List Int32)} {pc : Nat} {L : ai_L} {r : List Value} {w : WX} {T : ai_H} {x : Int32} {cs sl : Nat} : ai_step X M (.putfield 9) pc L (.int x :: .ref 1 :: r) (HX w T) cs sl = some (pc + 3, L, r, HX (u_s1_cells w x) T, cs, sl) := by
  simp only [ai_step, hM]
  rfl
theorem PFX_2_9_20 {M : ai_M} (hM : ai_cl M = 2) {X : List (List Int32)} {pc : Nat} {L : ai_L} {r : List Value} {w : WX} {T : ai_H} {x : Int32} {cs sl : Nat} : ai_step X M (.putfield 9) pc L (.int x :: .ref 20 :: r) (HX w T) cs sl = some (pc + 3, L, r, HX (u_s2_cells w x) T, cs, sl) := by
  simp only [ai_step, hM]
  rfl
theorem PFX_2_9_39 {M : ai_M} (hM : ai_cl M = 2) {X : List (List Int32)} {pc : Nat} {L : ai_L} {r : List Value} {w : WX} {T : ai_H} {x : Int32} {cs sl : Nat} : ai_step X M (.putfield 9) pc L (.int x :: .ref 39 :: r) (HX w T) cs sl = some (pc + 3, L, r, HX (u_s3_cells w x) T, cs, sl) := by
  simp only [ai_step, hM]
  rfl
theorem PFX_2_9_58 {M : ai_M} (hM : ai_cl M = 2) {X : List (List Int32)} {pc : Nat} {L : ai_L} {r : List Value} {w : WX} {T : ai_H} {x : Int32} {cs sl : Nat} : ai_step X M (.putfield 9) pc L (.int x :: .ref 58 :: r) (HX w T) cs sl = some (pc + 3, L, r, HX (u_s4_cells w x) T, cs, sl) := by
  simp only [ai_step, hM]
  rfl
theorem PFX_2_15_1 {M : ai_M} (hM : ai_cl M = 2) {X : List (List Int32)} {pc : Nat} {L : ai_L} {r : List Value} {w : WX} {T : ai_H} {x : Int32} {cs sl : Nat} : ai_step X M (.putfield 15) pc L (.int x :: .ref 1 :: r) (HX w T) cs sl = some (pc + 3, L, r, HX (u_s1_hour w x) T, cs, sl) := by
  simp only [ai_step, hM]
  rfl
theorem PFX_2_15_20 {M : ai_M} (hM : ai_cl M = 2) {X : List (List Int32)} {pc : Nat} {L : ai_L} {r : List Value} {w : WX} {T : ai_H} {x : Int32} {cs sl : Nat} : ai_step X M (.putfield 15) pc L (.int x :: .ref 20 :: r) (HX w T) cs sl = some (pc + 3, L, r, HX (u_s2_hour w x) T, cs, sl) := by
  simp only [ai_step, hM]
  rfl
theorem PFX_2_15_39 {M : ai_M} (hM : ai_cl M = 2) {X : List (List Int32)} {pc : Nat} {L : ai_L} {r : List Value} {w : WX} {T : ai_H} {x : Int32} {cs sl : Nat} : ai_step X M (.putfield 15) pc L (.int x :: .ref 39 :: r) (HX w T) cs sl = some (pc + 3, L, r, HX (u_s3_hour w x) T, cs, sl) := by
  simp only [ai_step, hM]
  rfl
theorem PFX_2_15_58 {M : ai_M} (hM : ai_cl M = 2) {X : List (List Int32)} {pc : Nat} {L : ai_L} {r : List Value} {w : WX} {T : ai_H} {x : Int32} {cs sl : Nat} : ai_step X M (.putfield 15) pc L (.int x :: .ref 58 :: r) (HX w T) cs sl = some (pc + 3, L, r, HX (u_s4_hour w x) T, cs, sl) := by
  simp only [ai_step, hM]
  rfl
theorem PFX_2_18_1 {M : ai_M} (hM : ai_cl M = 2) {X : List (List Int32)} {pc : Nat} {L : ai_L} {r : List Value} {w : WX} {T : ai_H} {x : Int32} {cs sl : Nat} : ai_step X M (.putfield 18) pc L (.int x :: .ref 1 :: r) (HX w T) cs sl = some (pc + 3, L, r, HX (u_s1_dams w x) T, cs, sl) := by
  simp only [ai_step, hM]
  rfl
theorem PFX_2_18_20 {M : ai_M} (hM : ai_cl M = 2) {X : List (List Int32)} {pc : Nat} {L : ai_L} {r : List Value} {w : WX} {T : ai_H} {x : Int32} {cs sl : Nat} : ai_step X M (.putfield 18) pc L (.int x :: .ref 20 :: r) (HX w T) cs sl = some (pc + 3, L, r, HX (u_s2_dams w x) T, cs, sl) := by
  simp only [ai_step, hM]
  rfl
theorem PFX_2_18_39 {M : ai_M} (hM : ai_cl M = 2) {X : List (List Int32)} {pc : Nat} {L : ai_L} {r : List Value} {w : WX} {T : ai_H} {x : Int32} {cs sl : Nat} : ai_step X M (.putfield 18) pc L (.int x :: .ref 39 :: r) (HX w T) cs sl = some (pc + 3, L, r, HX (u_s3_dams w x) T, cs, sl) := by
  simp only [ai_step, hM]
  rfl
theorem PFX_2_18_58 {M : ai_M} (hM : ai_cl M = 2) {X : List (List Int32)} {pc : Nat} {L : ai_L} {r : List Value} {w : WX} {T : ai_H} {x : Int32} {cs sl : Nat} : ai_step X M (.putfield 18) pc L (.int x :: .ref 58 :: r) (HX w T) cs sl = some (pc + 3, L, r, HX (u_s4_dams w x) T, cs, sl) := by
  simp only [ai_step, hM]
  rfl
theorem PFX_2_51_1 {M : ai_M} (hM : ai_cl M = 2) {X : List (List Int32)} {pc : Nat} {L : ai_L} {r : List Value} {w : WX} {T : ai_H} {x : Int32} {cs sl : Nat} : ai_step X M (.putfield 51) pc L (.int x :: .ref 1 :: r) (HX w T) cs sl = some (pc + 3, L, r, HX (u_s1_towns w x) T, cs, sl) := by
  simp only [ai_step, hM]
  rfl
theorem PFX_2_51_20 {M : ai_M} (hM : ai_cl M = 2) {X : List (List Int32)} {pc : Nat} {L : ai_L} {r : List Value} {w : WX} {T : ai_H} {x : Int32} {cs sl : Nat} : ai_step X M (.putfield 51) pc L (.int x :: .ref 20 :: r) (HX w T) cs sl = some (pc + 3, L, r, HX (u_s2_towns w x) T, cs, sl) := by
  simp only [ai_step, hM]
  rfl
theorem PFX_2_51_39 {M : ai_M} (hM : ai_cl M = 2) {X : List (List Int32)} {pc : Nat} {L : ai_L} {r : List Value} {w : WX} {T : ai_H} {x : Int32} {cs sl : Nat} : ai_step X M (.putfield 51) pc L (.int x :: .ref 39 :: r) (HX w T) cs sl = some (pc + 3, L, r, HX (u_s3_towns w x) T, cs, sl) := by
  simp only [ai_step, hM]
  rfl
theorem PFX_2_51_58 {M : ai_M} (hM : ai_cl M = 2) {X : List (List Int32)} {pc : Nat} {L : ai_L} {r : List Value} {w : WX} {T : ai_H} {x : Int32} {cs sl : Nat} : ai_step X M (.putfield 51) pc L (.int x :: .ref 58 :: r) (HX w T) cs sl = some (pc + 3, L, r, HX (u_s4_towns w x) T, cs, sl) := by
  simp only [ai_step, hM]
  rfl
theorem PFX_2_57_1 {M : ai_M} (hM : ai_cl M = 2) {X : List (List Int32)} {pc : Nat} {L : ai_L} {r : List Value} {w : WX} {T : ai_H} {x : Int32} {cs sl : Nat} : ai_step X M (.putfield 57) pc L (.int x :: .ref 1 :: r) (HX w T) cs sl = some (pc + 3, L, r, HX (u_s1_drops w x) T, cs, sl) := by
  simp only [ai_step, hM]
  rfl
theorem PFX_2_57_20 {M : ai_M} (hM : ai_cl M = 2) {X : List (List Int32)} {pc : Nat} {L : ai_L} {r : List Value} {w : WX} {T : ai_H} {x : Int32} {cs sl : Nat} : ai_step X M (.putfield 57) pc L (.int x :: .ref 20 :: r) (HX w T) cs sl = some (pc + 3, L, r, HX (u_s2_drops w x) T, cs, sl) := by
  simp only [ai_step, hM]
  rfl
theorem PFX_2_57_39 {M : ai_M} (hM : ai_cl M = 2) {X : List (List Int32)} {pc : Nat} {L : ai_L} {r : List Value} {w : WX} {T : ai_H} {x : Int32} {cs sl : Nat} : ai_step X M (.putfield 57) pc L (.int x :: .ref 39 :: r) (HX w T) cs sl = some (pc + 3, L, r, HX (u_s3_drops w x) T, cs, sl) := by
  simp only [ai_step, hM]
  rfl
theorem PFX_2_57_58 {M : ai_M} (hM : ai_cl M = 2) {X : List (List Int32)} {pc : Nat} {L : ai_L} {r : List Value} {w : WX} {T : ai_H} {x : Int32} {cs sl : Nat} : ai_step X M (.putfield 57) pc L (.int x :: .ref 58 :: r) (HX w T) cs sl = some (pc + 3, L, r, HX (u_s4_drops w x) T, cs, sl) := by
  simp only [ai_step, hM]
  rfl
theorem PFX_2_66_1 {M : ai_M} (hM : ai_cl M = 2) {X : List (List Int32)} {pc : Nat} {L : ai_L} {r : List Value} {w : WX} {T : ai_H} {x : Int32} {cs sl : Nat} : ai_step X M (.putfield 66) pc L (.int x :: .ref 1 :: r) (HX w T) cs sl = some (pc + 3, L, r, HX (u_s1_undos w x) T, cs, sl) := by
  simp only [ai_step, hM]
  rfl
theorem PFX_2_66_20 {M : ai_M} (hM : ai_cl M = 2) {X : List (List Int32)} {pc : Nat} {L : ai_L} {r : List Value} {w : WX} {T : ai_H} {x : Int32} {cs sl : Nat} : ai_step X M (.putfield 66) pc L (.int x :: .ref 20 :: r) (HX w T) cs sl = some (pc + 3, L, r, HX (u_s2_undos w x) T, cs, sl) := by
  simp only [ai_step, hM]
  rfl
theorem PFX_2_66_39 {M : ai_M} (hM : ai_cl M = 2) {X : List (List Int32)} {pc : Nat} {L : ai_L} {r : List Value} {w : WX} {T : ai_H} {x : Int32} {cs sl : Nat} : ai_step X M (.putfield 66) pc L (.int x :: .ref 39 :: r) (HX w T) cs sl = some (pc + 3, L, r, HX (u_s3_undos w x) T, cs, sl) := by
  simp only [ai_step, hM]
  rfl
theorem PFX_2_66_58 {M : ai_M} (hM : ai_cl M = 2) {X : List (List Int32)} {pc : Nat} {L : ai_L} {r : List Value} {w : WX} {T : ai_H} {x : Int32} {cs sl : Nat} : ai_step X M (.putfield 66) pc L (.int x :: .ref 58 :: r) (HX w T) cs sl = some (pc + 3, L, r, HX (u_s4_undos w x) T, cs, sl) := by
  simp only [ai_step, hM]
  rfl
theorem PFX_2_95_7 {M : ai_M} (hM : ai_cl M = 2) {X : List (List Int32)} {pc : Nat} {L : ai_L} {r : List Value} {w : WX} {T : ai_H} {x : Int32} {cs sl : Nat} : ai_step X M (.putfield 95) pc L (.int x :: .ref 7 :: r) (HX w T) cs sl = some (pc + 3, L, r, HX (u_s1things_count w x) T, cs, sl) := by
  simp only [ai_step, hM]
  rfl
theorem PFX_2_95_26 {M : ai_M} (hM : ai_cl M = 2) {X : List (List Int32)} {pc : Nat} {L : ai_L} {r : List Value} {w : WX} {T : ai_H} {x : Int32} {cs sl : Nat} : ai_step X M (.putfield 95) pc L (.int x :: .ref 26 :: r) (HX w T) cs sl = some (pc + 3, L, r, HX (u_s2things_count w x) T, cs, sl) := by
  simp only [ai_step, hM]
  rfl
theorem PFX_2_98_12 {M : ai_M} (hM : ai_cl M = 2) {X : List (List Int32)} {pc : Nat} {L : ai_L} {r : List Value} {w : WX} {T : ai_H} {x : Int32} {cs sl : Nat} : ai_step X M (.putfield 98) pc L (.int x :: .ref 12 :: r) (HX w T) cs sl = some (pc + 3, L, r, HX (u_s1lifts_count w x) T, cs, sl) := by
  simp only [ai_step, hM]
  rfl
theorem PFX_2_98_31 {M : ai_M} (hM : ai_cl M = 2) {X : List (List Int32)} {pc : Nat} {L : ai_L} {r : List Value} {w : WX} {T : ai_H} {x : Int32} {cs sl : Nat} : ai_step X M (.putfield 98) pc L (.int x :: .ref 31 :: r) (HX w T) cs sl = some (pc + 3, L, r, HX (u_s2lifts_count w x) T, cs, sl) := by
  simp only [ai_step, hM]
  rfl
theorem PFX_4_9_78 {M : ai_M} (hM : ai_cl M = 4) {X : List (List Int32)} {pc : Nat} {L : ai_L} {r : List Value} {w : WX} {T : ai_H} {x : Int32} {cs sl : Nat} : ai_step X M (.putfield 9) pc L (.int x :: .ref 78 :: r) (HX w T) cs sl = some (pc + 3, L, r, HX (u_text_length w x) T, cs, sl) := by
  simp only [ai_step, hM]
  rfl
theorem PFX_4_15_78 {M : ai_M} (hM : ai_cl M = 4) {X : List (List Int32)} {pc : Nat} {L : ai_L} {r : List Value} {w : WX} {T : ai_H} {x : Int32} {cs sl : Nat} : ai_step X M (.putfield 15) pc L (.int x :: .ref 78 :: r) (HX w T) cs sl = some (pc + 3, L, r, HX (u_text_items w x) T, cs, sl) := by
  simp only [ai_step, hM]
  rfl
theorem PFX_4_18_78 {M : ai_M} (hM : ai_cl M = 4) {X : List (List Int32)} {pc : Nat} {L : ai_L} {r : List Value} {w : WX} {T : ai_H} {x : Int32} {cs sl : Nat} : ai_step X M (.putfield 18) pc L (.int x :: .ref 78 :: r) (HX w T) cs sl = some (pc + 3, L, r, HX (u_text_refusedItem w x) T, cs, sl) := by
  simp only [ai_step, hM]
  rfl
theorem PFX_4_28_78 {M : ai_M} (hM : ai_cl M = 4) {X : List (List Int32)} {pc : Nat} {L : ai_L} {r : List Value} {w : WX} {T : ai_H} {x : Int32} {cs sl : Nat} : ai_step X M (.putfield 28) pc L (.int x :: .ref 78 :: r) (HX w T) cs sl = some (pc + 3, L, r, HX (u_text_at w x) T, cs, sl) := by
  simp only [ai_step, hM]
  rfl
theorem PFX_5_9_7 {M : ai_M} (hM : ai_cl M = 5) {X : List (List Int32)} {pc : Nat} {L : ai_L} {r : List Value} {w : WX} {T : ai_H} {x : Int32} {cs sl : Nat} : ai_step X M (.putfield 9) pc L (.int x :: .ref 7 :: r) (HX w T) cs sl = some (pc + 3, L, r, HX (u_s1things_count w x) T, cs, sl) := by
  simp only [ai_step, hM]
  rfl
theorem PFX_5_9_26 {M : ai_M} (hM : ai_cl M = 5) {X : List (List Int32)} {pc : Nat} {L : ai_L} {r : List Value} {w : WX} {T : ai_H} {x : Int32} {cs sl : Nat} : ai_step X M (.putfield 9) pc L (.int x :: .ref 26 :: r) (HX w T) cs sl = some (pc + 3, L, r, HX (u_s2things_count w x) T, cs, sl) := by
  simp only [ai_step, hM]
  rfl
theorem PFX_5_9_45 {M : ai_M} (hM : ai_cl M = 5) {X : List (List Int32)} {pc : Nat} {L : ai_L} {r : List Value} {w : WX} {T : ai_H} {x : Int32} {cs sl : Nat} : ai_step X M (.putfield 9) pc L (.int x :: .ref 45 :: r) (HX w T) cs sl = some (pc + 3, L, r, HX (u_s3things_count w x) T, cs, sl) := by
  simp only [ai_step, hM]
  rfl
theorem PFX_5_9_64 {M : ai_M} (hM : ai_cl M = 5) {X : List (List Int32)} {pc : Nat} {L : ai_L} {r : List Value} {w : WX} {T : ai_H} {x : Int32} {cs sl : Nat} : ai_step X M (.putfield 9) pc L (.int x :: .ref 64 :: r) (HX w T) cs sl = some (pc + 3, L, r, HX (u_s4things_count w x) T, cs, sl) := by
  simp only [ai_step, hM]
  rfl
theorem PFX_7_61_0 {M : ai_M} (hM : ai_cl M = 7) {X : List (List Int32)} {pc : Nat} {L : ai_L} {r : List Value} {w : WX} {T : ai_H} {x : Int64} {cs sl : Nat} : ai_step X M (.putfield 61) pc L (.long x :: .ref 0 :: r) (HX w T) cs sl = some (pc + 3, L, r, HX (u_f_above w x) T, cs, sl) := by
  simp only [ai_step, hM]
  rfl
theorem PFX_7_65_0 {M : ai_M} (hM : ai_cl M = 7) {X : List (List Int32)} {pc : Nat} {L : ai_L} {r : List Value} {w : WX} {T : ai_H} {x : Int64} {cs sl : Nat} : ai_step X M (.putfield 65) pc L (.long x :: .ref 0 :: r) (HX w T) cs sl = some (pc + 3, L, r, HX (u_f_below w x) T, cs, sl) := by
  simp only [ai_step, hM]
  rfl
theorem PFX_7_68_0 {M : ai_M} (hM : ai_cl M = 7) {X : List (List Int32)} {pc : Nat} {L : ai_L} {r : List Value} {w : WX} {T : ai_H} {x : Int32} {cs sl : Nat} : ai_step X M (.putfield 68) pc L (.int x :: .ref 0 :: r) (HX w T) cs sl = some (pc + 3, L, r, HX (u_f_refusedBad w x) T, cs, sl) := by
  simp only [ai_step, hM]
  rfl
theorem PFX_7_72_0 {M : ai_M} (hM : ai_cl M = 7) {X : List (List Int32)} {pc : Nat} {L : ai_L} {r : List Value} {w : WX} {T : ai_H} {x : Int32} {cs sl : Nat} : ai_step X M (.putfield 72) pc L (.int x :: .ref 0 :: r) (HX w T) cs sl = some (pc + 3, L, r, HX (u_f_refusedNo w x) T, cs, sl) := by
  simp only [ai_step, hM]
  rfl
theorem PFX_7_75_0 {M : ai_M} (hM : ai_cl M = 7) {X : List (List Int32)} {pc : Nat} {L : ai_L} {r : List Value} {w : WX} {T : ai_H} {x : Int32} {cs sl : Nat} : ai_step X M (.putfield 75) pc L (.int x :: .ref 0 :: r) (HX w T) cs sl = some (pc + 3, L, r, HX (u_f_refusedFull w x) T, cs, sl) := by
  simp only [ai_step, hM]
  rfl
theorem PFX_7_146_78 {M : ai_M} (hM : ai_cl M = 7) {X : List (List Int32)} {pc : Nat} {L : ai_L} {r : List Value} {w : WX} {T : ai_H} {x : Int32} {cs sl : Nat} : ai_step X M (.putfield 146) pc L (.int x :: .ref 78 :: r) (HX w T) cs sl = some (pc + 3, L, r, HX (u_text_length w x) T, cs, sl) := by
  simp only [ai_step, hM]
  rfl
theorem Eimg0 {x : Int32} (h : x = 0) (w : WX) (T : ai_H) : ai_ev D1 mf_imageAt 0 [some (.ref 0), some (.int x)] [] (HX w T) 0 0 (some (.ref 39), HX w T) := by
  refine ev_go 1 (pc' := 1) (L' := [some (.ref 0), some (.int x)]) (st' := [.int x]) (h' := HX w T) (cs' := 0) (sl' := 0) rfl ?_
  refine ev_if_ne (t := 11) rfl rfl (fun c9 => absurd h c9) (fun _ => ?_)
  refine ev_go 3 (pc' := 15) (L' := [some (.ref 0), some (.int x)]) (st' := [.ref 39]) (h' := HX w T) (cs' := 0) (sl' := 0) rfl ?_
  exact ev_end rfl
theorem Eimg1 {x : Int32} (h : ¬ x = 0) (w : WX) (T : ai_H) : ai_ev D1 mf_imageAt 0 [some (.ref 0), some (.int x)] [] (HX w T) 0 0 (some (.ref 58), HX w T) := by
  refine ev_go 1 (pc' := 1) (L' := [some (.ref 0), some (.int x)]) (st' := [.int x]) (h' := HX w T) (cs' := 0) (sl' := 0) rfl ?_
  refine ev_if_ne (t := 11) rfl rfl (fun _ => ?_) (fun c9 => absurd c9 h)
  refine ev_go 2 (pc' := 15) (L' := [some (.ref 0), some (.int x)]) (st' := [.ref 58]) (h' := HX w T) (cs' := 0) (sl' := 0) rfl ?_
  exact ev_end rfl
def ai_nm (x : Int32) : Nat :=
  if x = 0 then 2 else
  if x = 1 then 3 else
  if x = 2 then 4 else
  if x = 3 then 5 else
  if x = 4 then 6 else
  if x = 5 then 7 else
  if x = 6 then 8 else
  9
set_option maxRecDepth 100000 in
theorem Enam (x : Int32) (hh : ai_H) : ai_ev D1 mtxt_nameOf 0 [some (.int x)] [] hh 0 0 (some (.retAddr (ai_nm x)), hh) := by
  unfold ai_nm
  refine ev_go 1 (pc' := 1) (L' := [some (.int x)]) (st' := [.int x]) (h' := hh) (cs' := 0) (sl' := 0) rfl ?_
  by_cases hs0 : x = 0
  · rw [if_pos hs0]
    refine ev_swi (k := 0) (t := 44) rfl hs0 (by decide) (by decide) rfl rfl ?_
    refine ev_go 1 (pc' := 46) (L' := [some (.int x)]) (st' := [.retAddr 2]) (h' := hh) (cs' := 0) (sl' := 0) rfl ?_
    exact ev_end rfl
  rw [if_neg hs0]
  by_cases hs1 : x = 1
  · rw [if_pos hs1]
    refine ev_swi (k := 1) (t := 47) rfl hs1 (by decide) (by decide) rfl rfl ?_
    refine ev_go 1 (pc' := 49) (L' := [some (.int x)]) (st' := [.retAddr 3]) (h' := hh) (cs' := 0) (sl' := 0) rfl ?_
    exact ev_end rfl
  rw [if_neg hs1]
  by_cases hs2 : x = 2
  · rw [if_pos hs2]
    refine ev_swi (k := 2) (t := 50) rfl hs2 (by decide) (by decide) rfl rfl ?_
    refine ev_go 1 (pc' := 52) (L' := [some (.int x)]) (st' := [.retAddr 4]) (h' := hh) (cs' := 0) (sl' := 0) rfl ?_
    exact ev_end rfl
  rw [if_neg hs2]
  by_cases hs3 : x = 3
  · rw [if_pos hs3]
    refine ev_swi (k := 3) (t := 53) rfl hs3 (by decide) (by decide) rfl rfl ?_
    refine ev_go 1 (pc' := 55) (L' := [some (.int x)]) (st' := [.retAddr 5]) (h' := hh) (cs' := 0) (sl' := 0) rfl ?_
    exact ev_end rfl
  rw [if_neg hs3]
  by_cases hs4 : x = 4
  · rw [if_pos hs4]
    refine ev_swi (k := 4) (t := 56) rfl hs4 (by decide) (by decide) rfl rfl ?_
    refine ev_go 1 (pc' := 58) (L' := [some (.int x)]) (st' := [.retAddr 6]) (h' := hh) (cs' := 0) (sl' := 0) rfl ?_
    exact ev_end rfl
  rw [if_neg hs4]
  by_cases hs5 : x = 5
  · rw [if_pos hs5]
    refine ev_swi (k := 5) (t := 59) rfl hs5 (by decide) (by decide) rfl rfl ?_
    refine ev_go 1 (pc' := 61) (L' := [some (.int x)]) (st' := [.retAddr 7]) (h' := hh) (cs' := 0) (sl' := 0) rfl ?_
    exact ev_end rfl
  rw [if_neg hs5]
  by_cases hs6 : x = 6
  · rw [if_pos hs6]
    refine ev_swi (k := 6) (t := 62) rfl hs6 (by decide) (by decide) rfl rfl ?_
    refine ev_go 1 (pc' := 64) (L' := [some (.int x)]) (st' := [.retAddr 8]) (h' := hh) (cs' := 0) (sl' := 0) rfl ?_
    exact ev_end rfl
  rw [if_neg hs6]
  refine ev_swo (t := 65) (lo := 0) (n := 7) rfl (sw_out 0 7 (fun k hk => by match k, hk with | 0, _ => exact hs0 | 1, _ => exact hs1 | 2, _ => exact hs2 | 3, _ => exact hs3 | 4, _ => exact hs4 | 5, _ => exact hs5 | 6, _ => exact hs6 | k + 7, hk => exact absurd hk (by omega))) ⟨rfl, by decide⟩ rfl ?_
  refine ev_go 1 (pc' := 67) (L' := [some (.int x)]) (st' := [.retAddr 9]) (h' := hh) (cs' := 0) (sl' := 0) rfl ?_
  exact ev_end rfl
