/-! the methods as functions, written by a program of the verifier -/
def Fm_in (x4 : Int64) (x5 : Int64) (x6 : Int64) : Option (Int32) :=
  if (lg_cmp x4 x5) < 0 then
    some (0)
  else
    if 0 < (lg_cmp x4 x6) then
      some (0)
    else
      some (1)
def Gm_begins_89 : Nat → Nat → Int32 → Int32 → Int32 → WM → Option (WM)
  | 0, _, _, _, _, _ => none
  | n + 1, 0, y11, y12, y13, w =>
    if 149 ≤ y13 then
      ai_bd (ai_up (a_m_w w) (y11 + 0) y12) fun q14 =>
      ai_bd (ai_up q14 (y11 + 8) 10) fun q15 =>
      ai_bd (ai_up q15 ((y11 + 8) + 1) 13) fun q16 =>
      ai_bd (ai_up q16 ((y11 + 8) + 2) 16) fun q17 =>
      ai_bd (ai_up q17 ((y11 + 8) + 3) 20) fun q18 =>
      Gm_begins_89 n 1 y11 y12 0 (u_m_w (u_m_w (u_m_w (u_m_w (u_m_w w q14) q15) q16) q17) q18)
    else
      ai_bd (ai_up (a_m_w w) (y11 + y13) 0) fun q19 =>
      Gm_begins_89 n 0 y11 y12 (y13 + 1) (u_m_w w q19)
  | n + 1, 1, y20, y21, y22, w =>
    if 24 ≤ y22 then
      some (w)
    else
      ai_bd (ai_up (a_m_w w) ((y20 + 40) + y22) 3) fun q23 =>
      Gm_begins_89 n 1 y20 y21 (y22 + 1) (u_m_w w q23)
  | _ + 1, _ + 2, _, _, _, _ => none
def Fm_begins_89 (n : Nat) (x9 : Int32) (x10 : Int32) (w : WM) : Option (WM) :=
  Gm_begins_89 n 0 x9 x10 0 w
def Fm_seaTo_89 (n : Nat) (x2 : Int32) (x3 : Int32) (w : WM) : Option (Int32 × WM) :=
  ai_bd (Fm_in (x3).toInt64 1 6) fun c7 =>
  if c7 = 0 then
    some ((-2), w)
  else
    ai_bd (ai_ix (a_m_w w) (x2 + 0)) fun v8 =>
    ai_bd (Fm_begins_89 n x2 x3 w) fun c24 =>
    some (v8, c24)
def Fm_met_89 (x26 : Int32) (w : WM) : Option (Int32 × WM) :=
  if x26 = (-2) then
    ai_bd (ai_ix (a_m_refused w) ((-2) - x26)) fun v27 =>
    ai_bd (ai_up (a_m_refused w) ((-2) - x26) (v27 + 1)) fun q28 =>
    some (x26, (u_m_refused w q28))
  else
    if x26 = (-3) then
      ai_bd (ai_ix (a_m_refused w) ((-2) - x26)) fun v29 =>
      ai_bd (ai_up (a_m_refused w) ((-2) - x26) (v29 + 1)) fun q30 =>
      some (x26, (u_m_refused w q30))
    else
      if x26 = (-4) then
        ai_bd (ai_ix (a_m_refused w) ((-2) - x26)) fun v31 =>
        ai_bd (ai_up (a_m_refused w) ((-2) - x26) (v31 + 1)) fun q32 =>
        some (x26, (u_m_refused w q32))
      else
        some (x26, w)
def Fm_sea_89 (n : Nat) (x1 : Int32) (w : WM) : Option (Int32 × WM) :=
  ai_bd (Fm_seaTo_89 n 0 x1 w) fun c25 =>
  ai_bd (Fm_met_89 c25.1 c25.2) fun c33 =>
  some (c33.1, c33.2)
def Fm_isLayer (x39 : Int32) : Option (Int32) :=
  ai_bd (Fm_in (x39).toInt64 0 3) fun c40 =>
  if c40 = 0 ∨ c40 = 1 then some (c40) else none
def Fm_becomes_89 (x43 : Int32) (x44 : Int32) (w : WM) : Option (Int32 × WM) :=
  ai_bd (ai_ix (a_m_w w) x43) fun v45 =>
  ai_bd (ai_up (a_m_w w) x43 x44) fun q46 =>
  some (v45, (u_m_w w q46))
def Fm_waterTo_89 (x36 : Int32) (x37 : Int32) (x38 : Int32) (w : WM) : Option (Int32 × WM) :=
  ai_bd (Fm_isLayer x37) fun c41 =>
  if c41 = 0 then
    some ((-2), w)
  else
    ai_bd (Fm_in (x38).toInt64 1 99) fun c42 =>
    if c42 = 0 then
      some ((-2), w)
    else
      if x37 = 0 then
        if x37 = 3 then
          ai_bd (Fm_becomes_89 ((x36 + 8) + x37) x38 w) fun c47 =>
          some (c47.1, c47.2)
        else
          ai_bd (ai_ix (a_m_w w) (((x36 + 8) + x37) + 1)) fun v48 =>
          if v48 ≤ x38 then
            some ((-3), w)
          else
            ai_bd (Fm_becomes_89 ((x36 + 8) + x37) x38 w) fun c49 =>
            some (c49.1, c49.2)
      else
        ai_bd (ai_ix (a_m_w w) (((x36 + 8) + x37) - 1)) fun v50 =>
        if x38 ≤ v50 then
          some ((-3), w)
        else
          if x37 = 3 then
            ai_bd (Fm_becomes_89 ((x36 + 8) + x37) x38 w) fun c51 =>
            some (c51.1, c51.2)
          else
            ai_bd (ai_ix (a_m_w w) (((x36 + 8) + x37) + 1)) fun v52 =>
            if v52 ≤ x38 then
              some ((-3), w)
            else
              ai_bd (Fm_becomes_89 ((x36 + 8) + x37) x38 w) fun c53 =>
              some (c53.1, c53.2)
def Fm_water_89 (x34 : Int32) (x35 : Int32) (w : WM) : Option (Int32 × WM) :=
  ai_bd (Fm_waterTo_89 0 x34 x35 w) fun c54 =>
  ai_bd (Fm_met_89 c54.1 c54.2) fun c55 =>
  some (c55.1, c55.2)
def Fm_isCellOf_89 (x64 : Int32) (x65 : Int32) (w : WM) : Option (Int32 × WM) :=
  ai_bd (ai_ix (a_m_w w) (x64 + 0)) fun v66 =>
  ai_bd (Fm_in (x65).toInt64 0 ((v66 - 1)).toInt64) fun c67 =>
  if c67 = 0 ∨ c67 = 1 then some (c67, w) else none
def Fm_thickTo_89 (x59 : Int32) (x60 : Int32) (x61 : Int32) (x62 : Int32) (w : WM) : Option (Int32 × WM) :=
  ai_bd (Fm_isLayer x60) fun c63 =>
  if c63 = 0 then
    some ((-2), w)
  else
    ai_bd (Fm_isCellOf_89 x59 x61 w) fun c68 =>
    if c68.1 = 0 then
      some ((-2), c68.2)
    else
      ai_bd (Fm_in (x62).toInt64 0 9) fun c69 =>
      if c69 = 0 then
        some ((-2), c68.2)
      else
        ai_bd (Fm_becomes_89 (((x59 + 40) + (6 * x60)) + x61) x62 c68.2) fun c70 =>
        some (c70.1, c70.2)
def Fm_thick_89 (x56 : Int32) (x57 : Int32) (x58 : Int32) (w : WM) : Option (Int32 × WM) :=
  ai_bd (Fm_thickTo_89 0 x56 x57 x58 w) fun c71 =>
  ai_bd (Fm_met_89 c71.1 c71.2) fun c72 =>
  some (c72.1, c72.2)
def Fm_skinTo_89 (x75 : Int32) (x76 : Int32) (x77 : Int32) (w : WM) : Option (Int32 × WM) :=
  ai_bd (Fm_in (x76).toInt64 0 2) fun c78 =>
  if c78 = 0 then
    some ((-2), w)
  else
    ai_bd (Fm_in (x77).toInt64 0 99) fun c79 =>
    if c79 = 0 then
      some ((-2), w)
    else
      ai_bd (Fm_becomes_89 ((x75 + 64) + x76) x77 w) fun c80 =>
      some (c80.1, c80.2)
def Fm_skin_89 (x73 : Int32) (x74 : Int32) (w : WM) : Option (Int32 × WM) :=
  ai_bd (Fm_skinTo_89 0 x73 x74 w) fun c81 =>
  ai_bd (Fm_met_89 c81.1 c81.2) fun c82 =>
  some (c82.1, c82.2)
def Fm_badAs_89 (x87 : Int32) (w : WM) : Option (Int32 × WM) :=
  ai_bd (ai_ix (a_m_refused w) 0) fun v88 =>
  ai_bd (ai_up (a_m_refused w) 0 (v88 + 1)) fun q89 =>
  some (x87, (u_m_refused w q89))
def Fm_tide_89 (x83 : Int32) (x84 : Int32) (x85 : Int32) (w : WM) : Option (Int32 × WM) :=
  ai_bd (Fm_isLayer x83) fun c86 =>
  if c86 = 0 then
    ai_bd (Fm_badAs_89 (-10) w) fun c90 =>
    some (c90.1, c90.2)
  else
    ai_bd (Fm_in (x84).toInt64 0 5) fun c91 =>
    if c91 = 0 then
      ai_bd (Fm_badAs_89 (-10) w) fun c92 =>
      some (c92.1, c92.2)
    else
      ai_bd (Fm_in (x85).toInt64 (-2) 2) fun c93 =>
      if c93 = 0 then
        ai_bd (Fm_badAs_89 (-10) w) fun c94 =>
        some (c94.1, c94.2)
      else
        ai_bd (Fm_becomes_89 ((16 + (6 * x83)) + x84) x85 w) fun c95 =>
        some (c95.1, c95.2)
def Fm_current_89 (x96 : Int32) (x97 : Int32) (w : WM) : Option (Int32 × WM) :=
  ai_bd (Fm_isLayer x96) fun c98 =>
  if c98 = 0 then
    ai_bd (Fm_badAs_89 (-10) w) fun c99 =>
    some (c99.1, c99.2)
  else
    ai_bd (Fm_in (x97).toInt64 (-1) 1) fun c100 =>
    if c100 = 0 then
      ai_bd (Fm_badAs_89 (-10) w) fun c101 =>
      some (c101.1, c101.2)
    else
      ai_bd (Fm_becomes_89 (12 + x96) x97 w) fun c102 =>
      some (c102.1, c102.2)
def Fm_thingTo_89 (x106 : Int32) (x107 : Int32) (x108 : Int32) (x109 : Int32) (w : WM) : Option (Int32 × WM) :=
  ai_bd (Fm_in (x107).toInt64 0 5) fun c110 =>
  if c110 = 0 then
    some ((-2), w)
  else
    ai_bd (Fm_in (x108).toInt64 1 99) fun c111 =>
    if c111 = 0 then
      some ((-2), w)
    else
      ai_bd (Fm_in (x109).toInt64 1 9) fun c112 =>
      if c112 = 0 then
        some ((-2), w)
      else
        ai_bd (ai_ix (a_m_w w) (x106 + 2)) fun v113 =>
        if v113 = 6 then
          some ((-4), w)
        else
          ai_bd (ai_up (a_m_w w) ((x106 + 67) + v113) x107) fun q114 =>
          ai_bd (ai_up q114 ((x106 + 73) + v113) x108) fun q115 =>
          ai_bd (ai_up q115 ((x106 + 79) + v113) x109) fun q116 =>
          ai_bd (ai_up q116 ((x106 + 85) + v113) 0) fun q117 =>
          ai_bd (ai_ix q117 (x106 + 2)) fun v118 =>
          ai_bd (ai_up q117 (x106 + 2) (v118 + 1)) fun q119 =>
          some (v113, (u_m_w (u_m_w (u_m_w (u_m_w (u_m_w w q114) q115) q116) q117) q119))
def Fm_thing_89 (x103 : Int32) (x104 : Int32) (x105 : Int32) (w : WM) : Option (Int32 × WM) :=
  ai_bd (Fm_thingTo_89 0 x103 x104 x105 w) fun c120 =>
  ai_bd (Fm_met_89 c120.1 c120.2) fun c121 =>
  some (c121.1, c121.2)
def Fm_isThing_89 (x124 : Int32) (w : WM) : Option (Int32 × WM) :=
  ai_bd (ai_ix (a_m_w w) 2) fun v125 =>
  ai_bd (Fm_in (x124).toInt64 0 ((v125 - 1)).toInt64) fun c126 =>
  if c126 = 0 ∨ c126 = 1 then some (c126, w) else none
def Fm_bad_89 (w : WM) : Option (Int32 × WM) :=
  ai_bd (Fm_met_89 (-2) w) fun c128 =>
  some (c128.1, c128.2)
def Fm_ballast_89 (x122 : Int32) (x123 : Int32) (w : WM) : Option (Int32 × WM) :=
  ai_bd (Fm_isThing_89 x122 w) fun c127 =>
  if c127.1 = 0 then
    ai_bd (Fm_bad_89 c127.2) fun c129 =>
    some (c129.1, c129.2)
  else
    ai_bd (Fm_in (x123).toInt64 0 99) fun c130 =>
    if c130 = 0 then
      ai_bd (Fm_bad_89 c127.2) fun c131 =>
      some (c131.1, c131.2)
    else
      ai_bd (Fm_becomes_89 (85 + x122) x123 c127.2) fun c132 =>
      some (c132.1, c132.2)
def Fm_isPlaceOf_89 (x140 : Int32) (x141 : Int32) (w : WM) : Option (Int32 × WM) :=
  if x141 < 0 then
    some (0, w)
  else
    ai_bd (Fm_isCellOf_89 x140 (x141 / 10) w) fun c142 =>
    if c142.1 = 0 then
      some (0, c142.2)
    else
      ai_bd (Fm_isLayer (x141 - x141 / 10 * 10)) fun c143 =>
      if c143 = 0 then
        some (0, c142.2)
      else
        some (1, c142.2)
def Fm_liftTo_89 (x136 : Int32) (x137 : Int32) (x138 : Int32) (x139 : Int32) (w : WM) : Option (Int32 × WM) :=
  ai_bd (Fm_isPlaceOf_89 x136 x137 w) fun c144 =>
  if c144.1 = 0 then
    some ((-2), c144.2)
  else
    ai_bd (Fm_isPlaceOf_89 x136 x138 c144.2) fun c145 =>
    if c145.1 = 0 then
      some ((-2), c145.2)
    else
      if x137 = x138 then
        some ((-2), c145.2)
      else
        ai_bd (Fm_in (x139).toInt64 1 9) fun c146 =>
        if c146 = 0 then
          some ((-2), c145.2)
        else
          ai_bd (ai_ix (a_m_w c145.2) (x136 + 3)) fun v147 =>
          if v147 = 10 then
            some ((-4), c145.2)
          else
            ai_bd (ai_up (a_m_w c145.2) ((x136 + 91) + v147) x137) fun q148 =>
            ai_bd (ai_up q148 ((x136 + 101) + v147) x138) fun q149 =>
            ai_bd (ai_up q149 ((x136 + 111) + v147) x139) fun q150 =>
            ai_bd (ai_ix q150 (x136 + 3)) fun v151 =>
            ai_bd (ai_up q150 (x136 + 3) (v151 + 1)) fun q152 =>
            some (v147, (u_m_w (u_m_w (u_m_w (u_m_w c145.2 q148) q149) q150) q152))
def Fm_lift_89 (x133 : Int32) (x134 : Int32) (x135 : Int32) (w : WM) : Option (Int32 × WM) :=
  ai_bd (Fm_liftTo_89 0 x133 x134 x135 w) fun c153 =>
  ai_bd (Fm_met_89 c153.1 c153.2) fun c154 =>
  some (c154.1, c154.2)
def Gm_townTo_89 : Nat → Nat → Int32 → Int32 → Int32 → Int32 → WM → Option (Int32 × WM)
  | 0, _, _, _, _, _, _ => none
  | n + 1, 0, y160, y161, y162, y163, w =>
    if y162 ≤ y163 then
      if y162 = 6 then
        some ((-4), w)
      else
        ai_bd (ai_up (a_m_w w) ((y160 + 121) + y162) y161) fun q164 =>
        ai_bd (ai_ix q164 (y160 + 4)) fun v165 =>
        ai_bd (ai_up q164 (y160 + 4) (v165 + 1)) fun q166 =>
        some (y162, (u_m_w (u_m_w w q164) q166))
    else
      ai_bd (ai_ix (a_m_w w) ((y160 + 121) + y163)) fun v167 =>
      if v167 = y161 then
        some ((-3), w)
      else
        Gm_townTo_89 n 0 y160 y161 y162 (y163 + 1) w
  | _ + 1, _ + 1, _, _, _, _, _ => none
def Fm_townTo_89 (n : Nat) (x156 : Int32) (x157 : Int32) (w : WM) : Option (Int32 × WM) :=
  ai_bd (Fm_isPlaceOf_89 x156 x157 w) fun c158 =>
  if c158.1 = 0 then
    some ((-2), c158.2)
  else
    ai_bd (ai_ix (a_m_w c158.2) (x156 + 4)) fun v159 =>
    Gm_townTo_89 n 0 x156 x157 v159 0 c158.2
def Fm_town_89 (n : Nat) (x155 : Int32) (w : WM) : Option (Int32 × WM) :=
  ai_bd (Fm_townTo_89 n 0 x155 w) fun c168 =>
  ai_bd (Fm_met_89 c168.1 c168.2) fun c169 =>
  some (c169.1, c169.2)
def Fm_has (x178 : Int32) (x179 : Int32) : Option (Int32) :=
  if ((x178 >>> (x179 &&& 31)) &&& 1) = 1 then
    some (1)
  else
    some (0)
def Fm_damTo_89 (x172 : Int32) (x173 : Int32) (x174 : Int32) (w : WM) : Option (Int32 × WM) :=
  ai_bd (ai_ix (a_m_w w) (x172 + 0)) fun v175 =>
  ai_bd (Fm_in (x173).toInt64 0 ((v175 - 2)).toInt64) fun c176 =>
  if c176 = 0 then
    some ((-2), w)
  else
    ai_bd (ai_ix (a_m_w w) (x172 + 5)) fun v177 =>
    ai_bd (Fm_has v177 x173) fun c180 =>
    if c180 = x174 then
      some ((-3), w)
    else
      ai_bd (ai_ix (a_m_w w) (x172 + 5)) fun v181 =>
      ai_bd (ai_up (a_m_w w) (x172 + 5) (v181 ^^^ (1 <<< (x173 &&& 31)))) fun q182 =>
      some (1, (u_m_w w q182))
def Fm_dam_89 (x170 : Int32) (x171 : Int32) (w : WM) : Option (Int32 × WM) :=
  ai_bd (Fm_damTo_89 0 x170 x171 w) fun c183 =>
  ai_bd (Fm_met_89 c183.1 c183.2) fun c184 =>
  some (c184.1, c184.2)
def Fm_drop_89 (x185 : Int32) (x186 : Int32) (w : WM) : Option (Int32 × WM) :=
  ai_bd (Fm_isLayer x185) fun c187 =>
  if c187 = 0 then
    ai_bd (Fm_bad_89 w) fun c201 =>
    some (c201.1, c201.2)
  else
    ai_bd (ai_ix (a_m_w w) 6) fun v188 =>
    if v188 = 6 then
      ai_bd (Fm_met_89 (-4) w) fun c200 =>
      some (c200.1, c200.2)
    else
      ai_bd (ai_ix (a_m_w w) 6) fun v189 =>
      ai_bd (ai_up (a_m_w w) (127 + v189) x185) fun q190 =>
      ai_bd (ai_ix q190 6) fun v191 =>
      if x186 = 0 then
        ai_bd (ai_up q190 (133 + v191) 0) fun q192 =>
        ai_bd (ai_ix q192 6) fun v193 =>
        ai_bd (ai_up q192 6 (v193 + 1)) fun q194 =>
        ai_bd (ai_ix q194 6) fun v195 =>
        some (v195, (u_m_w (u_m_w (u_m_w w q190) q192) q194))
      else
        ai_bd (ai_up q190 (133 + v191) 1) fun q196 =>
        ai_bd (ai_ix q196 6) fun v197 =>
        ai_bd (ai_up q196 6 (v197 + 1)) fun q198 =>
        ai_bd (ai_ix q198 6) fun v199 =>
        some (v199, (u_m_w (u_m_w (u_m_w w q190) q196) q198))
def Fm_clean_89 (x202 : Int32) (w : WM) : Option (Int32 × WM) :=
  ai_bd (Fm_in (x202).toInt64 0 3) fun c203 =>
  if c203 = 0 then
    ai_bd (Fm_bad_89 w) fun c208 =>
    some (c208.1, c208.2)
  else
    if x202 = 0 then
      ai_bd (Fm_becomes_89 2 0 w) fun c207 =>
      some (c207.1, c207.2)
    else
      if x202 = 1 then
        ai_bd (Fm_becomes_89 3 0 w) fun c206 =>
        some (c206.1, c206.2)
      else
        if x202 = 2 then
          ai_bd (Fm_becomes_89 4 0 w) fun c205 =>
          some (c205.1, c205.2)
        else
          ai_bd (Fm_becomes_89 6 0 w) fun c204 =>
          some (c204.1, c204.2)
def Fm_type_89 (x209 : Int32) (w : WM) : Option (Int32 × WM) :=
  ai_bd (Fm_in (x209).toInt64 0 127) fun c210 =>
  if c210 = 0 then
    ai_bd (Fm_bad_89 w) fun c213 =>
    some (c213.1, c213.2)
  else
    if (a_m_texted w) = 150 then
      ai_bd (Fm_met_89 (-4) w) fun c212 =>
      some (c212.1, c212.2)
    else
      ai_bd (ai_up (a_m_text w) (a_m_texted w) x209) fun q211 =>
      some (((a_m_texted w) + 1), (u_m_texted (u_m_text w q211) ((a_m_texted w) + 1)))
def Fm_clear_89 (w : WM) : Option (Int32 × WM) :=
  some ((a_m_texted w), (u_m_texted w 0))
def Fm_byteAt_89 (x214 : Int32) (w : WM) : Option (Int32 × WM) :=
  if (a_m_texted w) ≤ x214 then
    some ((-1), w)
  else
    ai_bd (ai_ix (a_m_text w) x214) fun v215 =>
    some (v215, w)
def Gm_token_89 : Nat → Nat → WM → Option (WM)
  | 0, _, _ => none
  | n + 1, 0, w =>
    ai_bd (Fm_byteAt_89 (a_m_at w) w) fun c216 =>
    if c216.1 = 32 then
      Gm_token_89 n 0  (u_m_at c216.2 ((a_m_at c216.2) + 1))
    else
      ai_bd (Fm_byteAt_89 (a_m_at c216.2) (u_m_start c216.2 (a_m_at c216.2))) fun c217 =>
      ai_bd (Fm_in (c217.1).toInt64 97 122) fun c218 =>
      if c218 = 0 ∨ c218 = 1 then
        ai_bd (Fm_byteAt_89 (a_m_at c217.2) (u_m_isWord c217.2 c218)) fun c219 =>
        ai_bd (Fm_in (c219.1).toInt64 48 57) fun c220 =>
        if c220 = 0 ∨ c220 = 1 then
          if (a_m_texted c219.2) ≤ (a_m_at c219.2) then
            Gm_token_89 n 1  (u_m_at (u_m_isFigures c219.2 c220) ((a_m_at c219.2) + 0))
          else
            Gm_token_89 n 1  (u_m_at (u_m_isFigures c219.2 c220) ((a_m_at c219.2) + 1))
        else none
      else none
  | n + 1, 1, w =>
    if (a_m_isWord w) = 0 then
      if (a_m_isFigures w) = 0 then
        some (w)
      else
        ai_bd (Fm_byteAt_89 (a_m_at w) w) fun c221 =>
        ai_bd (Fm_in (c221.1).toInt64 48 57) fun c222 =>
        if c222 = 0 then
          some (c221.2)
        else
          Gm_token_89 n 1  (u_m_at c221.2 ((a_m_at c221.2) + 1))
    else
      ai_bd (Fm_byteAt_89 (a_m_at w) w) fun c223 =>
      ai_bd (Fm_in (c223.1).toInt64 97 122) fun c224 =>
      if c224 = 0 then
        if (a_m_isFigures c223.2) = 0 then
          some (c223.2)
        else
          ai_bd (Fm_byteAt_89 (a_m_at c223.2) c223.2) fun c225 =>
          ai_bd (Fm_in (c225.1).toInt64 48 57) fun c226 =>
          if c226 = 0 then
            some (c225.2)
          else
            Gm_token_89 n 1  (u_m_at c225.2 ((a_m_at c225.2) + 1))
      else
        Gm_token_89 n 1  (u_m_at c223.2 ((a_m_at c223.2) + 1))
  | _ + 1, _ + 2, _ => none
def Fm_token_89 (n : Nat) (w : WM) : Option (WM) :=
  Gm_token_89 n 0  w
def Fm_isNamed_89 (x231 : Int32) (x232 : Int32) (x233 : Int32) (x234 : Int32) (x235 : Int32) (w : WM) : Option (Int32 × WM) :=
  if x234 = 0 then
    if (a_m_isWord w) = 0 then
      some (0, w)
    else
      if ((a_m_at w) - (a_m_start w)) = 3 then
        ai_bd (Fm_byteAt_89 (a_m_start w) w) fun c248 =>
        if c248.1 = x231 then
          ai_bd (Fm_byteAt_89 ((a_m_start c248.2) + 1) c248.2) fun c249 =>
          if c249.1 = x232 then
            ai_bd (Fm_byteAt_89 ((a_m_start c249.2) + 2) c249.2) fun c250 =>
            if c250.1 = x233 then
              if x234 = 0 then
                if x235 = 0 then
                  some (1, c250.2)
                else
                  ai_bd (Fm_byteAt_89 ((a_m_start c250.2) + 4) c250.2) fun c251 =>
                  if c251.1 = x235 then
                    some (1, c251.2)
                  else
                    some (0, c251.2)
              else
                ai_bd (Fm_byteAt_89 ((a_m_start c250.2) + 3) c250.2) fun c252 =>
                if c252.1 = x234 then
                  if x235 = 0 then
                    some (1, c252.2)
                  else
                    ai_bd (Fm_byteAt_89 ((a_m_start c252.2) + 4) c252.2) fun c253 =>
                    if c253.1 = x235 then
                      some (1, c253.2)
                    else
                      some (0, c253.2)
                else
                  some (0, c252.2)
            else
              some (0, c250.2)
          else
            some (0, c249.2)
        else
          some (0, c248.2)
      else
        some (0, w)
  else
    if x235 = 0 then
      if (a_m_isWord w) = 0 then
        some (0, w)
      else
        if ((a_m_at w) - (a_m_start w)) = 4 then
          ai_bd (Fm_byteAt_89 (a_m_start w) w) fun c242 =>
          if c242.1 = x231 then
            ai_bd (Fm_byteAt_89 ((a_m_start c242.2) + 1) c242.2) fun c243 =>
            if c243.1 = x232 then
              ai_bd (Fm_byteAt_89 ((a_m_start c243.2) + 2) c243.2) fun c244 =>
              if c244.1 = x233 then
                if x234 = 0 then
                  if x235 = 0 then
                    some (1, c244.2)
                  else
                    ai_bd (Fm_byteAt_89 ((a_m_start c244.2) + 4) c244.2) fun c245 =>
                    if c245.1 = x235 then
                      some (1, c245.2)
                    else
                      some (0, c245.2)
                else
                  ai_bd (Fm_byteAt_89 ((a_m_start c244.2) + 3) c244.2) fun c246 =>
                  if c246.1 = x234 then
                    if x235 = 0 then
                      some (1, c246.2)
                    else
                      ai_bd (Fm_byteAt_89 ((a_m_start c246.2) + 4) c246.2) fun c247 =>
                      if c247.1 = x235 then
                        some (1, c247.2)
                      else
                        some (0, c247.2)
                  else
                    some (0, c246.2)
              else
                some (0, c244.2)
            else
              some (0, c243.2)
          else
            some (0, c242.2)
        else
          some (0, w)
    else
      if (a_m_isWord w) = 0 then
        some (0, w)
      else
        if ((a_m_at w) - (a_m_start w)) = 5 then
          ai_bd (Fm_byteAt_89 (a_m_start w) w) fun c236 =>
          if c236.1 = x231 then
            ai_bd (Fm_byteAt_89 ((a_m_start c236.2) + 1) c236.2) fun c237 =>
            if c237.1 = x232 then
              ai_bd (Fm_byteAt_89 ((a_m_start c237.2) + 2) c237.2) fun c238 =>
              if c238.1 = x233 then
                if x234 = 0 then
                  if x235 = 0 then
                    some (1, c238.2)
                  else
                    ai_bd (Fm_byteAt_89 ((a_m_start c238.2) + 4) c238.2) fun c239 =>
                    if c239.1 = x235 then
                      some (1, c239.2)
                    else
                      some (0, c239.2)
                else
                  ai_bd (Fm_byteAt_89 ((a_m_start c238.2) + 3) c238.2) fun c240 =>
                  if c240.1 = x234 then
                    if x235 = 0 then
                      some (1, c240.2)
                    else
                      ai_bd (Fm_byteAt_89 ((a_m_start c240.2) + 4) c240.2) fun c241 =>
                      if c241.1 = x235 then
                        some (1, c241.2)
                      else
                        some (0, c241.2)
                  else
                    some (0, c240.2)
              else
                some (0, c238.2)
            else
              some (0, c237.2)
          else
            some (0, c236.2)
        else
          some (0, w)
def Fm_wordNow_89 (w : WM) : Option (Int32 × WM) :=
  ai_bd (Fm_isNamed_89 115 101 97 0 0 w) fun c254 =>
  if c254.1 = 0 then
    ai_bd (Fm_isNamed_89 119 97 116 101 114 c254.2) fun c255 =>
    if c255.1 = 0 then
      ai_bd (Fm_isNamed_89 116 104 105 99 107 c255.2) fun c256 =>
      if c256.1 = 0 then
        ai_bd (Fm_isNamed_89 115 107 105 110 0 c256.2) fun c257 =>
        if c257.1 = 0 then
          ai_bd (Fm_isNamed_89 116 104 105 110 103 c257.2) fun c258 =>
          if c258.1 = 0 then
            ai_bd (Fm_isNamed_89 108 105 102 116 0 c258.2) fun c259 =>
            if c259.1 = 0 then
              ai_bd (Fm_isNamed_89 116 111 119 110 0 c259.2) fun c260 =>
              if c260.1 = 0 then
                ai_bd (Fm_isNamed_89 100 97 109 0 0 c260.2) fun c261 =>
                if c261.1 = 0 then
                  some ((-1), c261.2)
                else
                  some (7, c261.2)
              else
                some (6, c260.2)
            else
              some (5, c259.2)
          else
            some (4, c258.2)
        else
          some (3, c257.2)
      else
        some (2, c256.2)
    else
      some (1, c255.2)
  else
    some (0, c254.2)
def Fm_manyOf (x265 : Int32) : Option (Int32) :=
  if x265 = 0 then
    some (1)
  else
    if x265 ≤ 5 then
      if x265 = 1 then
        some (2)
      else
        if x265 = 3 then
          some (2)
        else
          some (3)
    else
      some (1)
def Gm_takesItem_89 : Nat → Nat → Int32 → Int32 → Int32 → WM → Option (Int32 × WM)
  | 0, _, _, _, _, _ => none
  | n + 1, 0, y263, y264, _, w =>
    ai_bd (Fm_manyOf (a_m_word w)) fun c266 =>
    if c266 ≤ y264 then
      ai_bd (Fm_token_89 n w) fun c267 =>
      ai_bd (Fm_byteAt_89 (a_m_start c267) c267) fun c268 =>
      if c268.1 = 59 then
        some (1, c268.2)
      else
        some (0, c268.2)
    else
      ai_bd (Fm_token_89 n w) fun c269 =>
      if (a_m_isFigures c269) = 0 then
        some (0, c269)
      else
        if ((a_m_at c269) - (a_m_start c269)) ≤ 2 then
          ai_bd (ai_up (a_m_numbers c269) y264 0) fun q270 =>
          Gm_takesItem_89 n 1 y263 y264 (a_m_start c269) (u_m_numbers c269 q270)
        else
          some (0, c269)
  | n + 1, 1, y271, y272, y273, w =>
    if (a_m_at w) ≤ y273 then
      Gm_takesItem_89 n 0 y271 (y272 + 1) 0 w
    else
      ai_bd (ai_ix (a_m_numbers w) y272) fun v274 =>
      ai_bd (Fm_byteAt_89 y273 w) fun c275 =>
      ai_bd (ai_up (a_m_numbers c275.2) y272 (((10 * v274) + c275.1) - 48)) fun q276 =>
      Gm_takesItem_89 n 1 y271 y272 (y273 + 1) (u_m_numbers c275.2 q276)
  | _ + 1, _ + 2, _, _, _, _ => none
def Fm_takesItem_89 (n : Nat) (x230 : Int32) (w : WM) : Option (Int32 × WM) :=
  ai_bd (Fm_wordNow_89 w) fun c262 =>
  if c262.1 = (-1) then
    some (0, (u_m_word c262.2 c262.1))
  else
    if c262.1 = 0 then
      if x230 = 0 then
        Gm_takesItem_89 n 0 x230 0 0 (u_m_word c262.2 c262.1)
      else
        some (0, (u_m_word c262.2 c262.1))
    else
      if x230 = 0 then
        some (0, (u_m_word c262.2 c262.1))
      else
        Gm_takesItem_89 n 0 x230 0 0 (u_m_word c262.2 c262.1)
def Fm_done_89 (n : Nat) (w : WM) : Option (Int32 × WM) :=
  if (a_m_word w) = 0 then
    ai_bd (ai_ix (a_m_numbers w) 0) fun v279 =>
    ai_bd (Fm_seaTo_89 n 447 v279 w) fun c280 =>
    some (c280.1, c280.2)
  else
  if (a_m_word w) = 1 then
    ai_bd (ai_ix (a_m_numbers w) 0) fun v281 =>
    ai_bd (ai_ix (a_m_numbers w) 1) fun v282 =>
    ai_bd (Fm_waterTo_89 447 v281 v282 w) fun c283 =>
    some (c283.1, c283.2)
  else
  if (a_m_word w) = 2 then
    ai_bd (ai_ix (a_m_numbers w) 0) fun v284 =>
    ai_bd (ai_ix (a_m_numbers w) 1) fun v285 =>
    ai_bd (ai_ix (a_m_numbers w) 2) fun v286 =>
    ai_bd (Fm_thickTo_89 447 v284 v285 v286 w) fun c287 =>
    some (c287.1, c287.2)
  else
  if (a_m_word w) = 3 then
    ai_bd (ai_ix (a_m_numbers w) 0) fun v288 =>
    ai_bd (ai_ix (a_m_numbers w) 1) fun v289 =>
    ai_bd (Fm_skinTo_89 447 v288 v289 w) fun c290 =>
    some (c290.1, c290.2)
  else
  if (a_m_word w) = 4 then
    ai_bd (ai_ix (a_m_numbers w) 0) fun v291 =>
    ai_bd (ai_ix (a_m_numbers w) 1) fun v292 =>
    ai_bd (ai_ix (a_m_numbers w) 2) fun v293 =>
    ai_bd (Fm_thingTo_89 447 v291 v292 v293 w) fun c294 =>
    some (c294.1, c294.2)
  else
  if (a_m_word w) = 5 then
    ai_bd (ai_ix (a_m_numbers w) 0) fun v295 =>
    ai_bd (ai_ix (a_m_numbers w) 1) fun v296 =>
    ai_bd (ai_ix (a_m_numbers w) 2) fun v297 =>
    ai_bd (Fm_liftTo_89 447 v295 v296 v297 w) fun c298 =>
    some (c298.1, c298.2)
  else
  if (a_m_word w) = 6 then
    ai_bd (ai_ix (a_m_numbers w) 0) fun v299 =>
    ai_bd (Fm_townTo_89 n 447 v299 w) fun c300 =>
    some (c300.1, c300.2)
  else
    ai_bd (ai_ix (a_m_numbers w) 0) fun v301 =>
    ai_bd (Fm_damTo_89 447 v301 1 w) fun c302 =>
    some (c302.1, c302.2)
def Gm_copy_89 : Nat → Nat → Int32 → Int32 → Int32 → WM → Option (WM)
  | 0, _, _, _, _, _ => none
  | n + 1, 0, y308, y309, y310, w =>
    if 149 ≤ y310 then
      some (w)
    else
      ai_bd (ai_ix (a_m_w w) (y308 + y310)) fun v311 =>
      ai_bd (ai_up (a_m_w w) (y309 + y310) v311) fun q312 =>
      Gm_copy_89 n 0 y308 y309 (y310 + 1) (u_m_w w q312)
  | _ + 1, _ + 1, _, _, _, _ => none
def Fm_copy_89 (n : Nat) (x306 : Int32) (x307 : Int32) (w : WM) : Option (WM) :=
  Gm_copy_89 n 0 x306 x307 0 w
def Gm_read_89 : Nat → Nat → Int32 → Int32 → WM → Option (Int32 × WM)
  | 0, _, _, _, _ => none
  | n + 1, 0, y228, y229, w =>
    if (a_m_start w) < (a_m_texted w) then
      ai_bd (Fm_takesItem_89 n y228 w) fun c277 =>
      if c277.1 = 0 then
        some (((-10) - (a_m_start c277.2)), c277.2)
      else
        if y229 = (-1) then
          ai_bd (Fm_done_89 n c277.2) fun c303 =>
          if (-1) ≤ c303.1 then
            ai_bd (Fm_token_89 n c303.2) fun c304 =>
            Gm_read_89 n 0 (y228 + 1) y229 c304
          else
            ai_bd (Fm_token_89 n c303.2) fun c305 =>
            Gm_read_89 n 0 (y228 + 1) y228 c305
        else
          ai_bd (Fm_token_89 n c277.2) fun c278 =>
          Gm_read_89 n 0 (y228 + 1) y229 c278
    else
      if y228 = 0 then
        ai_bd (Fm_takesItem_89 n y228 w) fun c314 =>
        if c314.1 = 0 then
          some (((-10) - (a_m_start c314.2)), c314.2)
        else
          if y229 = (-1) then
            ai_bd (Fm_done_89 n c314.2) fun c316 =>
            if (-1) ≤ c316.1 then
              ai_bd (Fm_token_89 n c316.2) fun c317 =>
              Gm_read_89 n 0 (y228 + 1) y229 c317
            else
              ai_bd (Fm_token_89 n c316.2) fun c318 =>
              Gm_read_89 n 0 (y228 + 1) y228 c318
          else
            ai_bd (Fm_token_89 n c314.2) fun c315 =>
            Gm_read_89 n 0 (y228 + 1) y229 c315
      else
        if y229 = (-1) then
          ai_bd (Fm_copy_89 n 447 0 w) fun c313 =>
          some (y228, c313)
        else
          some (((-1000) - y229), w)
  | _ + 1, _ + 1, _, _, _ => none
def Fm_read_89 (n : Nat) (w : WM) : Option (Int32 × WM) :=
  ai_bd (Fm_token_89 n (u_m_at w 0)) fun c227 =>
  Gm_read_89 n 0 0 (-1) c227
def Gm_hours_89 : Nat → Nat → Int32 → Int32 → WM → Option (Int32 × WM)
  | 0, _, _, _, _ => none
  | n + 1, 0, y333, y334, w =>
    if 9 ≤ y334 then
      ai_bd (ai_ix (a_m_w w) 7) fun v335 =>
      ai_bd (ai_up (a_m_w w) 7 (v335 - 1)) fun q336 =>
      ai_bd (ai_ix q336 7) fun v337 =>
      ai_bd (ai_ix q336 1) fun v338 =>
      ai_bd (ai_up q336 (139 + v337) v338) fun q339 =>
      ai_bd (ai_ix q339 7) fun v340 =>
      ai_bd (ai_up q339 7 (v340 + 1)) fun q341 =>
      ai_bd (ai_ix q341 1) fun v342 =>
      ai_bd (ai_up q341 1 (v342 + y333)) fun q343 =>
      ai_bd (ai_ix q343 1) fun v344 =>
      some (v344, (u_m_w (u_m_w (u_m_w (u_m_w w q336) q339) q341) q343))
    else
      ai_bd (ai_ix (a_m_w w) ((139 + y334) + 1)) fun v345 =>
      ai_bd (ai_up (a_m_w w) (139 + y334) v345) fun q346 =>
      Gm_hours_89 n 0 y333 (y334 + 1) (u_m_w w q346)
  | _ + 1, _ + 1, _, _, _ => none
def Fm_hours_89 (n : Nat) (x319 : Int32) (w : WM) : Option (Int32 × WM) :=
  ai_bd (Fm_in (x319).toInt64 1 99) fun c320 =>
  if c320 = 0 then
    ai_bd (Fm_bad_89 w) fun c332 =>
    some (c332.1, c332.2)
  else
    ai_bd (ai_ix (a_m_w w) 1) fun v321 =>
    if (v321 + x319) ≤ 999 then
      ai_bd (ai_ix (a_m_w w) 7) fun v322 =>
      if v322 = 10 then
        Gm_hours_89 n 0 x319 0 w
      else
        ai_bd (ai_ix (a_m_w w) 7) fun v323 =>
        ai_bd (ai_ix (a_m_w w) 1) fun v324 =>
        ai_bd (ai_up (a_m_w w) (139 + v323) v324) fun q325 =>
        ai_bd (ai_ix q325 7) fun v326 =>
        ai_bd (ai_up q325 7 (v326 + 1)) fun q327 =>
        ai_bd (ai_ix q327 1) fun v328 =>
        ai_bd (ai_up q327 1 (v328 + x319)) fun q329 =>
        ai_bd (ai_ix q329 1) fun v330 =>
        some (v330, (u_m_w (u_m_w (u_m_w w q325) q327) q329))
    else
      ai_bd (Fm_met_89 (-3) w) fun c331 =>
      some (c331.1, c331.2)
def Fm_undo_89 (w : WM) : Option (Int32 × WM) :=
  ai_bd (ai_ix (a_m_w w) 7) fun v347 =>
  if v347 = 0 then
    ai_bd (Fm_met_89 (-3) w) fun c353 =>
    some (c353.1, c353.2)
  else
    ai_bd (ai_ix (a_m_w w) 7) fun v348 =>
    ai_bd (ai_up (a_m_w w) 7 (v348 - 1)) fun q349 =>
    ai_bd (ai_ix q349 7) fun v350 =>
    ai_bd (ai_ix q349 (139 + v350)) fun v351 =>
    ai_bd (ai_up q349 1 v351) fun q352 =>
    some (1, (u_m_w (u_m_w w q349) q352))
def Fm_lay_89 (x359 : Int32) (w : WM) : Option (WM) :=
  ai_bd (ai_ix (a_m_w w) (67 + x359)) fun v360 =>
  ai_bd (ai_ix (a_m_w w) (73 + x359)) fun v361 =>
  ai_bd (ai_ix (a_m_w w) (79 + x359)) fun v362 =>
  ai_bd (ai_ix (a_m_w w) (85 + x359)) fun v363 =>
  ai_bd (ai_ix (a_m_w w) 1) fun v364 =>
  some ((u_m_torn (u_m_hour (u_m_load (u_m_volume (u_m_weight (u_m_kind w v360) v361) v362) v363) v364) 0))
def Fm_lesser (x366 : Int32) (x367 : Int32) : Option (Int32) :=
  if x367 ≤ x366 then
    some (x367)
  else
    some (x366)
def Fm_room_89 (w : WM) : Option (Int32 × WM) :=
  if (a_m_kind w) = 2 then
    some (((a_m_volume w) + 1), w)
  else
    if (a_m_kind w) = 3 then
      some (((a_m_volume w) + 1), w)
    else
      if (a_m_kind w) = 4 then
        ai_bd (Fm_lesser ((a_m_hour w) / 4) 5) fun c368 =>
        some (((a_m_volume w) + c368), w)
      else
        some (((a_m_volume w) + 0), w)
def Fm_weighs_89 (w : WM) : Option (Int32 × WM) :=
  if (a_m_kind w) = 1 then
    if (a_m_kind w) = 3 then
      ai_bd (Fm_lesser (a_m_hour w) 10) fun c370 =>
      some ((((a_m_weight w) + (a_m_load w)) + (2 * c370)), w)
    else
      some ((((a_m_weight w) + (a_m_load w)) + 0), w)
  else
    if (a_m_kind w) = 2 then
      if (a_m_kind w) = 3 then
        ai_bd (Fm_lesser (a_m_hour w) 10) fun c371 =>
        some ((((a_m_weight w) + (a_m_load w)) + (2 * c371)), w)
      else
        some ((((a_m_weight w) + (a_m_load w)) + 0), w)
    else
      if (a_m_kind w) = 3 then
        if (a_m_kind w) = 3 then
          ai_bd (Fm_lesser (a_m_hour w) 10) fun c373 =>
          some ((((a_m_weight w) + (a_m_load w)) + (2 * c373)), w)
        else
          some ((((a_m_weight w) + (a_m_load w)) + 0), w)
      else
        if (a_m_kind w) = 3 then
          ai_bd (Fm_lesser (a_m_hour w) 10) fun c372 =>
          some ((((a_m_weight w) + 0) + (2 * c372)), w)
        else
          some ((((a_m_weight w) + 0) + 0), w)
def Fm_of_89 (x354 : Int32) (x355 : Int32) (w : WM) : Option (Int32 × WM) :=
  ai_bd (Fm_isThing_89 x354 w) fun c356 =>
  if c356.1 = 0 then
    ai_bd (Fm_bad_89 c356.2) fun c357 =>
    some (c357.1, c357.2)
  else
    ai_bd (Fm_in (x355).toInt64 0 2) fun c358 =>
    if c358 = 0 then
      ai_bd (Fm_bad_89 c356.2) fun c375 =>
      some (c375.1, c375.2)
    else
      ai_bd (Fm_lay_89 x354 c356.2) fun c365 =>
      if x355 = 0 then
        some ((a_m_kind c365), c365)
      else
        if x355 = 1 then
          ai_bd (Fm_weighs_89 c365) fun c374 =>
          some (c374.1, c374.2)
        else
          ai_bd (Fm_room_89 c365) fun c369 =>
          some (c369.1, c369.2)
def Fm_isCell_89 (x380 : Int32) (w : WM) : Option (Int32 × WM) :=
  ai_bd (Fm_isCellOf_89 0 x380 w) fun c381 =>
  if c381.1 = 0 ∨ c381.1 = 1 then some (c381.1, c381.2) else none
def Fm_thickIn_89 (x385 : Int32) (x386 : Int32) (x387 : Int32) (w : WM) : Option (Int32 × WM) :=
  ai_bd (ai_ix (a_m_w w) ((40 + (6 * x385)) + x386)) fun v388 =>
  ai_bd (ai_ix (a_m_w w) ((16 + (6 * x385)) + (x387 - x387 / 6 * 6))) fun v389 =>
  if 0 ≤ (v388 + v389) then
    some ((v388 + v389), w)
  else
    some (0, w)
def Fm_deep_89 (x376 : Int32) (x377 : Int32) (w : WM) : Option (Int32 × WM) :=
  ai_bd (Fm_isLayer x376) fun c378 =>
  if c378 = 0 then
    ai_bd (Fm_bad_89 w) fun c379 =>
    some (c379.1, c379.2)
  else
    ai_bd (Fm_isCell_89 x377 w) fun c382 =>
    if c382.1 = 0 then
      ai_bd (Fm_bad_89 c382.2) fun c383 =>
      some (c383.1, c383.2)
    else
      ai_bd (ai_ix (a_m_w c382.2) 1) fun v384 =>
      ai_bd (Fm_thickIn_89 x376 x377 v384 c382.2) fun c390 =>
      some (c390.1, c390.2)
def Fm_breaks_89 (x425 : Int32) (w : WM) : Option (Int32 × WM) :=
  ai_bd (Fm_has (a_m_torn w) x425) fun c426 =>
  if c426 = 0 then
    ai_bd (ai_ix (a_m_w w) (64 + x425)) fun v427 =>
    if (a_m_kind w) = 3 then
      some (1, w)
    else
      if (a_m_kind w) = 5 then
        some (0, w)
      else
        if (a_m_kind w) = 2 then
          ai_bd (Fm_weighs_89 w) fun c429 =>
          if (c429.1 / 2) ≤ v427 then
            some (0, c429.2)
          else
            some (1, c429.2)
        else
          ai_bd (Fm_weighs_89 w) fun c428 =>
          if c428.1 ≤ v427 then
            some (0, c428.2)
          else
            some (1, c428.2)
  else
    some (1, w)
def Gm_comesDown_89 : Nat → Nat → Int32 → Int32 → Int32 → WM → Option (WM)
  | 0, _, _, _, _, _ => none
  | n + 1, 0, y401, y402, y403, w =>
    if 4 ≤ y403 then
      some (w)
    else
      if (a_m_restsIn w) = 4 then
        if (a_m_stops w) = (-1) then
          ai_bd (Fm_thickIn_89 y403 y401 (a_m_hour w) w) fun c404 =>
          if c404.1 ≤ 0 then
            if c404.1 ≤ 0 then
              Gm_comesDown_89 n 0 y401 y402 (y403 + 1) c404.2
            else
              if y402 = (-1) then
                ai_bd (Fm_weighs_89 (u_m_broken c404.2 ((a_m_broken c404.2) ||| 0))) fun c405 =>
                ai_bd (Fm_room_89 c405.2) fun c406 =>
                ai_bd (ai_ix (a_m_w c406.2) (8 + y403)) fun v407 =>
                if (c406.1 * v407) < c405.1 then
                  Gm_comesDown_89 n 0 y401 y403 (y403 + 1) (u_m_down (u_m_passes c406.2 ((a_m_passes c406.2) ||| (1 <<< (y403 &&& 31)))) ((a_m_down c406.2) + c404.1))
                else
                  Gm_comesDown_89 n 0 y401 y402 (y403 + 1) (u_m_restsIn c406.2 y403)
              else
                ai_bd (Fm_has (a_m_torn c404.2) (y403 - 1)) fun c408 =>
                if c408 = 0 then
                  ai_bd (Fm_weighs_89 (u_m_broken c404.2 ((a_m_broken c404.2) ||| (1 <<< ((y403 - 1) &&& 31))))) fun c409 =>
                  ai_bd (Fm_room_89 c409.2) fun c410 =>
                  ai_bd (ai_ix (a_m_w c410.2) (8 + y403)) fun v411 =>
                  if (c410.1 * v411) < c409.1 then
                    Gm_comesDown_89 n 0 y401 y403 (y403 + 1) (u_m_down (u_m_passes c410.2 ((a_m_passes c410.2) ||| (1 <<< (y403 &&& 31)))) ((a_m_down c410.2) + c404.1))
                  else
                    Gm_comesDown_89 n 0 y401 y402 (y403 + 1) (u_m_restsIn c410.2 y403)
                else
                  ai_bd (Fm_weighs_89 (u_m_broken c404.2 ((a_m_broken c404.2) ||| 0))) fun c412 =>
                  ai_bd (Fm_room_89 c412.2) fun c413 =>
                  ai_bd (ai_ix (a_m_w c413.2) (8 + y403)) fun v414 =>
                  if (c413.1 * v414) < c412.1 then
                    Gm_comesDown_89 n 0 y401 y403 (y403 + 1) (u_m_down (u_m_passes c413.2 ((a_m_passes c413.2) ||| (1 <<< (y403 &&& 31)))) ((a_m_down c413.2) + c404.1))
                  else
                    Gm_comesDown_89 n 0 y401 y402 (y403 + 1) (u_m_restsIn c413.2 y403)
          else
            if y402 = (-1) then
              if c404.1 ≤ 0 then
                Gm_comesDown_89 n 0 y401 y402 (y403 + 1) c404.2
              else
                if y402 = (-1) then
                  ai_bd (Fm_weighs_89 (u_m_broken c404.2 ((a_m_broken c404.2) ||| 0))) fun c415 =>
                  ai_bd (Fm_room_89 c415.2) fun c416 =>
                  ai_bd (ai_ix (a_m_w c416.2) (8 + y403)) fun v417 =>
                  if (c416.1 * v417) < c415.1 then
                    Gm_comesDown_89 n 0 y401 y403 (y403 + 1) (u_m_down (u_m_passes c416.2 ((a_m_passes c416.2) ||| (1 <<< (y403 &&& 31)))) ((a_m_down c416.2) + c404.1))
                  else
                    Gm_comesDown_89 n 0 y401 y402 (y403 + 1) (u_m_restsIn c416.2 y403)
                else
                  ai_bd (Fm_has (a_m_torn c404.2) (y403 - 1)) fun c418 =>
                  if c418 = 0 then
                    ai_bd (Fm_weighs_89 (u_m_broken c404.2 ((a_m_broken c404.2) ||| (1 <<< ((y403 - 1) &&& 31))))) fun c419 =>
                    ai_bd (Fm_room_89 c419.2) fun c420 =>
                    ai_bd (ai_ix (a_m_w c420.2) (8 + y403)) fun v421 =>
                    if (c420.1 * v421) < c419.1 then
                      Gm_comesDown_89 n 0 y401 y403 (y403 + 1) (u_m_down (u_m_passes c420.2 ((a_m_passes c420.2) ||| (1 <<< (y403 &&& 31)))) ((a_m_down c420.2) + c404.1))
                    else
                      Gm_comesDown_89 n 0 y401 y402 (y403 + 1) (u_m_restsIn c420.2 y403)
                  else
                    ai_bd (Fm_weighs_89 (u_m_broken c404.2 ((a_m_broken c404.2) ||| 0))) fun c422 =>
                    ai_bd (Fm_room_89 c422.2) fun c423 =>
                    ai_bd (ai_ix (a_m_w c423.2) (8 + y403)) fun v424 =>
                    if (c423.1 * v424) < c422.1 then
                      Gm_comesDown_89 n 0 y401 y403 (y403 + 1) (u_m_down (u_m_passes c423.2 ((a_m_passes c423.2) ||| (1 <<< (y403 &&& 31)))) ((a_m_down c423.2) + c404.1))
                    else
                      Gm_comesDown_89 n 0 y401 y402 (y403 + 1) (u_m_restsIn c423.2 y403)
            else
              ai_bd (Fm_breaks_89 (y403 - 1) c404.2) fun c430 =>
              if c430.1 = 0 then
                Gm_comesDown_89 n 0 y401 y402 (y403 + 1) (u_m_restsIn (u_m_stops c430.2 (y403 - 1)) y402)
              else
                if c404.1 ≤ 0 then
                  Gm_comesDown_89 n 0 y401 y402 (y403 + 1) c430.2
                else
                  if y402 = (-1) then
                    ai_bd (Fm_weighs_89 (u_m_broken c430.2 ((a_m_broken c430.2) ||| 0))) fun c431 =>
                    ai_bd (Fm_room_89 c431.2) fun c432 =>
                    ai_bd (ai_ix (a_m_w c432.2) (8 + y403)) fun v433 =>
                    if (c432.1 * v433) < c431.1 then
                      Gm_comesDown_89 n 0 y401 y403 (y403 + 1) (u_m_down (u_m_passes c432.2 ((a_m_passes c432.2) ||| (1 <<< (y403 &&& 31)))) ((a_m_down c432.2) + c404.1))
                    else
                      Gm_comesDown_89 n 0 y401 y402 (y403 + 1) (u_m_restsIn c432.2 y403)
                  else
                    ai_bd (Fm_has (a_m_torn c430.2) (y403 - 1)) fun c434 =>
                    if c434 = 0 then
                      ai_bd (Fm_weighs_89 (u_m_broken c430.2 ((a_m_broken c430.2) ||| (1 <<< ((y403 - 1) &&& 31))))) fun c435 =>
                      ai_bd (Fm_room_89 c435.2) fun c436 =>
                      ai_bd (ai_ix (a_m_w c436.2) (8 + y403)) fun v437 =>
                      if (c436.1 * v437) < c435.1 then
                        Gm_comesDown_89 n 0 y401 y403 (y403 + 1) (u_m_down (u_m_passes c436.2 ((a_m_passes c436.2) ||| (1 <<< (y403 &&& 31)))) ((a_m_down c436.2) + c404.1))
                      else
                        Gm_comesDown_89 n 0 y401 y402 (y403 + 1) (u_m_restsIn c436.2 y403)
                    else
                      ai_bd (Fm_weighs_89 (u_m_broken c430.2 ((a_m_broken c430.2) ||| 0))) fun c438 =>
                      ai_bd (Fm_room_89 c438.2) fun c439 =>
                      ai_bd (ai_ix (a_m_w c439.2) (8 + y403)) fun v440 =>
                      if (c439.1 * v440) < c438.1 then
                        Gm_comesDown_89 n 0 y401 y403 (y403 + 1) (u_m_down (u_m_passes c439.2 ((a_m_passes c439.2) ||| (1 <<< (y403 &&& 31)))) ((a_m_down c439.2) + c404.1))
                      else
                        Gm_comesDown_89 n 0 y401 y402 (y403 + 1) (u_m_restsIn c439.2 y403)
        else
          some (w)
      else
        some (w)
  | _ + 1, _ + 1, _, _, _, _ => none
def Fm_comesDown_89 (n : Nat) (x400 : Int32) (w : WM) : Option (WM) :=
  Gm_comesDown_89 n 0 x400 (-1) 0 (u_m_stops (u_m_passes (u_m_broken (u_m_down (u_m_restsIn w 4) 0) 0) 0) (-1))
def Fm_rests_89 (n : Nat) (x391 : Int32) (x392 : Int32) (x393 : Int32) (w : WM) : Option (Int32 × WM) :=
  ai_bd (Fm_isThing_89 x391 w) fun c394 =>
  if c394.1 = 0 then
    ai_bd (Fm_bad_89 c394.2) fun c395 =>
    some (c395.1, c395.2)
  else
    ai_bd (Fm_isCell_89 x392 c394.2) fun c396 =>
    if c396.1 = 0 then
      ai_bd (Fm_bad_89 c396.2) fun c397 =>
      some (c397.1, c397.2)
    else
      ai_bd (Fm_in (x393).toInt64 0 2) fun c398 =>
      if c398 = 0 then
        ai_bd (Fm_bad_89 c396.2) fun c442 =>
        some (c442.1, c442.2)
      else
        ai_bd (Fm_lay_89 x391 c396.2) fun c399 =>
        ai_bd (Fm_comesDown_89 n x392 c399) fun c441 =>
        if x393 = 0 then
          some ((a_m_restsIn c441), c441)
        else
          if x393 = 1 then
            some ((a_m_down c441), c441)
          else
            some ((a_m_broken c441), c441)
def Fm_isLoaded_89 (x446 : Int32) (w : WM) : Option (Int32 × WM) :=
  ai_bd (Fm_isThing_89 x446 w) fun c447 =>
  if c447.1 = 0 then
    some (0, c447.2)
  else
    ai_bd (ai_ix (a_m_w c447.2) (67 + x446)) fun v448 =>
    ai_bd (Fm_in (v448).toInt64 1 3) fun c449 =>
    if c449 = 0 then
      some (0, c447.2)
    else
      some (1, c447.2)
def Gm_leastFor_89 : Nat → Nat → Int32 → Int32 → Int32 → Int32 → WM → Option (Int32 × WM)
  | 0, _, _, _, _, _, _ => none
  | n + 1, 0, y458, y459, y460, y461, w =>
    if y461 < 0 then
      some (y460, w)
    else
      ai_bd (Fm_comesDown_89 n y458 (u_m_load w y461)) fun c462 =>
      if (a_m_restsIn c462) = y459 then
        Gm_leastFor_89 n 0 y458 y459 y461 (y461 + (-1)) c462
      else
        Gm_leastFor_89 n 0 y458 y459 y460 (y461 + (-1)) c462
  | _ + 1, _ + 1, _, _, _, _, _ => none
def Fm_leastFor_89 (n : Nat) (x456 : Int32) (x457 : Int32) (w : WM) : Option (Int32 × WM) :=
  Gm_leastFor_89 n 0 x456 x457 (-1) 99 w
def Fm_sink_89 (n : Nat) (x443 : Int32) (x444 : Int32) (x445 : Int32) (w : WM) : Option (Int32 × WM) :=
  ai_bd (Fm_isLoaded_89 x443 w) fun c450 =>
  if c450.1 = 0 then
    ai_bd (Fm_badAs_89 (-10) c450.2) fun c451 =>
    some (c451.1, c451.2)
  else
    ai_bd (Fm_isCell_89 x444 c450.2) fun c452 =>
    if c452.1 = 0 then
      ai_bd (Fm_badAs_89 (-10) c452.2) fun c453 =>
      some (c453.1, c453.2)
    else
      ai_bd (Fm_in (x445).toInt64 0 4) fun c454 =>
      if c454 = 0 then
        ai_bd (Fm_badAs_89 (-10) c452.2) fun c464 =>
        some (c464.1, c464.2)
      else
        ai_bd (Fm_lay_89 x443 c452.2) fun c455 =>
        ai_bd (Fm_leastFor_89 n x444 x445 c455) fun c463 =>
        some (c463.1, c463.2)
def Fm_holds_89 (n : Nat) (x465 : Int32) (x466 : Int32) (w : WM) : Option (Int32 × WM) :=
  ai_bd (Fm_isLoaded_89 x465 w) fun c467 =>
  if c467.1 = 0 then
    ai_bd (Fm_badAs_89 (-10) c467.2) fun c468 =>
    some (c468.1, c468.2)
  else
    ai_bd (Fm_isCell_89 x466 c467.2) fun c469 =>
    if c469.1 = 0 then
      ai_bd (Fm_badAs_89 (-10) c469.2) fun c472 =>
      some (c472.1, c472.2)
    else
      ai_bd (Fm_lay_89 x465 c469.2) fun c470 =>
      ai_bd (Fm_comesDown_89 n x466 (u_m_load c470 99)) fun c471 =>
      some ((a_m_stops c471), c471)
def Gm_bestHour_89 : Nat → Nat → Int32 → Int32 → Int32 → Int32 → Int32 → Int32 → WM → Option (Int32 × WM)
  | 0, _, _, _, _, _, _, _, _ => none
  | n + 1, 0, y483, y484, y485, y486, y487, y488, w =>
    if 6 ≤ y488 then
      some (y486, w)
    else
      ai_bd (ai_ix (a_m_w w) 1) fun v489 =>
      ai_bd (Fm_leastFor_89 n y484 y485 (u_m_hour w (v489 + y488))) fun c490 =>
      if c490.1 < 0 then
        if c490.1 < 0 then
          Gm_bestHour_89 n 0 y483 y484 y485 y486 y487 (y488 + 1) c490.2
        else
          if y487 ≤ c490.1 then
            Gm_bestHour_89 n 0 y483 y484 y485 y486 y487 (y488 + 1) c490.2
          else
            Gm_bestHour_89 n 0 y483 y484 y485 y486 c490.1 (y488 + 1) c490.2
      else
        if y487 ≤ c490.1 then
          if c490.1 < 0 then
            Gm_bestHour_89 n 0 y483 y484 y485 y486 y487 (y488 + 1) c490.2
          else
            if y487 ≤ c490.1 then
              Gm_bestHour_89 n 0 y483 y484 y485 y486 y487 (y488 + 1) c490.2
            else
              Gm_bestHour_89 n 0 y483 y484 y485 y486 c490.1 (y488 + 1) c490.2
        else
          if c490.1 < 0 then
            Gm_bestHour_89 n 0 y483 y484 y485 y488 y487 (y488 + 1) c490.2
          else
            if y487 ≤ c490.1 then
              Gm_bestHour_89 n 0 y483 y484 y485 y488 y487 (y488 + 1) c490.2
            else
              Gm_bestHour_89 n 0 y483 y484 y485 y488 c490.1 (y488 + 1) c490.2
  | _ + 1, _ + 1, _, _, _, _, _, _, _ => none
def Fm_bestHour_89 (n : Nat) (x473 : Int32) (x474 : Int32) (x475 : Int32) (w : WM) : Option (Int32 × WM) :=
  ai_bd (Fm_isLoaded_89 x473 w) fun c476 =>
  if c476.1 = 0 then
    ai_bd (Fm_badAs_89 (-10) c476.2) fun c477 =>
    some (c477.1, c477.2)
  else
    ai_bd (Fm_isCell_89 x474 c476.2) fun c478 =>
    if c478.1 = 0 then
      ai_bd (Fm_badAs_89 (-10) c478.2) fun c479 =>
      some (c479.1, c479.2)
    else
      ai_bd (Fm_in (x475).toInt64 0 4) fun c480 =>
      if c480 = 0 then
        ai_bd (Fm_badAs_89 (-10) c478.2) fun c482 =>
        some (c482.1, c482.2)
      else
        ai_bd (Fm_lay_89 x473 c478.2) fun c481 =>
        Gm_bestHour_89 n 0 x473 x474 x475 (-1) 1000000 0 c481
def Fm_comesTo_89 (x515 : Int32) (x516 : Int32) (x517 : Int32) (w : WM) : Option (Int32 × WM) :=
  ai_bd (ai_ix (a_m_far w) x515) fun v518 =>
  if 1000000 ≤ v518 then
    ai_bd (ai_ix (a_m_far w) x516) fun v519 =>
    ai_bd (ai_up (a_m_far w) x516 v519) fun q520 =>
    some (0, (u_m_far w q520))
  else
    ai_bd (ai_ix (a_m_far w) x515) fun v521 =>
    ai_bd (ai_ix (a_m_far w) x516) fun v522 =>
    if v522 ≤ (v521 + x517) then
      ai_bd (ai_ix (a_m_far w) x516) fun v523 =>
      ai_bd (ai_up (a_m_far w) x516 v523) fun q524 =>
      some (0, (u_m_far w q524))
    else
      ai_bd (ai_ix (a_m_far w) x515) fun v525 =>
      ai_bd (ai_up (a_m_far w) x516 (v525 + x517)) fun q526 =>
      some (1, (u_m_far w q526))
def Fm_isThick_89 (x538 : Int32) (w : WM) : Option (Int32 × WM) :=
  ai_bd (ai_ix (a_m_w w) 1) fun v539 =>
  ai_bd (Fm_thickIn_89 (x538 - x538 / 10 * 10) (x538 / 10) v539 w) fun c540 =>
  if c540.1 ≤ 0 then
    some (0, c540.2)
  else
    some (1, c540.2)
def Gm_soonest_89 : Nat → Nat → Int32 → Int32 → Int32 → Int32 → WM → Option (Int32 × WM)
  | 0, _, _, _, _, _, _ => none
  | n + 1, 0, y497, y498, y499, _, w =>
    if 60 ≤ y499 then
      Gm_soonest_89 n 1 y497 y498 1 0 w
    else
      if y499 = y497 then
        ai_bd (ai_up (a_m_far w) y499 0) fun q501 =>
        Gm_soonest_89 n 0 y497 y498 (y499 + 1) 0 (u_m_far w q501)
      else
        ai_bd (ai_up (a_m_far w) y499 1000000) fun q500 =>
        Gm_soonest_89 n 0 y497 y498 (y499 + 1) 0 (u_m_far w q500)
  | n + 1, 1, y502, y503, y504, _, w =>
    if y504 = 0 then
      ai_bd (ai_ix (a_m_far w) y503) fun v505 =>
      if v505 = 1000000 then
        some ((-1), w)
      else
        ai_bd (ai_ix (a_m_far w) y503) fun v506 =>
        some (v506, w)
    else
      Gm_soonest_89 n 2 y502 y503 0 0 w
  | n + 1, 2, y507, y508, y509, y510, w =>
    ai_bd (ai_ix (a_m_w w) 3) fun v511 =>
    if v511 ≤ y510 then
      Gm_soonest_89 n 3 y507 y508 y509 0 w
    else
      ai_bd (ai_ix (a_m_w w) (91 + y510)) fun v512 =>
      ai_bd (ai_ix (a_m_w w) (101 + y510)) fun v513 =>
      ai_bd (ai_ix (a_m_w w) (111 + y510)) fun v514 =>
      ai_bd (Fm_comesTo_89 v512 v513 v514 w) fun c527 =>
      ai_bd (ai_ix (a_m_w c527.2) (101 + y510)) fun v528 =>
      ai_bd (ai_ix (a_m_w c527.2) (91 + y510)) fun v529 =>
      ai_bd (ai_ix (a_m_w c527.2) (111 + y510)) fun v530 =>
      ai_bd (Fm_comesTo_89 v528 v529 v530 c527.2) fun c531 =>
      Gm_soonest_89 n 2 y507 y508 ((y509 ||| c527.1) ||| c531.1) (y510 + 1) c531.2
  | n + 1, 3, y532, y533, y534, y535, w =>
    ai_bd (ai_ix (a_m_w w) 0) fun v536 =>
    if (10 * v536) ≤ (y535 + 10) then
      Gm_soonest_89 n 1 y532 y533 y534 0 w
    else
      ai_bd (Fm_isLayer (y535 - y535 / 10 * 10)) fun c537 =>
      if c537 = 0 then
        Gm_soonest_89 n 3 y532 y533 y534 (y535 + 1) w
      else
        ai_bd (Fm_isThick_89 y535 w) fun c541 =>
        if c541.1 = 0 then
          Gm_soonest_89 n 3 y532 y533 y534 (y535 + 1) c541.2
        else
          ai_bd (Fm_isThick_89 (y535 + 10) c541.2) fun c542 =>
          if c542.1 = 0 then
            Gm_soonest_89 n 3 y532 y533 y534 (y535 + 1) c542.2
          else
            ai_bd (Fm_comesTo_89 y535 (y535 + 10) 3 c542.2) fun c543 =>
            ai_bd (Fm_comesTo_89 (y535 + 10) y535 3 c543.2) fun c544 =>
            Gm_soonest_89 n 3 y532 y533 ((y534 ||| c543.1) ||| c544.1) (y535 + 1) c544.2
  | _ + 1, _ + 4, _, _, _, _, _ => none
def Fm_soonest_89 (n : Nat) (x491 : Int32) (x492 : Int32) (w : WM) : Option (Int32 × WM) :=
  ai_bd (Fm_isPlaceOf_89 0 x491 w) fun c493 =>
  if c493.1 = 0 then
    ai_bd (Fm_bad_89 c493.2) fun c494 =>
    some (c494.1, c494.2)
  else
    ai_bd (Fm_isPlaceOf_89 0 x492 c493.2) fun c495 =>
    if c495.1 = 0 then
      ai_bd (Fm_bad_89 c495.2) fun c496 =>
      some (c496.1, c496.2)
    else
      Gm_soonest_89 n 0 x491 x492 0 0 c495.2
def Gm_ceilingOf_89 : Nat → Nat → Int32 → Int32 → Int32 → Int32 → WM → Option (Int32 × WM)
  | 0, _, _, _, _, _, _ => none
  | n + 1, 0, y550, y551, y552, y553, w =>
    ai_bd (ai_ix (a_m_w w) 4) fun v554 =>
    if v554 ≤ y553 then
      some (y551, w)
    else
      ai_bd (ai_ix (a_m_w w) (121 + y553)) fun v555 =>
      if (v555 / 10) = (y552 / 10) then
        if y552 ≤ v555 then
          Gm_ceilingOf_89 n 0 y550 y551 y552 (y553 + 1) w
        else
          if y551 = (-1) then
            Gm_ceilingOf_89 n 0 y550 y553 y552 (y553 + 1) w
          else
            ai_bd (ai_ix (a_m_w w) (121 + y551)) fun v556 =>
            if v555 ≤ v556 then
              Gm_ceilingOf_89 n 0 y550 y551 y552 (y553 + 1) w
            else
              Gm_ceilingOf_89 n 0 y550 y553 y552 (y553 + 1) w
      else
        Gm_ceilingOf_89 n 0 y550 y551 y552 (y553 + 1) w
  | _ + 1, _ + 1, _, _, _, _, _ => none
def Fm_ceilingOf_89 (n : Nat) (x548 : Int32) (w : WM) : Option (Int32 × WM) :=
  ai_bd (ai_ix (a_m_w w) (121 + x548)) fun v549 =>
  Gm_ceilingOf_89 n 0 x548 (-1) v549 0 w
def Fm_duesOf_89 (x558 : Int32) (w : WM) : Option (Int32 × WM) :=
  ai_bd (ai_ix (a_m_w w) (121 + x558)) fun v559 =>
  ai_bd (ai_ix (a_m_w w) 1) fun v560 =>
  ai_bd (Fm_thickIn_89 (v559 - v559 / 10 * 10) (v559 / 10) v560 w) fun c561 =>
  some (c561.1, c561.2)
def Gm_net_89 : Nat → Nat → Int32 → Int32 → Int32 → WM → Option (Int32 × WM)
  | 0, _, _, _, _, _ => none
  | n + 1, 0, y564, y565, y566, w =>
    ai_bd (ai_ix (a_m_w w) 4) fun v567 =>
    if v567 ≤ y566 then
      some (y565, w)
    else
      ai_bd (Fm_ceilingOf_89 n y566 w) fun c568 =>
      if c568.1 = y564 then
        ai_bd (Fm_duesOf_89 y566 c568.2) fun c569 =>
        Gm_net_89 n 0 y564 (y565 + c569.1) (y566 + 1) c569.2
      else
        Gm_net_89 n 0 y564 (y565 + 0) (y566 + 1) c568.2
  | _ + 1, _ + 1, _, _, _, _ => none
def Fm_net_89 (n : Nat) (x545 : Int32) (w : WM) : Option (Int32 × WM) :=
  ai_bd (ai_ix (a_m_w w) 4) fun v546 =>
  ai_bd (Fm_in (x545).toInt64 0 ((v546 - 1)).toInt64) fun c547 =>
  if c547 = 0 then
    ai_bd (Fm_badAs_89 (-1000) w) fun c563 =>
    some (c563.1, c563.2)
  else
    ai_bd (Fm_ceilingOf_89 n x545 w) fun c557 =>
    if c557.1 = (-1) then
      Gm_net_89 n 0 x545 0 0 c557.2
    else
      ai_bd (Fm_duesOf_89 x545 c557.2) fun c562 =>
      Gm_net_89 n 0 x545 (-c562.1) 0 c562.2
def Gm_laySpill_89 : Nat → Nat → Int32 → Int32 → Int32 → WM → Option (WM)
  | 0, _, _, _, _, _ => none
  | n + 1, 0, y583, y584, y585, w =>
    if 6 ≤ y585 then
      some (w)
    else
      if y585 = y583 then
        ai_bd (ai_up (a_m_there w) y585 y584) fun q587 =>
        Gm_laySpill_89 n 0 y583 y584 (y585 + 1) (u_m_there w q587)
      else
        ai_bd (ai_up (a_m_there w) y585 0) fun q586 =>
        Gm_laySpill_89 n 0 y583 y584 (y585 + 1) (u_m_there w q586)
  | _ + 1, _ + 1, _, _, _, _ => none
def Fm_laySpill_89 (n : Nat) (x581 : Int32) (x582 : Int32) (w : WM) : Option (WM) :=
  Gm_laySpill_89 n 0 x581 x582 0 w
def Gm_spills_89 : Nat → Nat → Int32 → Int32 → WM → Option (WM)
  | 0, _, _, _, _ => none
  | n + 1, 0, y598, y599, w =>
    ai_bd (ai_ix (a_m_w w) 0) fun v600 =>
    if v600 ≤ y599 then
      Gm_spills_89 n 1 y598 0 w
    else
      ai_bd (ai_ix (a_m_there w) y599) fun v601 =>
      ai_bd (ai_up (a_m_gives w) y599 (v601 / 4)) fun q602 =>
      Gm_spills_89 n 0 y598 (y599 + 1) (u_m_gives w q602)
  | n + 1, 1, y603, y604, w =>
    ai_bd (ai_ix (a_m_w w) 0) fun v605 =>
    if v605 ≤ (y604 + 1) then
      some (w)
    else
      ai_bd (Fm_has y603 y604) fun c606 =>
      if c606 = 0 then
        ai_bd (ai_ix (a_m_there w) y604) fun v607 =>
        ai_bd (ai_ix (a_m_gives w) (y604 + 1)) fun v608 =>
        ai_bd (ai_ix (a_m_gives w) y604) fun v609 =>
        ai_bd (ai_up (a_m_there w) y604 (v607 + (v608 - v609))) fun q610 =>
        ai_bd (ai_ix q610 (y604 + 1)) fun v611 =>
        ai_bd (ai_ix (a_m_gives w) y604) fun v612 =>
        ai_bd (ai_ix (a_m_gives w) (y604 + 1)) fun v613 =>
        ai_bd (ai_up q610 (y604 + 1) (v611 + (v612 - v613))) fun q614 =>
        Gm_spills_89 n 1 y603 (y604 + 1) (u_m_there (u_m_there w q610) q614)
      else
        Gm_spills_89 n 1 y603 (y604 + 1) w
  | _ + 1, _ + 2, _, _, _ => none
def Fm_spills_89 (n : Nat) (x597 : Int32) (w : WM) : Option (WM) :=
  Gm_spills_89 n 0 x597 0 w
def Gm_spill_89 : Nat → Nat → Int32 → Int32 → Int32 → Int32 → Int32 → WM → Option (Int32 × WM)
  | 0, _, _, _, _, _, _, _ => none
  | n + 1, 0, y590, y591, y592, y593, y594, w =>
    if y592 ≤ y594 then
      ai_bd (ai_ix (a_m_there w) y593) fun v595 =>
      some (v595, w)
    else
      ai_bd (ai_ix (a_m_w w) 5) fun v596 =>
      ai_bd (Fm_spills_89 n v596 w) fun c615 =>
      Gm_spill_89 n 0 y590 y591 y592 y593 (y594 + 1) c615
  | _ + 1, _ + 1, _, _, _, _, _, _ => none
def Fm_spill_89 (n : Nat) (x570 : Int32) (x571 : Int32) (x572 : Int32) (x573 : Int32) (w : WM) : Option (Int32 × WM) :=
  ai_bd (Fm_isCell_89 x570 w) fun c574 =>
  if c574.1 = 0 then
    ai_bd (Fm_bad_89 c574.2) fun c575 =>
    some (c575.1, c575.2)
  else
    ai_bd (Fm_in (x571).toInt64 0 999) fun c576 =>
    if c576 = 0 then
      ai_bd (Fm_bad_89 c574.2) fun c577 =>
      some (c577.1, c577.2)
    else
      ai_bd (Fm_in (x572).toInt64 0 40) fun c578 =>
      if c578 = 0 then
        ai_bd (Fm_bad_89 c574.2) fun c579 =>
        some (c579.1, c579.2)
      else
        ai_bd (Fm_isCell_89 x573 c574.2) fun c580 =>
        if c580.1 = 0 then
          ai_bd (Fm_bad_89 c580.2) fun c589 =>
          some (c589.1, c589.2)
        else
          ai_bd (Fm_laySpill_89 n x570 x571 c580.2) fun c588 =>
          Gm_spill_89 n 0 x570 x571 x572 x573 0 c588
def Gm_keepsOut_89 : Nat → Nat → Int32 → Int32 → Int32 → Int32 → Int32 → Int32 → Int32 → WM → Option (Int32 × WM)
  | 0, _, _, _, _, _, _, _, _, _ => none
  | n + 1, 0, y644, y645, y646, y647, y648, y649, _, w =>
    if y646 < y649 then
      some (1, w)
    else
      Gm_keepsOut_89 n 1 y644 y645 y646 y647 y648 y649 0 w
  | n + 1, 1, y650, y651, y652, y653, y654, y655, y656, w =>
    ai_bd (ai_ix (a_m_w w) 0) fun v657 =>
    if v657 ≤ y656 then
      ai_bd (Fm_spills_89 n y654 w) fun c658 =>
      Gm_keepsOut_89 n 0 y650 y651 y652 y653 y654 (y655 + 1) 0 c658
    else
      ai_bd (Fm_has y653 y656) fun c659 =>
      if c659 = 0 then
        Gm_keepsOut_89 n 1 y650 y651 y652 y653 y654 y655 (y656 + 1) w
      else
        ai_bd (ai_ix (a_m_there w) y656) fun v660 =>
        if v660 ≤ 0 then
          Gm_keepsOut_89 n 1 y650 y651 y652 y653 y654 y655 (y656 + 1) w
        else
          some (0, w)
  | _ + 1, _ + 2, _, _, _, _, _, _, _, _ => none
def Fm_keepsOut_89 (n : Nat) (x638 : Int32) (x639 : Int32) (x640 : Int32) (x641 : Int32) (x642 : Int32) (w : WM) : Option (Int32 × WM) :=
  ai_bd (Fm_laySpill_89 n x638 x639 w) fun c643 =>
  Gm_keepsOut_89 n 0 x638 x639 x640 x641 x642 0 0 c643
def Gm_ones : Nat → Nat → Int32 → Int32 → Int32 → Option (Int32)
  | 0, _, _, _, _ => none
  | n + 1, 0, y663, y664, y665 =>
    if 6 ≤ y665 then
      some (y664)
    else
      Gm_ones n 0 y663 (y664 + ((y663 >>> (y665 &&& 31)) &&& 1)) (y665 + 1)
  | _ + 1, _ + 1, _, _, _ => none
def Fm_ones (n : Nat) (x662 : Int32) : Option (Int32) :=
  Gm_ones n 0 x662 0 0
def Gm_keepOut_89 : Nat → Nat → Int32 → Int32 → Int32 → Int32 → Int32 → Int32 → WM → Option (Int32 × WM)
  | 0, _, _, _, _, _, _, _, _ => none
  | n + 1, 0, y629, y630, y631, y632, y633, y634, w =>
    ai_bd (ai_ix (a_m_w w) 0) fun v635 =>
    if (1 <<< ((v635 - 1) &&& 31)) ≤ y634 then
      some (y633, w)
    else
      ai_bd (ai_ix (a_m_w w) 5) fun v636 =>
      if (y634 &&& v636) = 0 then
        if y633 = (-1) then
          ai_bd (ai_ix (a_m_w w) 5) fun v637 =>
          ai_bd (Fm_keepsOut_89 n y629 y630 y631 y632 (v637 ||| y634) w) fun c661 =>
          if c661.1 = 0 then
            Gm_keepOut_89 n 0 y629 y630 y631 y632 y633 (y634 + 1) c661.2
          else
            Gm_keepOut_89 n 0 y629 y630 y631 y632 y634 (y634 + 1) c661.2
        else
          ai_bd (Fm_ones n y634) fun c666 =>
          ai_bd (Fm_ones n y633) fun c667 =>
          if c667 ≤ c666 then
            Gm_keepOut_89 n 0 y629 y630 y631 y632 y633 (y634 + 1) w
          else
            ai_bd (ai_ix (a_m_w w) 5) fun v668 =>
            ai_bd (Fm_keepsOut_89 n y629 y630 y631 y632 (v668 ||| y634) w) fun c669 =>
            if c669.1 = 0 then
              Gm_keepOut_89 n 0 y629 y630 y631 y632 y633 (y634 + 1) c669.2
            else
              Gm_keepOut_89 n 0 y629 y630 y631 y632 y634 (y634 + 1) c669.2
      else
        Gm_keepOut_89 n 0 y629 y630 y631 y632 y633 (y634 + 1) w
  | _ + 1, _ + 1, _, _, _, _, _, _, _ => none
def Fm_keepOut_89 (n : Nat) (x616 : Int32) (x617 : Int32) (x618 : Int32) (x619 : Int32) (w : WM) : Option (Int32 × WM) :=
  ai_bd (Fm_isCell_89 x616 w) fun c620 =>
  if c620.1 = 0 then
    ai_bd (Fm_bad_89 c620.2) fun c621 =>
    some (c621.1, c621.2)
  else
    ai_bd (Fm_in (x617).toInt64 0 999) fun c622 =>
    if c622 = 0 then
      ai_bd (Fm_bad_89 c620.2) fun c623 =>
      some (c623.1, c623.2)
    else
      ai_bd (Fm_in (x618).toInt64 0 40) fun c624 =>
      if c624 = 0 then
        ai_bd (Fm_bad_89 c620.2) fun c625 =>
        some (c625.1, c625.2)
      else
        ai_bd (ai_ix (a_m_w c620.2) 0) fun v626 =>
        ai_bd (Fm_in (x619).toInt64 0 (((1 <<< (v626 &&& 31)) - 1)).toInt64) fun c627 =>
        if c627 = 0 then
          ai_bd (Fm_bad_89 c620.2) fun c628 =>
          some (c628.1, c628.2)
        else
          Gm_keepOut_89 n 0 x616 x617 x618 x619 (-1) 0 c620.2
def Gm_shaken_89 : Nat → Nat → Int32 → Int32 → Int32 → Int32 → Int32 → Int32 → Int32 → WM → Option (Int32 × WM)
  | 0, _, _, _, _, _, _, _, _, _ => none
  | n + 1, 0, y679, y680, y681, y682, y683, _, _, w =>
    if 4 ≤ y683 then
      Gm_shaken_89 n 1 y679 y680 y681 y682 0 0 y679 w
    else
      ai_bd (ai_ix (a_m_w w) 1) fun v684 =>
      ai_bd (Fm_thickIn_89 y683 y680 v684 w) fun c685 =>
      Gm_shaken_89 n 0 y679 y680 y681 (y682 + c685.1) (y683 + 1) 0 0 c685.2
  | n + 1, 1, y686, y687, y688, y689, y690, y691, y692, w =>
    if y692 ≤ 0 then
      if y688 = 0 then
        some (y690, w)
      else
        some (y691, w)
    else
      if y692 ≤ y689 then
        Gm_shaken_89 n 1 y686 y687 y688 y689 (y690 + 1) (y691 + 0) (y692 - ((y692 + 3) / 4)) w
      else
        Gm_shaken_89 n 1 y686 y687 y688 y689 (y690 + 1) (y691 + 1) (y692 - ((y692 + 3) / 4)) w
  | _ + 1, _ + 2, _, _, _, _, _, _, _, _ => none
def Fm_shaken_89 (n : Nat) (x670 : Int32) (x671 : Int32) (x672 : Int32) (w : WM) : Option (Int32 × WM) :=
  ai_bd (Fm_in (x670).toInt64 0 99) fun c673 =>
  if c673 = 0 then
    ai_bd (Fm_bad_89 w) fun c674 =>
    some (c674.1, c674.2)
  else
    ai_bd (Fm_isCell_89 x671 w) fun c675 =>
    if c675.1 = 0 then
      ai_bd (Fm_bad_89 c675.2) fun c676 =>
      some (c676.1, c676.2)
    else
      ai_bd (Fm_in (x672).toInt64 0 1) fun c677 =>
      if c677 = 0 then
        ai_bd (Fm_bad_89 c675.2) fun c678 =>
        some (c678.1, c678.2)
      else
        Gm_shaken_89 n 0 x670 x671 x672 0 0 0 0 c675.2
def Gm_lies_89 : Nat → Nat → Int32 → Int32 → Int32 → Int32 → Int32 → Int32 → Int32 → Int32 → Int32 → WM → Option (Int32 × WM)
  | 0, _, _, _, _, _, _, _, _, _, _, _ => none
  | n + 1, 0, y708, y709, y710, y711, y712, y713, y714, y715, y716, w =>
    if 100 ≤ y716 then
      if y712 = 0 then
        some (y713, w)
      else
        if y712 = 1 then
          some (y714, w)
        else
          some (y715, w)
    else
      ai_bd (Fm_comesDown_89 n y709 (u_m_weight w y716)) fun c717 =>
      if (a_m_restsIn c717) = y710 then
        if y714 = (-1) then
          Gm_lies_89 n 0 y708 y709 y710 y711 y712 (y713 + 1) y716 y716 (y716 + 1) c717
        else
          Gm_lies_89 n 0 y708 y709 y710 y711 y712 (y713 + 1) y714 y716 (y716 + 1) c717
      else
        Gm_lies_89 n 0 y708 y709 y710 y711 y712 y713 y714 y715 (y716 + 1) c717
  | _ + 1, _ + 1, _, _, _, _, _, _, _, _, _, _ => none
def Fm_lies_89 (n : Nat) (x693 : Int32) (x694 : Int32) (x695 : Int32) (x696 : Int32) (x697 : Int32) (w : WM) : Option (Int32 × WM) :=
  ai_bd (Fm_in (x693).toInt64 1 9) fun c698 =>
  if c698 = 0 then
    ai_bd (Fm_badAs_89 (-10) w) fun c699 =>
    some (c699.1, c699.2)
  else
    ai_bd (Fm_isCell_89 x694 w) fun c700 =>
    if c700.1 = 0 then
      ai_bd (Fm_badAs_89 (-10) c700.2) fun c701 =>
      some (c701.1, c701.2)
    else
      ai_bd (Fm_in (x695).toInt64 0 4) fun c702 =>
      if c702 = 0 then
        ai_bd (Fm_badAs_89 (-10) c700.2) fun c703 =>
        some (c703.1, c703.2)
      else
        ai_bd (Fm_in (x696).toInt64 0 999) fun c704 =>
        if c704 = 0 then
          ai_bd (Fm_badAs_89 (-10) c700.2) fun c705 =>
          some (c705.1, c705.2)
        else
          ai_bd (Fm_in (x697).toInt64 0 2) fun c706 =>
          if c706 = 0 then
            ai_bd (Fm_badAs_89 (-10) c700.2) fun c707 =>
            some (c707.1, c707.2)
          else
            Gm_lies_89 n 0 x693 x694 x695 x696 x697 0 (-1) (-1) 1 (u_m_torn (u_m_hour (u_m_load (u_m_volume (u_m_kind c700.2 4) x693) 0) x696) 0)
def Gm_driftsTo_89 : Nat → Nat → Int32 → Int32 → Int32 → Int32 → Int32 → WM → Option (Int32 × WM)
  | 0, _, _, _, _, _, _, _ => none
  | n + 1, 0, y732, y733, y734, _, _, w =>
    if 4 ≤ y734 then
      some (y733, w)
    else
      ai_bd (Fm_has (a_m_passes w) y734) fun c735 =>
      if c735 = 0 then
        Gm_driftsTo_89 n 1 y732 y733 y734 0 0 w
      else
        ai_bd (Fm_thickIn_89 y734 y732 (a_m_hour w) w) fun c736 =>
        Gm_driftsTo_89 n 1 y732 y733 y734 c736.1 0 c736.2
  | n + 1, 1, y737, y738, y739, y740, y741, w =>
    if y740 ≤ y741 then
      Gm_driftsTo_89 n 0 y737 y738 (y739 + 1) 0 0 w
    else
      ai_bd (ai_ix (a_m_w w) (12 + y739)) fun v742 =>
      ai_bd (Fm_isCell_89 (y738 + v742) w) fun c743 =>
      if c743.1 = 0 then
        Gm_driftsTo_89 n 1 y737 y738 y739 y740 (y741 + 1) c743.2
      else
        ai_bd (ai_ix (a_m_w c743.2) (12 + y739)) fun v744 =>
        Gm_driftsTo_89 n 1 y737 (y738 + v744) y739 y740 (y741 + 1) c743.2
  | _ + 1, _ + 2, _, _, _, _, _, _ => none
def Fm_driftsTo_89 (n : Nat) (x730 : Int32) (w : WM) : Option (Int32 × WM) :=
  ai_bd (Fm_comesDown_89 n x730 w) fun c731 =>
  Gm_driftsTo_89 n 0 x730 x730 0 0 0 c731
def Gm_wentIn_89 : Nat → Nat → Int32 → Int32 → Int32 → Int32 → WM → Option (Int32 × WM)
  | 0, _, _, _, _, _, _ => none
  | n + 1, 0, y725, y726, y727, y728, w =>
    ai_bd (ai_ix (a_m_w w) 0) fun v729 =>
    if v729 ≤ y728 then
      some (y727, w)
    else
      ai_bd (Fm_driftsTo_89 n y728 w) fun c745 =>
      if c745.1 = y726 then
        Gm_wentIn_89 n 0 y725 y726 (y727 ||| (1 <<< (y728 &&& 31))) (y728 + 1) c745.2
      else
        Gm_wentIn_89 n 0 y725 y726 (y727 ||| 0) (y728 + 1) c745.2
  | _ + 1, _ + 1, _, _, _, _, _ => none
def Fm_wentIn_89 (n : Nat) (x718 : Int32) (x719 : Int32) (w : WM) : Option (Int32 × WM) :=
  ai_bd (Fm_isThing_89 x718 w) fun c720 =>
  if c720.1 = 0 then
    ai_bd (Fm_bad_89 c720.2) fun c721 =>
    some (c721.1, c721.2)
  else
    ai_bd (Fm_isCell_89 x719 c720.2) fun c722 =>
    if c722.1 = 0 then
      ai_bd (Fm_bad_89 c722.2) fun c724 =>
      some (c724.1, c724.2)
    else
      ai_bd (Fm_lay_89 x718 c722.2) fun c723 =>
      Gm_wentIn_89 n 0 x718 x719 0 0 c723
def Gm_nets_89 : Nat → Nat → Int32 → Int32 → Int32 → Int32 → Int32 → Int32 → Int32 → Int32 → Int32 → Int32 → WM → Option (Int32 × WM)
  | 0, _, _, _, _, _, _, _, _, _, _, _, _ => none
  | n + 1, 0, y756, y757, y758, y759, _, _, _, _, _, _, w =>
    ai_bd (ai_ix (a_m_w w) 2) fun v760 =>
    if v760 ≤ y759 then
      Gm_nets_89 n 1 y756 y757 y758 0 (-1) 0 0 0 0 0 w
    else
      ai_bd (Fm_has y757 y759) fun c761 =>
      if c761 = 0 then
        Gm_nets_89 n 0 y756 y757 y758 (y759 + 1) 0 0 0 0 0 0 w
      else
        ai_bd (ai_ix (a_m_w w) (67 + y759)) fun v762 =>
        if v762 = 5 then
          Gm_nets_89 n 0 y756 y757 y758 (y759 + 1) 0 0 0 0 0 0 w
        else
          ai_bd (Fm_badAs_89 (-10) w) fun c763 =>
          some (c763.1, c763.2)
  | n + 1, 1, y764, y765, y766, y767, y768, y769, _, _, _, _, w =>
    if 3721 ≤ y769 then
      if y766 = 0 then
        some (y767, w)
      else
        some (y768, w)
    else
      if (y769 - y769 / 61 * 61) < (y769 / 61) then
        Gm_nets_89 n 2 y764 y765 y766 y767 y768 y769 (y769 / 61) (y769 - y769 / 61 * 61) 0 0 w
      else
        Gm_nets_89 n 2 y764 y765 y766 y767 y768 y769 (y769 / 61) (y769 - y769 / 61 * 61) 1 0 w
  | n + 1, 2, y770, y771, y772, y773, y774, y775, y776, y777, y778, y779, w =>
    ai_bd (ai_ix (a_m_w w) 2) fun v780 =>
    if v780 ≤ y779 then
      if y778 = 0 then
        if y778 = 0 then
          Gm_nets_89 n 1 y770 y771 y772 (y773 + 0) y774 (y775 + 1) 0 0 0 0 w
        else
          Gm_nets_89 n 1 y770 y771 y772 (y773 + 1) y774 (y775 + 1) 0 0 0 0 w
      else
        if y773 = 0 then
          if y778 = 0 then
            Gm_nets_89 n 1 y770 y771 y772 (y773 + 0) ((100 * y776) + y777) (y775 + 1) 0 0 0 0 w
          else
            Gm_nets_89 n 1 y770 y771 y772 (y773 + 1) ((100 * y776) + y777) (y775 + 1) 0 0 0 0 w
        else
          if y778 = 0 then
            Gm_nets_89 n 1 y770 y771 y772 (y773 + 0) y774 (y775 + 1) 0 0 0 0 w
          else
            Gm_nets_89 n 1 y770 y771 y772 (y773 + 1) y774 (y775 + 1) 0 0 0 0 w
    else
      if y778 = 0 then
        if y778 = 0 then
          if y778 = 0 then
            Gm_nets_89 n 1 y770 y771 y772 (y773 + 0) y774 (y775 + 1) 0 0 0 0 w
          else
            Gm_nets_89 n 1 y770 y771 y772 (y773 + 1) y774 (y775 + 1) 0 0 0 0 w
        else
          if y773 = 0 then
            if y778 = 0 then
              Gm_nets_89 n 1 y770 y771 y772 (y773 + 0) ((100 * y776) + y777) (y775 + 1) 0 0 0 0 w
            else
              Gm_nets_89 n 1 y770 y771 y772 (y773 + 1) ((100 * y776) + y777) (y775 + 1) 0 0 0 0 w
          else
            if y778 = 0 then
              Gm_nets_89 n 1 y770 y771 y772 (y773 + 0) y774 (y775 + 1) 0 0 0 0 w
            else
              Gm_nets_89 n 1 y770 y771 y772 (y773 + 1) y774 (y775 + 1) 0 0 0 0 w
      else
        ai_bd (ai_ix (a_m_w w) (67 + y779)) fun v781 =>
        if v781 = 5 then
          ai_bd (Fm_lay_89 y779 w) fun c782 =>
          ai_bd (Fm_comesDown_89 n y770 c782) fun c783 =>
          ai_bd (Fm_in ((a_m_down c783)).toInt64 (y776).toInt64 (y777).toInt64) fun c784 =>
          ai_bd (Fm_has y771 y779) fun c785 =>
          if c784 = c785 then
            Gm_nets_89 n 2 y770 y771 y772 y773 y774 y775 y776 y777 1 (y779 + 1) c783
          else
            Gm_nets_89 n 2 y770 y771 y772 y773 y774 y775 y776 y777 0 (y779 + 1) c783
        else
          Gm_nets_89 n 2 y770 y771 y772 y773 y774 y775 y776 y777 y778 (y779 + 1) w
  | _ + 1, _ + 3, _, _, _, _, _, _, _, _, _, _, _ => none
def Fm_nets_89 (n : Nat) (x746 : Int32) (x747 : Int32) (x748 : Int32) (w : WM) : Option (Int32 × WM) :=
  ai_bd (Fm_isCell_89 x746 w) fun c749 =>
  if c749.1 = 0 then
    ai_bd (Fm_badAs_89 (-10) c749.2) fun c750 =>
    some (c750.1, c750.2)
  else
    ai_bd (ai_ix (a_m_w c749.2) 2) fun v751 =>
    ai_bd (Fm_in (x747).toInt64 0 (((1 <<< (v751 &&& 31)) - 1)).toInt64) fun c752 =>
    if c752 = 0 then
      ai_bd (Fm_badAs_89 (-10) c749.2) fun c753 =>
      some (c753.1, c753.2)
    else
      ai_bd (Fm_in (x748).toInt64 0 1) fun c754 =>
      if c754 = 0 then
        ai_bd (Fm_badAs_89 (-10) c749.2) fun c755 =>
        some (c755.1, c755.2)
      else
        Gm_nets_89 n 0 x746 x747 x748 0 0 0 0 0 0 0 c749.2
def Fm_tapped_89 (x814 : Int32) (x815 : Int32) (x816 : Int32) : Option (Int32) :=
  if (x814 + x815) ≤ x816 then
    some ((x814 - 0))
  else
    some ((x814 - (2 * ((x814 + x815) - x816))))
def Gm_tap_89 : Nat → Nat → Int32 → Int32 → Int32 → Int32 → Int32 → Int32 → Int32 → Int32 → WM → Option (Int32 × WM)
  | 0, _, _, _, _, _, _, _, _, _, _ => none
  | n + 1, 0, y789, y790, y791, _, _, _, _, _, w =>
    ai_bd (ai_ix (a_m_w w) 0) fun v792 =>
    if v792 ≤ y791 then
      Gm_tap_89 n 1 y789 y790 0 (-1) 0 0 0 0 w
    else
      ai_bd (ai_ix (a_m_w w) 1) fun v793 =>
      ai_bd (Fm_thickIn_89 0 y791 v793 w) fun c794 =>
      Gm_tap_89 n 0 y789 (y790 + c794.1) (y791 + 1) 0 0 0 0 0 c794.2
  | n + 1, 1, y795, y796, y797, y798, y799, _, _, _, w =>
    if 10 ≤ y799 then
      if y795 = 0 then
        some (y797, w)
      else
        some (y798, w)
    else
      Gm_tap_89 n 2 y795 y796 y797 y798 y799 0 0 0 w
  | n + 1, 2, y800, y801, y802, y803, y804, y805, _, _, w =>
    if 10 ≤ y805 then
      Gm_tap_89 n 1 y800 y801 y802 y803 (y804 + 1) 0 0 0 w
    else
      Gm_tap_89 n 3 y800 y801 y802 y803 y804 y805 1 0 w
  | n + 1, 3, y806, y807, y808, y809, y810, y811, y812, y813, w =>
    if 10 ≤ y813 then
      if y812 = 0 then
        if y812 = 0 then
          Gm_tap_89 n 2 y806 y807 (y808 + 0) y809 y810 (y811 + 1) 0 0 w
        else
          Gm_tap_89 n 2 y806 y807 (y808 + 1) y809 y810 (y811 + 1) 0 0 w
      else
        if y808 = 0 then
          if y812 = 0 then
            Gm_tap_89 n 2 y806 y807 (y808 + 0) ((10 * y810) + y811) y810 (y811 + 1) 0 0 w
          else
            Gm_tap_89 n 2 y806 y807 (y808 + 1) ((10 * y810) + y811) y810 (y811 + 1) 0 0 w
        else
          if y812 = 0 then
            Gm_tap_89 n 2 y806 y807 (y808 + 0) y809 y810 (y811 + 1) 0 0 w
          else
            Gm_tap_89 n 2 y806 y807 (y808 + 1) y809 y810 (y811 + 1) 0 0 w
    else
      if y812 = 0 then
        Gm_tap_89 n 3 y806 y807 y808 y809 y810 y811 0 (y813 + 1) w
      else
        ai_bd (Fm_tapped_89 y813 y811 y807) fun c817 =>
        ai_bd (Fm_tapped_89 y810 y811 y807) fun c818 =>
        if c818 < c817 then
          Gm_tap_89 n 3 y806 y807 y808 y809 y810 y811 0 (y813 + 1) w
        else
          ai_bd (Fm_tapped_89 y813 y810 y807) fun c819 =>
          ai_bd (Fm_tapped_89 y811 y810 y807) fun c820 =>
          if c820 < c819 then
            Gm_tap_89 n 3 y806 y807 y808 y809 y810 y811 0 (y813 + 1) w
          else
            Gm_tap_89 n 3 y806 y807 y808 y809 y810 y811 1 (y813 + 1) w
  | _ + 1, _ + 4, _, _, _, _, _, _, _, _, _ => none
def Fm_tap_89 (n : Nat) (x786 : Int32) (w : WM) : Option (Int32 × WM) :=
  ai_bd (Fm_in (x786).toInt64 0 1) fun c787 =>
  if c787 = 0 then
    ai_bd (Fm_badAs_89 (-10) w) fun c788 =>
    some (c788.1, c788.2)
  else
    Gm_tap_89 n 0 x786 0 0 0 0 0 0 0 w
def Gm_fits_89 : Nat → Nat → Int32 → Int32 → Int32 → Int32 → WM → Option (Int32 × WM)
  | 0, _, _, _, _, _, _ => none
  | n + 1, 0, y833, y834, y835, y836, w =>
    ai_bd (ai_ix (a_m_w w) 6) fun v837 =>
    if v837 ≤ y836 then
      if y835 = 0 ∨ y835 = 1 then some (y835, w) else none
    else
      if y835 = 0 then
        Gm_fits_89 n 0 y833 y834 0 (y836 + 1) w
      else
        ai_bd (ai_ix (a_m_w w) (127 + y836)) fun v838 =>
        ai_bd (ai_ix (a_m_w w) (8 + v838)) fun v839 =>
        if (y834 * v839) < y833 then
          ai_bd (ai_ix (a_m_w w) (133 + y836)) fun v840 =>
          if v840 = 1 then
            Gm_fits_89 n 0 y833 y834 0 (y836 + 1) w
          else
            Gm_fits_89 n 0 y833 y834 1 (y836 + 1) w
        else
          ai_bd (ai_ix (a_m_w w) (133 + y836)) fun v841 =>
          if v841 = 1 then
            Gm_fits_89 n 0 y833 y834 1 (y836 + 1) w
          else
            Gm_fits_89 n 0 y833 y834 0 (y836 + 1) w
  | _ + 1, _ + 1, _, _, _, _, _ => none
def Fm_fits_89 (n : Nat) (x831 : Int32) (x832 : Int32) (w : WM) : Option (Int32 × WM) :=
  Gm_fits_89 n 0 x831 x832 1 0 w
def Gm_known_89 : Nat → Nat → Int32 → Int32 → Int32 → Int32 → Int32 → Int32 → Int32 → Int32 → WM → Option (Int32 × WM)
  | 0, _, _, _, _, _, _, _, _, _, _ => none
  | n + 1, 0, y827, y828, y829, y830, _, _, _, _, w =>
    if 100 ≤ y830 then
      Gm_known_89 n 1 y827 y828 y829 (-1) 1000000 0 0 0 w
    else
      ai_bd (Fm_fits_89 n y830 y827 w) fun c842 =>
      if c842.1 = 0 then
        Gm_known_89 n 0 y827 y828 (y829 + 0) (y830 + 1) 0 0 0 0 c842.2
      else
        Gm_known_89 n 0 y827 y828 (y829 + 1) (y830 + 1) 0 0 0 0 c842.2
  | n + 1, 1, y843, y844, y845, y846, y847, y848, _, _, w =>
    if 4 ≤ y848 then
      if y844 = 0 then
        some (y845, w)
      else
        some (y846, w)
    else
      if y845 ≤ 0 then
        if y844 = 0 then
          some (y845, w)
        else
          some (y846, w)
      else
        Gm_known_89 n 2 y843 y844 y845 y846 y847 y848 0 1 w
  | n + 1, 2, y849, y850, y851, y852, y853, y854, y855, y856, w =>
    if 100 ≤ y856 then
      if y855 ≤ (y851 - y855) then
        if y853 ≤ (y851 - y855) then
          if y853 ≤ (y851 - y855) then
            Gm_known_89 n 1 y849 y850 y851 y852 y853 (y854 + 1) 0 0 w
          else
            Gm_known_89 n 1 y849 y850 y851 y852 (y851 - y855) (y854 + 1) 0 0 w
        else
          if y853 ≤ (y851 - y855) then
            Gm_known_89 n 1 y849 y850 y851 y854 y853 (y854 + 1) 0 0 w
          else
            Gm_known_89 n 1 y849 y850 y851 y854 (y851 - y855) (y854 + 1) 0 0 w
      else
        if y853 ≤ y855 then
          if y853 ≤ y855 then
            Gm_known_89 n 1 y849 y850 y851 y852 y853 (y854 + 1) 0 0 w
          else
            Gm_known_89 n 1 y849 y850 y851 y852 y855 (y854 + 1) 0 0 w
        else
          if y853 ≤ y855 then
            Gm_known_89 n 1 y849 y850 y851 y854 y853 (y854 + 1) 0 0 w
          else
            Gm_known_89 n 1 y849 y850 y851 y854 y855 (y854 + 1) 0 0 w
    else
      ai_bd (Fm_fits_89 n y856 y849 w) fun c857 =>
      if c857.1 = 0 then
        Gm_known_89 n 2 y849 y850 y851 y852 y853 y854 (y855 + 0) (y856 + 1) c857.2
      else
        ai_bd (ai_ix (a_m_w c857.2) (8 + y854)) fun v858 =>
        if (y849 * v858) < y856 then
          Gm_known_89 n 2 y849 y850 y851 y852 y853 y854 (y855 + 0) (y856 + 1) c857.2
        else
          Gm_known_89 n 2 y849 y850 y851 y852 y853 y854 (y855 + 1) (y856 + 1) c857.2
  | _ + 1, _ + 3, _, _, _, _, _, _, _, _, _ => none
def Fm_known_89 (n : Nat) (x821 : Int32) (x822 : Int32) (w : WM) : Option (Int32 × WM) :=
  ai_bd (Fm_in (x821).toInt64 1 9) fun c823 =>
  if c823 = 0 then
    ai_bd (Fm_badAs_89 (-10) w) fun c824 =>
    some (c824.1, c824.2)
  else
    ai_bd (Fm_in (x822).toInt64 0 1) fun c825 =>
    if c825 = 0 then
      ai_bd (Fm_badAs_89 (-10) w) fun c826 =>
      some (c826.1, c826.2)
    else
      Gm_known_89 n 0 x821 x822 0 1 0 0 0 0 w
def Gm_tells_89 : Nat → Nat → Int64 → Int64 → Int64 → Int64 → WM → Option (WM)
  | 0, _, _, _, _, _, _ => none
  | n + 1, 0, y891, y892, y893, y894, w =>
    if (lg_cmp y894 0) = 0 then
      if y893 = 0 then none else
        if y893 = 0 then none else
          some ((u_m_below (u_m_above w (y891 / y893)) (y892 / y893)))
    else
      if y894 = 0 then none else
        Gm_tells_89 n 0 y891 y892 y894 (y893 - y893 / y894 * y894) w
  | _ + 1, _ + 1, _, _, _, _, _ => none
def Fm_tells_89 (n : Nat) (x889 : Int64) (x890 : Int64) (w : WM) : Option (WM) :=
  Gm_tells_89 n 0 x889 x890 x889 x890 w
def Gm_storm_89 : Nat → Nat → Int32 → Int32 → Int32 → Int32 → Int32 → Int32 → Int32 → Int64 → Int64 → Int64 → Int64 → WM → Option (Int32 × WM)
  | 0, _, _, _, _, _, _, _, _, _, _, _, _, _ => none
  | n + 1, 0, y871, y872, y873, y874, y877, _, _, y875, y876, _, _, w =>
    if y873 ≤ y877 then
      ai_bd (Fm_lay_89 y871 w) fun c878 =>
      ai_bd (Fm_comesDown_89 n y872 c878) fun c879 =>
      Gm_storm_89 n 1 y871 y872 y873 y874 (a_m_restsIn c879) 0 0 y875 y876 0 0 c879
    else
      Gm_storm_89 n 0 y871 y872 y873 y874 (y877 + 1) 0 0 (y875 * 10) (y876 * ((10 - y874)).toInt64) 0 0 w
  | n + 1, 1, y880, y881, y882, y883, y886, y888, _, y884, y885, y887, _, w =>
    if 8 ≤ y888 then
      ai_bd (Fm_tells_89 n y887 ((y884 * y884) * y884) (u_m_torn w 0)) fun c895 =>
      some (1, c895)
    else
      Gm_storm_89 n 2 y880 y881 y882 y883 y886 y888 0 y884 y885 y887 1 w
  | n + 1, 2, y896, y897, y898, y899, y902, y904, y906, y900, y901, y903, y905, w =>
    if 3 ≤ y906 then
      ai_bd (Fm_comesDown_89 n y897 (u_m_torn w y904)) fun c907 =>
      if (a_m_restsIn c907) ≤ y902 then
        Gm_storm_89 n 1 y896 y897 y898 y899 y902 (y904 + 1) 0 y900 y901 (y903 + 0) 0 c907
      else
        Gm_storm_89 n 1 y896 y897 y898 y899 y902 (y904 + 1) 0 y900 y901 (y903 + y905) 0 c907
    else
      ai_bd (Fm_has y904 y906) fun c908 =>
      if c908 = 0 then
        Gm_storm_89 n 2 y896 y897 y898 y899 y902 y904 (y906 + 1) y900 y901 y903 (y905 * y901) w
      else
        Gm_storm_89 n 2 y896 y897 y898 y899 y902 y904 (y906 + 1) y900 y901 y903 (y905 * (y900 - y901)) w
  | _ + 1, _ + 3, _, _, _, _, _, _, _, _, _, _, _, _ => none
def Fm_storm_89 (n : Nat) (x859 : Int32) (x860 : Int32) (x861 : Int32) (x862 : Int32) (w : WM) : Option (Int32 × WM) :=
  ai_bd (Fm_isThing_89 x859 w) fun c863 =>
  if c863.1 = 0 then
    ai_bd (Fm_bad_89 c863.2) fun c864 =>
    some (c864.1, c864.2)
  else
    ai_bd (Fm_isCell_89 x860 c863.2) fun c865 =>
    if c865.1 = 0 then
      ai_bd (Fm_bad_89 c865.2) fun c866 =>
      some (c866.1, c866.2)
    else
      ai_bd (Fm_in (x861).toInt64 0 5) fun c867 =>
      if c867 = 0 then
        ai_bd (Fm_bad_89 c865.2) fun c868 =>
        some (c868.1, c868.2)
      else
        ai_bd (Fm_in (x862).toInt64 0 10) fun c869 =>
        if c869 = 0 then
          ai_bd (Fm_bad_89 c865.2) fun c870 =>
          some (c870.1, c870.2)
        else
          Gm_storm_89 n 0 x859 x860 x861 x862 0 0 0 1 1 0 0 c865.2
def Fm_part_89 (x909 : Int32) (w : WM) : Option (Int64 × WM) :=
  if x909 = 0 then
    some ((a_m_above w), w)
  else
    if x909 = 1 then
      some ((a_m_below w), w)
    else
      ai_bd (Fm_bad_89 w) fun c910 =>
      some ((c910.1).toInt64, c910.2)
def Fm_image_89 (n : Nat) (x911 : Int32) (w : WM) : Option (Int32 × WM) :=
  ai_bd (Fm_in (x911).toInt64 0 1) fun c912 =>
  if c912 = 0 then
    ai_bd (Fm_bad_89 w) fun c915 =>
    some (c915.1, c915.2)
  else
    ai_bd (Fm_copy_89 n 0 (149 * (1 + x911)) w) fun c913 =>
    ai_bd (ai_up (a_m_isKept c913) x911 (vp_nar .boolean 1)) fun q914 =>
    some (1, (u_m_isKept c913 q914))
def Fm_from_89 (n : Nat) (x916 : Int32) (w : WM) : Option (Int32 × WM) :=
  ai_bd (Fm_in (x916).toInt64 0 1) fun c917 =>
  if c917 = 0 then
    ai_bd (Fm_bad_89 w) fun c921 =>
    some (c921.1, c921.2)
  else
    ai_bd (ai_ix (a_m_isKept w) x916) fun v918 =>
    if v918 = 0 then
      ai_bd (Fm_met_89 (-3) w) fun c920 =>
      some (c920.1, c920.2)
    else
      ai_bd (Fm_copy_89 n (149 * (1 + x916)) 0 w) fun c919 =>
      some (1, c919)
def Fm_status_89 (x922 : Int32) (w : WM) : Option (Int32 × WM) :=
  ai_bd (Fm_in (x922).toInt64 0 2) fun c923 =>
  if c923 = 0 then
    ai_bd (Fm_badAs_89 (-1) w) fun c924 =>
    some (c924.1, c924.2)
  else
    ai_bd (ai_ix (a_m_refused w) x922) fun v925 =>
    some (v925, w)
def Fm_countOf_89 (x929 : Int32) (w : WM) : Option (Int32 × WM) :=
  if x929 = 0 then
    ai_bd (ai_ix (a_m_w w) 0) fun v930 =>
    some (v930, w)
  else
  if x929 = 1 then
    ai_bd (ai_ix (a_m_w w) 1) fun v931 =>
    some (v931, w)
  else
  if x929 = 2 then
    ai_bd (ai_ix (a_m_w w) 2) fun v932 =>
    some (v932, w)
  else
  if x929 = 3 then
    ai_bd (ai_ix (a_m_w w) 3) fun v933 =>
    some (v933, w)
  else
  if x929 = 4 then
    ai_bd (ai_ix (a_m_w w) 4) fun v934 =>
    some (v934, w)
  else
  if x929 = 5 then
    ai_bd (ai_ix (a_m_w w) 5) fun v935 =>
    some (v935, w)
  else
  if x929 = 6 then
    ai_bd (ai_ix (a_m_w w) 6) fun v936 =>
    some (v936, w)
  else
  if x929 = 7 then
    ai_bd (ai_ix (a_m_w w) 7) fun v937 =>
    some (v937, w)
  else
    some ((a_m_texted w), w)
def Fm_count_89 (x926 : Int32) (w : WM) : Option (Int32 × WM) :=
  ai_bd (Fm_in (x926).toInt64 0 8) fun c927 =>
  if c927 = 0 then
    ai_bd (Fm_bad_89 w) fun c928 =>
    some (c928.1, c928.2)
  else
    ai_bd (Fm_countOf_89 x926 w) fun c938 =>
    some (c938.1, c938.2)
def Fm_mix_89 (x942 : Int64) (w : WM) : Option (WM) :=
  some ((u_m_h w ((31 * (a_m_h w)) + x942)))
def Gm_mixSea_89 : Nat → Nat → Int32 → Int32 → WM → Option (WM)
  | 0, _, _, _, _ => none
  | n + 1, 0, y940, _, w =>
    if 4 ≤ y940 then
      Gm_mixSea_89 n 3 0 0 w
    else
      ai_bd (ai_ix (a_m_w w) (8 + y940)) fun v941 =>
      ai_bd (Fm_mix_89 (v941).toInt64 w) fun c943 =>
      ai_bd (ai_ix (a_m_w c943) (12 + y940)) fun v944 =>
      ai_bd (Fm_mix_89 (v944).toInt64 c943) fun c945 =>
      Gm_mixSea_89 n 1 y940 0 c945
  | n + 1, 1, y949, y950, w =>
    if 6 ≤ y950 then
      Gm_mixSea_89 n 2 y949 0 w
    else
      ai_bd (ai_ix (a_m_w w) ((16 + (6 * y949)) + y950)) fun v951 =>
      ai_bd (Fm_mix_89 (v951).toInt64 w) fun c952 =>
      Gm_mixSea_89 n 1 y949 (y950 + 1) c952
  | n + 1, 2, y955, y956, w =>
    ai_bd (ai_ix (a_m_w w) 0) fun v957 =>
    if v957 ≤ y956 then
      Gm_mixSea_89 n 0 (y955 + 1) 0 w
    else
      ai_bd (ai_ix (a_m_w w) ((40 + (6 * y955)) + y956)) fun v958 =>
      ai_bd (Fm_mix_89 (v958).toInt64 w) fun c959 =>
      Gm_mixSea_89 n 2 y955 (y956 + 1) c959
  | n + 1, 3, y946, _, w =>
    if 3 ≤ y946 then
      Gm_mixSea_89 n 4 0 0 w
    else
      ai_bd (ai_ix (a_m_w w) (64 + y946)) fun v947 =>
      ai_bd (Fm_mix_89 (v947).toInt64 w) fun c948 =>
      Gm_mixSea_89 n 3 (y946 + 1) 0 c948
  | n + 1, 4, y953, _, w =>
    ai_bd (ai_ix (a_m_w w) 2) fun v954 =>
    if v954 ≤ y953 then
      some (w)
    else
      Gm_mixSea_89 n 5 y953 0 w
  | n + 1, 5, y960, y961, w =>
    if 4 ≤ y961 then
      Gm_mixSea_89 n 4 (y960 + 1) 0 w
    else
      ai_bd (ai_ix (a_m_w w) ((67 + (6 * y961)) + y960)) fun v962 =>
      ai_bd (Fm_mix_89 (v962).toInt64 w) fun c963 =>
      Gm_mixSea_89 n 5 y960 (y961 + 1) c963
  | _ + 1, _ + 6, _, _, _ => none
def Fm_mixSea_89 (n : Nat) (w : WM) : Option (WM) :=
  Gm_mixSea_89 n 0 0 0 w
def Gm_digest_89 : Nat → Nat → Int32 → WM → Option (Int64 × WM)
  | 0, _, _, _ => none
  | n + 1, 0, y939, w =>
    if 9 ≤ y939 then
      ai_bd (Fm_mixSea_89 n w) fun c964 =>
      Gm_digest_89 n 1 0 c964
    else
      ai_bd (Fm_countOf_89 y939 w) fun c965 =>
      ai_bd (Fm_mix_89 (c965.1).toInt64 c965.2) fun c966 =>
      Gm_digest_89 n 0 (y939 + 1) c966
  | n + 1, 1, y967, w =>
    ai_bd (ai_ix (a_m_w w) 3) fun v968 =>
    if v968 ≤ y967 then
      Gm_digest_89 n 2 0 w
    else
      ai_bd (ai_ix (a_m_w w) (91 + y967)) fun v969 =>
      ai_bd (Fm_mix_89 (v969).toInt64 w) fun c970 =>
      ai_bd (ai_ix (a_m_w c970) (101 + y967)) fun v971 =>
      ai_bd (Fm_mix_89 (v971).toInt64 c970) fun c972 =>
      ai_bd (ai_ix (a_m_w c972) (111 + y967)) fun v973 =>
      ai_bd (Fm_mix_89 (v973).toInt64 c972) fun c974 =>
      Gm_digest_89 n 1 (y967 + 1) c974
  | n + 1, 2, y975, w =>
    ai_bd (ai_ix (a_m_w w) 4) fun v976 =>
    if v976 ≤ y975 then
      Gm_digest_89 n 3 0 w
    else
      ai_bd (ai_ix (a_m_w w) (121 + y975)) fun v977 =>
      ai_bd (Fm_mix_89 (v977).toInt64 w) fun c978 =>
      Gm_digest_89 n 2 (y975 + 1) c978
  | n + 1, 3, y979, w =>
    ai_bd (ai_ix (a_m_w w) 6) fun v980 =>
    if v980 ≤ y979 then
      ai_bd (Fm_mix_89 (a_m_above w) w) fun c981 =>
      ai_bd (Fm_mix_89 (a_m_below c981) c981) fun c982 =>
      some ((a_m_h c982), c982)
    else
      ai_bd (ai_ix (a_m_w w) (127 + y979)) fun v983 =>
      ai_bd (Fm_mix_89 (v983).toInt64 w) fun c984 =>
      ai_bd (ai_ix (a_m_w c984) (133 + y979)) fun v985 =>
      ai_bd (Fm_mix_89 (v985).toInt64 c984) fun c986 =>
      Gm_digest_89 n 3 (y979 + 1) c986
  | _ + 1, _ + 4, _, _ => none
def Fm_digest_89 (n : Nat) (w : WM) : Option (Int64 × WM) :=
  Gm_digest_89 n 0 0 (u_m_h w 887)
def Ff_within (x989 : Int32) (x990 : Int32) (x991 : Int32) : Option (Int32) :=
  if x989 < x990 then
    some (0)
  else
    if x991 < x989 then
      some (0)
    else
      some (1)
def Garr_fill_3 : Nat → Nat → Int32 → Int32 → Int32 → WX → Option (WX)
  | 0, _, _, _, _, _ => none
  | n + 1, 0, y995, y996, y997, w =>
    if y997 ≤ y996 then
      some (w)
    else
      ai_bd (ai_up (a_s1_currents w) y996 y995) fun q998 =>
      Garr_fill_3 n 0 y995 (y996 + 1) y997 (u_s1_currents w q998)
  | _ + 1, _ + 1, _, _, _, _ => none
def Farr_fill_3 (n : Nat) (x994 : Int32) (w : WX) : Option (WX) :=
  Garr_fill_3 n 0 x994 0 (Int32.ofNat (List.length (a_s1_currents w))) w
def Garr_fill_4 : Nat → Nat → Int32 → Int32 → Int32 → WX → Option (WX)
  | 0, _, _, _, _, _ => none
  | n + 1, 0, y1001, y1002, y1003, w =>
    if y1003 ≤ y1002 then
      some (w)
    else
      ai_bd (ai_up (a_s1_tides w) y1002 y1001) fun q1004 =>
      Garr_fill_4 n 0 y1001 (y1002 + 1) y1003 (u_s1_tides w q1004)
  | _ + 1, _ + 1, _, _, _, _ => none
def Farr_fill_4 (n : Nat) (x1000 : Int32) (w : WX) : Option (WX) :=
  Garr_fill_4 n 0 x1000 0 (Int32.ofNat (List.length (a_s1_tides w))) w
def Garr_fill_5 : Nat → Nat → Int32 → Int32 → Int32 → WX → Option (WX)
  | 0, _, _, _, _, _ => none
  | n + 1, 0, y1007, y1008, y1009, w =>
    if y1009 ≤ y1008 then
      some (w)
    else
      ai_bd (ai_up (a_s1_thicks w) y1008 y1007) fun q1010 =>
      Garr_fill_5 n 0 y1007 (y1008 + 1) y1009 (u_s1_thicks w q1010)
  | _ + 1, _ + 1, _, _, _, _ => none
def Farr_fill_5 (n : Nat) (x1006 : Int32) (w : WX) : Option (WX) :=
  Garr_fill_5 n 0 x1006 0 (Int32.ofNat (List.length (a_s1_thicks w))) w
def Garr_fill_6 : Nat → Nat → Int32 → Int32 → Int32 → WX → Option (WX)
  | 0, _, _, _, _, _ => none
  | n + 1, 0, y1013, y1014, y1015, w =>
    if y1015 ≤ y1014 then
      some (w)
    else
      ai_bd (ai_up (a_s1_skins w) y1014 y1013) fun q1016 =>
      Garr_fill_6 n 0 y1013 (y1014 + 1) y1015 (u_s1_skins w q1016)
  | _ + 1, _ + 1, _, _, _, _ => none
def Farr_fill_6 (n : Nat) (x1012 : Int32) (w : WX) : Option (WX) :=
  Garr_fill_6 n 0 x1012 0 (Int32.ofNat (List.length (a_s1_skins w))) w
def Fsea_startAnew_1 (n : Nat) (x988 : Int32) (w : WX) : Option (Int32 × WX) :=
  ai_bd (Ff_within x988 1 6) fun c992 =>
  if c992 = 0 then
    some ((-2), w)
  else
    ai_bd (ai_cpy [10, 13, 16, 20] (a_s1_densities w) 0 0 4) fun q993 =>
    ai_bd (Farr_fill_3 n 0 (u_s1_densities (u_s1_dams (u_s1_hour (u_s1_cells w x988) 0) 0) q993)) fun c999 =>
    ai_bd (Farr_fill_4 n 0 c999) fun c1005 =>
    ai_bd (Farr_fill_5 n 3 c1005) fun c1011 =>
    ai_bd (Farr_fill_6 n 0 c1011) fun c1017 =>
    some ((a_s1_cells w), (u_s1_undos (u_s1_drops (u_s1_towns (u_s1lifts_count (u_s1things_count c1017 0) 0) 0) 0) 0))
def Ff_counted_0 (x1019 : Int32) (w : WX) : Option (Int32 × WX) :=
  if x1019 = (-2) then
    some (x1019, (u_f_refusedBad w ((a_f_refusedBad w) + 1)))
  else
    if x1019 = (-3) then
      some (x1019, (u_f_refusedNo w ((a_f_refusedNo w) + 1)))
    else
      if x1019 = (-4) then
        some (x1019, (u_f_refusedFull w ((a_f_refusedFull w) + 1)))
      else
        some (x1019, w)
def Ff_sea_0 (n : Nat) (x987 : Int32) (w : WX) : Option (Int32 × WX) :=
  ai_bd (Fsea_startAnew_1 n x987 w) fun c1018 =>
  ai_bd (Ff_counted_0 c1018.1 c1018.2) fun c1020 =>
  some (c1020.1, c1020.2)
def Ff_isLayer (x1025 : Int32) : Option (Int32) :=
  ai_bd (Ff_within x1025 0 3) fun c1026 =>
  if c1026 = 0 ∨ c1026 = 1 then some (c1026) else none
def Fsea_putDensity_1 (x1023 : Int32) (x1024 : Int32) (w : WX) : Option (Int32 × WX) :=
  ai_bd (Ff_isLayer x1023) fun c1027 =>
  if c1027 = 0 then
    some ((-2), w)
  else
    ai_bd (Ff_within x1024 1 99) fun c1028 =>
    if c1028 = 0 then
      some ((-2), w)
    else
      if x1023 = 0 then
        if x1023 = 3 then
          ai_bd (ai_ix (a_s1_densities w) x1023) fun v1029 =>
          ai_bd (ai_up (a_s1_densities w) x1023 x1024) fun q1030 =>
          some (v1029, (u_s1_densities w q1030))
        else
          ai_bd (ai_ix (a_s1_densities w) (x1023 + 1)) fun v1031 =>
          if v1031 ≤ x1024 then
            some ((-3), w)
          else
            ai_bd (ai_ix (a_s1_densities w) x1023) fun v1032 =>
            ai_bd (ai_up (a_s1_densities w) x1023 x1024) fun q1033 =>
            some (v1032, (u_s1_densities w q1033))
      else
        ai_bd (ai_ix (a_s1_densities w) (x1023 - 1)) fun v1034 =>
        if x1024 ≤ v1034 then
          if x1023 = 3 then
            some ((-3), w)
          else
            ai_bd (ai_ix (a_s1_densities w) (x1023 + 1)) fun v1035 =>
            if v1035 ≤ x1024 then
              some ((-3), w)
            else
              some ((-3), w)
        else
          if x1023 = 3 then
            ai_bd (ai_ix (a_s1_densities w) x1023) fun v1036 =>
            ai_bd (ai_up (a_s1_densities w) x1023 x1024) fun q1037 =>
            some (v1036, (u_s1_densities w q1037))
          else
            ai_bd (ai_ix (a_s1_densities w) (x1023 + 1)) fun v1038 =>
            if v1038 ≤ x1024 then
              some ((-3), w)
            else
              ai_bd (ai_ix (a_s1_densities w) x1023) fun v1039 =>
              ai_bd (ai_up (a_s1_densities w) x1023 x1024) fun q1040 =>
              some (v1039, (u_s1_densities w q1040))
def Ff_water_0 (x1021 : Int32) (x1022 : Int32) (w : WX) : Option (Int32 × WX) :=
  ai_bd (Fsea_putDensity_1 x1021 x1022 w) fun c1041 =>
  ai_bd (Ff_counted_0 c1041.1 c1041.2) fun c1042 =>
  some (c1042.1, c1042.2)
def Fsea_hasCell_1 (x1050 : Int32) (w : WX) : Option (Int32 × WX) :=
  ai_bd (Ff_within x1050 0 ((a_s1_cells w) - 1)) fun c1051 =>
  if c1051 = 0 ∨ c1051 = 1 then some (c1051, w) else none
def Fsea_putThick_1 (x1046 : Int32) (x1047 : Int32) (x1048 : Int32) (w : WX) : Option (Int32 × WX) :=
  ai_bd (Ff_isLayer x1046) fun c1049 =>
  if c1049 = 0 then
    some ((-2), w)
  else
    ai_bd (Fsea_hasCell_1 x1047 w) fun c1052 =>
    if c1052.1 = 0 then
      some ((-2), c1052.2)
    else
      ai_bd (Ff_within x1048 0 9) fun c1053 =>
      if c1053 = 0 then
        some ((-2), c1052.2)
      else
        ai_bd (ai_ix (a_s1_thicks c1052.2) ((x1046 * 6) + x1047)) fun v1054 =>
        ai_bd (ai_up (a_s1_thicks c1052.2) ((x1046 * 6) + x1047) x1048) fun q1055 =>
        some (v1054, (u_s1_thicks c1052.2 q1055))
def Ff_thick_0 (x1043 : Int32) (x1044 : Int32) (x1045 : Int32) (w : WX) : Option (Int32 × WX) :=
  ai_bd (Fsea_putThick_1 x1043 x1044 x1045 w) fun c1056 =>
  ai_bd (Ff_counted_0 c1056.1 c1056.2) fun c1057 =>
  some (c1057.1, c1057.2)
def Fsea_putSkin_1 (x1060 : Int32) (x1061 : Int32) (w : WX) : Option (Int32 × WX) :=
  ai_bd (Ff_within x1060 0 2) fun c1062 =>
  if c1062 = 0 then
    some ((-2), w)
  else
    ai_bd (Ff_within x1061 0 99) fun c1063 =>
    if c1063 = 0 then
      some ((-2), w)
    else
      ai_bd (ai_ix (a_s1_skins w) x1060) fun v1064 =>
      ai_bd (ai_up (a_s1_skins w) x1060 x1061) fun q1065 =>
      some (v1064, (u_s1_skins w q1065))
def Ff_skin_0 (x1058 : Int32) (x1059 : Int32) (w : WX) : Option (Int32 × WX) :=
  ai_bd (Fsea_putSkin_1 x1058 x1059 w) fun c1066 =>
  ai_bd (Ff_counted_0 c1066.1 c1066.2) fun c1067 =>
  some (c1067.1, c1067.2)
def Ff_bad_0 (x1072 : Int32) (w : WX) : Option (Int32 × WX) :=
  some (x1072, (u_f_refusedBad w ((a_f_refusedBad w) + 1)))
def Ff_tide_0 (x1068 : Int32) (x1069 : Int32) (x1070 : Int32) (w : WX) : Option (Int32 × WX) :=
  ai_bd (Ff_isLayer x1068) fun c1071 =>
  if c1071 = 0 then
    ai_bd (Ff_bad_0 (-10) w) fun c1073 =>
    some (c1073.1, c1073.2)
  else
    ai_bd (Ff_within x1069 0 5) fun c1074 =>
    if c1074 = 0 then
      ai_bd (Ff_bad_0 (-10) w) fun c1075 =>
      some (c1075.1, c1075.2)
    else
      ai_bd (Ff_within x1070 (-2) 2) fun c1076 =>
      if c1076 = 0 then
        ai_bd (Ff_bad_0 (-10) w) fun c1079 =>
        some (c1079.1, c1079.2)
      else
        ai_bd (ai_ix (a_s1_tides w) ((x1068 * 6) + x1069)) fun v1077 =>
        ai_bd (ai_up (a_s1_tides w) ((x1068 * 6) + x1069) x1070) fun q1078 =>
        some (v1077, (u_s1_tides w q1078))
def Ff_current_0 (x1080 : Int32) (x1081 : Int32) (w : WX) : Option (Int32 × WX) :=
  ai_bd (Ff_isLayer x1080) fun c1082 =>
  if c1082 = 0 then
    ai_bd (Ff_bad_0 (-10) w) fun c1083 =>
    some (c1083.1, c1083.2)
  else
    ai_bd (Ff_within x1081 (-1) 1) fun c1084 =>
    if c1084 = 0 then
      ai_bd (Ff_bad_0 (-10) w) fun c1087 =>
      some (c1087.1, c1087.2)
    else
      ai_bd (ai_ix (a_s1_currents w) x1080) fun v1085 =>
      ai_bd (ai_up (a_s1_currents w) x1080 x1081) fun q1086 =>
      some (v1085, (u_s1_currents w q1086))
def Fthg_add_7 (x1091 : Int32) (x1092 : Int32) (x1093 : Int32) (w : WX) : Option (Int32 × WX) :=
  ai_bd (Ff_within x1091 0 5) fun c1094 =>
  if c1094 = 0 then
    some ((-2), w)
  else
    ai_bd (Ff_within x1092 1 99) fun c1095 =>
    if c1095 = 0 then
      some ((-2), w)
    else
      ai_bd (Ff_within x1093 1 9) fun c1096 =>
      if c1096 = 0 then
        some ((-2), w)
      else
        if (a_s1things_count w) < 6 then
          ai_bd (ai_up (a_s1things_kinds w) (a_s1things_count w) x1091) fun q1097 =>
          ai_bd (ai_up (a_s1things_weights w) (a_s1things_count w) x1092) fun q1098 =>
          ai_bd (ai_up (a_s1things_volumes w) (a_s1things_count w) x1093) fun q1099 =>
          ai_bd (ai_up (a_s1things_ballasts w) (a_s1things_count w) 0) fun q1100 =>
          some ((a_s1things_count w), (u_s1things_count (u_s1things_ballasts (u_s1things_volumes (u_s1things_weights (u_s1things_kinds w q1097) q1098) q1099) q1100) ((a_s1things_count w) + 1)))
        else
          some ((-4), w)
def Ff_thing_0 (x1088 : Int32) (x1089 : Int32) (x1090 : Int32) (w : WX) : Option (Int32 × WX) :=
  ai_bd (Fthg_add_7 x1088 x1089 x1090 w) fun c1101 =>
  ai_bd (Ff_counted_0 c1101.1 c1101.2) fun c1102 =>
  some (c1102.1, c1102.2)
def Fthg_has_7 (x1105 : Int32) (w : WX) : Option (Int32 × WX) :=
  ai_bd (Ff_within x1105 0 ((a_s1things_count w) - 1)) fun c1106 =>
  if c1106 = 0 ∨ c1106 = 1 then some (c1106, w) else none
def Ff_ballast_0 (x1103 : Int32) (x1104 : Int32) (w : WX) : Option (Int32 × WX) :=
  ai_bd (Fthg_has_7 x1103 w) fun c1107 =>
  if c1107.1 = 0 then
    ai_bd (Ff_bad_0 (-2) c1107.2) fun c1108 =>
    some (c1108.1, c1108.2)
  else
    ai_bd (Ff_within x1104 0 99) fun c1109 =>
    if c1109 = 0 then
      ai_bd (Ff_bad_0 (-2) c1107.2) fun c1112 =>
      some (c1112.1, c1112.2)
    else
      ai_bd (ai_ix (a_s1things_ballasts c1107.2) x1103) fun v1110 =>
      ai_bd (ai_up (a_s1things_ballasts c1107.2) x1103 x1104) fun q1111 =>
      some (v1110, (u_s1things_ballasts c1107.2 q1111))
def Fsea_hasPlace_1 (x1119 : Int32) (w : WX) : Option (Int32 × WX) :=
  if x1119 < 0 then
    some (0, w)
  else
    ai_bd (Fsea_hasCell_1 (x1119 / 10) w) fun c1120 =>
    if c1120.1 = 0 then
      some (0, c1120.2)
    else
      ai_bd (Ff_isLayer (x1119 - x1119 / 10 * 10)) fun c1121 =>
      if c1121 = 0 then
        some (0, c1120.2)
      else
        some (1, c1120.2)
def Flift_add_12 (x1125 : Int32) (x1126 : Int32) (x1127 : Int32) (w : WX) : Option (Int32 × WX) :=
  if (a_s1lifts_count w) < 10 then
    ai_bd (ai_up (a_s1lifts_froms w) (a_s1lifts_count w) x1125) fun q1128 =>
    ai_bd (ai_up (a_s1lifts_tos w) (a_s1lifts_count w) x1126) fun q1129 =>
    ai_bd (ai_up (a_s1lifts_times w) (a_s1lifts_count w) x1127) fun q1130 =>
    some ((a_s1lifts_count w), (u_s1lifts_count (u_s1lifts_times (u_s1lifts_tos (u_s1lifts_froms w q1128) q1129) q1130) ((a_s1lifts_count w) + 1)))
  else
    some ((-4), w)
def Fsea_addLift_1 (x1116 : Int32) (x1117 : Int32) (x1118 : Int32) (w : WX) : Option (Int32 × WX) :=
  ai_bd (Fsea_hasPlace_1 x1116 w) fun c1122 =>
  if c1122.1 = 0 then
    some ((-2), c1122.2)
  else
    ai_bd (Fsea_hasPlace_1 x1117 c1122.2) fun c1123 =>
    if c1123.1 = 0 then
      some ((-2), c1123.2)
    else
      if x1116 = x1117 then
        some ((-2), c1123.2)
      else
        ai_bd (Ff_within x1118 1 9) fun c1124 =>
        if c1124 = 0 then
          some ((-2), c1123.2)
        else
          ai_bd (Flift_add_12 x1116 x1117 x1118 c1123.2) fun c1131 =>
          some (c1131.1, c1131.2)
def Ff_lift_0 (x1113 : Int32) (x1114 : Int32) (x1115 : Int32) (w : WX) : Option (Int32 × WX) :=
  ai_bd (Fsea_addLift_1 x1113 x1114 x1115 w) fun c1132 =>
  ai_bd (Ff_counted_0 c1132.1 c1132.2) fun c1133 =>
  some (c1133.1, c1133.2)
def Gsea_addTown_1 : Nat → Nat → Int32 → Int32 → WX → Option (Int32 × WX)
  | 0, _, _, _, _ => none
  | n + 1, 0, y1137, y1138, w =>
    if (a_s1_towns w) ≤ y1138 then
      if (a_s1_towns w) < 6 then
        ai_bd (ai_up (a_s1_townPlaces w) (a_s1_towns w) y1137) fun q1139 =>
        some ((a_s1_towns w), (u_s1_towns (u_s1_townPlaces w q1139) ((a_s1_towns w) + 1)))
      else
        some ((-4), w)
    else
      ai_bd (ai_ix (a_s1_townPlaces w) y1138) fun v1140 =>
      if v1140 = y1137 then
        some ((-3), w)
      else
        Gsea_addTown_1 n 0 y1137 (y1138 + 1) w
  | _ + 1, _ + 1, _, _, _ => none
def Fsea_addTown_1 (n : Nat) (x1135 : Int32) (w : WX) : Option (Int32 × WX) :=
  ai_bd (Fsea_hasPlace_1 x1135 w) fun c1136 =>
  if c1136.1 = 0 then
    some ((-2), c1136.2)
  else
    Gsea_addTown_1 n 0 x1135 0 c1136.2
def Ff_town_0 (n : Nat) (x1134 : Int32) (w : WX) : Option (Int32 × WX) :=
  ai_bd (Fsea_addTown_1 n x1134 w) fun c1141 =>
  ai_bd (Ff_counted_0 c1141.1 c1141.2) fun c1142 =>
  some (c1142.1, c1142.2)
def Fsea_putDam_1 (x1145 : Int32) (x1146 : Int32) (w : WX) : Option (Int32 × WX) :=
  ai_bd (Ff_within x1145 0 ((a_s1_cells w) - 2)) fun c1147 =>
  if c1147 = 0 then
    some ((-2), w)
  else
    if x1146 = 0 then
      if (((a_s1_dams w) >>> (x1145 &&& 31)) &&& 1) = 0 then
        some ((-3), w)
      else
        some (1, (u_s1_dams w ((a_s1_dams w) ^^^ (1 <<< (x1145 &&& 31)))))
    else
      if (((a_s1_dams w) >>> (x1145 &&& 31)) &&& 1) = 1 then
        some ((-3), w)
      else
        some (1, (u_s1_dams w ((a_s1_dams w) ^^^ (1 <<< (x1145 &&& 31)))))
def Ff_dam_0 (x1143 : Int32) (x1144 : Int32) (w : WX) : Option (Int32 × WX) :=
  ai_bd (Fsea_putDam_1 x1143 x1144 w) fun c1148 =>
  ai_bd (Ff_counted_0 c1148.1 c1148.2) fun c1149 =>
  some (c1149.1, c1149.2)
def Fsea_addDrop_1 (x1152 : Int32) (x1153 : Int32) (w : WX) : Option (Int32 × WX) :=
  ai_bd (Ff_isLayer x1152) fun c1154 =>
  if c1154 = 0 then
    some ((-2), w)
  else
    if (a_s1_drops w) < 6 then
      ai_bd (ai_up (a_s1_dropLayers w) (a_s1_drops w) x1152) fun q1155 =>
      if x1153 = 0 then
        ai_bd (ai_up (a_s1_dropFloats w) (a_s1_drops w) 0) fun q1156 =>
        some (((a_s1_drops w) + 1), (u_s1_drops (u_s1_dropFloats (u_s1_dropLayers w q1155) q1156) ((a_s1_drops w) + 1)))
      else
        ai_bd (ai_up (a_s1_dropFloats w) (a_s1_drops w) 1) fun q1157 =>
        some (((a_s1_drops w) + 1), (u_s1_drops (u_s1_dropFloats (u_s1_dropLayers w q1155) q1157) ((a_s1_drops w) + 1)))
    else
      some ((-4), w)
def Ff_drop_0 (x1150 : Int32) (x1151 : Int32) (w : WX) : Option (Int32 × WX) :=
  ai_bd (Fsea_addDrop_1 x1150 x1151 w) fun c1158 =>
  ai_bd (Ff_counted_0 c1158.1 c1158.2) fun c1159 =>
  some (c1159.1, c1159.2)
def Fsea_empty_1 (x1161 : Int32) (w : WX) : Option (Int32 × WX) :=
  ai_bd (Ff_within x1161 0 3) fun c1162 =>
  if c1162 = 0 then
    some ((-2), w)
  else
    if x1161 = 0 then
      some ((a_s1things_count w), (u_s1things_count w 0))
    else
      if x1161 = 1 then
        some ((a_s1lifts_count w), (u_s1lifts_count w 0))
      else
        if x1161 = 2 then
          some ((a_s1_towns w), (u_s1_towns w 0))
        else
          some ((a_s1_drops w), (u_s1_drops w 0))
def Ff_clean_0 (x1160 : Int32) (w : WX) : Option (Int32 × WX) :=
  ai_bd (Fsea_empty_1 x1160 w) fun c1163 =>
  ai_bd (Ff_counted_0 c1163.1 c1163.2) fun c1164 =>
  some (c1164.1, c1164.2)
def Ftxt_add_78 (x1166 : Int32) (w : WX) : Option (Int32 × WX) :=
  ai_bd (Ff_within x1166 0 127) fun c1167 =>
  if c1167 = 0 then
    some ((-2), w)
  else
    if (a_text_length w) < 150 then
      ai_bd (ai_up (a_text_bytes w) (a_text_length w) x1166) fun q1168 =>
      some (((a_text_length w) + 1), (u_text_length (u_text_bytes w q1168) ((a_text_length w) + 1)))
    else
      some ((-4), w)
def Ff_type_0 (x1165 : Int32) (w : WX) : Option (Int32 × WX) :=
  ai_bd (Ftxt_add_78 x1165 w) fun c1169 =>
  ai_bd (Ff_counted_0 c1169.1 c1169.2) fun c1170 =>
  some (c1170.1, c1170.2)
def Ff_clear_0 (w : WX) : Option (Int32 × WX) :=
  some ((a_text_length w), (u_text_length w 0))
def Gtxt_skipBlanks_78 : Nat → Nat → WX → Option (WX)
  | 0, _, _ => none
  | n + 1, 0, w =>
    if (a_text_length w) ≤ (a_text_at w) then
      some (w)
    else
      ai_bd (ai_ix (a_text_bytes w) (a_text_at w)) fun v1171 =>
      if v1171 = 32 then
        Gtxt_skipBlanks_78 n 0  (u_text_at w ((a_text_at w) + 1))
      else
        some (w)
  | _ + 1, _ + 1, _ => none
def Ftxt_skipBlanks_78 (n : Nat) (w : WX) : Option (WX) :=
  Gtxt_skipBlanks_78 n 0  w
def Gtxt_takeWord_78 : Nat → Nat → Int32 → Int32 → WX → Option (Int32 × WX)
  | 0, _, _, _, _ => none
  | n + 1, 0, y1174, _, w =>
    if (a_text_length w) ≤ (a_text_at w) then
      Gtxt_takeWord_78 n 1 y1174 0 w
    else
      ai_bd (ai_ix (a_text_bytes w) (a_text_at w)) fun v1175 =>
      ai_bd (Ff_within v1175 97 122) fun c1176 =>
      if c1176 = 0 then
        Gtxt_takeWord_78 n 1 y1174 0 w
      else
        Gtxt_takeWord_78 n 0 y1174 0 (u_text_at w ((a_text_at w) + 1))
  | n + 1, 1, y1177, y1178, w =>
    if 8 ≤ y1178 then
      some ((-1), w)
    else
      none
  | _ + 1, _ + 2, _, _, _ => none
def Ftxt_takeWord_78 (n : Nat) (w : WX) : Option (Int32 × WX) :=
  Gtxt_takeWord_78 n 0 (a_text_at w) 0 w
def Ftxt_numbersBehind (x1180 : Int32) : Option (Int32) :=
  if x1180 = 0 then
    some (1)
  else
  if x1180 = 1 then
    some (2)
  else
  if x1180 = 2 then
    some (3)
  else
  if x1180 = 3 then
    some (2)
  else
  if x1180 = 4 then
    some (3)
  else
  if x1180 = 5 then
    some (3)
  else
  if x1180 = 6 then
    some (1)
  else
  if x1180 = 7 then
    some (1)
  else
    some (3)
def Ftxt_isFigure_78 (w : WX) : Option (Int32 × WX) :=
  if (a_text_length w) ≤ (a_text_at w) then
    some (0, w)
  else
    ai_bd (ai_ix (a_text_bytes w) (a_text_at w)) fun v1186 =>
    ai_bd (Ff_within v1186 48 57) fun c1187 =>
    if c1187 = 0 then
      some (0, w)
    else
      some (1, w)
def Gtxt_takeNumbers_78 : Nat → Nat → Int32 → Int32 → WX → Option (Int32 × WX)
  | 0, _, _, _, _ => none
  | n + 1, 0, y1184, y1185, w =>
    if y1184 ≤ y1185 then
      some ((-1), w)
    else
      ai_bd (Ftxt_isFigure_78 w) fun c1188 =>
      if c1188.1 = 0 then
        some ((a_text_at c1188.2), c1188.2)
      else
        ai_bd (ai_ix (a_text_bytes c1188.2) (a_text_at c1188.2)) fun v1189 =>
        ai_bd (ai_up (a_text_numbers c1188.2) y1185 (v1189 - 48)) fun q1190 =>
        ai_bd (Ftxt_isFigure_78 (u_text_at (u_text_numbers c1188.2 q1190) ((a_text_at c1188.2) + 1))) fun c1191 =>
        if c1191.1 = 0 then
          ai_bd (Ftxt_isFigure_78 c1191.2) fun c1192 =>
          if c1192.1 = 0 then
            ai_bd (Ftxt_skipBlanks_78 n c1192.2) fun c1193 =>
            Gtxt_takeNumbers_78 n 0 y1184 (y1185 + 1) c1193
          else
            some ((a_text_at c1192.2), c1192.2)
        else
          ai_bd (ai_ix (a_text_numbers c1191.2) y1185) fun v1194 =>
          ai_bd (ai_ix (a_text_bytes c1191.2) (a_text_at c1191.2)) fun v1195 =>
          ai_bd (ai_up (a_text_numbers c1191.2) y1185 (((10 * v1194) + v1195) - 48)) fun q1196 =>
          ai_bd (Ftxt_isFigure_78 (u_text_at (u_text_numbers c1191.2 q1196) ((a_text_at c1191.2) + 1))) fun c1197 =>
          if c1197.1 = 0 then
            ai_bd (Ftxt_skipBlanks_78 n c1197.2) fun c1198 =>
            Gtxt_takeNumbers_78 n 0 y1184 (y1185 + 1) c1198
          else
            some ((a_text_at c1197.2), c1197.2)
  | _ + 1, _ + 1, _, _, _ => none
def Ftxt_takeNumbers_78 (n : Nat) (x1182 : Int32) (w : WX) : Option (Int32 × WX) :=
  ai_bd (Ftxt_skipBlanks_78 n w) fun c1183 =>
  Gtxt_takeNumbers_78 n 0 x1182 0 c1183
def Garr_fill_22 : Nat → Nat → Int32 → Int32 → Int32 → WX → Option (WX)
  | 0, _, _, _, _, _ => none
  | n + 1, 0, y1208, y1209, y1210, w =>
    if y1210 ≤ y1209 then
      some (w)
    else
      ai_bd (ai_up (a_s2_currents w) y1209 y1208) fun q1211 =>
      Garr_fill_22 n 0 y1208 (y1209 + 1) y1210 (u_s2_currents w q1211)
  | _ + 1, _ + 1, _, _, _, _ => none
def Farr_fill_22 (n : Nat) (x1207 : Int32) (w : WX) : Option (WX) :=
  Garr_fill_22 n 0 x1207 0 (Int32.ofNat (List.length (a_s2_currents w))) w
def Garr_fill_23 : Nat → Nat → Int32 → Int32 → Int32 → WX → Option (WX)
  | 0, _, _, _, _, _ => none
  | n + 1, 0, y1214, y1215, y1216, w =>
    if y1216 ≤ y1215 then
      some (w)
    else
      ai_bd (ai_up (a_s2_tides w) y1215 y1214) fun q1217 =>
      Garr_fill_23 n 0 y1214 (y1215 + 1) y1216 (u_s2_tides w q1217)
  | _ + 1, _ + 1, _, _, _, _ => none
def Farr_fill_23 (n : Nat) (x1213 : Int32) (w : WX) : Option (WX) :=
  Garr_fill_23 n 0 x1213 0 (Int32.ofNat (List.length (a_s2_tides w))) w
def Garr_fill_24 : Nat → Nat → Int32 → Int32 → Int32 → WX → Option (WX)
  | 0, _, _, _, _, _ => none
  | n + 1, 0, y1220, y1221, y1222, w =>
    if y1222 ≤ y1221 then
      some (w)
    else
      ai_bd (ai_up (a_s2_thicks w) y1221 y1220) fun q1223 =>
      Garr_fill_24 n 0 y1220 (y1221 + 1) y1222 (u_s2_thicks w q1223)
  | _ + 1, _ + 1, _, _, _, _ => none
def Farr_fill_24 (n : Nat) (x1219 : Int32) (w : WX) : Option (WX) :=
  Garr_fill_24 n 0 x1219 0 (Int32.ofNat (List.length (a_s2_thicks w))) w
def Garr_fill_25 : Nat → Nat → Int32 → Int32 → Int32 → WX → Option (WX)
  | 0, _, _, _, _, _ => none
  | n + 1, 0, y1226, y1227, y1228, w =>
    if y1228 ≤ y1227 then
      some (w)
    else
      ai_bd (ai_up (a_s2_skins w) y1227 y1226) fun q1229 =>
      Garr_fill_25 n 0 y1226 (y1227 + 1) y1228 (u_s2_skins w q1229)
  | _ + 1, _ + 1, _, _, _, _ => none
def Farr_fill_25 (n : Nat) (x1225 : Int32) (w : WX) : Option (WX) :=
  Garr_fill_25 n 0 x1225 0 (Int32.ofNat (List.length (a_s2_skins w))) w
def Fsea_startAnew_20 (n : Nat) (x1204 : Int32) (w : WX) : Option (Int32 × WX) :=
  ai_bd (Ff_within x1204 1 6) fun c1205 =>
  if c1205 = 0 then
    some ((-2), w)
  else
    ai_bd (ai_cpy [10, 13, 16, 20] (a_s2_densities w) 0 0 4) fun q1206 =>
    ai_bd (Farr_fill_22 n 0 (u_s2_densities (u_s2_dams (u_s2_hour (u_s2_cells w x1204) 0) 0) q1206)) fun c1212 =>
    ai_bd (Farr_fill_23 n 0 c1212) fun c1218 =>
    ai_bd (Farr_fill_24 n 3 c1218) fun c1224 =>
    ai_bd (Farr_fill_25 n 0 c1224) fun c1230 =>
    some ((a_s2_cells w), (u_s2_undos (u_s2_drops (u_s2_towns (u_s2lifts_count (u_s2things_count c1230 0) 0) 0) 0) 0))
def Fsea_putDensity_20 (x1234 : Int32) (x1235 : Int32) (w : WX) : Option (Int32 × WX) :=
  ai_bd (Ff_isLayer x1234) fun c1236 =>
  if c1236 = 0 then
    some ((-2), w)
  else
    ai_bd (Ff_within x1235 1 99) fun c1237 =>
    if c1237 = 0 then
      some ((-2), w)
    else
      if x1234 = 0 then
        if x1234 = 3 then
          ai_bd (ai_ix (a_s2_densities w) x1234) fun v1238 =>
          ai_bd (ai_up (a_s2_densities w) x1234 x1235) fun q1239 =>
          some (v1238, (u_s2_densities w q1239))
        else
          ai_bd (ai_ix (a_s2_densities w) (x1234 + 1)) fun v1240 =>
          if v1240 ≤ x1235 then
            some ((-3), w)
          else
            ai_bd (ai_ix (a_s2_densities w) x1234) fun v1241 =>
            ai_bd (ai_up (a_s2_densities w) x1234 x1235) fun q1242 =>
            some (v1241, (u_s2_densities w q1242))
      else
        ai_bd (ai_ix (a_s2_densities w) (x1234 - 1)) fun v1243 =>
        if x1235 ≤ v1243 then
          if x1234 = 3 then
            some ((-3), w)
          else
            ai_bd (ai_ix (a_s2_densities w) (x1234 + 1)) fun v1244 =>
            if v1244 ≤ x1235 then
              some ((-3), w)
            else
              some ((-3), w)
        else
          if x1234 = 3 then
            ai_bd (ai_ix (a_s2_densities w) x1234) fun v1245 =>
            ai_bd (ai_up (a_s2_densities w) x1234 x1235) fun q1246 =>
            some (v1245, (u_s2_densities w q1246))
          else
            ai_bd (ai_ix (a_s2_densities w) (x1234 + 1)) fun v1247 =>
            if v1247 ≤ x1235 then
              some ((-3), w)
            else
              ai_bd (ai_ix (a_s2_densities w) x1234) fun v1248 =>
              ai_bd (ai_up (a_s2_densities w) x1234 x1235) fun q1249 =>
              some (v1248, (u_s2_densities w q1249))
def Fsea_hasCell_20 (x1258 : Int32) (w : WX) : Option (Int32 × WX) :=
  ai_bd (Ff_within x1258 0 ((a_s2_cells w) - 1)) fun c1259 =>
  if c1259 = 0 ∨ c1259 = 1 then some (c1259, w) else none
def Fsea_putThick_20 (x1254 : Int32) (x1255 : Int32) (x1256 : Int32) (w : WX) : Option (Int32 × WX) :=
  ai_bd (Ff_isLayer x1254) fun c1257 =>
  if c1257 = 0 then
    some ((-2), w)
  else
    ai_bd (Fsea_hasCell_20 x1255 w) fun c1260 =>
    if c1260.1 = 0 then
      some ((-2), c1260.2)
    else
      ai_bd (Ff_within x1256 0 9) fun c1261 =>
      if c1261 = 0 then
        some ((-2), c1260.2)
      else
        ai_bd (ai_ix (a_s2_thicks c1260.2) ((x1254 * 6) + x1255)) fun v1262 =>
        ai_bd (ai_up (a_s2_thicks c1260.2) ((x1254 * 6) + x1255) x1256) fun q1263 =>
        some (v1262, (u_s2_thicks c1260.2 q1263))
def Fsea_putSkin_20 (x1267 : Int32) (x1268 : Int32) (w : WX) : Option (Int32 × WX) :=
  ai_bd (Ff_within x1267 0 2) fun c1269 =>
  if c1269 = 0 then
    some ((-2), w)
  else
    ai_bd (Ff_within x1268 0 99) fun c1270 =>
    if c1270 = 0 then
      some ((-2), w)
    else
      ai_bd (ai_ix (a_s2_skins w) x1267) fun v1271 =>
      ai_bd (ai_up (a_s2_skins w) x1267 x1268) fun q1272 =>
      some (v1271, (u_s2_skins w q1272))
def Fthg_add_26 (x1277 : Int32) (x1278 : Int32) (x1279 : Int32) (w : WX) : Option (Int32 × WX) :=
  ai_bd (Ff_within x1277 0 5) fun c1280 =>
  if c1280 = 0 then
    some ((-2), w)
  else
    ai_bd (Ff_within x1278 1 99) fun c1281 =>
    if c1281 = 0 then
      some ((-2), w)
    else
      ai_bd (Ff_within x1279 1 9) fun c1282 =>
      if c1282 = 0 then
        some ((-2), w)
      else
        if (a_s2things_count w) < 6 then
          ai_bd (ai_up (a_s2things_kinds w) (a_s2things_count w) x1277) fun q1283 =>
          ai_bd (ai_up (a_s2things_weights w) (a_s2things_count w) x1278) fun q1284 =>
          ai_bd (ai_up (a_s2things_volumes w) (a_s2things_count w) x1279) fun q1285 =>
          ai_bd (ai_up (a_s2things_ballasts w) (a_s2things_count w) 0) fun q1286 =>
          some ((a_s2things_count w), (u_s2things_count (u_s2things_ballasts (u_s2things_volumes (u_s2things_weights (u_s2things_kinds w q1283) q1284) q1285) q1286) ((a_s2things_count w) + 1)))
        else
          some ((-4), w)
def Fsea_hasPlace_20 (x1294 : Int32) (w : WX) : Option (Int32 × WX) :=
  if x1294 < 0 then
    some (0, w)
  else
    ai_bd (Fsea_hasCell_20 (x1294 / 10) w) fun c1295 =>
    if c1295.1 = 0 then
      some (0, c1295.2)
    else
      ai_bd (Ff_isLayer (x1294 - x1294 / 10 * 10)) fun c1296 =>
      if c1296 = 0 then
        some (0, c1295.2)
      else
        some (1, c1295.2)
def Flift_add_31 (x1300 : Int32) (x1301 : Int32) (x1302 : Int32) (w : WX) : Option (Int32 × WX) :=
  if (a_s2lifts_count w) < 10 then
    ai_bd (ai_up (a_s2lifts_froms w) (a_s2lifts_count w) x1300) fun q1303 =>
    ai_bd (ai_up (a_s2lifts_tos w) (a_s2lifts_count w) x1301) fun q1304 =>
    ai_bd (ai_up (a_s2lifts_times w) (a_s2lifts_count w) x1302) fun q1305 =>
    some ((a_s2lifts_count w), (u_s2lifts_count (u_s2lifts_times (u_s2lifts_tos (u_s2lifts_froms w q1303) q1304) q1305) ((a_s2lifts_count w) + 1)))
  else
    some ((-4), w)
def Fsea_addLift_20 (x1291 : Int32) (x1292 : Int32) (x1293 : Int32) (w : WX) : Option (Int32 × WX) :=
  ai_bd (Fsea_hasPlace_20 x1291 w) fun c1297 =>
  if c1297.1 = 0 then
    some ((-2), c1297.2)
  else
    ai_bd (Fsea_hasPlace_20 x1292 c1297.2) fun c1298 =>
    if c1298.1 = 0 then
      some ((-2), c1298.2)
    else
      if x1291 = x1292 then
        some ((-2), c1298.2)
      else
        ai_bd (Ff_within x1293 1 9) fun c1299 =>
        if c1299 = 0 then
          some ((-2), c1298.2)
        else
          ai_bd (Flift_add_31 x1291 x1292 x1293 c1298.2) fun c1306 =>
          some (c1306.1, c1306.2)
def Gsea_addTown_20 : Nat → Nat → Int32 → Int32 → WX → Option (Int32 × WX)
  | 0, _, _, _, _ => none
  | n + 1, 0, y1311, y1312, w =>
    if (a_s2_towns w) ≤ y1312 then
      if (a_s2_towns w) < 6 then
        ai_bd (ai_up (a_s2_townPlaces w) (a_s2_towns w) y1311) fun q1313 =>
        some ((a_s2_towns w), (u_s2_towns (u_s2_townPlaces w q1313) ((a_s2_towns w) + 1)))
      else
        some ((-4), w)
    else
      ai_bd (ai_ix (a_s2_townPlaces w) y1312) fun v1314 =>
      if v1314 = y1311 then
        some ((-3), w)
      else
        Gsea_addTown_20 n 0 y1311 (y1312 + 1) w
  | _ + 1, _ + 1, _, _, _ => none
def Fsea_addTown_20 (n : Nat) (x1309 : Int32) (w : WX) : Option (Int32 × WX) :=
  ai_bd (Fsea_hasPlace_20 x1309 w) fun c1310 =>
  if c1310.1 = 0 then
    some ((-2), c1310.2)
  else
    Gsea_addTown_20 n 0 x1309 0 c1310.2
def Fsea_putDam_20 (x1317 : Int32) (x1318 : Int32) (w : WX) : Option (Int32 × WX) :=
  ai_bd (Ff_within x1317 0 ((a_s2_cells w) - 2)) fun c1319 =>
  if c1319 = 0 then
    some ((-2), w)
  else
    if x1318 = 0 then
      if (((a_s2_dams w) >>> (x1317 &&& 31)) &&& 1) = 0 then
        some ((-3), w)
      else
        some (1, (u_s2_dams w ((a_s2_dams w) ^^^ (1 <<< (x1317 &&& 31)))))
    else
      if (((a_s2_dams w) >>> (x1317 &&& 31)) &&& 1) = 1 then
        some ((-3), w)
      else
        some (1, (u_s2_dams w ((a_s2_dams w) ^^^ (1 <<< (x1317 &&& 31)))))
def Ftxt_tellItem_78_20 (n : Nat) (x1202 : Int32) (w : WX) : Option (Int32 × WX) :=
  if x1202 = 0 then
    ai_bd (ai_ix (a_text_numbers w) 0) fun v1203 =>
    ai_bd (Fsea_startAnew_20 n v1203 w) fun c1231 =>
    some (c1231.1, c1231.2)
  else
  if x1202 = 1 then
    ai_bd (ai_ix (a_text_numbers w) 0) fun v1232 =>
    ai_bd (ai_ix (a_text_numbers w) 1) fun v1233 =>
    ai_bd (Fsea_putDensity_20 v1232 v1233 w) fun c1250 =>
    some (c1250.1, c1250.2)
  else
  if x1202 = 2 then
    ai_bd (ai_ix (a_text_numbers w) 0) fun v1251 =>
    ai_bd (ai_ix (a_text_numbers w) 1) fun v1252 =>
    ai_bd (ai_ix (a_text_numbers w) 2) fun v1253 =>
    ai_bd (Fsea_putThick_20 v1251 v1252 v1253 w) fun c1264 =>
    some (c1264.1, c1264.2)
  else
  if x1202 = 3 then
    ai_bd (ai_ix (a_text_numbers w) 0) fun v1265 =>
    ai_bd (ai_ix (a_text_numbers w) 1) fun v1266 =>
    ai_bd (Fsea_putSkin_20 v1265 v1266 w) fun c1273 =>
    some (c1273.1, c1273.2)
  else
  if x1202 = 4 then
    ai_bd (ai_ix (a_text_numbers w) 0) fun v1274 =>
    ai_bd (ai_ix (a_text_numbers w) 1) fun v1275 =>
    ai_bd (ai_ix (a_text_numbers w) 2) fun v1276 =>
    ai_bd (Fthg_add_26 v1274 v1275 v1276 w) fun c1287 =>
    some (c1287.1, c1287.2)
  else
  if x1202 = 5 then
    ai_bd (ai_ix (a_text_numbers w) 0) fun v1288 =>
    ai_bd (ai_ix (a_text_numbers w) 1) fun v1289 =>
    ai_bd (ai_ix (a_text_numbers w) 2) fun v1290 =>
    ai_bd (Fsea_addLift_20 v1288 v1289 v1290 w) fun c1307 =>
    some (c1307.1, c1307.2)
  else
  if x1202 = 6 then
    ai_bd (ai_ix (a_text_numbers w) 0) fun v1308 =>
    ai_bd (Fsea_addTown_20 n v1308 w) fun c1315 =>
    some (c1315.1, c1315.2)
  else
    ai_bd (ai_ix (a_text_numbers w) 0) fun v1316 =>
    ai_bd (Fsea_putDam_20 v1316 1 w) fun c1320 =>
    some (c1320.1, c1320.2)
def Gtxt_tell_78_20 : Nat → Nat → Int32 → WX → Option (Int32 × WX)
  | 0, _, _, _ => none
  | n + 1, 0, y1173, w =>
    if 150 ≤ y1173 then
      some ((-1), w)
    else
      if (a_text_length w) ≤ (a_text_at w) then
        some ((-1), w)
      else
        ai_bd (Ftxt_takeWord_78 n w) fun c1179 =>
        if c1179.1 = (-1) then
          some ((a_text_at w), c1179.2)
        else
          if c1179.1 = 0 then
            if (a_text_items c1179.2) = 0 then
              ai_bd (Ftxt_numbersBehind c1179.1) fun c1324 =>
              ai_bd (Ftxt_takeNumbers_78 n c1324 c1179.2) fun c1325 =>
              if c1325.1 = (-1) then
                if (a_text_length c1325.2) ≤ (a_text_at c1325.2) then
                  some ((a_text_at c1325.2), c1325.2)
                else
                  ai_bd (ai_ix (a_text_bytes c1325.2) (a_text_at c1325.2)) fun v1326 =>
                  if v1326 = 59 then
                    if (a_text_refusedItem c1325.2) = (-1) then
                      ai_bd (Ftxt_tellItem_78_20 n c1179.1 (u_text_at c1325.2 ((a_text_at c1325.2) + 1))) fun c1328 =>
                      if 0 ≤ c1328.1 then
                        ai_bd (Ftxt_skipBlanks_78 n (u_text_items c1328.2 ((a_text_items c1328.2) + 1))) fun c1329 =>
                        Gtxt_tell_78_20 n 0 (y1173 + 1) c1329
                      else
                        ai_bd (Ftxt_skipBlanks_78 n (u_text_items (u_text_refusedItem c1328.2 (a_text_items c1328.2)) ((a_text_items c1328.2) + 1))) fun c1330 =>
                        Gtxt_tell_78_20 n 0 (y1173 + 1) c1330
                    else
                      ai_bd (Ftxt_skipBlanks_78 n (u_text_items (u_text_at c1325.2 ((a_text_at c1325.2) + 1)) ((a_text_items c1325.2) + 1))) fun c1327 =>
                      Gtxt_tell_78_20 n 0 (y1173 + 1) c1327
                  else
                    some ((a_text_at c1325.2), c1325.2)
              else
                some (c1325.1, c1325.2)
            else
              some ((a_text_at w), c1179.2)
          else
            if (a_text_items c1179.2) = 0 then
              some ((a_text_at w), c1179.2)
            else
              ai_bd (Ftxt_numbersBehind c1179.1) fun c1181 =>
              ai_bd (Ftxt_takeNumbers_78 n c1181 c1179.2) fun c1199 =>
              if c1199.1 = (-1) then
                if (a_text_length c1199.2) ≤ (a_text_at c1199.2) then
                  some ((a_text_at c1199.2), c1199.2)
                else
                  ai_bd (ai_ix (a_text_bytes c1199.2) (a_text_at c1199.2)) fun v1200 =>
                  if v1200 = 59 then
                    if (a_text_refusedItem c1199.2) = (-1) then
                      ai_bd (Ftxt_tellItem_78_20 n c1179.1 (u_text_at c1199.2 ((a_text_at c1199.2) + 1))) fun c1321 =>
                      if 0 ≤ c1321.1 then
                        ai_bd (Ftxt_skipBlanks_78 n (u_text_items c1321.2 ((a_text_items c1321.2) + 1))) fun c1322 =>
                        Gtxt_tell_78_20 n 0 (y1173 + 1) c1322
                      else
                        ai_bd (Ftxt_skipBlanks_78 n (u_text_items (u_text_refusedItem c1321.2 (a_text_items c1321.2)) ((a_text_items c1321.2) + 1))) fun c1323 =>
                        Gtxt_tell_78_20 n 0 (y1173 + 1) c1323
                    else
                      ai_bd (Ftxt_skipBlanks_78 n (u_text_items (u_text_at c1199.2 ((a_text_at c1199.2) + 1)) ((a_text_items c1199.2) + 1))) fun c1201 =>
                      Gtxt_tell_78_20 n 0 (y1173 + 1) c1201
                  else
                    some ((a_text_at c1199.2), c1199.2)
              else
                some (c1199.1, c1199.2)
  | _ + 1, _ + 1, _, _ => none
def Ftxt_tell_78_20 (n : Nat) (w : WX) : Option (Int32 × WX) :=
  ai_bd (Ftxt_skipBlanks_78 n (u_text_refusedItem (u_text_items (u_text_at w 0) 0) (-1))) fun c1172 =>
  if (a_text_at c1172) < (a_text_length c1172) then
    Gtxt_tell_78_20 n 0 0 c1172
  else
    some ((a_text_length c1172), c1172)
def Fthg_copyFrom_7_26 (w : WX) : Option (WX) :=
  ai_bd (ai_cpy (a_s2things_kinds w) (a_s1things_kinds w) 0 0 6) fun q1337 =>
  ai_bd (ai_cpy (a_s2things_weights w) (a_s1things_weights w) 0 0 6) fun q1338 =>
  ai_bd (ai_cpy (a_s2things_volumes w) (a_s1things_volumes w) 0 0 6) fun q1339 =>
  ai_bd (ai_cpy (a_s2things_ballasts w) (a_s1things_ballasts w) 0 0 6) fun q1340 =>
  some ((u_s1things_ballasts (u_s1things_volumes (u_s1things_weights (u_s1things_kinds (u_s1things_count w (a_s2things_count w)) q1337) q1338) q1339) q1340))
def Flift_copyFrom_12_31 (w : WX) : Option (WX) :=
  ai_bd (ai_cpy (a_s2lifts_froms w) (a_s1lifts_froms w) 0 0 10) fun q1342 =>
  ai_bd (ai_cpy (a_s2lifts_tos w) (a_s1lifts_tos w) 0 0 10) fun q1343 =>
  ai_bd (ai_cpy (a_s2lifts_times w) (a_s1lifts_times w) 0 0 10) fun q1344 =>
  some ((u_s1lifts_times (u_s1lifts_tos (u_s1lifts_froms (u_s1lifts_count w (a_s2lifts_count w)) q1342) q1343) q1344))
def Fsea_copyFrom_1_20 (w : WX) : Option (WX) :=
  ai_bd (ai_cpy (a_s2_densities w) (a_s1_densities w) 0 0 4) fun q1332 =>
  ai_bd (ai_cpy (a_s2_currents w) (a_s1_currents w) 0 0 4) fun q1333 =>
  ai_bd (ai_cpy (a_s2_tides w) (a_s1_tides w) 0 0 24) fun q1334 =>
  ai_bd (ai_cpy (a_s2_thicks w) (a_s1_thicks w) 0 0 24) fun q1335 =>
  ai_bd (ai_cpy (a_s2_skins w) (a_s1_skins w) 0 0 3) fun q1336 =>
  ai_bd (Fthg_copyFrom_7_26 (u_s1_skins (u_s1_thicks (u_s1_tides (u_s1_currents (u_s1_densities (u_s1_dams (u_s1_hour (u_s1_cells w (a_s2_cells w)) (a_s2_hour w)) (a_s2_dams w)) q1332) q1333) q1334) q1335) q1336)) fun c1341 =>
  ai_bd (Flift_copyFrom_12_31 c1341) fun c1345 =>
  ai_bd (ai_cpy (a_s2_townPlaces c1345) (a_s1_townPlaces c1345) 0 0 6) fun q1346 =>
  ai_bd (ai_cpy (a_s2_dropLayers c1345) (a_s1_dropLayers c1345) 0 0 6) fun q1347 =>
  ai_bd (ai_cpy (a_s2_dropFloats c1345) (a_s1_dropFloats c1345) 0 0 6) fun q1348 =>
  ai_bd (ai_cpy (a_s2_hoursBefore c1345) (a_s1_hoursBefore c1345) 0 0 10) fun q1349 =>
  some ((u_s1_hoursBefore (u_s1_undos (u_s1_dropFloats (u_s1_dropLayers (u_s1_drops (u_s1_townPlaces (u_s1_towns c1345 (a_s2_towns c1345)) q1346) (a_s2_drops c1345)) q1347) q1348) (a_s2_undos c1345)) q1349))
def Ff_read_0 (n : Nat) (w : WX) : Option (Int32 × WX) :=
  ai_bd (Ftxt_tell_78_20 n w) fun c1331 =>
  if c1331.1 = (-1) then
    if (a_text_refusedItem c1331.2) = (-1) then
      ai_bd (Fsea_copyFrom_1_20 c1331.2) fun c1350 =>
      some ((a_text_items c1350), c1350)
    else
      some (((-1000) - (a_text_refusedItem c1331.2)), c1331.2)
  else
    some (((-10) - c1331.1), c1331.2)
def Fsea_goOn_1 (x1352 : Int32) (w : WX) : Option (Int32 × WX) :=
  ai_bd (Ff_within x1352 1 99) fun c1353 =>
  if c1353 = 0 then
    some ((-2), w)
  else
    if ((a_s1_hour w) + x1352) ≤ 999 then
      if (a_s1_undos w) < 10 then
        ai_bd (ai_up (a_s1_hoursBefore w) (a_s1_undos w) (a_s1_hour w)) fun q1354 =>
        some (((a_s1_hour w) + x1352), (u_s1_hour (u_s1_undos (u_s1_hoursBefore w q1354) ((a_s1_undos w) + 1)) ((a_s1_hour w) + x1352)))
      else
        ai_bd (ai_cpy (a_s1_hoursBefore w) (a_s1_hoursBefore w) 1 0 9) fun q1355 =>
        ai_bd (ai_up q1355 9 (a_s1_hour w)) fun q1356 =>
        some (((a_s1_hour w) + x1352), (u_s1_hour (u_s1_undos (u_s1_hoursBefore (u_s1_undos (u_s1_hoursBefore w q1355) 9) q1356) 10) ((a_s1_hour w) + x1352)))
    else
      some ((-3), w)
def Ff_hours_0 (x1351 : Int32) (w : WX) : Option (Int32 × WX) :=
  ai_bd (Fsea_goOn_1 x1351 w) fun c1357 =>
  ai_bd (Ff_counted_0 c1357.1 c1357.2) fun c1358 =>
  some (c1358.1, c1358.2)
def Fsea_goBack_1 (w : WX) : Option (Int32 × WX) :=
  if 0 < (a_s1_undos w) then
    ai_bd (ai_ix (a_s1_hoursBefore w) ((a_s1_undos w) - 1)) fun v1359 =>
    some (1, (u_s1_hour (u_s1_undos w ((a_s1_undos w) - 1)) v1359))
  else
    some ((-3), w)
def Ff_undo_0 (w : WX) : Option (Int32 × WX) :=
  ai_bd (Fsea_goBack_1 w) fun c1360 =>
  ai_bd (Ff_counted_0 c1360.1 c1360.2) fun c1361 =>
  some (c1361.1, c1361.2)
def Ffall_weightOf (x1380 : Int32) (x1381 : Int32) (x1382 : Int32) (x1383 : Int32) : Option (Int32) :=
  if x1380 = 1 then
    some ((x1381 + x1382))
  else
  if x1380 = 2 then
    some ((x1381 + x1382))
  else
  if x1380 = 3 then
    some (((x1381 + x1382) + (2 * (if 10 < x1383 then 10 else x1383))))
  else
    some (x1381)
def Ffall_roomOf (x1385 : Int32) (x1386 : Int32) (x1387 : Int32) : Option (Int32) :=
  if x1385 = 2 then
    some ((x1386 + 1))
  else
  if x1385 = 3 then
    some ((x1386 + 1))
  else
  if x1385 = 4 then
    some ((x1386 + (if 5 < (x1387 / 4) then 5 else (x1387 / 4))))
  else
    some (x1386)
def Ffall_forceOf (x1389 : Int32) (x1390 : Int32) : Option (Int32) :=
  if x1389 = 2 then
    some ((x1390 / 2))
  else
  if x1389 = 3 then
    some (100)
  else
  if x1389 = 4 then
    some (x1390)
  else
  if x1389 = 5 then
    some (0)
  else
    some (x1390)
def Ffall_shape_81 (x1375 : Int32) (x1376 : Int32) (x1377 : Int32) (x1378 : Int32) (x1379 : Int32) (w : WX) : Option (WX) :=
  ai_bd (Ffall_weightOf x1375 x1376 x1378 x1379) fun c1384 =>
  ai_bd (Ffall_roomOf x1375 x1377 x1379) fun c1388 =>
  ai_bd (Ffall_forceOf x1375 c1384) fun c1391 =>
  some ((u_fall_force (u_fall_room (u_fall_weighs w c1384) c1388) c1391))
def Ff_shapeWithBallast_0 (x1369 : Int32) (x1370 : Int32) (x1371 : Int32) (w : WX) : Option (WX) :=
  ai_bd (ai_ix (a_s1things_kinds w) x1369) fun v1372 =>
  ai_bd (ai_ix (a_s1things_weights w) x1369) fun v1373 =>
  ai_bd (ai_ix (a_s1things_volumes w) x1369) fun v1374 =>
  ai_bd (Ffall_shape_81 v1372 v1373 v1374 x1370 x1371 w) fun c1392 =>
  some (c1392)
def Ff_shapeNow_0 (x1367 : Int32) (w : WX) : Option (WX) :=
  ai_bd (ai_ix (a_s1things_ballasts w) x1367) fun v1368 =>
  ai_bd (Ff_shapeWithBallast_0 x1367 v1368 (a_s1_hour w) w) fun c1393 =>
  some (c1393)
def Ff_of_0 (x1362 : Int32) (x1363 : Int32) (w : WX) : Option (Int32 × WX) :=
  ai_bd (Fthg_has_7 x1362 w) fun c1364 =>
  if c1364.1 = 0 then
    ai_bd (Ff_bad_0 (-2) c1364.2) fun c1365 =>
    some (c1365.1, c1365.2)
  else
    ai_bd (Ff_within x1363 0 2) fun c1366 =>
    if c1366 = 0 then
      ai_bd (Ff_bad_0 (-2) c1364.2) fun c1396 =>
      some (c1396.1, c1396.2)
    else
      if x1363 = 0 then
        ai_bd (ai_ix (a_s1things_kinds c1364.2) x1362) fun v1395 =>
        some (v1395, c1364.2)
      else
        ai_bd (Ff_shapeNow_0 x1362 c1364.2) fun c1394 =>
        if x1363 = 1 then
          some ((a_fall_weighs c1394), c1394)
        else
          some ((a_fall_room c1394), c1394)
def Fsea_thickAt_1 (x1402 : Int32) (x1403 : Int32) (x1404 : Int32) (w : WX) : Option (Int32 × WX) :=
  ai_bd (ai_ix (a_s1_thicks w) ((x1402 * 6) + x1403)) fun v1405 =>
  ai_bd (ai_ix (a_s1_tides w) ((x1402 * 6) + (x1404 - x1404 / 6 * 6))) fun v1406 =>
  some ((if 0 < (v1405 + v1406) then (v1405 + v1406) else 0), w)
def Ff_deep_0 (x1397 : Int32) (x1398 : Int32) (w : WX) : Option (Int32 × WX) :=
  ai_bd (Ff_isLayer x1397) fun c1399 =>
  if c1399 = 0 then
    ai_bd (Ff_bad_0 (-2) w) fun c1400 =>
    some (c1400.1, c1400.2)
  else
    ai_bd (Fsea_hasCell_1 x1398 w) fun c1401 =>
    if c1401.1 = 0 then
      ai_bd (Ff_bad_0 (-2) c1401.2) fun c1408 =>
      some (c1408.1, c1408.2)
    else
      ai_bd (Fsea_thickAt_1 x1397 x1398 (a_s1_hour c1401.2) c1401.2) fun c1407 =>
      some (c1407.1, c1407.2)
def Garr_fill_82 : Nat → Nat → Int32 → Int32 → Int32 → WX → Option (WX)
  | 0, _, _, _, _, _ => none
  | n + 1, 0, y1425, y1426, y1427, w =>
    if y1427 ≤ y1426 then
      some (w)
    else
      ai_bd (ai_up (a_fall_passedThick w) y1426 y1425) fun q1428 =>
      Garr_fill_82 n 0 y1425 (y1426 + 1) y1427 (u_fall_passedThick w q1428)
  | _ + 1, _ + 1, _, _, _, _ => none
def Farr_fill_82 (n : Nat) (x1424 : Int32) (w : WX) : Option (WX) :=
  Garr_fill_82 n 0 x1424 0 (Int32.ofNat (List.length (a_fall_passedThick w))) w
def Ffall_forget_81 (n : Nat) (w : WX) : Option (WX) :=
  ai_bd (Farr_fill_82 n 0 (u_fall_stopper (u_fall_broken (u_fall_down w 0) 0) (-1))) fun c1429 =>
  some (c1429)
def Ffall_getsThrough_81_1 (x1439 : Int32) (x1440 : Int32) (w : WX) : Option (Int32 × WX) :=
  if ((x1440 >>> (x1439 &&& 31)) &&& 1) = 1 then
    some (1, w)
  else
    ai_bd (ai_ix (a_s1_skins w) x1439) fun v1441 =>
    if v1441 < (a_fall_force w) then
      some (1, (u_fall_broken w ((a_fall_broken w) ||| (1 <<< (x1439 &&& 31)))))
    else
      some (0, w)
def Gfall_letGo_81_1 : Nat → Nat → Int32 → Int32 → Int32 → Int32 → Int32 → WX → Option (WX)
  | 0, _, _, _, _, _, _, _ => none
  | n + 1, 0, y1431, y1432, y1433, y1434, y1435, w =>
    if 4 ≤ y1435 then
      some ((u_fall_layer w 4))
    else
      ai_bd (Fsea_thickAt_1 y1435 y1431 y1432 w) fun c1436 =>
      if c1436.1 = 0 then
        Gfall_letGo_81_1 n 0 y1431 y1432 y1433 y1434 (y1435 + 1) c1436.2
      else
        if y1434 = (-1) then
          ai_bd (ai_ix (a_s1_densities c1436.2) y1435) fun v1437 =>
          if ((a_fall_room c1436.2) * v1437) < (a_fall_weighs c1436.2) then
            ai_bd (ai_up (a_fall_passedThick c1436.2) y1435 c1436.1) fun q1438 =>
            Gfall_letGo_81_1 n 0 y1431 y1432 y1433 y1435 (y1435 + 1) (u_fall_down (u_fall_passedThick c1436.2 q1438) ((a_fall_down c1436.2) + c1436.1))
          else
            some ((u_fall_layer c1436.2 y1435))
        else
          ai_bd (Ffall_getsThrough_81_1 (y1435 - 1) y1433 c1436.2) fun c1442 =>
          if c1442.1 = 0 then
            some ((u_fall_layer (u_fall_stopper c1442.2 (y1435 - 1)) y1434))
          else
            ai_bd (ai_ix (a_s1_densities c1442.2) y1435) fun v1443 =>
            if ((a_fall_room c1442.2) * v1443) < (a_fall_weighs c1442.2) then
              ai_bd (ai_up (a_fall_passedThick c1442.2) y1435 c1436.1) fun q1444 =>
              Gfall_letGo_81_1 n 0 y1431 y1432 y1433 y1435 (y1435 + 1) (u_fall_down (u_fall_passedThick c1442.2 q1444) ((a_fall_down c1442.2) + c1436.1))
            else
              some ((u_fall_layer c1442.2 y1435))
  | _ + 1, _ + 1, _, _, _, _, _, _ => none
def Ffall_letGo_81_1 (n : Nat) (x1421 : Int32) (x1422 : Int32) (x1423 : Int32) (w : WX) : Option (WX) :=
  ai_bd (Ffall_forget_81 n w) fun c1430 =>
  Gfall_letGo_81_1 n 0 x1421 x1422 x1423 (-1) 0 c1430
def Ff_letGoNow_0 (n : Nat) (x1417 : Int32) (x1418 : Int32) (x1419 : Int32) (w : WX) : Option (WX) :=
  ai_bd (Ff_shapeNow_0 x1417 w) fun c1420 =>
  ai_bd (Ffall_letGo_81_1 n x1418 (a_s1_hour c1420) x1419 c1420) fun c1445 =>
  some (c1445)
def Ff_rests_0 (n : Nat) (x1409 : Int32) (x1410 : Int32) (x1411 : Int32) (w : WX) : Option (Int32 × WX) :=
  ai_bd (Fthg_has_7 x1409 w) fun c1412 =>
  if c1412.1 = 0 then
    ai_bd (Ff_bad_0 (-2) c1412.2) fun c1413 =>
    some (c1413.1, c1413.2)
  else
    ai_bd (Fsea_hasCell_1 x1410 c1412.2) fun c1414 =>
    if c1414.1 = 0 then
      ai_bd (Ff_bad_0 (-2) c1414.2) fun c1415 =>
      some (c1415.1, c1415.2)
    else
      ai_bd (Ff_within x1411 0 2) fun c1416 =>
      if c1416 = 0 then
        ai_bd (Ff_bad_0 (-2) c1414.2) fun c1447 =>
        some (c1447.1, c1447.2)
      else
        ai_bd (Ff_letGoNow_0 n x1409 x1410 0 c1414.2) fun c1446 =>
        if x1411 = 0 then
          some ((a_fall_layer c1446), c1446)
        else
          if x1411 = 1 then
            some ((a_fall_down c1446), c1446)
          else
            some ((a_fall_broken c1446), c1446)
def Ff_takesBallast_0 (x1451 : Int32) (w : WX) : Option (Int32 × WX) :=
  ai_bd (Fthg_has_7 x1451 w) fun c1452 =>
  if c1452.1 = 0 then
    some (0, c1452.2)
  else
    ai_bd (ai_ix (a_s1things_kinds c1452.2) x1451) fun v1453 =>
    ai_bd (Ff_within v1453 1 3) fun c1454 =>
    if c1454 = 0 then
      some (0, c1452.2)
    else
      some (1, c1452.2)
def Ff_letGoWithBallast_0 (n : Nat) (x1469 : Int32) (x1470 : Int32) (x1471 : Int32) (x1472 : Int32) (w : WX) : Option (WX) :=
  ai_bd (Ff_shapeWithBallast_0 x1469 x1471 x1472 w) fun c1473 =>
  ai_bd (Ffall_letGo_81_1 n x1470 x1472 0 c1473) fun c1474 =>
  some (c1474)
def Gf_leastBallast_0 : Nat → Nat → Int32 → Int32 → Int32 → Int32 → Int32 → WX → Option (Int32 × WX)
  | 0, _, _, _, _, _, _, _ => none
  | n + 1, 0, y1464, y1465, y1466, y1467, y1468, w =>
    if 99 < y1468 then
      some ((-1), w)
    else
      ai_bd (Ff_letGoWithBallast_0 n y1464 y1465 y1468 y1467 w) fun c1475 =>
      if (a_fall_layer c1475) = y1466 then
        some (y1468, c1475)
      else
        Gf_leastBallast_0 n 0 y1464 y1465 y1466 y1467 (y1468 + 1) c1475
  | _ + 1, _ + 1, _, _, _, _, _, _ => none
def Ff_leastBallast_0 (n : Nat) (x1460 : Int32) (x1461 : Int32) (x1462 : Int32) (x1463 : Int32) (w : WX) : Option (Int32 × WX) :=
  Gf_leastBallast_0 n 0 x1460 x1461 x1462 x1463 0 w
def Ff_sink_0 (n : Nat) (x1448 : Int32) (x1449 : Int32) (x1450 : Int32) (w : WX) : Option (Int32 × WX) :=
  ai_bd (Ff_takesBallast_0 x1448 w) fun c1455 =>
  if c1455.1 = 0 then
    ai_bd (Ff_bad_0 (-10) c1455.2) fun c1456 =>
    some (c1456.1, c1456.2)
  else
    ai_bd (Fsea_hasCell_1 x1449 c1455.2) fun c1457 =>
    if c1457.1 = 0 then
      ai_bd (Ff_bad_0 (-10) c1457.2) fun c1458 =>
      some (c1458.1, c1458.2)
    else
      ai_bd (Ff_within x1450 0 4) fun c1459 =>
      if c1459 = 0 then
        ai_bd (Ff_bad_0 (-10) c1457.2) fun c1477 =>
        some (c1477.1, c1477.2)
      else
        ai_bd (Ff_leastBallast_0 n x1448 x1449 x1450 (a_s1_hour c1457.2) c1457.2) fun c1476 =>
        some (c1476.1, c1476.2)
def Ff_holds_0 (n : Nat) (x1478 : Int32) (x1479 : Int32) (w : WX) : Option (Int32 × WX) :=
  ai_bd (Ff_takesBallast_0 x1478 w) fun c1480 =>
  if c1480.1 = 0 then
    ai_bd (Ff_bad_0 (-10) c1480.2) fun c1481 =>
    some (c1481.1, c1481.2)
  else
    ai_bd (Fsea_hasCell_1 x1479 c1480.2) fun c1482 =>
    if c1482.1 = 0 then
      ai_bd (Ff_bad_0 (-10) c1482.2) fun c1484 =>
      some (c1484.1, c1484.2)
    else
      ai_bd (Ff_letGoWithBallast_0 n x1478 x1479 99 (a_s1_hour c1482.2) c1482.2) fun c1483 =>
      some ((a_fall_stopper c1483), c1483)
def Gf_bestHour_0 : Nat → Nat → Int32 → Int32 → Int32 → Int32 → Int32 → Int32 → WX → Option (Int32 × WX)
  | 0, _, _, _, _, _, _, _, _ => none
  | n + 1, 0, y1494, y1495, y1496, y1497, y1498, y1499, w =>
    if 6 ≤ y1499 then
      some (y1497, w)
    else
      ai_bd (Ff_leastBallast_0 n y1494 y1495 y1496 ((a_s1_hour w) + y1499) w) fun c1500 =>
      if c1500.1 = (-1) then
        Gf_bestHour_0 n 0 y1494 y1495 y1496 y1497 y1498 (y1499 + 1) c1500.2
      else
        if y1498 ≤ c1500.1 then
          Gf_bestHour_0 n 0 y1494 y1495 y1496 y1497 y1498 (y1499 + 1) c1500.2
        else
          Gf_bestHour_0 n 0 y1494 y1495 y1496 y1499 c1500.1 (y1499 + 1) c1500.2
  | _ + 1, _ + 1, _, _, _, _, _, _, _ => none
def Ff_bestHour_0 (n : Nat) (x1485 : Int32) (x1486 : Int32) (x1487 : Int32) (w : WX) : Option (Int32 × WX) :=
  ai_bd (Ff_takesBallast_0 x1485 w) fun c1488 =>
  if c1488.1 = 0 then
    ai_bd (Ff_bad_0 (-10) c1488.2) fun c1489 =>
    some (c1489.1, c1489.2)
  else
    ai_bd (Fsea_hasCell_1 x1486 c1488.2) fun c1490 =>
    if c1490.1 = 0 then
      ai_bd (Ff_bad_0 (-10) c1490.2) fun c1491 =>
      some (c1491.1, c1491.2)
    else
      ai_bd (Ff_within x1487 0 4) fun c1492 =>
      if c1492 = 0 then
        ai_bd (Ff_bad_0 (-10) c1490.2) fun c1493 =>
        some (c1493.1, c1493.2)
      else
        Gf_bestHour_0 n 0 x1485 x1486 x1487 (-1) 100 0 c1490.2
def Garr_fill_87 : Nat → Nat → Int32 → Int32 → Int32 → WX → Option (WX)
  | 0, _, _, _, _, _ => none
  | n + 1, 0, y1509, y1510, y1511, w =>
    if y1511 ≤ y1510 then
      some (w)
    else
      ai_bd (ai_up (a_ways_reached w) y1510 y1509) fun q1512 =>
      Garr_fill_87 n 0 y1509 (y1510 + 1) y1511 (u_ways_reached w q1512)
  | _ + 1, _ + 1, _, _, _, _ => none
def Farr_fill_87 (n : Nat) (x1508 : Int32) (w : WX) : Option (WX) :=
  Garr_fill_87 n 0 x1508 0 (Int32.ofNat (List.length (a_ways_reached w))) w
def Fway_numberOf (x1514 : Int32) : Option (Int32) :=
  some ((((x1514 / 10) * 4) + (x1514 - x1514 / 10 * 10)))
def Fway_join_86 (x1528 : Int32) (x1529 : Int32) (x1530 : Int32) (w : WX) : Option (WX) :=
  ai_bd (ai_ix (a_ways_reached w) x1528) fun v1531 =>
  ai_bd (ai_ix (a_ways_reached w) x1529) fun v1532 =>
  ai_bd (ai_up (a_ways_reached w) x1528 (if (v1532 + x1530) < v1531 then (v1532 + x1530) else v1531)) fun q1533 =>
  ai_bd (ai_ix q1533 x1529) fun v1534 =>
  ai_bd (ai_ix q1533 x1528) fun v1535 =>
  ai_bd (ai_up q1533 x1529 (if (v1535 + x1530) < v1534 then (v1535 + x1530) else v1534)) fun q1536 =>
  some ((u_ways_reached (u_ways_reached w q1533) q1536))
def Gway_goByLifts_86_1 : Nat → Nat → Int32 → WX → Option (WX)
  | 0, _, _, _ => none
  | n + 1, 0, y1522, w =>
    if (a_s1lifts_count w) ≤ y1522 then
      some (w)
    else
      ai_bd (ai_ix (a_s1lifts_froms w) y1522) fun v1523 =>
      ai_bd (Fway_numberOf v1523) fun c1524 =>
      ai_bd (ai_ix (a_s1lifts_tos w) y1522) fun v1525 =>
      ai_bd (Fway_numberOf v1525) fun c1526 =>
      ai_bd (ai_ix (a_s1lifts_times w) y1522) fun v1527 =>
      ai_bd (Fway_join_86 c1524 c1526 v1527 w) fun c1537 =>
      Gway_goByLifts_86_1 n 0 (y1522 + 1) c1537
  | _ + 1, _ + 1, _, _ => none
def Fway_goByLifts_86_1 (n : Nat) (w : WX) : Option (WX) :=
  Gway_goByLifts_86_1 n 0 0 w
def Gway_goBeside_86_1 : Nat → Nat → Int32 → Int32 → WX → Option (WX)
  | 0, _, _, _, _ => none
  | n + 1, 0, y1539, _, w =>
    if ((a_s1_cells w) - 1) ≤ y1539 then
      some (w)
    else
      Gway_goBeside_86_1 n 1 y1539 0 w
  | n + 1, 1, y1540, y1541, w =>
    if 4 ≤ y1541 then
      Gway_goBeside_86_1 n 0 (y1540 + 1) 0 w
    else
      ai_bd (Fsea_thickAt_1 y1541 y1540 (a_s1_hour w) w) fun c1542 =>
      if c1542.1 ≤ 0 then
        Gway_goBeside_86_1 n 1 y1540 (y1541 + 1) c1542.2
      else
        ai_bd (Fsea_thickAt_1 y1541 (y1540 + 1) (a_s1_hour c1542.2) c1542.2) fun c1543 =>
        if c1543.1 ≤ 0 then
          Gway_goBeside_86_1 n 1 y1540 (y1541 + 1) c1543.2
        else
          ai_bd (Fway_join_86 ((y1540 * 4) + y1541) (((y1540 + 1) * 4) + y1541) 3 c1543.2) fun c1544 =>
          Gway_goBeside_86_1 n 1 y1540 (y1541 + 1) c1544
  | _ + 1, _ + 2, _, _, _ => none
def Fway_goBeside_86_1 (n : Nat) (w : WX) : Option (WX) :=
  Gway_goBeside_86_1 n 0 0 0 w
def Gway_soonestWay_86_1 : Nat → Nat → Int32 → Int32 → Int32 → WX → Option (Int32 × WX)
  | 0, _, _, _, _, _ => none
  | n + 1, 0, y1517, y1518, y1519, w =>
    if 24 ≤ y1519 then
      ai_bd (Fway_numberOf y1518) fun c1520 =>
      ai_bd (ai_ix (a_ways_reached w) c1520) fun v1521 =>
      if v1521 < 1000000 then
        some (v1521, w)
      else
        some ((-1), w)
    else
      ai_bd (Fway_goByLifts_86_1 n w) fun c1538 =>
      ai_bd (Fway_goBeside_86_1 n c1538) fun c1545 =>
      Gway_soonestWay_86_1 n 0 y1517 y1518 (y1519 + 1) c1545
  | _ + 1, _ + 1, _, _, _, _ => none
def Fway_soonestWay_86_1 (n : Nat) (x1506 : Int32) (x1507 : Int32) (w : WX) : Option (Int32 × WX) :=
  ai_bd (Farr_fill_87 n 1000000 w) fun c1513 =>
  ai_bd (Fway_numberOf x1506) fun c1515 =>
  ai_bd (ai_up (a_ways_reached c1513) c1515 0) fun q1516 =>
  Gway_soonestWay_86_1 n 0 x1506 x1507 1 (u_ways_reached c1513 q1516)
def Ff_soonest_0 (n : Nat) (x1501 : Int32) (x1502 : Int32) (w : WX) : Option (Int32 × WX) :=
  ai_bd (Fsea_hasPlace_1 x1501 w) fun c1503 =>
  if c1503.1 = 0 then
    ai_bd (Ff_bad_0 (-2) c1503.2) fun c1504 =>
    some (c1504.1, c1504.2)
  else
    ai_bd (Fsea_hasPlace_1 x1502 c1503.2) fun c1505 =>
    if c1505.1 = 0 then
      ai_bd (Ff_bad_0 (-2) c1505.2) fun c1547 =>
      some (c1547.1, c1547.2)
    else
      ai_bd (Fway_soonestWay_86_1 n x1501 x1502 c1505.2) fun c1546 =>
      some (c1546.1, c1546.2)
def Gsea_ceilingOf_1 : Nat → Nat → Int32 → Int32 → Int32 → Int32 → Int32 → WX → Option (Int32 × WX)
  | 0, _, _, _, _, _, _, _ => none
  | n + 1, 0, y1556, y1557, y1558, y1559, y1560, w =>
    if (a_s1_towns w) ≤ y1560 then
      some (y1558, w)
    else
      ai_bd (ai_ix (a_s1_townPlaces w) y1560) fun v1561 =>
      if (v1561 / 10) = (y1557 / 10) then
        if y1557 ≤ v1561 then
          Gsea_ceilingOf_1 n 0 y1556 y1557 y1558 y1559 (y1560 + 1) w
        else
          if v1561 ≤ y1559 then
            Gsea_ceilingOf_1 n 0 y1556 y1557 y1558 y1559 (y1560 + 1) w
          else
            Gsea_ceilingOf_1 n 0 y1556 y1557 y1560 v1561 (y1560 + 1) w
      else
        Gsea_ceilingOf_1 n 0 y1556 y1557 y1558 y1559 (y1560 + 1) w
  | _ + 1, _ + 1, _, _, _, _, _, _ => none
def Fsea_ceilingOf_1 (n : Nat) (x1554 : Int32) (w : WX) : Option (Int32 × WX) :=
  ai_bd (ai_ix (a_s1_townPlaces w) x1554) fun v1555 =>
  Gsea_ceilingOf_1 n 0 x1554 v1555 (-1) (-1) 0 w
def Fsea_duesOf_1 (x1563 : Int32) (w : WX) : Option (Int32 × WX) :=
  ai_bd (ai_ix (a_s1_townPlaces w) x1563) fun v1564 =>
  ai_bd (Fsea_thickAt_1 (v1564 - v1564 / 10 * 10) (v1564 / 10) (a_s1_hour w) w) fun c1565 =>
  some (c1565.1, c1565.2)
def Gf_net_0 : Nat → Nat → Int32 → Int32 → Int32 → WX → Option (Int32 × WX)
  | 0, _, _, _, _, _ => none
  | n + 1, 0, y1551, y1552, y1553, w =>
    if (a_s1_towns w) ≤ y1553 then
      some (y1552, w)
    else
      ai_bd (Fsea_ceilingOf_1 n y1553 w) fun c1562 =>
      if c1562.1 = (-1) then
        Gf_net_0 n 0 y1551 y1552 (y1553 + 1) c1562.2
      else
        if c1562.1 = y1551 then
          ai_bd (Fsea_duesOf_1 y1553 c1562.2) fun c1567 =>
          if y1553 = y1551 then
            ai_bd (Fsea_duesOf_1 y1553 c1567.2) fun c1568 =>
            Gf_net_0 n 0 y1551 ((y1552 + c1567.1) - c1568.1) (y1553 + 1) c1568.2
          else
            Gf_net_0 n 0 y1551 (y1552 + c1567.1) (y1553 + 1) c1567.2
        else
          if y1553 = y1551 then
            ai_bd (Fsea_duesOf_1 y1553 c1562.2) fun c1566 =>
            Gf_net_0 n 0 y1551 (y1552 - c1566.1) (y1553 + 1) c1566.2
          else
            Gf_net_0 n 0 y1551 y1552 (y1553 + 1) c1562.2
  | _ + 1, _ + 1, _, _, _, _ => none
def Ff_net_0 (n : Nat) (x1548 : Int32) (w : WX) : Option (Int32 × WX) :=
  ai_bd (Ff_within x1548 0 ((a_s1_towns w) - 1)) fun c1549 =>
  if c1549 = 0 then
    ai_bd (Ff_bad_0 (-1000) w) fun c1550 =>
    some (c1550.1, c1550.2)
  else
    Gf_net_0 n 0 x1548 0 0 w
def Ff_isSpill_0 (x1573 : Int32) (x1574 : Int32) (x1575 : Int32) (w : WX) : Option (Int32 × WX) :=
  ai_bd (Fsea_hasCell_1 x1573 w) fun c1576 =>
  if c1576.1 = 0 then
    some (0, c1576.2)
  else
    ai_bd (Ff_within x1574 0 999) fun c1577 =>
    if c1577 = 0 then
      some (0, c1576.2)
    else
      ai_bd (Ff_within x1575 0 40) fun c1578 =>
      if c1578 = 0 then
        some (0, c1576.2)
      else
        some (1, c1576.2)
def Garr_fill_84 : Nat → Nat → Int32 → Int32 → Int32 → WX → Option (WX)
  | 0, _, _, _, _, _ => none
  | n + 1, 0, y1585, y1586, y1587, w =>
    if y1587 ≤ y1586 then
      some (w)
    else
      ai_bd (ai_up (a_spread_amounts w) y1586 y1585) fun q1588 =>
      Garr_fill_84 n 0 y1585 (y1586 + 1) y1587 (u_spread_amounts w q1588)
  | _ + 1, _ + 1, _, _, _, _ => none
def Farr_fill_84 (n : Nat) (x1584 : Int32) (w : WX) : Option (WX) :=
  Garr_fill_84 n 0 x1584 0 (Int32.ofNat (List.length (a_spread_amounts w))) w
def Fspr_start_83 (n : Nat) (x1582 : Int32) (x1583 : Int32) (w : WX) : Option (WX) :=
  ai_bd (Farr_fill_84 n 0 w) fun c1589 =>
  ai_bd (ai_up (a_spread_amounts c1589) x1582 x1583) fun q1590 =>
  some ((u_spread_amounts c1589 q1590))
def Gspr_goOn_83 : Nat → Nat → Int32 → Int32 → Int32 → WX → Option (WX)
  | 0, _, _, _, _, _ => none
  | n + 1, 0, y1601, y1602, y1603, w =>
    if y1601 ≤ y1603 then
      Gspr_goOn_83 n 1 y1601 y1602 0 w
    else
      ai_bd (ai_ix (a_spread_amounts w) y1603) fun v1604 =>
      ai_bd (ai_up (a_spread_gifts w) y1603 (v1604 / 4)) fun q1605 =>
      Gspr_goOn_83 n 0 y1601 y1602 (y1603 + 1) (u_spread_gifts w q1605)
  | n + 1, 1, y1606, y1607, y1608, w =>
    if (y1606 - 1) ≤ y1608 then
      some (w)
    else
      if ((y1607 >>> (y1608 &&& 31)) &&& 1) = 0 then
        ai_bd (ai_ix (a_spread_amounts w) y1608) fun v1609 =>
        ai_bd (ai_ix (a_spread_gifts w) (y1608 + 1)) fun v1610 =>
        ai_bd (ai_ix (a_spread_gifts w) y1608) fun v1611 =>
        ai_bd (ai_up (a_spread_amounts w) y1608 (v1609 + (v1610 - v1611))) fun q1612 =>
        ai_bd (ai_ix q1612 (y1608 + 1)) fun v1613 =>
        ai_bd (ai_ix (a_spread_gifts w) y1608) fun v1614 =>
        ai_bd (ai_ix (a_spread_gifts w) (y1608 + 1)) fun v1615 =>
        ai_bd (ai_up q1612 (y1608 + 1) (v1613 + (v1614 - v1615))) fun q1616 =>
        Gspr_goOn_83 n 1 y1606 y1607 (y1608 + 1) (u_spread_amounts (u_spread_amounts w q1612) q1616)
      else
        Gspr_goOn_83 n 1 y1606 y1607 (y1608 + 1) w
  | _ + 1, _ + 2, _, _, _, _ => none
def Fspr_goOn_83 (n : Nat) (x1599 : Int32) (x1600 : Int32) (w : WX) : Option (WX) :=
  Gspr_goOn_83 n 0 x1599 x1600 0 w
def Gf_spill_0 : Nat → Nat → Int32 → Int32 → Int32 → Int32 → Int32 → WX → Option (Int32 × WX)
  | 0, _, _, _, _, _, _, _ => none
  | n + 1, 0, y1593, y1594, y1595, y1596, y1597, w =>
    if y1595 ≤ y1597 then
      ai_bd (ai_ix (a_spread_amounts w) y1596) fun v1598 =>
      some (v1598, w)
    else
      ai_bd (Fspr_goOn_83 n (a_s1_cells w) (a_s1_dams w) w) fun c1617 =>
      Gf_spill_0 n 0 y1593 y1594 y1595 y1596 (y1597 + 1) c1617
  | _ + 1, _ + 1, _, _, _, _, _, _ => none
def Ff_spill_0 (n : Nat) (x1569 : Int32) (x1570 : Int32) (x1571 : Int32) (x1572 : Int32) (w : WX) : Option (Int32 × WX) :=
  ai_bd (Ff_isSpill_0 x1569 x1570 x1571 w) fun c1579 =>
  if c1579.1 = 0 then
    ai_bd (Ff_bad_0 (-2) c1579.2) fun c1580 =>
    some (c1580.1, c1580.2)
  else
    ai_bd (Fsea_hasCell_1 x1572 c1579.2) fun c1581 =>
    if c1581.1 = 0 then
      ai_bd (Ff_bad_0 (-2) c1581.2) fun c1592 =>
      some (c1592.1, c1592.2)
    else
      ai_bd (Fspr_start_83 n x1569 x1570 c1581.2) fun c1591 =>
      Gf_spill_0 n 0 x1569 x1570 x1571 x1572 0 c1591
def Fint_bitCount (x1633 : Int32) : Option (Int32) :=
  some (((((((((x1633 - (((x1633 : Int32).toUInt32 >>> ((1 : Int32).toUInt32 &&& Int32.toUInt32 31)).toInt32 &&& 1431655765)) &&& 858993459) + ((((x1633 - (((x1633 : Int32).toUInt32 >>> ((1 : Int32).toUInt32 &&& Int32.toUInt32 31)).toInt32 &&& 1431655765)) : Int32).toUInt32 >>> ((2 : Int32).toUInt32 &&& Int32.toUInt32 31)).toInt32 &&& 858993459)) + (((((x1633 - (((x1633 : Int32).toUInt32 >>> ((1 : Int32).toUInt32 &&& Int32.toUInt32 31)).toInt32 &&& 1431655765)) &&& 858993459) + ((((x1633 - (((x1633 : Int32).toUInt32 >>> ((1 : Int32).toUInt32 &&& Int32.toUInt32 31)).toInt32 &&& 1431655765)) : Int32).toUInt32 >>> ((2 : Int32).toUInt32 &&& Int32.toUInt32 31)).toInt32 &&& 858993459)) : Int32).toUInt32 >>> ((4 : Int32).toUInt32 &&& Int32.toUInt32 31)).toInt32) &&& 252645135) + (((((((x1633 - (((x1633 : Int32).toUInt32 >>> ((1 : Int32).toUInt32 &&& Int32.toUInt32 31)).toInt32 &&& 1431655765)) &&& 858993459) + ((((x1633 - (((x1633 : Int32).toUInt32 >>> ((1 : Int32).toUInt32 &&& Int32.toUInt32 31)).toInt32 &&& 1431655765)) : Int32).toUInt32 >>> ((2 : Int32).toUInt32 &&& Int32.toUInt32 31)).toInt32 &&& 858993459)) + (((((x1633 - (((x1633 : Int32).toUInt32 >>> ((1 : Int32).toUInt32 &&& Int32.toUInt32 31)).toInt32 &&& 1431655765)) &&& 858993459) + ((((x1633 - (((x1633 : Int32).toUInt32 >>> ((1 : Int32).toUInt32 &&& Int32.toUInt32 31)).toInt32 &&& 1431655765)) : Int32).toUInt32 >>> ((2 : Int32).toUInt32 &&& Int32.toUInt32 31)).toInt32 &&& 858993459)) : Int32).toUInt32 >>> ((4 : Int32).toUInt32 &&& Int32.toUInt32 31)).toInt32) &&& 252645135) : Int32).toUInt32 >>> ((8 : Int32).toUInt32 &&& Int32.toUInt32 31)).toInt32) + ((((((((x1633 - (((x1633 : Int32).toUInt32 >>> ((1 : Int32).toUInt32 &&& Int32.toUInt32 31)).toInt32 &&& 1431655765)) &&& 858993459) + ((((x1633 - (((x1633 : Int32).toUInt32 >>> ((1 : Int32).toUInt32 &&& Int32.toUInt32 31)).toInt32 &&& 1431655765)) : Int32).toUInt32 >>> ((2 : Int32).toUInt32 &&& Int32.toUInt32 31)).toInt32 &&& 858993459)) + (((((x1633 - (((x1633 : Int32).toUInt32 >>> ((1 : Int32).toUInt32 &&& Int32.toUInt32 31)).toInt32 &&& 1431655765)) &&& 858993459) + ((((x1633 - (((x1633 : Int32).toUInt32 >>> ((1 : Int32).toUInt32 &&& Int32.toUInt32 31)).toInt32 &&& 1431655765)) : Int32).toUInt32 >>> ((2 : Int32).toUInt32 &&& Int32.toUInt32 31)).toInt32 &&& 858993459)) : Int32).toUInt32 >>> ((4 : Int32).toUInt32 &&& Int32.toUInt32 31)).toInt32) &&& 252645135) + (((((((x1633 - (((x1633 : Int32).toUInt32 >>> ((1 : Int32).toUInt32 &&& Int32.toUInt32 31)).toInt32 &&& 1431655765)) &&& 858993459) + ((((x1633 - (((x1633 : Int32).toUInt32 >>> ((1 : Int32).toUInt32 &&& Int32.toUInt32 31)).toInt32 &&& 1431655765)) : Int32).toUInt32 >>> ((2 : Int32).toUInt32 &&& Int32.toUInt32 31)).toInt32 &&& 858993459)) + (((((x1633 - (((x1633 : Int32).toUInt32 >>> ((1 : Int32).toUInt32 &&& Int32.toUInt32 31)).toInt32 &&& 1431655765)) &&& 858993459) + ((((x1633 - (((x1633 : Int32).toUInt32 >>> ((1 : Int32).toUInt32 &&& Int32.toUInt32 31)).toInt32 &&& 1431655765)) : Int32).toUInt32 >>> ((2 : Int32).toUInt32 &&& Int32.toUInt32 31)).toInt32 &&& 858993459)) : Int32).toUInt32 >>> ((4 : Int32).toUInt32 &&& Int32.toUInt32 31)).toInt32) &&& 252645135) : Int32).toUInt32 >>> ((8 : Int32).toUInt32 &&& Int32.toUInt32 31)).toInt32) : Int32).toUInt32 >>> ((16 : Int32).toUInt32 &&& Int32.toUInt32 31)).toInt32) &&& 63))
def Gspr_isIn_83 : Nat → Nat → Int32 → Int32 → WX → Option (Int32 × WX)
  | 0, _, _, _, _ => none
  | n + 1, 0, y1649, y1650, w =>
    if 6 ≤ y1650 then
      some (0, w)
    else
      if ((y1649 >>> (y1650 &&& 31)) &&& 1) = 1 then
        ai_bd (ai_ix (a_spread_amounts w) y1650) fun v1651 =>
        if v1651 ≤ 0 then
          Gspr_isIn_83 n 0 y1649 (y1650 + 1) w
        else
          some (1, w)
      else
        Gspr_isIn_83 n 0 y1649 (y1650 + 1) w
  | _ + 1, _ + 1, _, _, _ => none
def Fspr_isIn_83 (n : Nat) (x1648 : Int32) (w : WX) : Option (Int32 × WX) :=
  Gspr_isIn_83 n 0 x1648 0 w
def Gf_keepsOut_0 : Nat → Nat → Int32 → Int32 → Int32 → Int32 → Int32 → Int32 → WX → Option (Int32 × WX)
  | 0, _, _, _, _, _, _, _, _ => none
  | n + 1, 0, y1642, y1643, y1644, y1645, y1646, y1647, w =>
    if y1644 ≤ y1647 then
      ai_bd (Fspr_isIn_83 n y1645 w) fun c1652 =>
      if c1652.1 = 0 then
        some (1, c1652.2)
      else
        some (0, c1652.2)
    else
      ai_bd (Fspr_isIn_83 n y1645 w) fun c1653 =>
      if c1653.1 = 0 then
        ai_bd (Fspr_goOn_83 n (a_s1_cells c1653.2) y1646 c1653.2) fun c1654 =>
        Gf_keepsOut_0 n 0 y1642 y1643 y1644 y1645 y1646 (y1647 + 1) c1654
      else
        some (0, c1653.2)
  | _ + 1, _ + 1, _, _, _, _, _, _, _ => none
def Ff_keepsOut_0 (n : Nat) (x1636 : Int32) (x1637 : Int32) (x1638 : Int32) (x1639 : Int32) (x1640 : Int32) (w : WX) : Option (Int32 × WX) :=
  ai_bd (Fspr_start_83 n x1636 x1637 w) fun c1641 =>
  Gf_keepsOut_0 n 0 x1636 x1637 x1638 x1639 x1640 0 c1641
def Gf_keepOut_0 : Nat → Nat → Int32 → Int32 → Int32 → Int32 → Int32 → Int32 → Int32 → WX → Option (Int32 × WX)
  | 0, _, _, _, _, _, _, _, _, _ => none
  | n + 1, 0, y1626, y1627, y1628, y1629, y1630, y1631, y1632, w =>
    if y1631 ≤ y1632 then
      some (y1630, w)
    else
      if (y1632 &&& (a_s1_dams w)) = 0 then
        if y1630 = (-1) then
          ai_bd (Ff_keepsOut_0 n y1626 y1627 y1628 y1629 ((a_s1_dams w) ||| y1632) w) fun c1655 =>
          if c1655.1 = 0 then
            Gf_keepOut_0 n 0 y1626 y1627 y1628 y1629 y1630 y1631 (y1632 + 1) c1655.2
          else
            Gf_keepOut_0 n 0 y1626 y1627 y1628 y1629 y1632 y1631 (y1632 + 1) c1655.2
        else
          ai_bd (Fint_bitCount y1632) fun c1656 =>
          ai_bd (Fint_bitCount y1630) fun c1657 =>
          if c1657 ≤ c1656 then
            Gf_keepOut_0 n 0 y1626 y1627 y1628 y1629 y1630 y1631 (y1632 + 1) w
          else
            ai_bd (Ff_keepsOut_0 n y1626 y1627 y1628 y1629 ((a_s1_dams w) ||| y1632) w) fun c1658 =>
            if c1658.1 = 0 then
              Gf_keepOut_0 n 0 y1626 y1627 y1628 y1629 y1630 y1631 (y1632 + 1) c1658.2
            else
              Gf_keepOut_0 n 0 y1626 y1627 y1628 y1629 y1632 y1631 (y1632 + 1) c1658.2
      else
        if y1630 = (-1) then
          Gf_keepOut_0 n 0 y1626 y1627 y1628 y1629 y1630 y1631 (y1632 + 1) w
        else
          ai_bd (Fint_bitCount y1632) fun c1634 =>
          ai_bd (Fint_bitCount y1630) fun c1635 =>
          if c1635 ≤ c1634 then
            Gf_keepOut_0 n 0 y1626 y1627 y1628 y1629 y1630 y1631 (y1632 + 1) w
          else
            Gf_keepOut_0 n 0 y1626 y1627 y1628 y1629 y1630 y1631 (y1632 + 1) w
  | _ + 1, _ + 1, _, _, _, _, _, _, _, _ => none
def Ff_keepOut_0 (n : Nat) (x1618 : Int32) (x1619 : Int32) (x1620 : Int32) (x1621 : Int32) (w : WX) : Option (Int32 × WX) :=
  ai_bd (Ff_isSpill_0 x1618 x1619 x1620 w) fun c1622 =>
  if c1622.1 = 0 then
    ai_bd (Ff_bad_0 (-2) c1622.2) fun c1623 =>
    some (c1623.1, c1623.2)
  else
    ai_bd (Ff_within x1621 0 ((1 <<< ((a_s1_cells c1622.2) &&& 31)) - 1)) fun c1624 =>
    if c1624 = 0 then
      ai_bd (Ff_bad_0 (-2) c1622.2) fun c1625 =>
      some (c1625.1, c1625.2)
    else
      Gf_keepOut_0 n 0 x1618 x1619 x1620 x1621 (-1) (1 <<< (((a_s1_cells c1622.2) - 1) &&& 31)) 0 c1622.2
def Gsea_allThick_1 : Nat → Nat → Int32 → Int32 → Int32 → WX → Option (Int32 × WX)
  | 0, _, _, _, _, _ => none
  | n + 1, 0, y1668, y1669, y1670, w =>
    if 4 ≤ y1670 then
      some (y1669, w)
    else
      ai_bd (Fsea_thickAt_1 y1670 y1668 (a_s1_hour w) w) fun c1671 =>
      Gsea_allThick_1 n 0 y1668 (y1669 + c1671.1) (y1670 + 1) c1671.2
  | _ + 1, _ + 1, _, _, _, _ => none
def Fsea_allThick_1 (n : Nat) (x1667 : Int32) (w : WX) : Option (Int32 × WX) :=
  Gsea_allThick_1 n 0 x1667 0 0 w
def Gf_shaken_0 : Nat → Nat → Int32 → Int32 → Int32 → Int32 → Int32 → Int32 → Int32 → WX → Option (Int32 × WX)
  | 0, _, _, _, _, _, _, _, _, _ => none
  | n + 1, 0, y1674, y1675, y1676, y1677, y1678, y1679, y1680, w =>
    if y1674 < y1680 then
      some (y1678, w)
    else
      if y1679 ≤ y1677 then
        some (y1678, w)
      else
        Gf_shaken_0 n 0 y1674 y1675 y1676 y1677 (y1678 + 1) (y1679 - ((y1679 + 3) / 4)) (y1680 + 1) w
  | _ + 1, _ + 1, _, _, _, _, _, _, _, _ => none
def Ff_shaken_0 (n : Nat) (x1659 : Int32) (x1660 : Int32) (x1661 : Int32) (w : WX) : Option (Int32 × WX) :=
  ai_bd (Ff_within x1659 0 99) fun c1662 =>
  if c1662 = 0 then
    ai_bd (Ff_bad_0 (-2) w) fun c1663 =>
    some (c1663.1, c1663.2)
  else
    ai_bd (Fsea_hasCell_1 x1660 w) fun c1664 =>
    if c1664.1 = 0 then
      ai_bd (Ff_bad_0 (-2) c1664.2) fun c1665 =>
      some (c1665.1, c1665.2)
    else
      ai_bd (Ff_within x1661 0 1) fun c1666 =>
      if c1666 = 0 then
        ai_bd (Ff_bad_0 (-2) c1664.2) fun c1673 =>
        some (c1673.1, c1673.2)
      else
        if x1661 = 0 then
          Gf_shaken_0 n 0 x1659 x1660 x1661 0 0 x1659 0 c1664.2
        else
          ai_bd (Fsea_allThick_1 n x1660 c1664.2) fun c1672 =>
          Gf_shaken_0 n 0 x1659 x1660 x1661 c1672.1 0 x1659 0 c1672.2
def Gf_lies_0 : Nat → Nat → Int32 → Int32 → Int32 → Int32 → Int32 → Int32 → Int32 → Int32 → Int32 → WX → Option (Int32 × WX)
  | 0, _, _, _, _, _, _, _, _, _, _, _ => none
  | n + 1, 0, y1696, y1697, y1698, y1699, y1700, y1701, y1702, y1703, y1704, w =>
    if 99 < y1704 then
      if y1700 = 0 then
        some (y1701, w)
      else
        if y1700 = 1 then
          some (y1702, w)
        else
          some (y1703, w)
    else
      ai_bd (Ffall_shape_81 4 y1704 y1696 0 y1699 w) fun c1705 =>
      ai_bd (Ffall_letGo_81_1 n y1697 y1699 0 c1705) fun c1706 =>
      if (a_fall_layer c1706) = y1698 then
        if y1702 = (-1) then
          Gf_lies_0 n 0 y1696 y1697 y1698 y1699 y1700 (y1701 + 1) y1704 y1704 (y1704 + 1) c1706
        else
          Gf_lies_0 n 0 y1696 y1697 y1698 y1699 y1700 (y1701 + 1) y1702 y1704 (y1704 + 1) c1706
      else
        Gf_lies_0 n 0 y1696 y1697 y1698 y1699 y1700 y1701 y1702 y1703 (y1704 + 1) c1706
  | _ + 1, _ + 1, _, _, _, _, _, _, _, _, _, _ => none
def Ff_lies_0 (n : Nat) (x1681 : Int32) (x1682 : Int32) (x1683 : Int32) (x1684 : Int32) (x1685 : Int32) (w : WX) : Option (Int32 × WX) :=
  ai_bd (Ff_within x1681 1 9) fun c1686 =>
  if c1686 = 0 then
    ai_bd (Ff_bad_0 (-10) w) fun c1687 =>
    some (c1687.1, c1687.2)
  else
    ai_bd (Fsea_hasCell_1 x1682 w) fun c1688 =>
    if c1688.1 = 0 then
      ai_bd (Ff_bad_0 (-10) c1688.2) fun c1689 =>
      some (c1689.1, c1689.2)
    else
      ai_bd (Ff_within x1683 0 4) fun c1690 =>
      if c1690 = 0 then
        ai_bd (Ff_bad_0 (-10) c1688.2) fun c1691 =>
        some (c1691.1, c1691.2)
      else
        ai_bd (Ff_within x1684 0 999) fun c1692 =>
        if c1692 = 0 then
          ai_bd (Ff_bad_0 (-10) c1688.2) fun c1693 =>
          some (c1693.1, c1693.2)
        else
          ai_bd (Ff_within x1685 0 2) fun c1694 =>
          if c1694 = 0 then
            ai_bd (Ff_bad_0 (-10) c1688.2) fun c1695 =>
            some (c1695.1, c1695.2)
          else
            Gf_lies_0 n 0 x1681 x1682 x1683 x1684 x1685 0 (-1) (-1) 1 c1688.2
def Gfall_driftFrom_81_1 : Nat → Nat → Int32 → Int32 → Int32 → Int32 → WX → Option (Int32 × WX)
  | 0, _, _, _, _, _, _ => none
  | n + 1, 0, y1719, y1720, y1721, _, w =>
    if 4 ≤ y1721 then
      some (y1720, w)
    else
      Gfall_driftFrom_81_1 n 1 y1719 y1720 y1721 0 w
  | n + 1, 1, y1722, y1723, y1724, y1725, w =>
    ai_bd (ai_ix (a_fall_passedThick w) y1724) fun v1726 =>
    if v1726 ≤ y1725 then
      Gfall_driftFrom_81_1 n 0 y1722 y1723 (y1724 + 1) 0 w
    else
      ai_bd (ai_ix (a_s1_currents w) y1724) fun v1727 =>
      Gfall_driftFrom_81_1 n 1 y1722 (if 0 < (if (y1723 + v1727) < ((a_s1_cells w) - 1) then (y1723 + v1727) else ((a_s1_cells w) - 1)) then (if (y1723 + v1727) < ((a_s1_cells w) - 1) then (y1723 + v1727) else ((a_s1_cells w) - 1)) else 0) y1724 (y1725 + 1) w
  | _ + 1, _ + 2, _, _, _, _, _ => none
def Ffall_driftFrom_81_1 (n : Nat) (x1718 : Int32) (w : WX) : Option (Int32 × WX) :=
  Gfall_driftFrom_81_1 n 0 x1718 x1718 0 0 w
def Gf_wentIn_0 : Nat → Nat → Int32 → Int32 → Int32 → Int32 → WX → Option (Int32 × WX)
  | 0, _, _, _, _, _, _ => none
  | n + 1, 0, y1713, y1714, y1715, y1716, w =>
    if (a_s1_cells w) ≤ y1716 then
      some (y1715, w)
    else
      ai_bd (Ff_letGoNow_0 n y1713 y1716 0 w) fun c1717 =>
      ai_bd (Ffall_driftFrom_81_1 n y1716 c1717) fun c1728 =>
      if c1728.1 = y1714 then
        Gf_wentIn_0 n 0 y1713 y1714 (y1715 ||| (1 <<< (y1716 &&& 31))) (y1716 + 1) c1728.2
      else
        Gf_wentIn_0 n 0 y1713 y1714 y1715 (y1716 + 1) c1728.2
  | _ + 1, _ + 1, _, _, _, _, _ => none
def Ff_wentIn_0 (n : Nat) (x1707 : Int32) (x1708 : Int32) (w : WX) : Option (Int32 × WX) :=
  ai_bd (Fthg_has_7 x1707 w) fun c1709 =>
  if c1709.1 = 0 then
    ai_bd (Ff_bad_0 (-2) c1709.2) fun c1710 =>
    some (c1710.1, c1710.2)
  else
    ai_bd (Fsea_hasCell_1 x1708 c1709.2) fun c1711 =>
    if c1711.1 = 0 then
      ai_bd (Ff_bad_0 (-2) c1711.2) fun c1712 =>
      some (c1712.1, c1712.2)
    else
      Gf_wentIn_0 n 0 x1707 x1708 0 0 c1711.2
def Gf_areFish_0 : Nat → Nat → Int32 → Int32 → WX → Option (Int32 × WX)
  | 0, _, _, _, _ => none
  | n + 1, 0, y1736, y1737, w =>
    if (a_s1things_count w) ≤ y1737 then
      some (1, w)
    else
      if ((y1736 >>> (y1737 &&& 31)) &&& 1) = 1 then
        ai_bd (ai_ix (a_s1things_kinds w) y1737) fun v1738 =>
        if v1738 = 5 then
          Gf_areFish_0 n 0 y1736 (y1737 + 1) w
        else
          some (0, w)
      else
        Gf_areFish_0 n 0 y1736 (y1737 + 1) w
  | _ + 1, _ + 1, _, _, _ => none
def Ff_areFish_0 (n : Nat) (x1734 : Int32) (w : WX) : Option (Int32 × WX) :=
  ai_bd (Ff_within x1734 0 ((1 <<< ((a_s1things_count w) &&& 31)) - 1)) fun c1735 =>
  if c1735 = 0 then
    some (0, w)
  else
    Gf_areFish_0 n 0 x1734 0 w
def Gf_fillDowns_0 : Nat → Nat → Int32 → Int32 → WX → Option (WX)
  | 0, _, _, _, _ => none
  | n + 1, 0, y1743, y1744, w =>
    if (a_s1things_count w) ≤ y1744 then
      some (w)
    else
      ai_bd (ai_up (a_f_downs w) y1744 (-1)) fun q1745 =>
      ai_bd (ai_ix (a_s1things_kinds w) y1744) fun v1746 =>
      if v1746 = 5 then
        ai_bd (Ff_letGoNow_0 n y1744 y1743 0 (u_f_downs w q1745)) fun c1747 =>
        ai_bd (ai_up (a_f_downs c1747) y1744 (a_fall_down c1747)) fun q1748 =>
        Gf_fillDowns_0 n 0 y1743 (y1744 + 1) (u_f_downs c1747 q1748)
      else
        Gf_fillDowns_0 n 0 y1743 (y1744 + 1) (u_f_downs w q1745)
  | _ + 1, _ + 1, _, _, _ => none
def Ff_fillDowns_0 (n : Nat) (x1742 : Int32) (w : WX) : Option (WX) :=
  Gf_fillDowns_0 n 0 x1742 0 w
def Gf_caught_0 : Nat → Nat → Int32 → Int32 → Int32 → Int32 → WX → Option (Int32 × WX)
  | 0, _, _, _, _, _, _ => none
  | n + 1, 0, y1766, y1767, y1768, y1769, w =>
    if (a_s1things_count w) ≤ y1769 then
      some (y1768, w)
    else
      ai_bd (ai_ix (a_f_downs w) y1769) fun v1770 =>
      ai_bd (Ff_within v1770 y1766 y1767) fun c1771 =>
      if c1771 = 0 then
        Gf_caught_0 n 0 y1766 y1767 y1768 (y1769 + 1) w
      else
        Gf_caught_0 n 0 y1766 y1767 (y1768 ||| (1 <<< (y1769 &&& 31))) (y1769 + 1) w
  | _ + 1, _ + 1, _, _, _, _, _ => none
def Ff_caught_0 (n : Nat) (x1764 : Int32) (x1765 : Int32) (w : WX) : Option (Int32 × WX) :=
  Gf_caught_0 n 0 x1764 x1765 0 0 w
def Gf_nets_0 : Nat → Nat → Int32 → Int32 → Int32 → Int32 → Int32 → Int32 → Int32 → WX → Option (Int32 × WX)
  | 0, _, _, _, _, _, _, _, _, _ => none
  | n + 1, 0, y1751, y1752, y1753, y1754, y1755, y1756, _, w =>
    if 60 < y1756 then
      if y1753 = 0 then
        some (y1754, w)
      else
        some (y1755, w)
    else
      Gf_nets_0 n 1 y1751 y1752 y1753 y1754 y1755 y1756 y1756 w
  | n + 1, 1, y1757, y1758, y1759, y1760, y1761, y1762, y1763, w =>
    if 60 < y1763 then
      Gf_nets_0 n 0 y1757 y1758 y1759 y1760 y1761 (y1762 + 1) 0 w
    else
      ai_bd (Ff_caught_0 n y1762 y1763 w) fun c1772 =>
      if c1772.1 = y1758 then
        if y1761 = (-1) then
          Gf_nets_0 n 1 y1757 y1758 y1759 (y1760 + 1) ((100 * y1762) + y1763) y1762 (y1763 + 1) c1772.2
        else
          Gf_nets_0 n 1 y1757 y1758 y1759 (y1760 + 1) y1761 y1762 (y1763 + 1) c1772.2
      else
        Gf_nets_0 n 1 y1757 y1758 y1759 y1760 y1761 y1762 (y1763 + 1) c1772.2
  | _ + 1, _ + 2, _, _, _, _, _, _, _, _ => none
def Ff_nets_0 (n : Nat) (x1729 : Int32) (x1730 : Int32) (x1731 : Int32) (w : WX) : Option (Int32 × WX) :=
  ai_bd (Fsea_hasCell_1 x1729 w) fun c1732 =>
  if c1732.1 = 0 then
    ai_bd (Ff_bad_0 (-10) c1732.2) fun c1733 =>
    some (c1733.1, c1733.2)
  else
    ai_bd (Ff_areFish_0 n x1730 c1732.2) fun c1739 =>
    if c1739.1 = 0 then
      ai_bd (Ff_bad_0 (-10) c1739.2) fun c1740 =>
      some (c1740.1, c1740.2)
    else
      ai_bd (Ff_within x1731 0 1) fun c1741 =>
      if c1741 = 0 then
        ai_bd (Ff_bad_0 (-10) c1739.2) fun c1750 =>
        some (c1750.1, c1750.2)
      else
        ai_bd (Ff_fillDowns_0 n x1729 c1739.2) fun c1749 =>
        Gf_nets_0 n 0 x1729 x1730 x1731 0 (-1) 0 0 c1749
def Gsea_sweetInAll_1 : Nat → Nat → Int32 → Int32 → WX → Option (Int32 × WX)
  | 0, _, _, _, _ => none
  | n + 1, 0, y1775, y1776, w =>
    if (a_s1_cells w) ≤ y1776 then
      some (y1775, w)
    else
      ai_bd (Fsea_thickAt_1 0 y1776 (a_s1_hour w) w) fun c1777 =>
      Gsea_sweetInAll_1 n 0 (y1775 + c1777.1) (y1776 + 1) c1777.2
  | _ + 1, _ + 1, _, _, _ => none
def Fsea_sweetInAll_1 (n : Nat) (w : WX) : Option (Int32 × WX) :=
  Gsea_sweetInAll_1 n 0 0 0 w
def Ff_tapped (x1794 : Int32) (x1795 : Int32) (x1796 : Int32) : Option (Int32) :=
  some ((x1794 - (2 * (if 0 < ((x1794 + x1795) - x1796) then ((x1794 + x1795) - x1796) else 0))))
def Gf_isBestTap : Nat → Nat → Int32 → Int32 → Int32 → Int32 → Int32 → Option (Int32)
  | 0, _, _, _, _, _, _ => none
  | n + 1, 0, y1798, y1799, y1800, y1801, y1802 =>
    if 9 < y1802 then
      some (1)
    else
      ai_bd (Ff_tapped y1802 y1799 y1800) fun c1803 =>
      if c1803 ≤ y1801 then
        Gf_isBestTap n 0 y1798 y1799 y1800 y1801 (y1802 + 1)
      else
        some (0)
  | _ + 1, _ + 1, _, _, _, _, _ => none
def Ff_isBestTap (n : Nat) (x1791 : Int32) (x1792 : Int32) (x1793 : Int32) : Option (Int32) :=
  ai_bd (Ff_tapped x1791 x1792 x1793) fun c1797 =>
  Gf_isBestTap n 0 x1791 x1792 x1793 c1797 0
def Gf_tap_0 : Nat → Nat → Int32 → Int32 → Int32 → Int32 → Int32 → Int32 → WX → Option (Int32 × WX)
  | 0, _, _, _, _, _, _, _, _ => none
  | n + 1, 0, y1780, y1781, y1782, y1783, y1784, _, w =>
    if 9 < y1784 then
      if y1780 = 0 then
        some (y1782, w)
      else
        some (y1783, w)
    else
      Gf_tap_0 n 1 y1780 y1781 y1782 y1783 y1784 0 w
  | n + 1, 1, y1785, y1786, y1787, y1788, y1789, y1790, w =>
    if 9 < y1790 then
      Gf_tap_0 n 0 y1785 y1786 y1787 y1788 (y1789 + 1) 0 w
    else
      ai_bd (Ff_isBestTap n y1789 y1790 y1786) fun c1804 =>
      if c1804 = 0 then
        Gf_tap_0 n 1 y1785 y1786 y1787 y1788 y1789 (y1790 + 1) w
      else
        ai_bd (Ff_isBestTap n y1790 y1789 y1786) fun c1805 =>
        if c1805 = 0 then
          Gf_tap_0 n 1 y1785 y1786 y1787 y1788 y1789 (y1790 + 1) w
        else
          if y1788 = (-1) then
            Gf_tap_0 n 1 y1785 y1786 (y1787 + 1) ((10 * y1789) + y1790) y1789 (y1790 + 1) w
          else
            Gf_tap_0 n 1 y1785 y1786 (y1787 + 1) y1788 y1789 (y1790 + 1) w
  | _ + 1, _ + 2, _, _, _, _, _, _, _ => none
def Ff_tap_0 (n : Nat) (x1773 : Int32) (w : WX) : Option (Int32 × WX) :=
  ai_bd (Ff_within x1773 0 1) fun c1774 =>
  if c1774 = 0 then
    ai_bd (Ff_bad_0 (-10) w) fun c1779 =>
    some (c1779.1, c1779.2)
  else
    ai_bd (Fsea_sweetInAll_1 n w) fun c1778 =>
    Gf_tap_0 n 0 x1773 c1778.1 0 (-1) 0 0 c1778.2
def Gsea_fitsDrops_1 : Nat → Nat → Int32 → Int32 → Int32 → WX → Option (Int32 × WX)
  | 0, _, _, _, _, _ => none
  | n + 1, 0, y1832, y1833, y1834, w =>
    if (a_s1_drops w) ≤ y1834 then
      some (1, w)
    else
      ai_bd (ai_ix (a_s1_dropLayers w) y1834) fun v1835 =>
      ai_bd (ai_ix (a_s1_densities w) v1835) fun v1836 =>
      if (y1832 * v1836) < y1833 then
        ai_bd (ai_ix (a_s1_dropFloats w) y1834) fun v1837 =>
        if v1837 = 1 then
          some (0, w)
        else
          Gsea_fitsDrops_1 n 0 y1832 y1833 (y1834 + 1) w
      else
        ai_bd (ai_ix (a_s1_dropFloats w) y1834) fun v1838 =>
        if v1838 = 1 then
          Gsea_fitsDrops_1 n 0 y1832 y1833 (y1834 + 1) w
        else
          some (0, w)
  | _ + 1, _ + 1, _, _, _, _ => none
def Fsea_fitsDrops_1 (n : Nat) (x1830 : Int32) (x1831 : Int32) (w : WX) : Option (Int32 × WX) :=
  Gsea_fitsDrops_1 n 0 x1830 x1831 0 w
def Gf_nextToTry_0 : Nat → Nat → Int32 → Int32 → Int32 → Int32 → Int32 → Int32 → Int32 → WX → Option (Int32 × WX)
  | 0, _, _, _, _, _, _, _, _, _ => none
  | n + 1, 0, y1818, y1819, y1820, y1821, y1822, _, _, w =>
    if 4 ≤ y1822 then
      some (y1820, w)
    else
      Gf_nextToTry_0 n 1 y1818 y1819 y1820 y1821 y1822 0 1 w
  | n + 1, 1, y1823, y1824, y1825, y1826, y1827, y1828, y1829, w =>
    if 99 < y1829 then
      if y1826 ≤ (if y1828 < (y1824 - y1828) then (y1824 - y1828) else y1828) then
        Gf_nextToTry_0 n 0 y1823 y1824 y1825 y1826 (y1827 + 1) 0 0 w
      else
        Gf_nextToTry_0 n 0 y1823 y1824 y1827 (if y1828 < (y1824 - y1828) then (y1824 - y1828) else y1828) (y1827 + 1) 0 0 w
    else
      ai_bd (Fsea_fitsDrops_1 n y1823 y1829 w) fun c1839 =>
      if c1839.1 = 0 then
        Gf_nextToTry_0 n 1 y1823 y1824 y1825 y1826 y1827 y1828 (y1829 + 1) c1839.2
      else
        ai_bd (ai_ix (a_s1_densities c1839.2) y1827) fun v1840 =>
        if (y1823 * v1840) < y1829 then
          Gf_nextToTry_0 n 1 y1823 y1824 y1825 y1826 y1827 y1828 (y1829 + 1) c1839.2
        else
          Gf_nextToTry_0 n 1 y1823 y1824 y1825 y1826 y1827 (y1828 + 1) (y1829 + 1) c1839.2
  | _ + 1, _ + 2, _, _, _, _, _, _, _, _ => none
def Ff_nextToTry_0 (n : Nat) (x1816 : Int32) (x1817 : Int32) (w : WX) : Option (Int32 × WX) :=
  Gf_nextToTry_0 n 0 x1816 x1817 (-1) (x1817 + 1) 0 0 0 w
def Gf_known_0 : Nat → Nat → Int32 → Int32 → Int32 → Int32 → WX → Option (Int32 × WX)
  | 0, _, _, _, _, _, _ => none
  | n + 1, 0, y1812, y1813, y1814, y1815, w =>
    if 99 < y1815 then
      if y1813 = 0 then
        some (y1814, w)
      else
        if y1814 = 0 then
          some ((-1), w)
        else
          ai_bd (Ff_nextToTry_0 n y1812 y1814 w) fun c1841 =>
          some (c1841.1, c1841.2)
    else
      ai_bd (Fsea_fitsDrops_1 n y1812 y1815 w) fun c1842 =>
      if c1842.1 = 0 then
        Gf_known_0 n 0 y1812 y1813 y1814 (y1815 + 1) c1842.2
      else
        Gf_known_0 n 0 y1812 y1813 (y1814 + 1) (y1815 + 1) c1842.2
  | _ + 1, _ + 1, _, _, _, _, _ => none
def Ff_known_0 (n : Nat) (x1806 : Int32) (x1807 : Int32) (w : WX) : Option (Int32 × WX) :=
  ai_bd (Ff_within x1806 1 9) fun c1808 =>
  if c1808 = 0 then
    ai_bd (Ff_bad_0 (-10) w) fun c1809 =>
    some (c1809.1, c1809.2)
  else
    ai_bd (Ff_within x1807 0 1) fun c1810 =>
    if c1810 = 0 then
      ai_bd (Ff_bad_0 (-10) w) fun c1811 =>
      some (c1811.1, c1811.2)
    else
      Gf_known_0 n 0 x1806 x1807 0 1 w
def Gf_putFraction_0 : Nat → Nat → Int32 → Int64 → Int64 → Int64 → Int64 → WX → Option (WX)
  | 0, _, _, _, _, _, _, _ => none
  | n + 1, 0, y1878, y1874, y1875, y1876, y1877, w =>
    if 1000 ≤ y1878 then
      if (lg_cmp y1876 0) = 0 then
        some ((u_f_below (u_f_above w (y1874 / 1)) (y1875 / 1)))
      else
        if y1876 = 0 then none else
          if y1876 = 0 then none else
            some ((u_f_below (u_f_above w (y1874 / y1876)) (y1875 / y1876)))
    else
      if (lg_cmp y1877 0) = 0 then
        if (lg_cmp y1876 0) = 0 then
          some ((u_f_below (u_f_above w (y1874 / 1)) (y1875 / 1)))
        else
          if y1876 = 0 then none else
            if y1876 = 0 then none else
              some ((u_f_below (u_f_above w (y1874 / y1876)) (y1875 / y1876)))
      else
        if y1877 = 0 then none else
          Gf_putFraction_0 n 0 (y1878 + 1) y1874 y1875 y1877 (y1876 - y1876 / y1877 * y1877) w
  | _ + 1, _ + 1, _, _, _, _, _, _ => none
def Ff_putFraction_0 (n : Nat) (x1872 : Int64) (x1873 : Int64) (w : WX) : Option (WX) :=
  Gf_putFraction_0 n 0 0 x1872 x1873 x1873 x1872 w
def Gf_chanceOf : Nat → Nat → Int32 → Int32 → Int64 → Int64 → Int64 → Option (Int64)
  | 0, _, _, _, _, _, _ => none
  | n + 1, 0, y1884, y1888, y1885, y1886, y1887 =>
    if 3 ≤ y1888 then
      some (y1887)
    else
      if ((y1884 >>> (y1888 &&& 31)) &&& 1) = 1 then
        Gf_chanceOf n 0 y1884 (y1888 + 1) y1885 y1886 (y1887 * (y1885 - y1886))
      else
        Gf_chanceOf n 0 y1884 (y1888 + 1) y1885 y1886 (y1887 * y1886)
  | _ + 1, _ + 1, _, _, _, _, _ => none
def Ff_chanceOf (n : Nat) (x1881 : Int32) (x1882 : Int64) (x1883 : Int64) : Option (Int64) :=
  Gf_chanceOf n 0 x1881 0 x1882 x1883 1
def Gf_storm_0 : Nat → Nat → Int32 → Int32 → Int32 → Int32 → Int32 → Int32 → Int64 → Int64 → Int64 → WX → Option (Int32 × WX)
  | 0, _, _, _, _, _, _, _, _, _, _, _ => none
  | n + 1, 0, y1855, y1856, y1857, y1858, y1861, _, y1859, y1860, _, w =>
    if y1857 ≤ y1861 then
      ai_bd (Ff_letGoNow_0 n y1855 y1856 0 w) fun c1862 =>
      Gf_storm_0 n 1 y1855 y1856 y1857 y1858 (a_fall_layer c1862) 0 y1859 y1860 0 c1862
    else
      Gf_storm_0 n 0 y1855 y1856 y1857 y1858 (y1861 + 1) 0 (y1859 * 10) (y1860 * ((10 - y1858)).toInt64) 0 w
  | n + 1, 1, y1863, y1864, y1865, y1866, y1869, y1871, y1867, y1868, y1870, w =>
    if 8 ≤ y1871 then
      ai_bd (Ff_putFraction_0 n y1870 ((y1867 * y1867) * y1867) w) fun c1879 =>
      some (1, c1879)
    else
      ai_bd (Ff_letGoNow_0 n y1863 y1864 y1871 w) fun c1880 =>
      if (a_fall_layer c1880) ≤ y1869 then
        Gf_storm_0 n 1 y1863 y1864 y1865 y1866 y1869 (y1871 + 1) y1867 y1868 y1870 c1880
      else
        ai_bd (Ff_chanceOf n y1871 y1867 y1868) fun c1889 =>
        Gf_storm_0 n 1 y1863 y1864 y1865 y1866 y1869 (y1871 + 1) y1867 y1868 (y1870 + c1889) c1880
  | _ + 1, _ + 2, _, _, _, _, _, _, _, _, _, _ => none
def Ff_storm_0 (n : Nat) (x1843 : Int32) (x1844 : Int32) (x1845 : Int32) (x1846 : Int32) (w : WX) : Option (Int32 × WX) :=
  ai_bd (Fthg_has_7 x1843 w) fun c1847 =>
  if c1847.1 = 0 then
    ai_bd (Ff_bad_0 (-2) c1847.2) fun c1848 =>
    some (c1848.1, c1848.2)
  else
    ai_bd (Fsea_hasCell_1 x1844 c1847.2) fun c1849 =>
    if c1849.1 = 0 then
      ai_bd (Ff_bad_0 (-2) c1849.2) fun c1850 =>
      some (c1850.1, c1850.2)
    else
      ai_bd (Ff_within x1845 0 5) fun c1851 =>
      if c1851 = 0 then
        ai_bd (Ff_bad_0 (-2) c1849.2) fun c1852 =>
        some (c1852.1, c1852.2)
      else
        ai_bd (Ff_within x1846 0 10) fun c1853 =>
        if c1853 = 0 then
          ai_bd (Ff_bad_0 (-2) c1849.2) fun c1854 =>
          some (c1854.1, c1854.2)
        else
          Gf_storm_0 n 0 x1843 x1844 x1845 x1846 0 0 1 1 0 c1849.2
def Ff_part_0 (x1890 : Int32) (w : WX) : Option (Int64 × WX) :=
  ai_bd (Ff_within x1890 0 1) fun c1891 =>
  if c1891 = 0 then
    ai_bd (Ff_bad_0 (-2) w) fun c1892 =>
    some ((c1892.1).toInt64, c1892.2)
  else
    if x1890 = 0 then
      some ((a_f_above w), w)
    else
      some ((a_f_below w), w)
def Fthg_copyFrom_45_7 (w : WX) : Option (WX) :=
  ai_bd (ai_cpy (a_s1things_kinds w) (a_s3things_kinds w) 0 0 6) fun q1900 =>
  ai_bd (ai_cpy (a_s1things_weights w) (a_s3things_weights w) 0 0 6) fun q1901 =>
  ai_bd (ai_cpy (a_s1things_volumes w) (a_s3things_volumes w) 0 0 6) fun q1902 =>
  ai_bd (ai_cpy (a_s1things_ballasts w) (a_s3things_ballasts w) 0 0 6) fun q1903 =>
  some ((u_s3things_ballasts (u_s3things_volumes (u_s3things_weights (u_s3things_kinds (u_s3things_count w (a_s1things_count w)) q1900) q1901) q1902) q1903))
def Flift_copyFrom_50_12 (w : WX) : Option (WX) :=
  ai_bd (ai_cpy (a_s1lifts_froms w) (a_s3lifts_froms w) 0 0 10) fun q1905 =>
  ai_bd (ai_cpy (a_s1lifts_tos w) (a_s3lifts_tos w) 0 0 10) fun q1906 =>
  ai_bd (ai_cpy (a_s1lifts_times w) (a_s3lifts_times w) 0 0 10) fun q1907 =>
  some ((u_s3lifts_times (u_s3lifts_tos (u_s3lifts_froms (u_s3lifts_count w (a_s1lifts_count w)) q1905) q1906) q1907))
def Fsea_copyFrom_39_1 (w : WX) : Option (WX) :=
  ai_bd (ai_cpy (a_s1_densities w) (a_s3_densities w) 0 0 4) fun q1895 =>
  ai_bd (ai_cpy (a_s1_currents w) (a_s3_currents w) 0 0 4) fun q1896 =>
  ai_bd (ai_cpy (a_s1_tides w) (a_s3_tides w) 0 0 24) fun q1897 =>
  ai_bd (ai_cpy (a_s1_thicks w) (a_s3_thicks w) 0 0 24) fun q1898 =>
  ai_bd (ai_cpy (a_s1_skins w) (a_s3_skins w) 0 0 3) fun q1899 =>
  ai_bd (Fthg_copyFrom_45_7 (u_s3_skins (u_s3_thicks (u_s3_tides (u_s3_currents (u_s3_densities (u_s3_dams (u_s3_hour (u_s3_cells w (a_s1_cells w)) (a_s1_hour w)) (a_s1_dams w)) q1895) q1896) q1897) q1898) q1899)) fun c1904 =>
  ai_bd (Flift_copyFrom_50_12 c1904) fun c1908 =>
  ai_bd (ai_cpy (a_s1_townPlaces c1908) (a_s3_townPlaces c1908) 0 0 6) fun q1909 =>
  ai_bd (ai_cpy (a_s1_dropLayers c1908) (a_s3_dropLayers c1908) 0 0 6) fun q1910 =>
  ai_bd (ai_cpy (a_s1_dropFloats c1908) (a_s3_dropFloats c1908) 0 0 6) fun q1911 =>
  ai_bd (ai_cpy (a_s1_hoursBefore c1908) (a_s3_hoursBefore c1908) 0 0 10) fun q1912 =>
  some ((u_s3_hoursBefore (u_s3_undos (u_s3_dropFloats (u_s3_dropLayers (u_s3_drops (u_s3_townPlaces (u_s3_towns c1908 (a_s1_towns c1908)) q1909) (a_s1_drops c1908)) q1910) q1911) (a_s1_undos c1908)) q1912))
def Fthg_copyFrom_64_7 (w : WX) : Option (WX) :=
  ai_bd (ai_cpy (a_s1things_kinds w) (a_s4things_kinds w) 0 0 6) fun q1920 =>
  ai_bd (ai_cpy (a_s1things_weights w) (a_s4things_weights w) 0 0 6) fun q1921 =>
  ai_bd (ai_cpy (a_s1things_volumes w) (a_s4things_volumes w) 0 0 6) fun q1922 =>
  ai_bd (ai_cpy (a_s1things_ballasts w) (a_s4things_ballasts w) 0 0 6) fun q1923 =>
  some ((u_s4things_ballasts (u_s4things_volumes (u_s4things_weights (u_s4things_kinds (u_s4things_count w (a_s1things_count w)) q1920) q1921) q1922) q1923))
def Flift_copyFrom_69_12 (w : WX) : Option (WX) :=
  ai_bd (ai_cpy (a_s1lifts_froms w) (a_s4lifts_froms w) 0 0 10) fun q1925 =>
  ai_bd (ai_cpy (a_s1lifts_tos w) (a_s4lifts_tos w) 0 0 10) fun q1926 =>
  ai_bd (ai_cpy (a_s1lifts_times w) (a_s4lifts_times w) 0 0 10) fun q1927 =>
  some ((u_s4lifts_times (u_s4lifts_tos (u_s4lifts_froms (u_s4lifts_count w (a_s1lifts_count w)) q1925) q1926) q1927))
def Fsea_copyFrom_58_1 (w : WX) : Option (WX) :=
  ai_bd (ai_cpy (a_s1_densities w) (a_s4_densities w) 0 0 4) fun q1915 =>
  ai_bd (ai_cpy (a_s1_currents w) (a_s4_currents w) 0 0 4) fun q1916 =>
  ai_bd (ai_cpy (a_s1_tides w) (a_s4_tides w) 0 0 24) fun q1917 =>
  ai_bd (ai_cpy (a_s1_thicks w) (a_s4_thicks w) 0 0 24) fun q1918 =>
  ai_bd (ai_cpy (a_s1_skins w) (a_s4_skins w) 0 0 3) fun q1919 =>
  ai_bd (Fthg_copyFrom_64_7 (u_s4_skins (u_s4_thicks (u_s4_tides (u_s4_currents (u_s4_densities (u_s4_dams (u_s4_hour (u_s4_cells w (a_s1_cells w)) (a_s1_hour w)) (a_s1_dams w)) q1915) q1916) q1917) q1918) q1919)) fun c1924 =>
  ai_bd (Flift_copyFrom_69_12 c1924) fun c1928 =>
  ai_bd (ai_cpy (a_s1_townPlaces c1928) (a_s4_townPlaces c1928) 0 0 6) fun q1929 =>
  ai_bd (ai_cpy (a_s1_dropLayers c1928) (a_s4_dropLayers c1928) 0 0 6) fun q1930 =>
  ai_bd (ai_cpy (a_s1_dropFloats c1928) (a_s4_dropFloats c1928) 0 0 6) fun q1931 =>
  ai_bd (ai_cpy (a_s1_hoursBefore c1928) (a_s4_hoursBefore c1928) 0 0 10) fun q1932 =>
  some ((u_s4_hoursBefore (u_s4_undos (u_s4_dropFloats (u_s4_dropLayers (u_s4_drops (u_s4_townPlaces (u_s4_towns c1928 (a_s1_towns c1928)) q1929) (a_s1_drops c1928)) q1930) q1931) (a_s1_undos c1928)) q1932))
def Ff_image_0 (x1893 : Int32) (w : WX) : Option (Int32 × WX) :=
  ai_bd (Ff_within x1893 0 1) fun c1894 =>
  if c1894 = 0 then
    ai_bd (Ff_bad_0 (-2) w) fun c1935 =>
    some (c1935.1, c1935.2)
  else
    if x1893 = 0 then
      ai_bd (Fsea_copyFrom_39_1 w) fun c1913 =>
      ai_bd (ai_up (a_f_imageKept c1913) x1893 (vp_nar .boolean 1)) fun q1914 =>
      some (1, (u_f_imageKept c1913 q1914))
    else
      ai_bd (Fsea_copyFrom_58_1 w) fun c1933 =>
      ai_bd (ai_up (a_f_imageKept c1933) x1893 (vp_nar .boolean 1)) fun q1934 =>
      some (1, (u_f_imageKept c1933 q1934))
def Fthg_copyFrom_7_45 (w : WX) : Option (WX) :=
  ai_bd (ai_cpy (a_s3things_kinds w) (a_s1things_kinds w) 0 0 6) fun q1944 =>
  ai_bd (ai_cpy (a_s3things_weights w) (a_s1things_weights w) 0 0 6) fun q1945 =>
  ai_bd (ai_cpy (a_s3things_volumes w) (a_s1things_volumes w) 0 0 6) fun q1946 =>
  ai_bd (ai_cpy (a_s3things_ballasts w) (a_s1things_ballasts w) 0 0 6) fun q1947 =>
  some ((u_s1things_ballasts (u_s1things_volumes (u_s1things_weights (u_s1things_kinds (u_s1things_count w (a_s3things_count w)) q1944) q1945) q1946) q1947))
def Flift_copyFrom_12_50 (w : WX) : Option (WX) :=
  ai_bd (ai_cpy (a_s3lifts_froms w) (a_s1lifts_froms w) 0 0 10) fun q1949 =>
  ai_bd (ai_cpy (a_s3lifts_tos w) (a_s1lifts_tos w) 0 0 10) fun q1950 =>
  ai_bd (ai_cpy (a_s3lifts_times w) (a_s1lifts_times w) 0 0 10) fun q1951 =>
  some ((u_s1lifts_times (u_s1lifts_tos (u_s1lifts_froms (u_s1lifts_count w (a_s3lifts_count w)) q1949) q1950) q1951))
def Fsea_copyFrom_1_39 (w : WX) : Option (WX) :=
  ai_bd (ai_cpy (a_s3_densities w) (a_s1_densities w) 0 0 4) fun q1939 =>
  ai_bd (ai_cpy (a_s3_currents w) (a_s1_currents w) 0 0 4) fun q1940 =>
  ai_bd (ai_cpy (a_s3_tides w) (a_s1_tides w) 0 0 24) fun q1941 =>
  ai_bd (ai_cpy (a_s3_thicks w) (a_s1_thicks w) 0 0 24) fun q1942 =>
  ai_bd (ai_cpy (a_s3_skins w) (a_s1_skins w) 0 0 3) fun q1943 =>
  ai_bd (Fthg_copyFrom_7_45 (u_s1_skins (u_s1_thicks (u_s1_tides (u_s1_currents (u_s1_densities (u_s1_dams (u_s1_hour (u_s1_cells w (a_s3_cells w)) (a_s3_hour w)) (a_s3_dams w)) q1939) q1940) q1941) q1942) q1943)) fun c1948 =>
  ai_bd (Flift_copyFrom_12_50 c1948) fun c1952 =>
  ai_bd (ai_cpy (a_s3_townPlaces c1952) (a_s1_townPlaces c1952) 0 0 6) fun q1953 =>
  ai_bd (ai_cpy (a_s3_dropLayers c1952) (a_s1_dropLayers c1952) 0 0 6) fun q1954 =>
  ai_bd (ai_cpy (a_s3_dropFloats c1952) (a_s1_dropFloats c1952) 0 0 6) fun q1955 =>
  ai_bd (ai_cpy (a_s3_hoursBefore c1952) (a_s1_hoursBefore c1952) 0 0 10) fun q1956 =>
  some ((u_s1_hoursBefore (u_s1_undos (u_s1_dropFloats (u_s1_dropLayers (u_s1_drops (u_s1_townPlaces (u_s1_towns c1952 (a_s3_towns c1952)) q1953) (a_s3_drops c1952)) q1954) q1955) (a_s3_undos c1952)) q1956))
def Fthg_copyFrom_7_64 (w : WX) : Option (WX) :=
  ai_bd (ai_cpy (a_s4things_kinds w) (a_s1things_kinds w) 0 0 6) fun q1963 =>
  ai_bd (ai_cpy (a_s4things_weights w) (a_s1things_weights w) 0 0 6) fun q1964 =>
  ai_bd (ai_cpy (a_s4things_volumes w) (a_s1things_volumes w) 0 0 6) fun q1965 =>
  ai_bd (ai_cpy (a_s4things_ballasts w) (a_s1things_ballasts w) 0 0 6) fun q1966 =>
  some ((u_s1things_ballasts (u_s1things_volumes (u_s1things_weights (u_s1things_kinds (u_s1things_count w (a_s4things_count w)) q1963) q1964) q1965) q1966))
def Flift_copyFrom_12_69 (w : WX) : Option (WX) :=
  ai_bd (ai_cpy (a_s4lifts_froms w) (a_s1lifts_froms w) 0 0 10) fun q1968 =>
  ai_bd (ai_cpy (a_s4lifts_tos w) (a_s1lifts_tos w) 0 0 10) fun q1969 =>
  ai_bd (ai_cpy (a_s4lifts_times w) (a_s1lifts_times w) 0 0 10) fun q1970 =>
  some ((u_s1lifts_times (u_s1lifts_tos (u_s1lifts_froms (u_s1lifts_count w (a_s4lifts_count w)) q1968) q1969) q1970))
def Fsea_copyFrom_1_58 (w : WX) : Option (WX) :=
  ai_bd (ai_cpy (a_s4_densities w) (a_s1_densities w) 0 0 4) fun q1958 =>
  ai_bd (ai_cpy (a_s4_currents w) (a_s1_currents w) 0 0 4) fun q1959 =>
  ai_bd (ai_cpy (a_s4_tides w) (a_s1_tides w) 0 0 24) fun q1960 =>
  ai_bd (ai_cpy (a_s4_thicks w) (a_s1_thicks w) 0 0 24) fun q1961 =>
  ai_bd (ai_cpy (a_s4_skins w) (a_s1_skins w) 0 0 3) fun q1962 =>
  ai_bd (Fthg_copyFrom_7_64 (u_s1_skins (u_s1_thicks (u_s1_tides (u_s1_currents (u_s1_densities (u_s1_dams (u_s1_hour (u_s1_cells w (a_s4_cells w)) (a_s4_hour w)) (a_s4_dams w)) q1958) q1959) q1960) q1961) q1962)) fun c1967 =>
  ai_bd (Flift_copyFrom_12_69 c1967) fun c1971 =>
  ai_bd (ai_cpy (a_s4_townPlaces c1971) (a_s1_townPlaces c1971) 0 0 6) fun q1972 =>
  ai_bd (ai_cpy (a_s4_dropLayers c1971) (a_s1_dropLayers c1971) 0 0 6) fun q1973 =>
  ai_bd (ai_cpy (a_s4_dropFloats c1971) (a_s1_dropFloats c1971) 0 0 6) fun q1974 =>
  ai_bd (ai_cpy (a_s4_hoursBefore c1971) (a_s1_hoursBefore c1971) 0 0 10) fun q1975 =>
  some ((u_s1_hoursBefore (u_s1_undos (u_s1_dropFloats (u_s1_dropLayers (u_s1_drops (u_s1_townPlaces (u_s1_towns c1971 (a_s4_towns c1971)) q1972) (a_s4_drops c1971)) q1973) q1974) (a_s4_undos c1971)) q1975))
def Ff_from_0 (x1936 : Int32) (w : WX) : Option (Int32 × WX) :=
  ai_bd (Ff_within x1936 0 1) fun c1937 =>
  if c1937 = 0 then
    ai_bd (Ff_bad_0 (-2) w) fun c1978 =>
    some (c1978.1, c1978.2)
  else
    ai_bd (ai_ix (a_f_imageKept w) x1936) fun v1938 =>
    if v1938 = 0 then
      ai_bd (Ff_counted_0 (-3) w) fun c1977 =>
      some (c1977.1, c1977.2)
    else
      if x1936 = 0 then
        ai_bd (Fsea_copyFrom_1_39 w) fun c1957 =>
        some (1, c1957)
      else
        ai_bd (Fsea_copyFrom_1_58 w) fun c1976 =>
        some (1, c1976)
def Ff_status_0 (x1979 : Int32) (w : WX) : Option (Int32 × WX) :=
  if x1979 = 0 then
    some ((a_f_refusedBad w), w)
  else
  if x1979 = 1 then
    some ((a_f_refusedNo w), w)
  else
  if x1979 = 2 then
    some ((a_f_refusedFull w), w)
  else
    ai_bd (Ff_bad_0 (-1) w) fun c1980 =>
    some (c1980.1, c1980.2)
def Fsea_countOf_1 (x1983 : Int32) (w : WX) : Option (Int32 × WX) :=
  if x1983 = 0 then
    some ((a_s1_cells w), w)
  else
  if x1983 = 1 then
    some ((a_s1_hour w), w)
  else
  if x1983 = 2 then
    some ((a_s1things_count w), w)
  else
  if x1983 = 3 then
    some ((a_s1lifts_count w), w)
  else
  if x1983 = 4 then
    some ((a_s1_towns w), w)
  else
  if x1983 = 5 then
    some ((a_s1_dams w), w)
  else
  if x1983 = 6 then
    some ((a_s1_drops w), w)
  else
    some ((a_s1_undos w), w)
def Ff_count_0 (x1981 : Int32) (w : WX) : Option (Int32 × WX) :=
  ai_bd (Ff_within x1981 0 8) fun c1982 =>
  if c1982 = 0 then
    ai_bd (Ff_bad_0 (-2) w) fun c1985 =>
    some (c1985.1, c1985.2)
  else
    if x1981 = 8 then
      some ((a_text_length w), w)
    else
      ai_bd (Fsea_countOf_1 x1981 w) fun c1984 =>
      some (c1984.1, c1984.2)
def Gsea_digestWaters_1 : Nat → Nat → Int32 → Int32 → Int64 → Int64 → WX → Option (Int64 × WX)
  | 0, _, _, _, _, _, _ => none
  | n + 1, 0, y1991, _, y1989, y1990, w =>
    if 4 ≤ y1991 then
      Gsea_digestWaters_1 n 3 0 0 y1989 y1990 w
    else
      ai_bd (ai_ix (a_s1_densities w) y1991) fun v1992 =>
      ai_bd (ai_ix (a_s1_currents w) y1991) fun v1993 =>
      Gsea_digestWaters_1 n 1 y1991 0 y1989 ((31 * ((31 * y1990) + (v1992).toInt64)) + (v1993).toInt64) w
  | n + 1, 1, y2000, y2001, y1998, y1999, w =>
    if 6 ≤ y2001 then
      Gsea_digestWaters_1 n 2 y2000 0 y1998 y1999 w
    else
      ai_bd (ai_ix (a_s1_tides w) ((y2000 * 6) + y2001)) fun v2002 =>
      Gsea_digestWaters_1 n 1 y2000 (y2001 + 1) y1998 ((31 * y1999) + (v2002).toInt64) w
  | n + 1, 2, y2005, y2006, y2003, y2004, w =>
    if (a_s1_cells w) ≤ y2006 then
      Gsea_digestWaters_1 n 0 (y2005 + 1) 0 y2003 y2004 w
    else
      ai_bd (ai_ix (a_s1_thicks w) ((y2005 * 6) + y2006)) fun v2007 =>
      Gsea_digestWaters_1 n 2 y2005 (y2006 + 1) y2003 ((31 * y2004) + (v2007).toInt64) w
  | n + 1, 3, y1996, _, y1994, y1995, w =>
    if 3 ≤ y1996 then
      some (y1995, w)
    else
      ai_bd (ai_ix (a_s1_skins w) y1996) fun v1997 =>
      Gsea_digestWaters_1 n 3 (y1996 + 1) 0 y1994 ((31 * y1995) + (v1997).toInt64) w
  | _ + 1, _ + 4, _, _, _, _, _ => none
def Fsea_digestWaters_1 (n : Nat) (x1988 : Int64) (w : WX) : Option (Int64 × WX) :=
  Gsea_digestWaters_1 n 0 0 0 x1988 x1988 w
def Gsea_digestRows_1 : Nat → Nat → Int32 → Int64 → Int64 → WX → Option (Int64 × WX)
  | 0, _, _, _, _, _ => none
  | n + 1, 0, y2012, y2010, y2011, w =>
    if (a_s1things_count w) ≤ y2012 then
      Gsea_digestRows_1 n 1 0 y2010 y2011 w
    else
      ai_bd (ai_ix (a_s1things_kinds w) y2012) fun v2013 =>
      ai_bd (ai_ix (a_s1things_weights w) y2012) fun v2014 =>
      ai_bd (ai_ix (a_s1things_volumes w) y2012) fun v2015 =>
      ai_bd (ai_ix (a_s1things_ballasts w) y2012) fun v2016 =>
      Gsea_digestRows_1 n 0 (y2012 + 1) y2010 ((31 * ((31 * ((31 * ((31 * y2011) + (v2013).toInt64)) + (v2014).toInt64)) + (v2015).toInt64)) + (v2016).toInt64) w
  | n + 1, 1, y2019, y2017, y2018, w =>
    if (a_s1lifts_count w) ≤ y2019 then
      Gsea_digestRows_1 n 2 0 y2017 y2018 w
    else
      ai_bd (ai_ix (a_s1lifts_froms w) y2019) fun v2020 =>
      ai_bd (ai_ix (a_s1lifts_tos w) y2019) fun v2021 =>
      ai_bd (ai_ix (a_s1lifts_times w) y2019) fun v2022 =>
      Gsea_digestRows_1 n 1 (y2019 + 1) y2017 ((31 * ((31 * ((31 * y2018) + (v2020).toInt64)) + (v2021).toInt64)) + (v2022).toInt64) w
  | n + 1, 2, y2025, y2023, y2024, w =>
    if (a_s1_towns w) ≤ y2025 then
      Gsea_digestRows_1 n 3 0 y2023 y2024 w
    else
      ai_bd (ai_ix (a_s1_townPlaces w) y2025) fun v2026 =>
      Gsea_digestRows_1 n 2 (y2025 + 1) y2023 ((31 * y2024) + (v2026).toInt64) w
  | n + 1, 3, y2029, y2027, y2028, w =>
    if (a_s1_drops w) ≤ y2029 then
      some (y2028, w)
    else
      ai_bd (ai_ix (a_s1_dropLayers w) y2029) fun v2030 =>
      ai_bd (ai_ix (a_s1_dropFloats w) y2029) fun v2031 =>
      Gsea_digestRows_1 n 3 (y2029 + 1) y2027 ((31 * ((31 * y2028) + (v2030).toInt64)) + (v2031).toInt64) w
  | _ + 1, _ + 4, _, _, _, _ => none
def Fsea_digestRows_1 (n : Nat) (x2009 : Int64) (w : WX) : Option (Int64 × WX) :=
  Gsea_digestRows_1 n 0 0 x2009 x2009 w
def Gf_digest_0 : Nat → Nat → Int32 → Int64 → WX → Option (Int64 × WX)
  | 0, _, _, _, _ => none
  | n + 1, 0, y1987, y1986, w =>
    if 8 ≤ y1987 then
      ai_bd (Fsea_digestWaters_1 n ((31 * y1986) + ((a_text_length w)).toInt64) w) fun c2008 =>
      ai_bd (Fsea_digestRows_1 n c2008.1 c2008.2) fun c2032 =>
      some (((31 * ((31 * c2032.1) + (a_f_above c2032.2))) + (a_f_below c2032.2)), c2032.2)
    else
      ai_bd (Fsea_countOf_1 y1987 w) fun c2033 =>
      Gf_digest_0 n 0 (y1987 + 1) ((31 * y1986) + (c2033.1).toInt64) c2033.2
  | _ + 1, _ + 1, _, _, _ => none
def Ff_digest_0 (n : Nat) (w : WX) : Option (Int64 × WX) :=
  Gf_digest_0 n 0 0 887 w
