/-! the methods as functions, written by a program of the verifier -/
def Fm_in (x4 : Int64) (x5 : Int64) (x6 : Int64) : Option (Int32) :=
  if (lg_cmp x4 x5) < 0 then
    some (0)
  else
    if 0 < (lg_cmp x4 x6) then
      some (0)
    else
      some (1)
def Gm_begins_89 : Nat → Nat → Int32 → Int32 → Int32 → WM → Option (WM)
  | 0, _, _, _, _, _ => none
  | n + 1, 0, y11, y12, y13, w =>
    if 149 ≤ y13 then
      ai_bd (ai_up (a_m_w w) (y11 + 0) y12) fun q14 =>
      ai_bd (ai_up q14 (y11 + 8) 10) fun q15 =>
      ai_bd (ai_up q15 ((y11 + 8) + 1) 13) fun q16 =>
      ai_bd (ai_up q16 ((y11 + 8) + 2) 16) fun q17 =>
      ai_bd (ai_up q17 ((y11 + 8) + 3) 20) fun q18 =>
      Gm_begins_89 n 1 y11 y12 0 (u_m_w (u_m_w (u_m_w (u_m_w (u_m_w w q14) q15) q16) q17) q18)
    else
      ai_bd (ai_up (a_m_w w) (y11 + y13) 0) fun q19 =>
      Gm_begins_89 n 0 y11 y12 (y13 + 1) (u_m_w w q19)
  | n + 1, 1, y20, y21, y22, w =>
    if 24 ≤ y22 then
      some (w)
    else
      ai_bd (ai_up (a_m_w w) ((y20 + 40) + y22) 3) fun q23 =>
      Gm_begins_89 n 1 y20 y21 (y22 + 1) (u_m_w w q23)
  | _ + 1, _ + 2, _, _, _, _ => none
def Fm_begins_89 (n : Nat) (x9 : Int32) (x10 : Int32) (w : WM) : Option (WM) :=
  Gm_begins_89 n 0 x9 x10 0 w
def Fm_seaTo_89 (n : Nat) (x2 : Int32) (x3 : Int32) (w : WM) : Option (Int32 × WM) :=
  ai_bd (Fm_in (x3).toInt64 1 6) fun c7 =>
  if c7 = 0 then
    some ((-2), w)
  else
    ai_bd (ai_ix (a_m_w w) (x2 + 0)) fun v8 =>
    ai_bd (Fm_begins_89 n x2 x3 w) fun c24 =>
    some (v8, c24)
def Fm_met_89 (x26 : Int32) (w : WM) : Option (Int32 × WM) :=
  if x26 = (-2) then
    ai_bd (ai_ix (a_m_refused w) ((-2) - x26)) fun v27 =>
    ai_bd (ai_up (a_m_refused w) ((-2) - x26) (v27 + 1)) fun q28 =>
    some (x26, (u_m_refused w q28))
  else
    if x26 = (-3) then
      ai_bd (ai_ix (a_m_refused w) ((-2) - x26)) fun v29 =>
      ai_bd (ai_up (a_m_refused w) ((-2) - x26) (v29 + 1)) fun q30 =>
      some (x26, (u_m_refused w q30))
    else
      if x26 = (-4) then
        ai_bd (ai_ix (a_m_refused w) ((-2) - x26)) fun v31 =>
        ai_bd (ai_up (a_m_refused w) ((-2) - x26) (v31 + 1)) fun q32 =>
        some (x26, (u_m_refused w q32))
      else
        some (x26, w)
def Fm_sea_89 (n : Nat) (x1 : Int32) (w : WM) : Option (Int32 × WM) :=
  ai_bd (Fm_seaTo_89 n 0 x1 w) fun c25 =>
  ai_bd (Fm_met_89 c25.1 c25.2) fun c33 =>
  some (c33.1, c33.2)
def Fm_isLayer (x39 : Int32) : Option (Int32) :=
  ai_bd (Fm_in (x39).toInt64 0 3) fun c40 =>
  if c40 = 0 ∨ c40 = 1 then some (c40) else none
def Fm_becomes_89 (x43 : Int32) (x44 : Int32) (w : WM) : Option (Int32 × WM) :=
  ai_bd (ai_ix (a_m_w w) x43) fun v45 =>
  ai_bd (ai_up (a_m_w w) x43 x44) fun q46 =>
  some (v45, (u_m_w w q46))
def Fm_waterTo_89 (x36 : Int32) (x37 : Int32) (x38 : Int32) (w : WM) : Option (Int32 × WM) :=
  ai_bd (Fm_isLayer x37) fun c41 =>
  if c41 = 0 then
    some ((-2), w)
  else
    ai_bd (Fm_in (x38).toInt64 1 99) fun c42 =>
    if c42 = 0 then
      some ((-2), w)
    else
      if x37 = 0 then
        if x37 = 3 then
          ai_bd (Fm_becomes_89 ((x36 + 8) + x37) x38 w) fun c47 =>
          some (c47.1, c47.2)
        else
          ai_bd (ai_ix (a_m_w w) (((x36 + 8) + x37) + 1)) fun v48 =>
          if v48 ≤ x38 then
            some ((-3), w)
          else
            ai_bd (Fm_becomes_89 ((x36 + 8) + x37) x38 w) fun c49 =>
            some (c49.1, c49.2)
      else
        ai_bd (ai_ix (a_m_w w) (((x36 + 8) + x37) - 1)) fun v50 =>
        if x38 ≤ v50 then
          some ((-3), w)
        else
          if x37 = 3 then
            ai_bd (Fm_becomes_89 ((x36 + 8) + x37) x38 w) fun c51 =>
            some (c51.1, c51.2)
          else
            ai_bd (ai_ix (a_m_w w) (((x36 + 8) + x37) + 1)) fun v52 =>
            if v52 ≤ x38 then
              some ((-3), w)
            else
              ai_bd (Fm_becomes_89 ((x36 + 8) + x37) x38 w) fun c53 =>
              some (c53.1, c53.2)
def Fm_water_89 (x34 : Int32) (x35 : Int32) (w : WM) : Option (Int32 × WM) :=
  ai_bd (Fm_waterTo_89 0 x34 x35 w) fun c54 =>
  ai_bd (Fm_met_89 c54.1 c54.2) fun c55 =>
  some (c55.1, c55.2)
def Fm_isCellOf_89 (x64 : Int32) (x65 : Int32) (w : WM) : Option (Int32 × WM) :=
  ai_bd (ai_ix (a_m_w w) (x64 + 0)) fun v66 =>
  ai_bd (Fm_in (x65).toInt64 0 ((v66 - 1)).toInt64) fun c67 =>
  if c67 = 0 ∨ c67 = 1 then some (c67, w) else none
def Fm_thickTo_89 (x59 : Int32) (x60 : Int32) (x61 : Int32) (x62 : Int32) (w : WM) : Option (Int32 × WM) :=
  ai_bd (Fm_isLayer x60) fun c63 =>
  if c63 = 0 then
    some ((-2), w)
  else
    ai_bd (Fm_isCellOf_89 x59 x61 w) fun c68 =>
    if c68.1 = 0 then
      some ((-2), c68.2)
    else
      ai_bd (Fm_in (x62).toInt64 0 9) fun c69 =>
      if c69 = 0 then
        some ((-2), c68.2)
      else
        ai_bd (Fm_becomes_89 (((x59 + 40) + (6 * x60)) + x61) x62 c68.2) fun c70 =>
        some (c70.1, c70.2)
def Fm_thick_89 (x56 : Int32) (x57 : Int32) (x58 : Int32) (w : WM) : Option (Int32 × WM) :=
  ai_bd (Fm_thickTo_89 0 x56 x57 x58 w) fun c71 =>
  ai_bd (Fm_met_89 c71.1 c71.2) fun c72 =>
  some (c72.1, c72.2)
def Fm_skinTo_89 (x75 : Int32) (x76 : Int32) (x77 : Int32) (w : WM) : Option (Int32 × WM) :=
  ai_bd (Fm_in (x76).toInt64 0 2) fun c78 =>
  if c78 = 0 then
    some ((-2), w)
  else
    ai_bd (Fm_in (x77).toInt64 0 99) fun c79 =>
    if c79 = 0 then
      some ((-2), w)
    else
      ai_bd (Fm_becomes_89 ((x75 + 64) + x76) x77 w) fun c80 =>
      some (c80.1, c80.2)
def Fm_skin_89 (x73 : Int32) (x74 : Int32) (w : WM) : Option (Int32 × WM) :=
  ai_bd (Fm_skinTo_89 0 x73 x74 w) fun c81 =>
  ai_bd (Fm_met_89 c81.1 c81.2) fun c82 =>
  some (c82.1, c82.2)
def Fm_badAs_89 (x87 : Int32) (w : WM) : Option (Int32 × WM) :=
  ai_bd (ai_ix (a_m_refused w) 0) fun v88 =>
  ai_bd (ai_up (a_m_refused w) 0 (v88 + 1)) fun q89 =>
  some (x87, (u_m_refused w q89))
def Fm_tide_89 (x83 : Int32) (x84 : Int32) (x85 : Int32) (w : WM) : Option (Int32 × WM) :=
  ai_bd (Fm_isLayer x83) fun c86 =>
  if c86 = 0 then
    ai_bd (Fm_badAs_89 (-10) w) fun c90 =>
    some (c90.1, c90.2)
  else
    ai_bd (Fm_in (x84).toInt64 0 5) fun c91 =>
    if c91 = 0 then
      ai_bd (Fm_badAs_89 (-10) w) fun c92 =>
      some (c92.1, c92.2)
    else
      ai_bd (Fm_in (x85).toInt64 (-2) 2) fun c93 =>
      if c93 = 0 then
        ai_bd (Fm_badAs_89 (-10) w) fun c94 =>
        some (c94.1, c94.2)
      else
        ai_bd (Fm_becomes_89 ((16 + (6 * x83)) + x84) x85 w) fun c95 =>
        some (c95.1, c95.2)
def Fm_current_89 (x96 : Int32) (x97 : Int32) (w : WM) : Option (Int32 × WM) :=
  ai_bd (Fm_isLayer x96) fun c98 =>
  if c98 = 0 then
    ai_bd (Fm_badAs_89 (-10) w) fun c99 =>
    some (c99.1, c99.2)
  else
    ai_bd (Fm_in (x97).toInt64 (-1) 1) fun c100 =>
    if c100 = 0 then
      ai_bd (Fm_badAs_89 (-10) w) fun c101 =>
      some (c101.1, c101.2)
    else
      ai_bd (Fm_becomes_89 (12 + x96) x97 w) fun c102 =>
      some (c102.1, c102.2)
def Fm_thingTo_89 (x106 : Int32) (x107 : Int32) (x108 : Int32) (x109 : Int32) (w : WM) : Option (Int32 × WM) :=
  ai_bd (Fm_in (x107).toInt64 0 5) fun c110 =>
  if c110 = 0 then
    some ((-2), w)
  else
    ai_bd (Fm_in (x108).toInt64 1 99) fun c111 =>
    if c111 = 0 then
      some ((-2), w)
    else
      ai_bd (Fm_in (x109).toInt64 1 9) fun c112 =>
      if c112 = 0 then
        some ((-2), w)
      else
        ai_bd (ai_ix (a_m_w w) (x106 + 2)) fun v113 =>
        if v113 = 6 then
          some ((-4), w)
        else
          ai_bd (ai_up (a_m_w w) ((x106 + 67) + v113) x107) fun q114 =>
          ai_bd (ai_up q114 ((x106 + 73) + v113) x108) fun q115 =>
          ai_bd (ai_up q115 ((x106 + 79) + v113) x109) fun q116 =>
          ai_bd (ai_up q116 ((x106 + 85) + v113) 0) fun q117 =>
          ai_bd (ai_ix q117 (x106 + 2)) fun v118 =>
          ai_bd (ai_up q117 (x106 + 2) (v118 + 1)) fun q119 =>
          some (v113, (u_m_w (u_m_w (u_m_w (u_m_w (u_m_w w q114) q115) q116) q117) q119))
def Fm_thing_89 (x103 : Int32) (x104 : Int32) (x105 : Int32) (w : WM) : Option (Int32 × WM) :=
  ai_bd (Fm_thingTo_89 0 x103 x104 x105 w) fun c120 =>
  ai_bd (Fm_met_89 c120.1 c120.2) fun c121 =>
  some (c121.1, c121.2)
def Fm_isThing_89 (x124 : Int32) (w : WM) : Option (Int32 × WM) :=
  ai_bd (ai_ix (a_m_w w) 2) fun v125 =>
  ai_bd (Fm_in (x124).toInt64 0 ((v125 - 1)).toInt64) fun c126 =>
  if c126 = 0 ∨ c126 = 1 then some (c126, w) else none
def Fm_bad_89 (w : WM) : Option (Int32 × WM) :=
  ai_bd (Fm_met_89 (-2) w) fun c128 =>
  some (c128.1, c128.2)
def Fm_ballast_89 (x122 : Int32) (x123 : Int32) (w : WM) : Option (Int32 × WM) :=
  ai_bd (Fm_isThing_89 x122 w) fun c127 =>
  if c127.1 = 0 then
    ai_bd (Fm_bad_89 c127.2) fun c129 =>
    some (c129.1, c129.2)
  else
    ai_bd (Fm_in (x123).toInt64 0 99) fun c130 =>
    if c130 = 0 then
      ai_bd (Fm_bad_89 c127.2) fun c131 =>
      some (c131.1, c131.2)
    else
      ai_bd (Fm_becomes_89 (85 + x122) x123 c127.2) fun c132 =>
      some (c132.1, c132.2)
def Fm_isPlaceOf_89 (x140 : Int32) (x141 : Int32) (w : WM) : Option (Int32 × WM) :=
  if x141 < 0 then
    some (0, w)
  else
    ai_bd (Fm_isCellOf_89 x140 (x141 / 10) w) fun c142 =>
    if c142.1 = 0 then
      some (0, c142.2)
    else
      ai_bd (Fm_isLayer (x141 - x141 / 10 * 10)) fun c143 =>
      if c143 = 0 then
        some (0, c142.2)
      else
        some (1, c142.2)
def Fm_liftTo_89 (x136 : Int32) (x137 : Int32) (x138 : Int32) (x139 : Int32) (w : WM) : Option (Int32 × WM) :=
  ai_bd (Fm_isPlaceOf_89 x136 x137 w) fun c144 =>
  if c144.1 = 0 then
    some ((-2), c144.2)
  else
    ai_bd (Fm_isPlaceOf_89 x136 x138 c144.2) fun c145 =>
    if c145.1 = 0 then
      some ((-2), c145.2)
    else
      if x137 = x138 then
        some ((-2), c145.2)
      else
        ai_bd (Fm_in (x139).toInt64 1 9) fun c146 =>
        if c146 = 0 then
          some ((-2), c145.2)
        else
          ai_bd (ai_ix (a_m_w c145.2) (x136 + 3)) fun v147 =>
          if v147 = 10 then
            some ((-4), c145.2)
          else
            ai_bd (ai_up (a_m_w c145.2) ((x136 + 91) + v147) x137) fun q148 =>
            ai_bd (ai_up q148 ((x136 + 101) + v147) x138) fun q149 =>
            ai_bd (ai_up q149 ((x136 + 111) + v147) x139) fun q150 =>
            ai_bd (ai_ix q150 (x136 + 3)) fun v151 =>
            ai_bd (ai_up q150 (x136 + 3) (v151 + 1)) fun q152 =>
            some (v147, (u_m_w (u_m_w (u_m_w (u_m_w c145.2 q148) q149) q150) q152))
def Fm_lift_89 (x133 : Int32) (x134 : Int32) (x135 : Int32) (w : WM) : Option (Int32 × WM) :=
  ai_bd (Fm_liftTo_89 0 x133 x134 x135 w) fun c153 =>
  ai_bd (Fm_met_89 c153.1 c153.2) fun c154 =>
  some (c154.1, c154.2)
def Gm_townTo_89 : Nat → Nat → Int32 → Int32 → Int32 → Int32 → WM → Option (Int32 × WM)
  | 0, _, _, _, _, _, _ => none
  | n + 1, 0, y160, y161, y162, y163, w =>
    if y162 ≤ y163 then
      if y162 = 6 then
        some ((-4), w)
      else
        ai_bd (ai_up (a_m_w w) ((y160 + 121) + y162) y161) fun q164 =>
        ai_bd (ai_ix q164 (y160 + 4)) fun v165 =>
        ai_bd (ai_up q164 (y160 + 4) (v165 + 1)) fun q166 =>
        some (y162, (u_m_w (u_m_w w q164) q166))
    else
      ai_bd (ai_ix (a_m_w w) ((y160 + 121) + y163)) fun v167 =>
      if v167 = y161 then
        some ((-3), w)
      else
        Gm_townTo_89 n 0 y160 y161 y162 (y163 + 1) w
  | _ + 1, _ + 1, _, _, _, _, _ => none
def Fm_townTo_89 (n : Nat) (x156 : Int32) (x157 : Int32) (w : WM) : Option (Int32 × WM) :=
  ai_bd (Fm_isPlaceOf_89 x156 x157 w) fun c158 =>
  if c158.1 = 0 then
    some ((-2), c158.2)
  else
    ai_bd (ai_ix (a_m_w c158.2) (x156 + 4)) fun v159 =>
    Gm_townTo_89 n 0 x156 x157 v159 0 c158.2
def Fm_town_89 (n : Nat) (x155 : Int32) (w : WM) : Option (Int32 × WM) :=
  ai_bd (Fm_townTo_89 n 0 x155 w) fun c168 =>
  ai_bd (Fm_met_89 c168.1 c168.2) fun c169 =>
  some (c169.1, c169.2)
def Fm_has (x178 : Int32) (x179 : Int32) : Option (Int32) :=
  if ((x178 >>> (x179 &&& 31)) &&& 1) = 1 then
    some (1)
  else
    some (0)
def Fm_damTo_89 (x172 : Int32) (x173 : Int32) (x174 : Int32) (w : WM) : Option (Int32 × WM) :=
  ai_bd (ai_ix (a_m_w w) (x172 + 0)) fun v175 =>
  ai_bd (Fm_in (x173).toInt64 0 ((v175 - 2)).toInt64) fun c176 =>
  if c176 = 0 then
    some ((-2), w)
  else
    ai_bd (ai_ix (a_m_w w) (x172 + 5)) fun v177 =>
    ai_bd (Fm_has v177 x173) fun c180 =>
    if c180 = x174 then
      some ((-3), w)
    else
      ai_bd (ai_ix (a_m_w w) (x172 + 5)) fun v181 =>
      ai_bd (ai_up (a_m_w w) (x172 + 5) (v181 ^^^ (1 <<< (x173 &&& 31)))) fun q182 =>
      some (1, (u_m_w w q182))
def Fm_dam_89 (x170 : Int32) (x171 : Int32) (w : WM) : Option (Int32 × WM) :=
  ai_bd (Fm_damTo_89 0 x170 x171 w) fun c183 =>
  ai_bd (Fm_met_89 c183.1 c183.2) fun c184 =>
  some (c184.1, c184.2)
def Fm_drop_89 (x185 : Int32) (x186 : Int32) (w : WM) : Option (Int32 × WM) :=
  ai_bd (Fm_isLayer x185) fun c187 =>
  if c187 = 0 then
    ai_bd (Fm_bad_89 w) fun c201 =>
    some (c201.1, c201.2)
  else
    ai_bd (ai_ix (a_m_w w) 6) fun v188 =>
    if v188 = 6 then
      ai_bd (Fm_met_89 (-4) w) fun c200 =>
      some (c200.1, c200.2)
    else
      ai_bd (ai_ix (a_m_w w) 6) fun v189 =>
      ai_bd (ai_up (a_m_w w) (127 + v189) x185) fun q190 =>
      ai_bd (ai_ix q190 6) fun v191 =>
      if x186 = 0 then
        ai_bd (ai_up q190 (133 + v191) 0) fun q192 =>
        ai_bd (ai_ix q192 6) fun v193 =>
        ai_bd (ai_up q192 6 (v193 + 1)) fun q194 =>
        ai_bd (ai_ix q194 6) fun v195 =>
        some (v195, (u_m_w (u_m_w (u_m_w w q190) q192) q194))
      else
        ai_bd (ai_up q190 (133 + v191) 1) fun q196 =>
        ai_bd (ai_ix q196 6) fun v197 =>
        ai_bd (ai_up q196 6 (v197 + 1)) fun q198 =>
        ai_bd (ai_ix q198 6) fun v199 =>
        some (v199, (u_m_w (u_m_w (u_m_w w q190) q196) q198))
def Fm_clean_89 (x202 : Int32) (w : WM) : Option (Int32 × WM) :=
  ai_bd (Fm_in (x202).toInt64 0 3) fun c203 =>
  if c203 = 0 then
    ai_bd (Fm_bad_89 w) fun c208 =>
    some (c208.1, c208.2)
  else
    if x202 = 0 then
      ai_bd (Fm_becomes_89 2 0 w) fun c207 =>
      some (c207.1, c207.2)
    else
      if x202 = 1 then
        ai_bd (Fm_becomes_89 3 0 w) fun c206 =>
        some (c206.1, c206.2)
      else
        if x202 = 2 then
          ai_bd (Fm_becomes_89 4 0 w) fun c205 =>
          some (c205.1, c205.2)
        else
          ai_bd (Fm_becomes_89 6 0 w) fun c204 =>
          some (c204.1, c204.2)
def Fm_type_89 (x209 : Int32) (w : WM) : Option (Int32 × WM) :=
  ai_bd (Fm_in (x209).toInt64 0 127) fun c210 =>
  if c210 = 0 then
    ai_bd (Fm_bad_89 w) fun c213 =>
    some (c213.1, c213.2)
  else
    if (a_m_texted w) = 150 then
      ai_bd (Fm_met_89 (-4) w) fun c212 =>
      some (c212.1, c212.2)
    else
      ai_bd (ai_up (a_m_text w) (a_m_texted w) x209) fun q211 =>
      some (((a_m_texted w) + 1), (u_m_texted (u_m_text w q211) ((a_m_texted w) + 1)))
def Fm_clear_89 (w : WM) : Option (Int32 × WM) :=
  some ((a_m_texted w), (u_m_texted w 0))
def Fm_byteAt_89 (x214 : Int32) (w : WM) : Option (Int32 × WM) :=
  if (a_m_texted w) ≤ x214 then
    some ((-1), w)
  else
    ai_bd (ai_ix (a_m_text w) x214) fun v215 =>
    some (v215, w)
def Gm_token_89 : Nat → Nat → WM → Option (WM)
  | 0, _, _ => none
  | n + 1, 0, w =>
    ai_bd (Fm_byteAt_89 (a_m_at w) w) fun c216 =>
    if c216.1 = 32 then
      Gm_token_89 n 0  (u_m_at c216.2 ((a_m_at c216.2) + 1))
    else
      ai_bd (Fm_byteAt_89 (a_m_at c216.2) (u_m_start c216.2 (a_m_at c216.2))) fun c217 =>
      ai_bd (Fm_in (c217.1).toInt64 97 122) fun c218 =>
      if c218 = 0 ∨ c218 = 1 then
        ai_bd (Fm_byteAt_89 (a_m_at c217.2) (u_m_isWord c217.2 c218)) fun c219 =>
        ai_bd (Fm_in (c219.1).toInt64 48 57) fun c220 =>
        if c220 = 0 ∨ c220 = 1 then
          if (a_m_texted c219.2) ≤ (a_m_at c219.2) then
            Gm_token_89 n 1  (u_m_at (u_m_isFigures c219.2 c220) ((a_m_at c219.2) + 0))
          else
            Gm_token_89 n 1  (u_m_at (u_m_isFigures c219.2 c220) ((a_m_at c219.2) + 1))
        else none
      else none
  | n + 1, 1, w =>
    if (a_m_isWord w) = 0 then
      if (a_m_isFigures w) = 0 then
        some (w)
      else
        ai_bd (Fm_byteAt_89 (a_m_at w) w) fun c221 =>
        ai_bd (Fm_in (c221.1).toInt64 48 57) fun c222 =>
        if c222 = 0 then
          some (c221.2)
        else
          Gm_token_89 n 1  (u_m_at c221.2 ((a_m_at c221.2) + 1))
    else
      ai_bd (Fm_byteAt_89 (a_m_at w) w) fun c223 =>
      ai_bd (Fm_in (c223.1).toInt64 97 122) fun c224 =>
      if c224 = 0 then
        if (a_m_isFigures c223.2) = 0 then
          some (c223.2)
        else
          ai_bd (Fm_byteAt_89 (a_m_at c223.2) c223.2) fun c225 =>
          ai_bd (Fm_in (c225.1).toInt64 48 57) fun c226 =>
          if c226 = 0 then
            some (c225.2)
          else
            Gm_token_89 n 1  (u_m_at c225.2 ((a_m_at c225.2) + 1))
      else
        Gm_token_89 n 1  (u_m_at c223.2 ((a_m_at c223.2) + 1))
  | _ + 1, _ + 2, _ => none
def Fm_token_89 (n : Nat) (w : WM) : Option (WM) :=
  Gm_token_89 n 0  w
def Fm_isNamed_89 (x231 : Int32) (x232 : Int32) (x233 : Int32) (x234 : Int32) (x235 : Int32) (w : WM) : Option (Int32 × WM) :=
  if x234 = 0 then
    if (a_m_isWord w) = 0 then
      some (0, w)
    else
      if ((a_m_at w) - (a_m_start w)) = 3 then
        ai_bd (Fm_byteAt_89 (a_m_start w) w) fun c248 =>
        if c248.1 = x231 then
          ai_bd (Fm_byteAt_89 ((a_m_start c248.2) + 1) c248.2) fun c249 =>
          if c249.1 = x232 then
            ai_bd (Fm_byteAt_89 ((a_m_start c249.2) + 2) c249.2) fun c250 =>
            if c250.1 = x233 then
              if x234 = 0 then
                if x235 = 0 then
                  some (1, c250.2)
                else
                  ai_bd (Fm_byteAt_89 ((a_m_start c250.2) + 4) c250.2) fun c251 =>
                  if c251.1 = x235 then
                    some (1, c251.2)
                  else
                    some (0, c251.2)
              else
                ai_bd (Fm_byteAt_89 ((a_m_start c250.2) + 3) c250.2) fun c252 =>
                if c252.1 = x234 then
                  if x235 = 0 then
                    some (1, c252.2)
                  else
                    ai_bd (Fm_byteAt_89 ((a_m_start c252.2) + 4) c252.2) fun c253 =>
                    if c253.1 = x235 then
                      some (1, c253.2)
                    else
                      some (0, c253.2)
                else
                  some (0, c252.2)
            else
              some (0, c250.2)
          else
            some (0, c249.2)
        else
          some (0, c248.2)
      else
        some (0, w)
  else
    if x235 = 0 then
      if (a_m_isWord w) = 0 then
        some (0, w)
      else
        if ((a_m_at w) - (a_m_start w)) = 4 then
          ai_bd (Fm_byteAt_89 (a_m_start w) w) fun c242 =>
          if c242.1 = x231 then
            ai_bd (Fm_byteAt_89 ((a_m_start c242.2) + 1) c242.2) fun c243 =>
            if c243.1 = x232 then
              ai_bd (Fm_byteAt_89 ((a_m_start c243.2) + 2) c243.2) fun c244 =>
              if c244.1 = x233 then
                if x234 = 0 then
                  if x235 = 0 then
                    some (1, c244.2)
                  else
                    ai_bd (Fm_byteAt_89 ((a_m_start c244.2) + 4) c244.2) fun c245 =>
                    if c245.1 = x235 then
                      some (1, c245.2)
                    else
                      some (0, c245.2)
                else
                  ai_bd (Fm_byteAt_89 ((a_m_start c244.2) + 3) c244.2) fun c246 =>
                  if c246.1 = x234 then
                    if x235 = 0 then
                      some (1, c246.2)
                    else
                      ai_bd (Fm_byteAt_89 ((a_m_start c246.2) + 4) c246.2) fun c247 =>
                      if c247.1 = x235 then
                        some (1, c247.2)
                      else
                        some (0, c247.2)
                  else
                    some (0, c246.2)
              else
                some (0, c244.2)
            else
              some (0, c243.2)
          else
            some (0, c242.2)
        else
          some (0, w)
    else
      if (a_m_isWord w) = 0 then
        some (0, w)
      else
        if ((a_m_at w) - (a_m_start w)) = 5 then
          ai_bd (Fm_byteAt_89 (a_m_start w) w) fun c236 =>
          if c236.1 = x231 then
            ai_bd (Fm_byteAt_89 ((a_m_start c236.2) + 1) c236.2) fun c237 =>
            if c237.1 = x232 then
              ai_bd (Fm_byteAt_89 ((a_m_start c237.2) + 2) c237.2) fun c238 =>
              if c238.1 = x233 then
                if x234 = 0 then
                  if x235 = 0 then
                    some (1, c238.2)
                  else
                    ai_bd (Fm_byteAt_89 ((a_m_start c238.2) + 4) c238.2) fun c239 =>
                    if c239.1 = x235 then
                      some (1, c239.2)
                    else
                      some (0, c239.2)
                else
                  ai_bd (Fm_byteAt_89 ((a_m_start c238.2) + 3) c238.2) fun c240 =>
                  if c240.1 = x234 then
                    if x235 = 0 then
                      some (1, c240.2)
                    else
                      ai_bd (Fm_byteAt_89 ((a_m_start c240.2) + 4) c240.2) fun c241 =>
                      if c241.1 = x235 then
                        some (1, c241.2)
                      else
                        some (0, c241.2)
                  else
                    some (0, c240.2)
              else
                some (0, c238.2)
            else
              some (0, c237.2)
          else
            some (0, c236.2)
        else
          some (0, w)
def Fm_wordNow_89 (w : WM) : Option (Int32 × WM) :=
  ai_bd (Fm_isNamed_89 115 101 97 0 0 w) fun c254 =>
  if c254.1 = 0 then
    ai_bd (Fm_isNamed_89 119 97 116 101 114 c254.2) fun c255 =>
    if c255.1 = 0 then
      ai_bd (Fm_isNamed_89 116 104 105 99 107 c255.2) fun c256 =>
      if c256.1 = 0 then
        ai_bd (Fm_isNamed_89 115 107 105 110 0 c256.2) fun c257 =>
        if c257.1 = 0 then
          ai_bd (Fm_isNamed_89 116 104 105 110 103 c257.2) fun c258 =>
          if c258.1 = 0 then
            ai_bd (Fm_isNamed_89 108 105 102 116 0 c258.2) fun c259 =>
            if c259.1 = 0 then
              ai_bd (Fm_isNamed_89 116 111 119 110 0 c259.2) fun c260 =>
              if c260.1 = 0 then
                ai_bd (Fm_isNamed_89 100 97 109 0 0 c260.2) fun c261 =>
                if c261.1 = 0 then
                  some ((-1), c261.2)
                else
                  some (7, c261.2)
              else
                some (6, c260.2)
            else
              some (5, c259.2)
          else
            some (4, c258.2)
        else
          some (3, c257.2)
      else
        some (2, c256.2)
    else
      some (1, c255.2)
  else
    some (0, c254.2)
def Fm_manyOf (x265 : Int32) : Option (Int32) :=
  if x265 = 0 then
    some (1)
  else
    if x265 ≤ 5 then
      if x265 = 1 then
        some (2)
      else
        if x265 = 3 then
          some (2)
        else
          some (3)
    else
      some (1)
def Gm_takesItem_89 : Nat → Nat → Int32 → Int32 → Int32 → WM → Option (Int32 × WM)
  | 0, _, _, _, _, _ => none
  | n + 1, 0, y263, y264, _, w =>
    ai_bd (Fm_manyOf (a_m_word w)) fun c266 =>
    if c266 ≤ y264 then
      ai_bd (Fm_token_89 n w) fun c267 =>
      ai_bd (Fm_byteAt_89 (a_m_start c267) c267) fun c268 =>
      if c268.1 = 59 then
        some (1, c268.2)
      else
        some (0, c268.2)
    else
      ai_bd (Fm_token_89 n w) fun c269 =>
      if (a_m_isFigures c269) = 0 then
        some (0, c269)
      else
        if ((a_m_at c269) - (a_m_start c269)) ≤ 2 then
          ai_bd (ai_up (a_m_numbers c269) y264 0) fun q270 =>
          Gm_takesItem_89 n 1 y263 y264 (a_m_start c269) (u_m_numbers c269 q270)
        else
          some (0, c269)
  | n + 1, 1, y271, y272, y273, w =>
    if (a_m_at w) ≤ y273 then
      Gm_takesItem_89 n 0 y271 (y272 + 1) 0 w
    else
      ai_bd (ai_ix (a_m_numbers w) y272) fun v274 =>
      ai_bd (Fm_byteAt_89 y273 w) fun c275 =>
      ai_bd (ai_up (a_m_numbers c275.2) y272 (((10 * v274) + c275.1) - 48)) fun q276 =>
      Gm_takesItem_89 n 1 y271 y272 (y273 + 1) (u_m_numbers c275.2 q276)
  | _ + 1, _ + 2, _, _, _, _ => none
def Fm_takesItem_89 (n : Nat) (x230 : Int32) (w : WM) : Option (Int32 × WM) :=
  ai_bd (Fm_wordNow_89 w) fun c262 =>
  if c262.1 = (-1) then
    some (0, (u_m_word c262.2 c262.1))
  else
    if c262.1 = 0 then
      if x230 = 0 then
        Gm_takesItem_89 n 0 x230 0 0 (u_m_word c262.2 c262.1)
      else
        some (0, (u_m_word c262.2 c262.1))
    else
      if x230 = 0 then
        some (0, (u_m_word c262.2 c262.1))
      else
        Gm_takesItem_89 n 0 x230 0 0 (u_m_word c262.2 c262.1)
def Fm_done_89 (n : Nat) (w : WM) : Option (Int32 × WM) :=
  if (a_m_word w) = 0 then
    ai_bd (ai_ix (a_m_numbers w) 0) fun v279 =>
    ai_bd (Fm_seaTo_89 n 447 v279 w) fun c280 =>
    some (c280.1, c280.2)
  else
  if (a_m_word w) = 1 then
    ai_bd (ai_ix (a_m_numbers w) 0) fun v281 =>
    ai_bd (ai_ix (a_m_numbers w) 1) fun v282 =>
    ai_bd (Fm_waterTo_89 447 v281 v282 w) fun c283 =>
    some (c283.1, c283.2)
  else
  if (a_m_word w) = 2 then
    ai_bd (ai_ix (a_m_numbers w) 0) fun v284 =>
    ai_bd (ai_ix (a_m_numbers w) 1) fun v285 =>
    ai_bd (ai_ix (a_m_numbers w) 2) fun v286 =>
    ai_bd (Fm_thickTo_89 447 v284 v285 v286 w) fun c287 =>
    some (c287.1, c287.2)
  else
  if (a_m_word w) = 3 then
    ai_bd (ai_ix (a_m_numbers w) 0) fun v288 =>
    ai_bd (ai_ix (a_m_numbers w) 1) fun v289 =>
    ai_bd (Fm_skinTo_89 447 v288 v289 w) fun c290 =>
    some (c290.1, c290.2)
  else
  if (a_m_word w) = 4 then
    ai_bd (ai_ix (a_m_numbers w) 0) fun v291 =>
    ai_bd (ai_ix (a_m_numbers w) 1) fun v292 =>
    ai_bd (ai_ix (a_m_numbers w) 2) fun v293 =>
    ai_bd (Fm_thingTo_89 447 v291 v292 v293 w) fun c294 =>
    some (c294.1, c294.2)
  else
  if (a_m_word w) = 5 then
    ai_bd (ai_ix (a_m_numbers w) 0) fun v295 =>
    ai_bd (ai_ix (a_m_numbers w) 1) fun v296 =>
    ai_bd (ai_ix (a_m_numbers w) 2) fun v297 =>
    ai_bd (Fm_liftTo_89 447 v295 v296 v297 w) fun c298 =>
    some (c298.1, c298.2)
  else
  if (a_m_word w) = 6 then
    ai_bd (ai_ix (a_m_numbers w) 0) fun v299 =>
    ai_bd (Fm_townTo_89 n 447 v299 w) fun c300 =>
    some (c300.1, c300.2)
  else
    ai_bd (ai_ix (a_m_numbers w) 0) fun v301 =>
    ai_bd (Fm_damTo_89 447 v301 1 w) fun c302 =>
    some (c302.1, c302.2)
def Gm_copy_89 : Nat → Nat → Int32 → Int32 → Int32 → WM → Option (WM)
  | 0, _, _, _, _, _ => none
  | n + 1, 0, y308, y309, y310, w =>
    if 149 ≤ y310 then
      some (w)
    else
      ai_bd (ai_ix (a_m_w w) (y308 + y310)) fun v311 =>
      ai_bd (ai_up (a_m_w w) (y309 + y310) v311) fun q312 =>
      Gm_copy_89 n 0 y308 y309 (y310 + 1) (u_m_w w q312)
  | _ + 1, _ + 1, _, _, _, _ => none
def Fm_copy_89 (n : Nat) (x306 : Int32) (x307 : Int32) (w : WM) : Option (WM) :=
  Gm_copy_89 n 0 x306 x307 0 w
def Gm_read_89 : Nat → Nat → Int32 → Int32 → WM → Option (Int32 × WM)
  | 0, _, _, _, _ => none
  | n + 1, 0, y228, y229, w =>
    if (a_m_start w) < (a_m_texted w) then
      ai_bd (Fm_takesItem_89 n y228 w) fun c277 =>
      if c277.1 = 0 then
        some (((-10) - (a_m_start c277.2)), c277.2)
      else
        if y229 = (-1) then
          ai_bd (Fm_done_89 n c277.2) fun c303 =>
          if (-1) ≤ c303.1 then
            ai_bd (Fm_token_89 n c303.2) fun c304 =>
            Gm_read_89 n 0 (y228 + 1) y229 c304
          else
            ai_bd (Fm_token_89 n c303.2) fun c305 =>
            Gm_read_89 n 0 (y228 + 1) y228 c305
        else
          ai_bd (Fm_token_89 n c277.2) fun c278 =>
          Gm_read_89 n 0 (y228 + 1) y229 c278
    else
      if y228 = 0 then
        ai_bd (Fm_takesItem_89 n y228 w) fun c314 =>
        if c314.1 = 0 then
          some (((-10) - (a_m_start c314.2)), c314.2)
        else
          if y229 = (-1) then
            ai_bd (Fm_done_89 n c314.2) fun c316 =>
            if (-1) ≤ c316.1 then
              ai_bd (Fm_token_89 n c316.2) fun c317 =>
              Gm_read_89 n 0 (y228 + 1) y229 c317
            else
              ai_bd (Fm_token_89 n c316.2) fun c318 =>
              Gm_read_89 n 0 (y228 + 1) y228 c318
          else
            ai_bd (Fm_token_89 n c314.2) fun c315 =>
            Gm_read_89 n 0 (y228 + 1) y229 c315
      else
        if y229 = (-1) then
          ai_bd (Fm_copy_89 n 447 0 w) fun c313 =>
          some (y228, c313)
        else
          some (((-1000) - y229), w)
  | _ + 1, _ + 1, _, _, _ => none
def Fm_read_89 (n : Nat) (w : WM) : Option (Int32 × WM) :=
  ai_bd (Fm_token_89 n (u_m_at w 0)) fun c227 =>
  Gm_read_89 n 0 0 (-1) c227
def Gm_hours_89 : Nat → Nat → Int32 → Int32 → WM → Option (Int32 × WM)
  | 0, _, _, _, _ => none
  | n + 1, 0, y333, y334, w =>
    if 9 ≤ y334 then
      ai_bd (ai_ix (a_m_w w) 7) fun v335 =>
      ai_bd (ai_up (a_m_w w) 7 (v335 - 1)) fun q336 =>
      ai_bd (ai_ix q336 7) fun v337 =>
      ai_bd (ai_ix q336 1) fun v338 =>
      ai_bd (ai_up q336 (139 + v337) v338) fun q339 =>
      ai_bd (ai_ix q339 7) fun v340 =>
      ai_bd (ai_up q339 7 (v340 + 1)) fun q341 =>
      ai_bd (ai_ix q341 1) fun v342 =>
      ai_bd (ai_up q341 1 (v342 + y333)) fun q343 =>
      ai_bd (ai_ix q343 1) fun v344 =>
      some (v344, (u_m_w (u_m_w (u_m_w (u_m_w w q336) q339) q341) q343))
    else
      ai_bd (ai_ix (a_m_w w) ((139 + y334) + 1)) fun v345 =>
      ai_bd (ai_up (a_m_w w) (139 + y334) v345) fun q346 =>
      Gm_hours_89 n 0 y333 (y334 + 1) (u_m_w w q346)
  | _ + 1, _ + 1, _, _, _ => none
def Fm_hours_89 (n : Nat) (x319 : Int32) (w : WM) : Option (Int32 × WM) :=
  ai_bd (Fm_in (x319).toInt64 1 99) fun c320 =>
  if c320 = 0 then
    ai_bd (Fm_bad_89 w) fun c332 =>
    some (c332.1, c332.2)
  else
    ai_bd (ai_ix (a_m_w w) 1) fun v321 =>
    if (v321 + x319) ≤ 999 then
      ai_bd (ai_ix (a_m_w w) 7) fun v322 =>
      if v322 = 10 then
        Gm_hours_89 n 0 x319 0 w
      else
        ai_bd (ai_ix (a_m_w w) 7) fun v323 =>
        ai_bd (ai_ix (a_m_w w) 1) fun v324 =>
        ai_bd (ai_up (a_m_w w) (139 + v323) v324) fun q325 =>
        ai_bd (ai_ix q325 7) fun v326 =>
        ai_bd (ai_up q325 7 (v326 + 1)) fun q327 =>
        ai_bd (ai_ix q327 1) fun v328 =>
        ai_bd (ai_up q327 1 (v328 + x319)) fun q329 =>
        ai_bd (ai_ix q329 1) fun v330 =>
        some (v330, (u_m_w (u_m_w (u_m_w w q325) q327) q329))
    else
      ai_bd (Fm_met_89 (-3) w) fun c331 =>
      some (c331.1, c331.2)
def Fm_undo_89 (w : WM) : Option (Int32 × WM) :=
  ai_bd (ai_ix (a_m_w w) 7) fun v347 =>
  if v347 = 0 then
    ai_bd (Fm_met_89 (-3) w) fun c353 =>
    some (c353.1, c353.2)
  else
    ai_bd (ai_ix (a_m_w w) 7) fun v348 =>
    ai_bd (ai_up (a_m_w w) 7 (v348 - 1)) fun q349 =>
    ai_bd (ai_ix q349 7) fun v350 =>
    ai_bd (ai_ix q349 (139 + v350)) fun v351 =>
    ai_bd (ai_up q349 1 v351) fun q352 =>
    some (1, (u_m_w (u_m_w w q349) q352))
def Fm_lay_89 (x359 : Int32) (w : WM) : Option (WM) :=
  ai_bd (ai_ix (a_m_w w) (67 + x359)) fun v360 =>
  ai_bd (ai_ix (a_m_w w) (73 + x359)) fun v361 =>
  ai_bd (ai_ix (a_m_w w) (79 + x359)) fun v362 =>
  ai_bd (ai_ix (a_m_w w) (85 + x359)) fun v363 =>
  ai_bd (ai_ix (a_m_w w) 1) fun v364 =>
  some ((u_m_torn (u_m_hour (u_m_load (u_m_volume (u_m_weight (u_m_kind w v360) v361) v362) v363) v364) 0))
def Fm_lesser (x366 : Int32) (x367 : Int32) : Option (Int32) :=
  if x367 ≤ x366 then
    some (x367)
  else
    some (x366)
def Fm_room_89 (w : WM) : Option (Int32 × WM) :=
  if (a_m_kind w) = 2 then
    some (((a_m_volume w) + 1), w)
  else
    if (a_m_kind w) = 3 then
      some (((a_m_volume w) + 1), w)
    else
      if (a_m_kind w) = 4 then
        ai_bd (Fm_lesser ((a_m_hour w) / 4) 5) fun c368 =>
        some (((a_m_volume w) + c368), w)
      else
        some (((a_m_volume w) + 0), w)
def Fm_weighs_89 (w : WM) : Option (Int32 × WM) :=
  if (a_m_kind w) = 1 then
    if (a_m_kind w) = 3 then
      ai_bd (Fm_lesser (a_m_hour w) 10) fun c370 =>
      some ((((a_m_weight w) + (a_m_load w)) + (2 * c370)), w)
    else
      some ((((a_m_weight w) + (a_m_load w)) + 0), w)
  else
    if (a_m_kind w) = 2 then
      if (a_m_kind w) = 3 then
        ai_bd (Fm_lesser (a_m_hour w) 10) fun c371 =>
        some ((((a_m_weight w) + (a_m_load w)) + (2 * c371)), w)
      else
        some ((((a_m_weight w) + (a_m_load w)) + 0), w)
    else
      if (a_m_kind w) = 3 then
        if (a_m_kind w) = 3 then
          ai_bd (Fm_lesser (a_m_hour w) 10) fun c373 =>
          some ((((a_m_weight w) + (a_m_load w)) + (2 * c373)), w)
        else
          some ((((a_m_weight w) + (a_m_load w)) + 0), w)
      else
        if (a_m_kind w) = 3 then
          ai_bd (Fm_lesser (a_m_hour w) 10) fun c372 =>
          some ((((a_m_weight w) + 0) + (2 * c372)), w)
        else
          some ((((a_m_weight w) + 0) + 0), w)
def Fm_of_89 (x354 : Int32) (x355 : Int32) (w : WM) : Option (Int32 × WM) :=
  ai_bd (Fm_isThing_89 x354 w) fun c356 =>
  if c356.1 = 0 then
    ai_bd (Fm_bad_89 c356.2) fun c357 =>
    some (c357.1, c357.2)
  else
    ai_bd (Fm_in (x355).toInt64 0 2) fun c358 =>
    if c358 = 0 then
      ai_bd (Fm_bad_89 c356.2) fun c375 =>
      some (c375.1, c375.2)
    else
      ai_bd (Fm_lay_89 x354 c356.2) fun c365 =>
      if x355 = 0 then
        some ((a_m_kind c365), c365)
      else
        if x355 = 1 then
          ai_bd (Fm_weighs_89 c365) fun c374 =>
          some (c374.1, c374.2)
        else
          ai_bd (Fm_room_89 c365) fun c369 =>
          some (c369.1, c369.2)
def Fm_isCell_89 (x380 : Int32) (w : WM) : Option (Int32 × WM) :=
  ai_bd (Fm_isCellOf_89 0 x380 w) fun c381 =>
  if c381.1 = 0 ∨ c381.1 = 1 then some (c381.1, c381.2) else none
def Fm_thickIn_89 (x385 : Int32) (x386 : Int32) (x387 : Int32) (w : WM) : Option (Int32 × WM) :=
  ai_bd (ai_ix (a_m_w w) ((40 + (6 * x385)) + x386)) fun v388 =>
  ai_bd (ai_ix (a_m_w w) ((16 + (6 * x385)) + (x387 - x387 / 6 * 6))) fun v389 =>
  if 0 ≤ (v388 + v389) then
    some ((v388 + v389), w)
  else
    some (0, w)
def Fm_deep_89 (x376 : Int32) (x377 : Int32) (w : WM) : Option (Int32 × WM) :=
  ai_bd (Fm_isLayer x376) fun c378 =>
  if c378 = 0 then
    ai_bd (Fm_bad_89 w) fun c379 =>
    some (c379.1, c379.2)
  else
    ai_bd (Fm_isCell_89 x377 w) fun c382 =>
    if c382.1 = 0 then
      ai_bd (Fm_bad_89 c382.2) fun c383 =>
      some (c383.1, c383.2)
    else
      ai_bd (ai_ix (a_m_w c382.2) 1) fun v384 =>
      ai_bd (Fm_thickIn_89 x376 x377 v384 c382.2) fun c390 =>
      some (c390.1, c390.2)
def Fm_breaks_89 (x425 : Int32) (w : WM) : Option (Int32 × WM) :=
  ai_bd (Fm_has (a_m_torn w) x425) fun c426 =>
  if c426 = 0 then
    ai_bd (ai_ix (a_m_w w) (64 + x425)) fun v427 =>
    if (a_m_kind w) = 3 then
      some (1, w)
    else
      if (a_m_kind w) = 5 then
        some (0, w)
      else
        if (a_m_kind w) = 2 then
          ai_bd (Fm_weighs_89 w) fun c429 =>
          if (c429.1 / 2) ≤ v427 then
            some (0, c429.2)
          else
            some (1, c429.2)
        else
          ai_bd (Fm_weighs_89 w) fun c428 =>
          if c428.1 ≤ v427 then
            some (0, c428.2)
          else
            some (1, c428.2)
  else
    some (1, w)
def Gm_comesDown_89 : Nat → Nat → Int32 → Int32 → Int32 → WM → Option (WM)
  | 0, _, _, _, _, _ => none
  | n + 1, 0, y401, y402, y403, w =>
    if 4 ≤ y403 then
      some (w)
    else
      if (a_m_restsIn w) = 4 then
        if (a_m_stops w) = (-1) then
          ai_bd (Fm_thickIn_89 y403 y401 (a_m_hour w) w) fun c404 =>
          if c404.1 ≤ 0 then
            if c404.1 ≤ 0 then
              Gm_comesDown_89 n 0 y401 y402 (y403 + 1) c404.2
            else
              if y402 = (-1) then
                ai_bd (Fm_weighs_89 (u_m_broken c404.2 ((a_m_broken c404.2) ||| 0))) fun c405 =>
                ai_bd (Fm_room_89 c405.2) fun c406 =>
                ai_bd (ai_ix (a_m_w c406.2) (8 + y403)) fun v407 =>
                if (c406.1 * v407) < c405.1 then
                  Gm_comesDown_89 n 0 y401 y403 (y403 + 1) (u_m_down (u_m_passes c406.2 ((a_m_passes c406.2) ||| (1 <<< (y403 &&& 31)))) ((a_m_down c406.2) + c404.1))
                else
                  Gm_comesDown_89 n 0 y401 y402 (y403 + 1) (u_m_restsIn c406.2 y403)
              else
                ai_bd (Fm_has (a_m_torn c404.2) (y403 - 1)) fun c408 =>
                if c408 = 0 then
                  ai_bd (Fm_weighs_89 (u_m_broken c404.2 ((a_m_broken c404.2) ||| (1 <<< ((y403 - 1) &&& 31))))) fun c409 =>
                  ai_bd (Fm_room_89 c409.2) fun c410 =>
                  ai_bd (ai_ix (a_m_w c410.2) (8 + y403)) fun v411 =>
                  if (c410.1 * v411) < c409.1 then
                    Gm_comesDown_89 n 0 y401 y403 (y403 + 1) (u_m_down (u_m_passes c410.2 ((a_m_passes c410.2) ||| (1 <<< (y403 &&& 31)))) ((a_m_down c410.2) + c404.1))
                  else
                    Gm_comesDown_89 n 0 y401 y402 (y403 + 1) (u_m_restsIn c410.2 y403)
                else
                  ai_bd (Fm_weighs_89 (u_m_broken c404.2 ((a_m_broken c404.2) ||| 0))) fun c412 =>
                  ai_bd (Fm_room_89 c412.2) fun c413 =>
                  ai_bd (ai_ix (a_m_w c413.2) (8 + y403)) fun v414 =>
                  if (c413.1 * v414) < c412.1 then
                    Gm_comesDown_89 n 0 y401 y403 (y403 + 1) (u_m_down (u_m_passes c413.2 ((a_m_passes c413.2) ||| (1 <<< (y403 &&& 31)))) ((a_m_down c413.2) + c404.1))
                  else
                    Gm_comesDown_89 n 0 y401 y402 (y403 + 1) (u_m_restsIn c413.2 y403)
          else
            if y402 = (-1) then
              if c404.1 ≤ 0 then
                Gm_comesDown_89 n 0 y401 y402 (y403 + 1) c404.2
              else
                if y402 = (-1) then
                  ai_bd (Fm_weighs_89 (u_m_broken c404.2 ((a_m_broken c404.2) ||| 0))) fun c415 =>
                  ai_bd (Fm_room_89 c415.2) fun c416 =>
                  ai_bd (ai_ix (a_m_w c416.2) (8 + y403)) fun v417 =>
                  if (c416.1 * v417) < c415.1 then
                    Gm_comesDown_89 n 0 y401 y403 (y403 + 1) (u_m_down (u_m_passes c416.2 ((a_m_passes c416.2) ||| (1 <<< (y403 &&& 31)))) ((a_m_down c416.2) + c404.1))
                  else
                    Gm_comesDown_89 n 0 y401 y402 (y403 + 1) (u_m_restsIn c416.2 y403)
                else
                  ai_bd (Fm_has (a_m_torn c404.2) (y403 - 1)) fun c418 =>
                  if c418 = 0 then
                    ai_bd (Fm_weighs_89 (u_m_broken c404.2 ((a_m_broken c404.2) ||| (1 <<< ((y403 - 1) &&& 31))))) fun c419 =>
                    ai_bd (Fm_room_89 c419.2) fun c420 =>
                    ai_bd (ai_ix (a_m_w c420.2) (8 + y403)) fun v421 =>
                    if (c420.1 * v421) < c419.1 then
                      Gm_comesDown_89 n 0 y401 y403 (y403 + 1) (u_m_down (u_m_passes c420.2 ((a_m_passes c420.2) ||| (1 <<< (y403 &&& 31)))) ((a_m_down c420.2) + c404.1))
                    else
                      Gm_comesDown_89 n 0 y401 y402 (y403 + 1) (u_m_restsIn c420.2 y403)
                  else
                    ai_bd (Fm_weighs_89 (u_m_broken c404.2 ((a_m_broken c404.2) ||| 0))) fun c422 =>
                    ai_bd (Fm_room_89 c422.2) fun c423 =>
                    ai_bd (ai_ix (a_m_w c423.2) (8 + y403)) fun v424 =>
                    if (c423.1 * v424) < c422.1 then
                      Gm_comesDown_89 n 0 y401 y403 (y403 + 1) (u_m_down (u_m_passes c423.2 ((a_m_passes c423.2) ||| (1 <<< (y403 &&& 31)))) ((a_m_down c423.2) + c404.1))
                    else
                      Gm_comesDown_89 n 0 y401 y402 (y403 + 1) (u_m_restsIn c423.2 y403)
            else
              ai_bd (Fm_breaks_89 (y403 - 1) c404.2) fun c430 =>
              if c430.1 = 0 then
                Gm_comesDown_89 n 0 y401 y402 (y403 + 1) (u_m_restsIn (u_m_stops c430.2 (y403 - 1)) y402)
              else
                if c404.1 ≤ 0 then
                  Gm_comesDown_89 n 0 y401 y402 (y403 + 1) c430.2
                else
                  if y402 = (-1) then
                    ai_bd (Fm_weighs_89 (u_m_broken c430.2 ((a_m_broken c430.2) ||| 0))) fun c431 =>
                    ai_bd (Fm_room_89 c431.2) fun c432 =>
                    ai_bd (ai_ix (a_m_w c432.2) (8 + y403)) fun v433 =>
                    if (c432.1 * v433) < c431.1 then
                      Gm_comesDown_89 n 0 y401 y403 (y403 + 1) (u_m_down (u_m_passes c432.2 ((a_m_passes c432.2) ||| (1 <<< (y403 &&& 31)))) ((a_m_down c432.2) + c404.1))
                    else
                      Gm_comesDown_89 n 0 y401 y402 (y403 + 1) (u_m_restsIn c432.2 y403)
                  else
                    ai_bd (Fm_has (a_m_torn c430.2) (y403 - 1)) fun c434 =>
                    if c434 = 0 then
                      ai_bd (Fm_weighs_89 (u_m_broken c430.2 ((a_m_broken c430.2) ||| (1 <<< ((y403 - 1) &&& 31))))) fun c435 =>
                      ai_bd (Fm_room_89 c435.2) fun c436 =>
                      ai_bd (ai_ix (a_m_w c436.2) (8 + y403)) fun v437 =>
                      if (c436.1 * v437) < c435.1 then
                        Gm_comesDown_89 n 0 y401 y403 (y403 + 1) (u_m_down (u_m_passes c436.2 ((a_m_passes c436.2) ||| (1 <<< (y403 &&& 31)))) ((a_m_down c436.2) + c404.1))
                      else
                        Gm_comesDown_89 n 0 y401 y402 (y403 + 1) (u_m_restsIn c436.2 y403)
                    else
                      ai_bd (Fm_weighs_89 (u_m_broken c430.2 ((a_m_broken c430.2) ||| 0))) fun c438 =>
                      ai_bd (Fm_room_89 c438.2) fun c439 =>
                      ai_bd (ai_ix (a_m_w c439.2) (8 + y403)) fun v440 =>
                      if (c439.1 * v440) < c438.1 then
                        Gm_comesDown_89 n 0 y401 y403 (y403 + 1) (u_m_down (u_m_passes c439.2 ((a_m_passes c439.2) ||| (1 <<< (y403 &&& 31)))) ((a_m_down c439.2) + c404.1))
                      else
                        Gm_comesDown_89 n 0 y401 y402 (y403 + 1) (u_m_restsIn c439.2 y403)
        else
          some (w)
      else
        some (w)
  | _ + 1, _ + 1, _, _, _, _ => none
def Fm_comesDown_89 (n : Nat) (x400 : Int32) (w : WM) : Option (WM) :=
  Gm_comesDown_89 n 0 x400 (-1) 0 (u_m_stops (u_m_passes (u_m_broken (u_m_down (u_m_restsIn w 4) 0) 0) 0) (-1))
def Fm_rests_89 (n : Nat) (x391 : Int32) (x392 : Int32) (x393 : Int32) (w : WM) : Option (Int32 × WM) :=
  ai_bd (Fm_isThing_89 x391 w) fun c394 =>
  if c394.1 = 0 then
    ai_bd (Fm_bad_89 c394.2) fun c395 =>
    some (c395.1, c395.2)
  else
    ai_bd (Fm_isCell_89 x392 c394.2) fun c396 =>
    if c396.1 = 0 then
      ai_bd (Fm_bad_89 c396.2) fun c397 =>
      some (c397.1, c397.2)
    else
      ai_bd (Fm_in (x393).toInt64 0 2) fun c398 =>
      if c398 = 0 then
        ai_bd (Fm_bad_89 c396.2) fun c442 =>
        some (c442.1, c442.2)
      else
        ai_bd (Fm_lay_89 x391 c396.2) fun c399 =>
        ai_bd (Fm_comesDown_89 n x392 c399) fun c441 =>
        if x393 = 0 then
          some ((a_m_restsIn c441), c441)
        else
          if x393 = 1 then
            some ((a_m_down c441), c441)
          else
            some ((a_m_broken c441), c441)
def Fm_isLoaded_89 (x446 : Int32) (w : WM) : Option (Int32 × WM) :=
  ai_bd (Fm_isThing_89 x446 w) fun c447 =>
  if c447.1 = 0 then
    some (0, c447.2)
  else
    ai_bd (ai_ix (a_m_w c447.2) (67 + x446)) fun v448 =>
    ai_bd (Fm_in (v448).toInt64 1 3) fun c449 =>
    if c449 = 0 then
      some (0, c447.2)
    else
      some (1, c447.2)
def Gm_leastFor_89 : Nat → Nat → Int32 → Int32 → Int32 → Int32 → WM → Option (Int32 × WM)
  | 0, _, _, _, _, _, _ => none
  | n + 1, 0, y458, y459, y460, y461, w =>
    if y461 < 0 then
      some (y460, w)
    else
      ai_bd (Fm_comesDown_89 n y458 (u_m_load w y461)) fun c462 =>
      if (a_m_restsIn c462) = y459 then
        Gm_leastFor_89 n 0 y458 y459 y461 (y461 + (-1)) c462
      else
        Gm_leastFor_89 n 0 y458 y459 y460 (y461 + (-1)) c462
  | _ + 1, _ + 1, _, _, _, _, _ => none
def Fm_leastFor_89 (n : Nat) (x456 : Int32) (x457 : Int32) (w : WM) : Option (Int32 × WM) :=
  Gm_leastFor_89 n 0 x456 x457 (-1) 99 w
def Fm_sink_89 (n : Nat) (x443 : Int32) (x444 : Int32) (x445 : Int32) (w : WM) : Option (Int32 × WM) :=
  ai_bd (Fm_isLoaded_89 x443 w) fun c450 =>
  if c450.1 = 0 then
    ai_bd (Fm_badAs_89 (-10) c450.2) fun c451 =>
    some (c451.1, c451.2)
  else
    ai_bd (Fm_isCell_89 x444 c450.2) fun c452 =>
    if c452.1 = 0 then
      ai_bd (Fm_badAs_89 (-10) c452.2) fun c453 =>
      some (c453.1, c453.2)
    else
      ai_bd (Fm_in (x445).toInt64 0 4) fun c454 =>
      if c454 = 0 then
        ai_bd (Fm_badAs_89 (-10) c452.2) fun c464 =>
        some (c464.1, c464.2)
      else
        ai_bd (Fm_lay_89 x443 c452.2) fun c455 =>
        ai_bd (Fm_leastFor_89 n x444 x445 c455) fun c463 =>
        some (c463.1, c463.2)
def Fm_holds_89 (n : Nat) (x465 : Int32) (x466 : Int32) (w : WM) : Option (Int32 × WM) :=
  ai_bd (Fm_isLoaded_89 x465 w) fun c467 =>
  if c467.1 = 0 then
    ai_bd (Fm_badAs_89 (-10) c467.2) fun c468 =>
    some (c468.1, c468.2)
  else
    ai_bd (Fm_isCell_89 x466 c467.2) fun c469 =>
    if c469.1 = 0 then
      ai_bd (Fm_badAs_89 (-10) c469.2) fun c472 =>
      some (c472.1, c472.2)
    else
      ai_bd (Fm_lay_89 x465 c469.2) fun c470 =>
      ai_bd (Fm_comesDown_89 n x466 (u_m_load c470 99)) fun c471 =>
      some ((a_m_stops c471), c471)
def Gm_bestHour_89 : Nat → Nat → Int32 → Int32 → Int32 → Int32 → Int32 → Int32 → WM → Option (Int32 × WM)
  | 0, _, _, _, _, _, _, _, _ => none
  | n + 1, 0, y483, y484, y485, y486, y487, y488, w =>
    if 6 ≤ y488 then
      some (y486, w)
    else
      ai_bd (ai_ix (a_m_w w) 1) fun v489 =>
      ai_bd (Fm_leastFor_89 n y484 y485 (u_m_hour w (v489 + y488))) fun c490 =>
      if c490.1 < 0 then
        if c490.1 < 0 then
          Gm_bestHour_89 n 0 y483 y484 y485 y486 y487 (y488 + 1) c490.2
        else
          if y487 ≤ c490.1 then
            Gm_bestHour_89 n 0 y483 y484 y485 y486 y487 (y488 + 1) c490.2
          else
            Gm_bestHour_89 n 0 y483 y484 y485 y486 c490.1 (y488 + 1) c490.2
      else
        if y487 ≤ c490.1 then
          if c490.1 < 0 then
            Gm_bestHour_89 n 0 y483 y484 y485 y486 y487 (y488 + 1) c490.2
          else
            if y487 ≤ c490.1 then
              Gm_bestHour_89 n 0 y483 y484 y485 y486 y487 (y488 + 1) c490.2
            else
              Gm_bestHour_89 n 0 y483 y484 y485 y486 c490.1 (y488 + 1) c490.2
        else
          if c490.1 < 0 then
            Gm_bestHour_89 n 0 y483 y484 y485 y488 y487 (y488 + 1) c490.2
          else
            if y487 ≤ c490.1 then
              Gm_bestHour_89 n 0 y483 y484 y485 y488 y487 (y488 + 1) c490.2
            else
              Gm_bestHour_89 n 0 y483 y484 y485 y488 c490.1 (y488 + 1) c490.2
  | _ + 1, _ + 1, _, _, _, _, _, _, _ => none
def Fm_bestHour_89 (n : Nat) (x473 : Int32) (x474 : Int32) (x475 : Int32) (w : WM) : Option (Int32 × WM) :=
  ai_bd (Fm_isLoaded_89 x473 w) fun c476 =>
  if c476.1 = 0 then
    ai_bd (Fm_badAs_89 (-10) c476.2) fun c477 =>
    some (c477.1, c477.2)
  else
    ai_bd (Fm_isCell_89 x474 c476.2) fun c478 =>
    if c478.1 = 0 then
      ai_bd (Fm_badAs_89 (-10) c478.2) fun c479 =>
      some (c479.1, c479.2)
    else
      ai_bd (Fm_in (x475).toInt64 0 4) fun c480 =>
      if c480 = 0 then
        ai_bd (Fm_badAs_89 (-10) c478.2) fun c482 =>
        some (c482.1, c482.2)
      else
        ai_bd (Fm_lay_89 x473 c478.2) fun c481 =>
        Gm_bestHour_89 n 0 x473 x474 x475 (-1) 1000000 0 c481
def Fm_comesTo_89 (x515 : Int32) (x516 : Int32) (x517 : Int32) (w : WM) : Option (Int32 × WM) :=
  ai_bd (ai_ix (a_m_far w) x515) fun v518 =>
  if 1000000 ≤ v518 then
    ai_bd (ai_ix (a_m_far w) x516) fun v519 =>
    ai_bd (ai_up (a_m_far w) x516 v519) fun q520 =>
    some (0, (u_m_far w q520))
  else
    ai_bd (ai_ix (a_m_far w) x515) fun v521 =>
    ai_bd (ai_ix (a_m_far w) x516) fun v522 =>
    if v522 ≤ (v521 + x517) then
      ai_bd (ai_ix (a_m_far w) x516) fun v523 =>
      ai_bd (ai_up (a_m_far w) x516 v523) fun q524 =>
      some (0, (u_m_far w q524))
    else
      ai_bd (ai_ix (a_m_far w) x515) fun v525 =>
      ai_bd (ai_up (a_m_far w) x516 (v525 + x517)) fun q526 =>
      some (1, (u_m_far w q526))
def Fm_isThick_89 (x538 : Int32) (w : WM) : Option (Int32 × WM) :=
  ai_bd (ai_ix (a_m_w w) 1) fun v539 =>
  ai_bd (Fm_thickIn_89 (x538 - x538 / 10 * 10) (x538 / 10) v539 w) fun c540 =>
  if c540.1 ≤ 0 then
    some (0, c540.2)
  else
    some (1, c540.2)
def Gm_soonest_89 : Nat → Nat → Int32 → Int32 → Int32 → Int32 → WM → Option (Int32 × WM)
  | 0, _, _, _, _, _, _ => none
  | n + 1, 0, y497, y498, y499, _, w =>
    if 60 ≤ y499 then
      Gm_soonest_89 n 1 y497 y498 1 0 w
    else
      if y499 = y497 then
        ai_bd (ai_up (a_m_far w) y499 0) fun q501 =>
        Gm_soonest_89 n 0 y497 y498 (y499 + 1) 0 (u_m_far w q501)
      else
        ai_bd (ai_up (a_m_far w) y499 1000000) fun q500 =>
        Gm_soonest_89 n 0 y497 y498 (y499 + 1) 0 (u_m_far w q500)
  | n + 1, 1, y502, y503, y504, _, w =>
    if y504 = 0 then
      ai_bd (ai_ix (a_m_far w) y503) fun v505 =>
      if v505 = 1000000 then
        some ((-1), w)
      else
        ai_bd (ai_ix (a_m_far w) y503) fun v506 =>
        some (v506, w)
    else
      Gm_soonest_89 n 2 y502 y503 0 0 w
  | n + 1, 2, y507, y508, y509, y510, w =>
    ai_bd (ai_ix (a_m_w w) 3) fun v511 =>
    if v511 ≤ y510 then
      Gm_soonest_89 n 3 y507 y508 y509 0 w
    else
      ai_bd (ai_ix (a_m_w w) (91 + y510)) fun v512 =>
      ai_bd (ai_ix (a_m_w w) (101 + y510)) fun v513 =>
      ai_bd (ai_ix (a_m_w w) (111 + y510)) fun v514 =>
      ai_bd (Fm_comesTo_89 v512 v513 v514 w) fun c527 =>
      ai_bd (ai_ix (a_m_w c527.2) (101 + y510)) fun v528 =>
      ai_bd (ai_ix (a_m_w c527.2) (91 + y510)) fun v529 =>
      ai_bd (ai_ix (a_m_w c527.2) (111 + y510)) fun v530 =>
      ai_bd (Fm_comesTo_89 v528 v529 v530 c527.2) fun c531 =>
      Gm_soonest_89 n 2 y507 y508 ((y509 ||| c527.1) ||| c531.1) (y510 + 1) c531.2
  | n + 1, 3, y532, y533, y534, y535, w =>
    ai_bd (ai_ix (a_m_w w) 0) fun v536 =>
    if (10 * v536) ≤ (y535 + 10) then
      Gm_soonest_89 n 1 y532 y533 y534 0 w
    else
      ai_bd (Fm_isLayer (y535 - y535 / 10 * 10)) fun c537 =>
      if c537 = 0 then
        Gm_soonest_89 n 3 y532 y533 y534 (y535 + 1) w
      else
        ai_bd (Fm_isThick_89 y535 w) fun c541 =>
        if c541.1 = 0 then
          Gm_soonest_89 n 3 y532 y533 y534 (y535 + 1) c541.2
        else
          ai_bd (Fm_isThick_89 (y535 + 10) c541.2) fun c542 =>
          if c542.1 = 0 then
            Gm_soonest_89 n 3 y532 y533 y534 (y535 + 1) c542.2
          else
            ai_bd (Fm_comesTo_89 y535 (y535 + 10) 3 c542.2) fun c543 =>
            ai_bd (Fm_comesTo_89 (y535 + 10) y535 3 c543.2) fun c544 =>
            Gm_soonest_89 n 3 y532 y533 ((y534 ||| c543.1) ||| c544.1) (y535 + 1) c544.2
  | _ + 1, _ + 4, _, _, _, _, _ => none
def Fm_soonest_89 (n : Nat) (x491 : Int32) (x492 : Int32) (w : WM) : Option (Int32 × WM) :=
  ai_bd (Fm_isPlaceOf_89 0 x491 w) fun c493 =>
  if c493.1 = 0 then
    ai_bd (Fm_bad_89 c493.2) fun c494 =>
    some (c494.1, c494.2)
  else
    ai_bd (Fm_isPlaceOf_89 0 x492 c493.2) fun c495 =>
    if c495.1 = 0 then
      ai_bd (Fm_bad_89 c495.2) fun c496 =>
      some (c496.1, c496.2)
    else
      Gm_soonest_89 n 0 x491 x492 0 0 c495.2
def Gm_ceilingOf_89 : Nat → Nat → Int32 → Int32 → Int32 → Int32 → WM → Option (Int32 × WM)
  | 0, _, _, _, _, _, _ => none
  | n + 1, 0, y550, y551, y552, y553, w =>
    ai_bd (ai_ix (a_m_w w) 4) fun v554 =>
    if v554 ≤ y553 then
      some (y551, w)
    else
      ai_bd (ai_ix (a_m_w w) (121 + y553)) fun v555 =>
      if (v555 / 10) = (y552 / 10) then
        if y552 ≤ v555 then
          Gm_ceilingOf_89 n 0 y550 y551 y552 (y553 + 1) w
        else
          if y551 = (-1) then
            Gm_ceilingOf_89 n 0 y550 y553 y552 (y553 + 1) w
          else
            ai_bd (ai_ix (a_m_w w) (121 + y551)) fun v556 =>
            if v555 ≤ v556 then
              Gm_ceilingOf_89 n 0 y550 y551 y552 (y553 + 1) w
            else
              Gm_ceilingOf_89 n 0 y550 y553 y552 (y553 + 1) w
      else
        Gm_ceilingOf_89 n 0 y550 y551 y552 (y553 + 1) w
  | _ + 1, _ + 1, _, _, _, _, _ => none
def Fm_ceilingOf_89 (n : Nat) (x548 : Int32) (w : WM) : Option (Int32 × WM) :=
  ai_bd (ai_ix (a_m_w w) (121 + x548)) fun v549 =>
  Gm_ceilingOf_89 n 0 x548 (-1) v549 0 w
def Fm_duesOf_89 (x558 : Int32) (w : WM) : Option (Int32 × WM) :=
  ai_bd (ai_ix (a_m_w w) (121 + x558)) fun v559 =>
  ai_bd (ai_ix (a_m_w w) 1) fun v560 =>
  ai_bd (Fm_thickIn_89 (v559 - v559 / 10 * 10) (v559 / 10) v560 w) fun c561 =>
  some (c561.1, c561.2)
def Gm_net_89 : Nat → Nat → Int32 → Int32 → Int32 → WM → Option (Int32 × WM)
  | 0, _, _, _, _, _ => none
  | n + 1, 0, y564, y565, y566, w =>
    ai_bd (ai_ix (a_m_w w) 4) fun v567 =>
    if v567 ≤ y566 then
      some (y565, w)
    else
      ai_bd (Fm_ceilingOf_89 n y566 w) fun c568 =>
      if c568.1 = y564 then
        ai_bd (Fm_duesOf_89 y566 c568.2) fun c569 =>
        Gm_net_89 n 0 y564 (y565 + c569.1) (y566 + 1) c569.2
      else
        Gm_net_89 n 0 y564 (y565 + 0) (y566 + 1) c568.2
  | _ + 1, _ + 1, _, _, _, _ => none
def Fm_net_89 (n : Nat) (x545 : Int32) (w : WM) : Option (Int32 × WM) :=
  ai_bd (ai_ix (a_m_w w) 4) fun v546 =>
  ai_bd (Fm_in (x545).toInt64 0 ((v546 - 1)).toInt64) fun c547 =>
  if c547 = 0 then
    ai_bd (Fm_badAs_89 (-1000) w) fun c563 =>
    some (c563.1, c563.2)
  else
    ai_bd (Fm_ceilingOf_89 n x545 w) fun c557 =>
    if c557.1 = (-1) then
      Gm_net_89 n 0 x545 0 0 c557.2
    else
      ai_bd (Fm_duesOf_89 x545 c557.2) fun c562 =>
      Gm_net_89 n 0 x545 (-c562.1) 0 c562.2
def Gm_laySpill_89 : Nat → Nat → Int32 → Int32 → Int32 → WM → Option (WM)
  | 0, _, _, _, _, _ => none
  | n + 1, 0, y583, y584, y585, w =>
    if 6 ≤ y585 then
      some (w)
    else
      if y585 = y583 then
        ai_bd (ai_up (a_m_there w) y585 y584) fun q587 =>
        Gm_laySpill_89 n 0 y583 y584 (y585 + 1) (u_m_there w q587)
      else
        ai_bd (ai_up (a_m_there w) y585 0) fun q586 =>
        Gm_laySpill_89 n 0 y583 y584 (y585 + 1) (u_m_there w q586)
  | _ + 1, _ + 1, _, _, _, _ => none
def Fm_laySpill_89 (n : Nat) (x581 : Int32) (x582 : Int32) (w : WM) : Option (WM) :=
  Gm_laySpill_89 n 0 x581 x582 0 w
def Gm_spills_89 : Nat → Nat → Int32 → Int32 → WM → Option (WM)
  | 0, _, _, _, _ => none
  | n + 1, 0, y598, y599, w =>
    ai_bd (ai_ix (a_m_w w) 0) fun v600 =>
    if v600 ≤ y599 then
      Gm_spills_89 n 1 y598 0 w
    else
      ai_bd (ai_ix (a_m_there w) y599) fun v601 =>
      ai_bd (ai_up (a_m_gives w) y599 (v601 / 4)) fun q602 =>
      Gm_spills_89 n 0 y598 (y599 + 1) (u_m_gives w q602)
  | n + 1, 1, y603, y604, w =>
    ai_bd (ai_ix (a_m_w w) 0) fun v605 =>
    if v605 ≤ (y604 + 1) then
      some (w)
    else
      ai_bd (Fm_has y603 y604) fun c606 =>
      if c606 = 0 then
        ai_bd (ai_ix (a_m_there w) y604) fun v607 =>
        ai_bd (ai_ix (a_m_gives w) (y604 + 1)) fun v608 =>
        ai_bd (ai_ix (a_m_gives w) y604) fun v609 =>
        ai_bd (ai_up (a_m_there w) y604 (v607 + (v608 - v609))) fun q610 =>
        ai_bd (ai_ix q610 (y604 + 1)) fun v611 =>
        ai_bd (ai_ix (a_m_gives w) y604) fun v612 =>
        ai_bd (ai_ix (a_m_gives w) (y604 + 1)) fun v613 =>
        ai_bd (ai_up q610 (y604 + 1) (v611 + (v612 - v613))) fun q614 =>
        Gm_spills_89 n 1 y603 (y604 + 1) (u_m_there (u_m_there w q610) q614)
      else
        Gm_spills_89 n 1 y603 (y604 + 1) w
  | _ + 1, _ + 2, _, _, _ => none
def Fm_spills_89 (n : Nat) (x597 : Int32) (w : WM) : Option (WM) :=
  Gm_spills_89 n 0 x597 0 w
def Gm_spill_89 : Nat → Nat → Int32 → Int32 → Int32 → Int32 → Int32 → WM → Option (Int32 × WM)
  | 0, _, _, _, _, _, _, _ => none
  | n + 1, 0, y590, y591, y592, y593, y594, w =>
    if y592 ≤ y594 then
      ai_bd (ai_ix (a_m_there w) y593) fun v595 =>
      some (v595, w)
    else
      ai_bd (ai_ix (a_m_w w) 5) fun v596 =>
      ai_bd (Fm_spills_89 n v596 w) fun c615 =>
      Gm_spill_89 n 0 y590 y591 y592 y593 (y594 + 1) c615
  | _ + 1, _ + 1, _, _, _, _, _, _ => none
def Fm_spill_89 (n : Nat) (x570 : Int32) (x571 : Int32) (x572 : Int32) (x573 : Int32) (w : WM) : Option (Int32 × WM) :=
  ai_bd (Fm_isCell_89 x570 w) fun c574 =>
  if c574.1 = 0 then
    ai_bd (Fm_bad_89 c574.2) fun c575 =>
    some (c575.1, c575.2)
  else
    ai_bd (Fm_in (x571).toInt64 0 999) fun c576 =>
    if c576 = 0 then
      ai_bd (Fm_bad_89 c574.2) fun c577 =>
      some (c577.1, c577.2)
    else
      ai_bd (Fm_in (x572).toInt64 0 40) fun c578 =>
      if c578 = 0 then
        ai_bd (Fm_bad_89 c574.2) fun c579 =>
        some (c579.1, c579.2)
      else
        ai_bd (Fm_isCell_89 x573 c574.2) fun c580 =>
        if c580.1 = 0 then
          ai_bd (Fm_bad_89 c580.2) fun c589 =>
          some (c589.1, c589.2)
        else
          ai_bd (Fm_laySpill_89 n x570 x571 c580.2) fun c588 =>
          Gm_spill_89 n 0 x570 x571 x572 x573 0 c588
def Gm_keepsOut_89 : Nat → Nat → Int32 → Int32 → Int32 → Int32 → Int32 → Int32 → Int32 → WM → Option (Int32 × WM)
  | 0, _, _, _, _, _, _, _, _, _ => none
  | n + 1, 0, y644, y645, y646, y647, y648, y649, _, w =>
    if y646 < y649 then
      some (1, w)
    else
      Gm_keepsOut_89 n 1 y644 y645 y646 y647 y648 y649 0 w
  | n + 1, 1, y650, y651, y652, y653, y654, y655, y656, w =>
    ai_bd (ai_ix (a_m_w w) 0) fun v657 =>
    if v657 ≤ y656 then
      ai_bd (Fm_spills_89 n y654 w) fun c658 =>
      Gm_keepsOut_89 n 0 y650 y651 y652 y653 y654 (y655 + 1) 0 c658
    else
      ai_bd (Fm_has y653 y656) fun c659 =>
      if c659 = 0 then
        Gm_keepsOut_89 n 1 y650 y651 y652 y653 y654 y655 (y656 + 1) w
      else
        ai_bd (ai_ix (a_m_there w) y656) fun v660 =>
        if v660 ≤ 0 then
          Gm_keepsOut_89 n 1 y650 y651 y652 y653 y654 y655 (y656 + 1) w
        else
          some (0, w)
  | _ + 1, _ + 2, _, _, _, _, _, _, _, _ => none
def Fm_keepsOut_89 (n : Nat) (x638 : Int32) (x639 : Int32) (x640 : Int32) (x641 : Int32) (x642 : Int32) (w : WM) : Option (Int32 × WM) :=
  ai_bd (Fm_laySpill_89 n x638 x639 w) fun c643 =>
  Gm_keepsOut_89 n 0 x638 x639 x640 x641 x642 0 0 c643
def Gm_ones : Nat → Nat → Int32 → Int32 → Int32 → Option (Int32)
  | 0, _, _, _, _ => none
  | n + 1, 0, y663, y664, y665 =>
    if 6 ≤ y665 then
      some (y664)
    else
      Gm_ones n 0 y663 (y664 + ((y663 >>> (y665 &&& 31)) &&& 1)) (y665 + 1)
  | _ + 1, _ + 1, _, _, _ => none
def Fm_ones (n : Nat) (x662 : Int32) : Option (Int32) :=
  Gm_ones n 0 x662 0 0
def Gm_keepOut_89 : Nat → Nat → Int32 → Int32 → Int32 → Int32 → Int32 → Int32 → WM → Option (Int32 × WM)
  | 0, _, _, _, _, _, _, _, _ => none
  | n + 1, 0, y629, y630, y631, y632, y633, y634, w =>
    ai_bd (ai_ix (a_m_w w) 0) fun v635 =>
    if (1 <<< ((v635 - 1) &&& 31)) ≤ y634 then
      some (y633, w)
    else
      ai_bd (ai_ix (a_m_w w) 5) fun v636 =>
      if (y634 &&& v636) = 0 then
        if y633 = (-1) then
          ai_bd (ai_ix (a_m_w w) 5) fun v637 =>
          ai_bd (Fm_keepsOut_89 n y629 y630 y631 y632 (v637 ||| y634) w) fun c661 =>
          if c661.1 = 0 then
            Gm_keepOut_89 n 0 y629 y630 y631 y632 y633 (y634 + 1) c661.2
          else
            Gm_keepOut_89 n 0 y629 y630 y631 y632 y634 (y634 + 1) c661.2
        else
          ai_bd (Fm_ones n y634) fun c666 =>
          ai_bd (Fm_ones n y633) fun c667 =>
          if c667 ≤ c666 then
            Gm_keepOut_89 n 0 y629 y630 y631 y632 y633 (y634 + 1) w
          else
            ai_bd (ai_ix (a_m_w w) 5) fun v668 =>
            ai_bd (Fm_keepsOut_89 n y629 y630 y631 y632 (v668 ||| y634) w) fun c669 =>
            if c669.1 = 0 then
              Gm_keepOut_89 n 0 y629 y630 y631 y632 y633 (y634 + 1) c669.2
            else
              Gm_keepOut_89 n 0 y629 y630 y631 y632 y634 (y634 + 1) c669.2
      else
        Gm_keepOut_89 n 0 y629 y630 y631 y632 y633 (y634 + 1) w
  | _ + 1, _ + 1, _, _, _, _, _, _, _ => none
def Fm_keepOut_89 (n : Nat) (x616 : Int32) (x617 : Int32) (x618 : Int32) (x619 : Int32) (w : WM) : Option (Int32 × WM) :=
  ai_bd (Fm_isCell_89 x616 w) fun c620 =>
  if c620.1 = 0 then
    ai_bd (Fm_bad_89 c620.2) fun c621 =>
    some (c621.1, c621.2)
  else
    ai_bd (Fm_in (x617).toInt64 0 999) fun c622 =>
    if c622 = 0 then
      ai_bd (Fm_bad_89 c620.2) fun c623 =>
      some (c623.1, c623.2)
    else
      ai_bd (Fm_in (x618).toInt64 0 40) fun c624 =>
      if c624 = 0 then
        ai_bd (Fm_bad_89 c620.2) fun c625 =>
        some (c625.1, c625.2)
      else
        ai_bd (ai_ix (a_m_w c620.2) 0) fun v626 =>
        ai_bd (Fm_in (x619).toInt64 0 (((1 <<< (v626 &&& 31)) - 1)).toInt64) fun c627 =>
        if c627 = 0 then
          ai_bd (Fm_bad_89 c620.2) fun c628 =>
          some (c628.1, c628.2)
        else
          Gm_keepOut_89 n 0 x616 x617 x618 x619 (-1) 0 c620.2
def Gm_shaken_89 : Nat → Nat → Int32 → Int32 → Int32 → Int32 → Int32 → Int32 → Int32 → WM → Option (Int32 × WM)
  | 0, _, _, _, _, _, _, _, _, _ => none
  | n + 1, 0, y679, y680, y681, y682, y683, _, _, w =>
    if 4 ≤ y683 then
      Gm_shaken_89 n 1 y679 y680 y681 y682 0 0 y679 w
    else
      ai_bd (ai_ix (a_m_w w) 1) fun v684 =>
      ai_bd (Fm_thickIn_89 y683 y680 v684 w) fun c685 =>
      Gm_shaken_89 n 0 y679 y680 y681 (y682 + c685.1) (y683 + 1) 0 0 c685.2
  | n + 1, 1, y686, y687, y688, y689, y690, y691, y692, w =>
    if y692 ≤ 0 then
      if y688 = 0 then
        some (y690, w)
      else
        some (y691, w)
    else
      if y692 ≤ y689 then
        Gm_shaken_89 n 1 y686 y687 y688 y689 (y690 + 1) (y691 + 0) (y692 - ((y692 + 3) / 4)) w
      else
        Gm_shaken_89 n 1 y686 y687 y688 y689 (y690 + 1) (y691 + 1) (y692 - ((y692 + 3) / 4)) w
  | _ + 1, _ + 2, _, _, _, _, _, _, _, _ => none
def Fm_shaken_89 (n : Nat) (x670 : Int32) (x671 : Int32) (x672 : Int32) (w : WM) : Option (Int32 × WM) :=
  ai_bd (Fm_in (x670).toInt64 0 99) fun c673 =>
  if c673 = 0 then
    ai_bd (Fm_bad_89 w) fun c674 =>
    some (c674.1, c674.2)
  else
    ai_bd (Fm_isCell_89 x671 w) fun c675 =>
    if c675.1 = 0 then
      ai_bd (Fm_bad_89 c675.2) fun c676 =>
      some (c676.1, c676.2)
    else
      ai_bd (Fm_in (x672).toInt64 0 1) fun c677 =>
      if c677 = 0 then
        ai_bd (Fm_bad_89 c675.2) fun c678 =>
        some (c678.1, c678.2)
      else
        Gm_shaken_89 n 0 x670 x671 x672 0 0 0 0 c675.2
def Gm_lies_89 : Nat → Nat → Int32 → Int32 → Int32 → Int32 → Int32 → Int32 → Int32 → Int32 → Int32 → WM → Option (Int32 × WM)
  | 0, _, _, _, _, _, _, _, _, _, _, _ => none
  | n + 1, 0, y708, y709, y710, y711, y712, y713, y714, y715, y716, w =>
    if 100 ≤ y716 then
      if y712 = 0 then
        some (y713, w)
      else
        if y712 = 1 then
          some (y714, w)
        else
          some (y715, w)
    else
      ai_bd (Fm_comesDown_89 n y709 (u_m_weight w y716)) fun c717 =>
      if (a_m_restsIn c717) = y710 then
        if y714 = (-1) then
          Gm_lies_89 n 0 y708 y709 y710 y711 y712 (y713 + 1) y716 y716 (y716 + 1) c717
        else
          Gm_lies_89 n 0 y708 y709 y710 y711 y712 (y713 + 1) y714 y716 (y716 + 1) c717
      else
        Gm_lies_89 n 0 y708 y709 y710 y711 y712 y713 y714 y715 (y716 + 1) c717
  | _ + 1, _ + 1, _, _, _, _, _, _, _, _, _, _ => none
def Fm_lies_89 (n : Nat) (x693 : Int32) (x694 : Int32) (x695 : Int32) (x696 : Int32) (x697 : Int32) (w : WM) : Option (Int32 × WM) :=
  ai_bd (Fm_in (x693).toInt64 1 9) fun c698 =>
  if c698 = 0 then
    ai_bd (Fm_badAs_89 (-10) w) fun c699 =>
    some (c699.1, c699.2)
  else
    ai_bd (Fm_isCell_89 x694 w) fun c700 =>
    if c700.1 = 0 then
      ai_bd (Fm_badAs_89 (-10) c700.2) fun c701 =>
      some (c701.1, c701.2)
    else
      ai_bd (Fm_in (x695).toInt64 0 4) fun c702 =>
      if c702 = 0 then
        ai_bd (Fm_badAs_89 (-10) c700.2) fun c703 =>
        some (c703.1, c703.2)
      else
        ai_bd (Fm_in (x696).toInt64 0 999) fun c704 =>
        if c704 = 0 then
          ai_bd (Fm_badAs_89 (-10) c700.2) fun c705 =>
          some (c705.1, c705.2)
        else
          ai_bd (Fm_in (x697).toInt64 0 2) fun c706 =>
          if c706 = 0 then
            ai_bd (Fm_badAs_89 (-10) c700.2) fun c707 =>
            some (c707.1, c707.2)
          else
            Gm_lies_89 n 0 x693 x694 x695 x696 x697 0 (-1) (-1) 1 (u_m_torn (u_m_hour (u_m_load (u_m_volume (u_m_kind c700.2 4) x693) 0) x696) 0)
def Gm_driftsTo_89 : Nat → Nat → Int32 → Int32 → Int32 → Int32 → Int32 → WM → Option (Int32 × WM)
  | 0, _, _, _, _, _, _, _ => none
  | n + 1, 0, y732, y733, y734, _, _, w =>
    if 4 ≤ y734 then
      some (y733, w)
    else
      ai_bd (Fm_has (a_m_passes w) y734) fun c735 =>
      if c735 = 0 then
        Gm_driftsTo_89 n 1 y732 y733 y734 0 0 w
      else
        ai_bd (Fm_thickIn_89 y734 y732 (a_m_hour w) w) fun c736 =>
        Gm_driftsTo_89 n 1 y732 y733 y734 c736.1 0 c736.2
  | n + 1, 1, y737, y738, y739, y740, y741, w =>
    if y740 ≤ y741 then
      Gm_driftsTo_89 n 0 y737 y738 (y739 + 1) 0 0 w
    else
      ai_bd (ai_ix (a_m_w w) (12 + y739)) fun v742 =>
      ai_bd (Fm_isCell_89 (y738 + v742) w) fun c743 =>
      if c743.1 = 0 then
        Gm_driftsTo_89 n 1 y737 y738 y739 y740 (y741 + 1) c743.2
      else
        ai_bd (ai_ix (a_m_w c743.2) (12 + y739)) fun v744 =>
        Gm_driftsTo_89 n 1 y737 (y738 + v744) y739 y740 (y741 + 1) c743.2
  | _ + 1, _ + 2, _, _, _, _, _, _ => none
def Fm_driftsTo_89 (n : Nat) (x730 : Int32) (w : WM) : Option (Int32 × WM) :=
  ai_bd (Fm_comesDown_89 n x730 w) fun c731 =>
  Gm_driftsTo_89 n 0 x730 x730 0 0 0 c731
def Gm_wentIn_89 : Nat → Nat → Int32 → Int32 → Int32 → Int32 → WM → Option (Int32 × WM)
  | 0, _, _, _, _, _, _ => none
  | n + 1, 0, y725, y726, y727, y728, w =>
    ai_bd (ai_ix (a_m_w w) 0) fun v729 =>
    if v729 ≤ y728 then
      some (y727, w)
    else
      ai_bd (Fm_driftsTo_89 n y728 w) fun c745 =>
      if c745.1 = y726 then
        Gm_wentIn_89 n 0 y725 y726 (y727 ||| (1 <<< (y728 &&& 31))) (y728 + 1) c745.2
      else
        Gm_wentIn_89 n 0 y725 y726 (y727 ||| 0) (y728 + 1) c745.2
  | _ + 1, _ + 1, _, _, _, _, _ => none
def Fm_wentIn_89 (n : Nat) (x718 : Int32) (x719 : Int32) (w : WM) : Option (Int32 × WM) :=
  ai_bd (Fm_isThing_89 x718 w) fun c720 =>
  if c720.1 = 0 then
    ai_bd (Fm_bad_89 c720.2) fun c721 =>
    some (c721.1, c721.2)
  else
    ai_bd (Fm_isCell_89 x719 c720.2) fun c722 =>
    if c722.1 = 0 then
      ai_bd (Fm_bad_89 c722.2) fun c724 =>
      some (c724.1, c724.2)
    else
      ai_bd (Fm_lay_89 x718 c722.2) fun c723 =>
      Gm_wentIn_89 n 0 x718 x719 0 0 c723
def Gm_nets_89 : Nat → Nat → Int32 → Int32 → Int32 → Int32 → Int32 → Int32 → Int32 → Int32 → Int32 → Int32 → WM → Option (Int32 × WM)
  | 0, _, _, _, _, _, _, _, _, _, _, _, _ => none
  | n + 1, 0, y756, y757, y758, y759, _, _, _, _, _, _, w =>
    ai_bd (ai_ix (a_m_w w) 2) fun v760 =>
    if v760 ≤ y759 then
      Gm_nets_89 n 1 y756 y757 y758 0 (-1) 0 0 0 0 0 w
    else
      ai_bd (Fm_has y757 y759) fun c761 =>
      if c761 = 0 then
        Gm_nets_89 n 0 y756 y757 y758 (y759 + 1) 0 0 0 0 0 0 w
      else
        ai_bd (ai_ix (a_m_w w) (67 + y759)) fun v762 =>
        if v762 = 5 then
          Gm_nets_89 n 0 y756 y757 y758 (y759 + 1) 0 0 0 0 0 0 w
        else
          ai_bd (Fm_badAs_89 (-10) w) fun c763 =>
          some (c763.1, c763.2)
  | n + 1, 1, y764, y765, y766, y767, y768, y769, _, _, _, _, w =>
    if 3721 ≤ y769 then
      if y766 = 0 then
        some (y767, w)
      else
        some (y768, w)
    else
      if (y769 - y769 / 61 * 61) < (y769 / 61) then
        Gm_nets_89 n 2 y764 y765 y766 y767 y768 y769 (y769 / 61) (y769 - y769 / 61 * 61) 0 0 w
      else
        Gm_nets_89 n 2 y764 y765 y766 y767 y768 y769 (y769 / 61) (y769 - y769 / 61 * 61) 1 0 w
  | n + 1, 2, y770, y771, y772, y773, y774, y775, y776, y777, y778, y779, w =>
    ai_bd (ai_ix (a_m_w w) 2) fun v780 =>
    if v780 ≤ y779 then
      if y778 = 0 then
        if y778 = 0 then
          Gm_nets_89 n 1 y770 y771 y772 (y773 + 0) y774 (y775 + 1) 0 0 0 0 w
        else
          Gm_nets_89 n 1 y770 y771 y772 (y773 + 1) y774 (y775 + 1) 0 0 0 0 w
      else
        if y773 = 0 then
          if y778 = 0 then
            Gm_nets_89 n 1 y770 y771 y772 (y773 + 0) ((100 * y776) + y777) (y775 + 1) 0 0 0 0 w
          else
            Gm_nets_89 n 1 y770 y771 y772 (y773 + 1) ((100 * y776) + y777) (y775 + 1) 0 0 0 0 w
        else
          if y778 = 0 then
            Gm_nets_89 n 1 y770 y771 y772 (y773 + 0) y774 (y775 + 1) 0 0 0 0 w
          else
            Gm_nets_89 n 1 y770 y771 y772 (y773 + 1) y774 (y775 + 1) 0 0 0 0 w
    else
      if y778 = 0 then
        if y778 = 0 then
          if y778 = 0 then
            Gm_nets_89 n 1 y770 y771 y772 (y773 + 0) y774 (y775 + 1) 0 0 0 0 w
          else
            Gm_nets_89 n 1 y770 y771 y772 (y773 + 1) y774 (y775 + 1) 0 0 0 0 w
        else
          if y773 = 0 then
            if y778 = 0 then
              Gm_nets_89 n 1 y770 y771 y772 (y773 + 0) ((100 * y776) + y777) (y775 + 1) 0 0 0 0 w
            else
              Gm_nets_89 n 1 y770 y771 y772 (y773 + 1) ((100 * y776) + y777) (y775 + 1) 0 0 0 0 w
          else
            if y778 = 0 then
              Gm_nets_89 n 1 y770 y771 y772 (y773 + 0) y774 (y775 + 1) 0 0 0 0 w
            else
              Gm_nets_89 n 1 y770 y771 y772 (y773 + 1) y774 (y775 + 1) 0 0 0 0 w
      else
        ai_bd (ai_ix (a_m_w w) (67 + y779)) fun v781 =>
        if v781 = 5 then
          ai_bd (Fm_lay_89 y779 w) fun c782 =>
          ai_bd (Fm_comesDown_89 n y770 c782) fun c783 =>
          ai_bd (Fm_in ((a_m_down c783)).toInt64 (y776).toInt64 (y777).toInt64) fun c784 =>
          ai_bd (Fm_has y771 y779) fun c785 =>
          if c784 = c785 then
            Gm_nets_89 n 2 y770 y771 y772 y773 y774 y775 y776 y777 1 (y779 + 1) c783
          else
            Gm_nets_89 n 2 y770 y771 y772 y773 y774 y775 y776 y777 0 (y779 + 1) c783
        else
          Gm_nets_89 n 2 y770 y771 y772 y773 y774 y775 y776 y777 y778 (y779 + 1) w
  | _ + 1, _ + 3, _, _, _, _, _, _, _, _, _, _, _ => none
def Fm_nets_89 (n : Nat) (x746 : Int32) (x747 : Int32) (x748 : Int32) (w : WM) : Option (Int32 × WM) :=
  ai_bd (Fm_isCell_89 x746 w) fun c749 =>
  if c749.1 = 0 then
    ai_bd (Fm_badAs_89 (-10) c749.2) fun c750 =>
    some (c750.1, c750.2)
  else
    ai_bd (ai_ix (a_m_w c749.2) 2) fun v751 =>
    ai_bd (Fm_in (x747).toInt64 0 (((1 <<< (v751 &&& 31)) - 1)).toInt64) fun c752 =>
    if c752 = 0 then
      ai_bd (Fm_badAs_89 (-10) c749.2) fun c753 =>
      some (c753.1, c753.2)
    else
      ai_bd (Fm_in (x748).toInt64 0 1) fun c754 =>
      if c754 = 0 then
        ai_bd (Fm_badAs_89 (-10) c749.2) fun c755 =>
        some (c755.1, c755.2)
      else
        Gm_nets_89 n 0 x746 x747 x748 0 0 0 0 0 0 0 c749.2
def Fm_tapped_89 (x814 : Int32) (x815 : Int32) (x816 : Int32) : Option (Int32) :=
  if (x814 + x815) ≤ x816 then
    some ((x814 - 0))
  else
    some ((x814 - (2 * ((x814 + x815) - x816))))
def Gm_tap_89 : Nat → Nat → Int32 → Int32 → Int32 → Int32 → Int32 → Int32 → Int32 → Int32 → WM → Option (Int32 × WM)
  | 0, _, _, _, _, _, _, _, _, _, _ => none
  | n + 1, 0, y789, y790, y791, _, _, _, _, _, w =>
    ai_bd (ai_ix (a_m_w w) 0) fun v792 =>
    if v792 ≤ y791 then
      Gm_tap_89 n 1 y789 y790 0 (-1) 0 0 0 0 w
    else
      ai_bd (ai_ix (a_m_w w) 1) fun v793 =>
      ai_bd (Fm_thickIn_89 0 y791 v793 w) fun c794 =>
      Gm_tap_89 n 0 y789 (y790 + c794.1) (y791 + 1) 0 0 0 0 0 c794.2
  | n + 1, 1, y795, y796, y797, y798, y799, _, _, _, w =>
    if 10 ≤ y799 then
      if y795 = 0 then
        some (y797, w)
      else
        some (y798, w)
    else
      Gm_tap_89 n 2 y795 y796 y797 y798 y799 0 0 0 w
  | n + 1, 2, y800, y801, y802, y803, y804, y805, _, _, w =>
    if 10 ≤ y805 then
      Gm_tap_89 n 1 y800 y801 y802 y803 (y804 + 1) 0 0 0 w
    else
      Gm_tap_89 n 3 y800 y801 y802 y803 y804 y805 1 0 w
  | n + 1, 3, y806, y807, y808, y809, y810, y811, y812, y813, w =>
    if 10 ≤ y813 then
      if y812 = 0 then
        if y812 = 0 then
          Gm_tap_89 n 2 y806 y807 (y808 + 0) y809 y810 (y811 + 1) 0 0 w
        else
          Gm_tap_89 n 2 y806 y807 (y808 + 1) y809 y810 (y811 + 1) 0 0 w
      else
        if y808 = 0 then
          if y812 = 0 then
            Gm_tap_89 n 2 y806 y807 (y808 + 0) ((10 * y810) + y811) y810 (y811 + 1) 0 0 w
          else
            Gm_tap_89 n 2 y806 y807 (y808 + 1) ((10 * y810) + y811) y810 (y811 + 1) 0 0 w
        else
          if y812 = 0 then
            Gm_tap_89 n 2 y806 y807 (y808 + 0) y809 y810 (y811 + 1) 0 0 w
          else
            Gm_tap_89 n 2 y806 y807 (y808 + 1) y809 y810 (y811 + 1) 0 0 w
    else
      if y812 = 0 then
        Gm_tap_89 n 3 y806 y807 y808 y809 y810 y811 0 (y813 + 1) w
      else
        ai_bd (Fm_tapped_89 y813 y811 y807) fun c817 =>
        ai_bd (Fm_tapped_89 y810 y811 y807) fun c818 =>
        if c818 < c817 then
          Gm_tap_89 n 3 y806 y807 y808 y809 y810 y811 0 (y813 + 1) w
        else
          ai_bd (Fm_tapped_89 y813 y810 y807) fun c819 =>
          ai_bd (Fm_tapped_89 y811 y810 y807) fun c820 =>
          if c820 < c819 then
            Gm_tap_89 n 3 y806 y807 y808 y809 y810 y811 0 (y813 + 1) w
          else
            Gm_tap_89 n 3 y806 y807 y808 y809 y810 y811 1 (y813 + 1) w
  | _ + 1, _ + 4, _, _, _, _, _, _, _, _, _ => none
def Fm_tap_89 (n : Nat) (x786 : Int32) (w : WM) : Option (Int32 × WM) :=
  ai_bd (Fm_in (x786).toInt64 0 1) fun c787 =>
  if c787 = 0 then
    ai_bd (Fm_badAs_89 (-10) w) fun c788 =>
    some (c788.1, c788.2)
  else
    Gm_tap_89 n 0 x786 0 0 0 0 0 0 0 w
def Gm_fits_89 : Nat → Nat → Int32 → Int32 → Int32 → Int32 → WM → Option (Int32 × WM)
  | 0, _, _, _, _, _, _ => none
  | n + 1, 0, y833, y834, y835, y836, w =>
    ai_bd (ai_ix (a_m_w w) 6) fun v837 =>
    if v837 ≤ y836 then
      if y835 = 0 ∨ y835 = 1 then some (y835, w) else none
    else
      if y835 = 0 then
        Gm_fits_89 n 0 y833 y834 0 (y836 + 1) w
      else
        ai_bd (ai_ix (a_m_w w) (127 + y836)) fun v838 =>
        ai_bd (ai_ix (a_m_w w) (8 + v838)) fun v839 =>
        if (y834 * v839) < y833 then
          ai_bd (ai_ix (a_m_w w) (133 + y836)) fun v840 =>
          if v840 = 1 then
            Gm_fits_89 n 0 y833 y834 0 (y836 + 1) w
          else
            Gm_fits_89 n 0 y833 y834 1 (y836 + 1) w
        else
          ai_bd (ai_ix (a_m_w w) (133 + y836)) fun v841 =>
          if v841 = 1 then
            Gm_fits_89 n 0 y833 y834 1 (y836 + 1) w
          else
            Gm_fits_89 n 0 y833 y834 0 (y836 + 1) w
  | _ + 1, _ + 1, _, _, _, _, _ => none
def Fm_fits_89 (n : Nat) (x831 : Int32) (x832 : Int32) (w : WM) : Option (Int32 × WM) :=
  Gm_fits_89 n 0 x831 x832 1 0 w
def Gm_known_89 : Nat → Nat → Int32 → Int32 → Int32 → Int32 → Int32 → Int32 → Int32 → Int32 → WM → Option (Int32 × WM)
  | 0, _, _, _, _, _, _, _, _, _, _ => none
  | n + 1, 0, y827, y828, y829, y830, _, _, _, _, w =>
    if 100 ≤ y830 then
      Gm_known_89 n 1 y827 y828 y829 (-1) 1000000 0 0 0 w
    else
      ai_bd (Fm_fits_89 n y830 y827 w) fun c842 =>
      if c842.1 = 0 then
        Gm_known_89 n 0 y827 y828 (y829 + 0) (y830 + 1) 0 0 0 0 c842.2
      else
        Gm_known_89 n 0 y827 y828 (y829 + 1) (y830 + 1) 0 0 0 0 c842.2
  | n + 1, 1, y843, y844, y845, y846, y847, y848, _, _, w =>
    if 4 ≤ y848 then
      if y844 = 0 then
        some (y845, w)
      else
        some (y846, w)
    else
      if y845 ≤ 0 then
        if y844 = 0 then
          some (y845, w)
        else
          some (y846, w)
      else
        Gm_known_89 n 2 y843 y844 y845 y846 y847 y848 0 1 w
  | n + 1, 2, y849, y850, y851, y852, y853, y854, y855, y856, w =>
    if 100 ≤ y856 then
      if y855 ≤ (y851 - y855) then
        if y853 ≤ (y851 - y855) then
          if y853 ≤ (y851 - y855) then
            Gm_known_89 n 1 y849 y850 y851 y852 y853 (y854 + 1) 0 0 w
          else
            Gm_known_89 n 1 y849 y850 y851 y852 (y851 - y855) (y854 + 1) 0 0 w
        else
          if y853 ≤ (y851 - y855) then
            Gm_known_89 n 1 y849 y850 y851 y854 y853 (y854 + 1) 0 0 w
          else
            Gm_known_89 n 1 y849 y850 y851 y854 (y851 - y855) (y854 + 1) 0 0 w
      else
        if y853 ≤ y855 then
          if y853 ≤ y855 then
            Gm_known_89 n 1 y849 y850 y851 y852 y853 (y854 + 1) 0 0 w
          else
            Gm_known_89 n 1 y849 y850 y851 y852 y855 (y854 + 1) 0 0 w
        else
          if y853 ≤ y855 then
            Gm_known_89 n 1 y849 y850 y851 y854 y853 (y854 + 1) 0 0 w
          else
            Gm_known_89 n 1 y849 y850 y851 y854 y855 (y854 + 1) 0 0 w
    else
      ai_bd (Fm_fits_89 n y856 y849 w) fun c857 =>
      if c857.1 = 0 then
        Gm_known_89 n 2 y849 y850 y851 y852 y853 y854 (y855 + 0) (y856 + 1) c857.2
      else
        ai_bd (ai_ix (a_m_w c857.2) (8 + y854)) fun v858 =>
        if (y849 * v858) < y856 then
          Gm_known_89 n 2 y849 y850 y851 y852 y853 y854 (y855 + 0) (y856 + 1) c857.2
        else
          Gm_known_89 n 2 y849 y850 y851 y852 y853 y854 (y855 + 1) (y856 + 1) c857.2
  | _ + 1, _ + 3, _, _, _, _, _, _, _, _, _ => none
def Fm_known_89 (n : Nat) (x821 : Int32) (x822 : Int32) (w : WM) : Option (Int32 × WM) :=
  ai_bd (Fm_in (x821).toInt64 1 9) fun c823 =>
  if c823 = 0 then
    ai_bd (Fm_badAs_89 (-10) w) fun c824 =>
    some (c824.1, c824.2)
  else
    ai_bd (Fm_in (x822).toInt64 0 1) fun c825 =>
    if c825 = 0 then
      ai_bd (Fm_badAs_89 (-10) w) fun c826 =>
      some (c826.1, c826.2)
    else
      Gm_known_89 n 0 x821 x822 0 1 0 0 0 0 w
def Gm_tells_89 : Nat → Nat → Int64 → Int64 → Int64 → Int64 → WM → Option (WM)
  | 0, _, _, _, _, _, _ => none
  | n + 1, 0, y891, y892, y893, y894, w =>
    if (lg_cmp y894 0) = 0 then
      if y893 = 0 then none else
        if y893 = 0 then none else
          some ((u_m_below (u_m_above w (y891 / y893)) (y892 / y893)))
    else
      if y894 = 0 then none else
        Gm_tells_89 n 0 y891 y892 y894 (y893 - y893 / y894 * y894) w
  | _ + 1, _ + 1, _, _, _, _, _ => none
def Fm_tells_89 (n : Nat) (x889 : Int64) (x890 : Int64) (w : WM) : Option (WM) :=
  Gm_tells_89 n 0 x889 x890 x889 x890 w
def Gm_storm_89 : Nat → Nat → Int32 → Int32 → Int32 → Int32 → Int32 → Int32 → Int32 → Int64 → Int64 → Int64 → Int64 → WM → Option (Int32 × WM)
  | 0, _, _, _, _, _, _, _, _, _, _, _, _, _ => none
  | n + 1, 0, y871, y872, y873, y874, y877, _, _, y875, y876, _, _, w =>
    if y873 ≤ y877 then
      ai_bd (Fm_lay_89 y871 w) fun c878 =>
      ai_bd (Fm_comesDown_89 n y872 c878) fun c879 =>
      Gm_storm_89 n 1 y871 y872 y873 y874 (a_m_restsIn c879) 0 0 y875 y876 0 0 c879
    else
      Gm_storm_89 n 0 y871 y872 y873 y874 (y877 + 1) 0 0 (y875 * 10) (y876 * ((10 - y874)).toInt64) 0 0 w
  | n + 1, 1, y880, y881, y882, y883, y886, y888, _, y884, y885, y887, _, w =>
    if 8 ≤ y888 then
      ai_bd (Fm_tells_89 n y887 ((y884 * y884) * y884) (u_m_torn w 0)) fun c895 =>
      some (1, c895)
    else
      Gm_storm_89 n 2 y880 y881 y882 y883 y886 y888 0 y884 y885 y887 1 w
  | n + 1, 2, y896, y897, y898, y899, y902, y904, y906, y900, y901, y903, y905, w =>
    if 3 ≤ y906 then
      ai_bd (Fm_comesDown_89 n y897 (u_m_torn w y904)) fun c907 =>
      if (a_m_restsIn c907) ≤ y902 then
        Gm_storm_89 n 1 y896 y897 y898 y899 y902 (y904 + 1) 0 y900 y901 (y903 + 0) 0 c907
      else
        Gm_storm_89 n 1 y896 y897 y898 y899 y902 (y904 + 1) 0 y900 y901 (y903 + y905) 0 c907
    else
      ai_bd (Fm_has y904 y906) fun c908 =>
      if c908 = 0 then
        Gm_storm_89 n 2 y896 y897 y898 y899 y902 y904 (y906 + 1) y900 y901 y903 (y905 * y901) w
      else
        Gm_storm_89 n 2 y896 y897 y898 y899 y902 y904 (y906 + 1) y900 y901 y903 (y905 * (y900 - y901)) w
  | _ + 1, _ + 3, _, _, _, _, _, _, _, _, _, _, _, _ => none
def Fm_storm_89 (n : Nat) (x859 : Int32) (x860 : Int32) (x861 : Int32) (x862 : Int32) (w : WM) : Option (Int32 × WM) :=
  ai_bd (Fm_isThing_89 x859 w) fun c863 =>
  if c863.1 = 0 then
    ai_bd (Fm_bad_89 c863.2) fun c864 =>
    some (c864.1, c864.2)
  else
    ai_bd (Fm_isCell_89 x860 c863.2) fun c865 =>
    if c865.1 = 0 then
      ai_bd (Fm_bad_89 c865.2) fun c866 =>
      some (c866.1, c866.2)
    else
      ai_bd (Fm_in (x861).toInt64 0 5) fun c867 =>
      if c867 = 0 then
        ai_bd (Fm_bad_89 c865.2) fun c868 =>
        some (c868.1, c868.2)
      else
        ai_bd (Fm_in (x862).toInt64 0 10) fun c869 =>
        if c869 = 0 then
          ai_bd (Fm_bad_89 c865.2) fun c870 =>
          some (c870.1, c870.2)
        else
          Gm_storm_89 n 0 x859 x860 x861 x862 0 0 0 1 1 0 0 c865.2
def Fm_part_89 (x909 : Int32) (w : WM) : Option (Int64 × WM) :=
  if x909 = 0 then
    some ((a_m_above w), w)
  else
    if x909 = 1 then
      some ((a_m_below w), w)
    else
      ai_bd (Fm_bad_89 w) fun c910 =>
      some ((c910.1).toInt64, c910.2)
def Fm_image_89 (n : Nat) (x911 : Int32) (w : WM) : Option (Int32 × WM) :=
  ai_bd (Fm_in (x911).toInt64 0 1) fun c912 =>
  if c912 = 0 then
    ai_bd (Fm_bad_89 w) fun c915 =>
    some (c915.1, c915.2)
  else
    ai_bd (Fm_copy_89 n 0 (149 * (1 + x911)) w) fun c913 =>
    ai_bd (ai_up (a_m_isKept c913) x911 (vp_nar .boolean 1)) fun q914 =>
    some (1, (u_m_isKept c913 q914))
def Fm_from_89 (n : Nat) (x916 : Int32) (w : WM) : Option (Int32 × WM) :=
  ai_bd (Fm_in (x916).toInt64 0 1) fun c917 =>
  if c917 = 0 then
    ai_bd (Fm_bad_89 w) fun c921 =>
    some (c921.1, c921.2)
  else
    ai_bd (ai_ix (a_m_isKept w) x916) fun v918 =>
    if v918 = 0 then
      ai_bd (Fm_met_89 (-3) w) fun c920 =>
      some (c920.1, c920.2)
    else
      ai_bd (Fm_copy_89 n (149 * (1 + x916)) 0 w) fun c919 =>
      some (1, c919)
def Fm_status_89 (x922 : Int32) (w : WM) : Option (Int32 × WM) :=
  ai_bd (Fm_in (x922).toInt64 0 2) fun c923 =>
  if c923 = 0 then
    ai_bd (Fm_badAs_89 (-1) w) fun c924 =>
    some (c924.1, c924.2)
  else
    ai_bd (ai_ix (a_m_refused w) x922) fun v925 =>
    some (v925, w)
def Fm_countOf_89 (x929 : Int32) (w : WM) : Option (Int32 × WM) :=
  if x929 = 0 then
    ai_bd (ai_ix (a_m_w w) 0) fun v930 =>
    some (v930, w)
  else
  if x929 = 1 then
    ai_bd (ai_ix (a_m_w w) 1) fun v931 =>
    some (v931, w)
  else
  if x929 = 2 then
    ai_bd (ai_ix (a_m_w w) 2) fun v932 =>
    some (v932, w)
  else
  if x929 = 3 then
    ai_bd (ai_ix (a_m_w w) 3) fun v933 =>
    some (v933, w)
  else
  if x929 = 4 then
    ai_bd (ai_ix (a_m_w w) 4) fun v934 =>
    some (v934, w)
  else
  if x929 = 5 then
    ai_bd (ai_ix (a_m_w w) 5) fun v935 =>
    some (v935, w)
  else
  if x929 = 6 then
    ai_bd (ai_ix (a_m_w w) 6) fun v936 =>
    some (v936, w)
  else
  if x929 = 7 then
    ai_bd (ai_ix (a_m_w w) 7) fun v937 =>
    some (v937, w)
  else
    some ((a_m_texted w), w)
def Fm_count_89 (x926 : Int32) (w : WM) : Option (Int32 × WM) :=
  ai_bd (Fm_in (x926).toInt64 0 8) fun c927 =>
  if c927 = 0 then
    ai_bd (Fm_bad_89 w) fun c928 =>
    some (c928.1, c928.2)
  else
    ai_bd (Fm_countOf_89 x926 w) fun c938 =>
    some (c938.1, c938.2)
def Fm_mix_89 (x942 : Int64) (w : WM) : Option (WM) :=
  some ((u_m_h w ((31 * (a_m_h w)) + x942)))
def Gm_mixSea_89 : Nat → Nat → Int32 → Int32 → WM → Option (WM)
  | 0, _, _, _, _ => none
  | n + 1, 0, y940, _, w =>
    if 4 ≤ y940 then
      Gm_mixSea_89 n 3 0 0 w
    else
      ai_bd (ai_ix (a_m_w w) (8 + y940)) fun v941 =>
      ai_bd (Fm_mix_89 (v941).toInt64 w) fun c943 =>
      ai_bd (ai_ix (a_m_w c943) (12 + y940)) fun v944 =>
      ai_bd (Fm_mix_89 (v944).toInt64 c943) fun c945 =>
      Gm_mixSea_89 n 1 y940 0 c945
  | n + 1, 1, y949, y950, w =>
    if 6 ≤ y950 then
      Gm_mixSea_89 n 2 y949 0 w
    else
      ai_bd (ai_ix (a_m_w w) ((16 + (6 * y949)) + y950)) fun v951 =>
      ai_bd (Fm_mix_89 (v951).toInt64 w) fun c952 =>
      Gm_mixSea_89 n 1 y949 (y950 + 1) c952
  | n + 1, 2, y955, y956, w =>
    ai_bd (ai_ix (a_m_w w) 0) fun v957 =>
    if v957 ≤ y956 then
      Gm_mixSea_89 n 0 (y955 + 1) 0 w
    else
      ai_bd (ai_ix (a_m_w w) ((40 + (6 * y955)) + y956)) fun v958 =>
      ai_bd (Fm_mix_89 (v958).toInt64 w) fun c959 =>
      Gm_mixSea_89 n 2 y955 (y956 + 1) c959
  | n + 1, 3, y946, _, w =>
    if 3 ≤ y946 then
      Gm_mixSea_89 n 4 0 0 w
    else
      ai_bd (ai_ix (a_m_w w) (64 + y946)) fun v947 =>
      ai_bd (Fm_mix_89 (v947).toInt64 w) fun c948 =>
      Gm_mixSea_89 n 3 (y946 + 1) 0 c948
  | n + 1, 4, y953, _, w =>
    ai_bd (ai_ix (a_m_w w) 2) fun v954 =>
    if v954 ≤ y953 then
      some (w)
    else
      Gm_mixSea_89 n 5 y953 0 w
  | n + 1, 5, y960, y961, w =>
    if 4 ≤ y961 then
      Gm_mixSea_89 n 4 (y960 + 1) 0 w
    else
      ai_bd (ai_ix (a_m_w w) ((67 + (6 * y961)) + y960)) fun v962 =>
      ai_bd (Fm_mix_89 (v962).toInt64 w) fun c963 =>
      Gm_mixSea_89 n 5 y960 (y961 + 1) c963
  | _ + 1, _ + 6, _, _, _ => none
def Fm_mixSea_89 (n : Nat) (w : WM) : Option (WM) :=
  Gm_mixSea_89 n 0 0 0 w
def Gm_digest_89 : Nat → Nat → Int32 → WM → Option (Int64 × WM)
  | 0, _, _, _ => none
  | n + 1, 0, y939, w =>
    if 9 ≤ y939 then
      ai_bd (Fm_mixSea_89 n w) fun c964 =>
      Gm_digest_89 n 1 0 c964
    else
      ai_bd (Fm_countOf_89 y939 w) fun c965 =>
      ai_bd (Fm_mix_89 (c965.1).toInt64 c965.2) fun c966 =>
      Gm_digest_89 n 0 (y939 + 1) c966
  | n + 1, 1, y967, w =>
    ai_bd (ai_ix (a_m_w w) 3) fun v968 =>
    if v968 ≤ y967 then
      Gm_digest_89 n 2 0 w
    else
      ai_bd (ai_ix (a_m_w w) (91 + y967)) fun v969 =>
      ai_bd (Fm_mix_89 (v969).toInt64 w) fun c970 =>
      ai_bd (ai_ix (a_m_w c970) (101 + y967)) fun v971 =>
      ai_bd (Fm_mix_89 (v971).toInt64 c970) fun c972 =>
      ai_bd (ai_ix (a_m_w c972) (111 + y967)) fun v973 =>
      ai_bd (Fm_mix_89 (v973).toInt64 c972) fun c974 =>
      Gm_digest_89 n 1 (y967 + 1) c974
  | n + 1, 2, y975, w =>
    ai_bd (ai_ix (a_m_w w) 4) fun v976 =>
    if v976 ≤ y975 then
      Gm_digest_89 n 3 0 w
    else
      ai_bd (ai_ix (a_m_w w) (121 + y975)) fun v977 =>
      ai_bd (Fm_mix_89 (v977).toInt64 w) fun c978 =>
      Gm_digest_89 n 2 (y975 + 1) c978
  | n + 1, 3, y979, w =>
    ai_bd (ai_ix (a_m_w w) 6) fun v980 =>
    if v980 ≤ y979 then
      ai_bd (Fm_mix_89 (a_m_above w) w) fun c981 =>
      ai_bd (Fm_mix_89 (a_m_below c981) c981) fun c982 =>
      some ((a_m_h c982), c982)
    else
      ai_bd (ai_ix (a_m_w w) (127 + y979)) fun v983 =>
      ai_bd (Fm_mix_89 (v983).toInt64 w) fun c984 =>
      ai_bd (ai_ix (a_m_w c984) (133 + y979)) fun v985 =>
      ai_bd (Fm_mix_89 (v985).toInt64 c984) fun c986 =>
      Gm_digest_89 n 3 (y979 + 1) c986
  | _ + 1, _ + 4, _, _ => none
def Fm_digest_89 (n : Nat) (w : WM) : Option (Int64 × WM) :=
  Gm_digest_89 n 0 0 (u_m_h w 887)
def Ff_within (x989 : Int32) (x990 : Int32) (x991 : Int32) : Option (Int32) :=
  if x989 < x990 then
    some (0)
  else
    if x991 < x989 then
      some (0)
    else
      some (1)
def Garr_fill_3 : Nat → Nat → Int32 → Int32 → Int32 → WX → Option (WX)
  | 0, _, _, _, _, _ => none
  | n + 1, 0, y995, y996, y997, w =>
    if y997 ≤ y996 then
      some (w)
    else
      ai_bd (ai_up (a_s1_currents w) y996 y995) fun q998 =>
      Garr_fill_3 n 0 y995 (y996 + 1) y997 (u_s1_currents w q998)
  | _ + 1, _ + 1, _, _, _, _ => none
def Farr_fill_3 (n : Nat) (x994 : Int32) (w : WX) : Option (WX) :=
  Garr_fill_3 n 0 x994 0 (Int32.ofNat (List.length (a_s1_currents w))) w
def Garr_fill_4 : Nat → Nat → Int32 → Int32 → Int32 → WX → Option (WX)
  | 0, _, _, _, _, _ => none
  | n + 1, 0, y1001, y1002, y1003, w =>
    if y1003 ≤ y1002 then
      some (w)
    else
      ai_bd (ai_up (a_s1_tides w) y1002 y1001) fun q1004 =>
      Garr_fill_4 n 0 y1001 (y1002 + 1) y1003 (u_s1_tides w q1004)
  | _ + 1, _ + 1, _, _, _, _ => none
def Farr_fill_4 (n : Nat) (x1000 : Int32) (w : WX) : Option (WX) :=
  Garr_fill_4 n 0 x1000 0 (Int32.ofNat (List.length (a_s1_tides w))) w
def Garr_fill_5 : Nat → Nat → Int32 → Int32 → Int32 → WX → Option (WX)
  | 0, _, _, _, _, _ => none
  | n + 1, 0, y1007, y1008, y1009, w =>
    if y1009 ≤ y1008 then
      some (w)
    else
      ai_bd (ai_up (a_s1_thicks w) y1008 y1007) fun q1010 =>
      Garr_fill_5 n 0 y1007 (y1008 + 1) y1009 (u_s1_thicks w q1010)
  | _ + 1, _ + 1, _, _, _, _ => none
def Farr_fill_5 (n : Nat) (x1006 : Int32) (w : WX) : Option (WX) :=
  Garr_fill_5 n 0 x1006 0 (Int32.ofNat (List.length (a_s1_thicks w))) w
def Garr_fill_6 : Nat → Nat → Int32 → Int32 → Int32 → WX → Option (WX)
  | 0, _, _, _, _, _ => none
  | n + 1, 0, y1013, y1014, y1015, w =>
    if y1015 ≤ y1014 then
      some (w)
    else
      ai_bd (ai_up (a_s1_skins w) y1014 y1013) fun q1016 =>
      Garr_fill_6 n 0 y1013 (y1014 + 1) y1015 (u_s1_skins w q1016)
  | _ + 1, _ + 1, _, _, _, _ => none
def Farr_fill_6 (n : Nat) (x1012 : Int32) (w : WX) : Option (WX) :=
  Garr_fill_6 n 0 x1012 0 (Int32.ofNat (List.length (a_s1_skins w))) w
def Fsea_startAnew_1 (n : Nat) (x988 : Int32) (w : WX) : Option (Int32 × WX) :=
  ai_bd (Ff_within x988 1 6) fun c992 =>
  if c992 = 0 then
    some ((-2), w)
  else
    ai_bd (ai_cpy [10, 13, 16, 20] (a_s1_densities w) 0 0 4) fun q993 =>
    ai_bd (Farr_fill_3 n 0 (u_s1_densities (u_s1_dams (u_s1_hour (u_s1_cells w x988) 0) 0) q993)) fun c999 =>
    ai_bd (Farr_fill_4 n 0 c999) fun c1005 =>
    ai_bd (Farr_fill_5 n 3 c1005) fun c1011 =>
    ai_bd (Farr_fill_6 n 0 c1011) fun c1017 =>
    some ((a_s1_cells w), (u_s1_undos (u_s1_drops (u_s1_towns (u_s1lifts_count (u_s1things_count c1017 0) 0) 0) 0) 0))
def Ff_counted_0 (x1019 : Int32) (w : WX) : Option (Int32 × WX) :=
  if x1019 = (-2) then
    some (x1019, (u_f_refusedBad w ((a_f_refusedBad w) + 1)))
  else
    if x1019 = (-3) then
      some (x1019, (u_f_refusedNo w ((a_f_refusedNo w) + 1)))
    else
      if x1019 = (-4) then
        some (x1019, (u_f_refusedFull w ((a_f_refusedFull w) + 1)))
      else
        some (x1019, w)
def Ff_sea_0 (n : Nat) (x987 : Int32) (w : WX) : Option (Int32 × WX) :=
  ai_bd (Fsea_startAnew_1 n x987 w) fun c1018 =>
  ai_bd (Ff_counted_0 c1018.1 c1018.2) fun c1020 =>
  some (c1020.1, c1020.2)
def Ff_isLayer (x1025 : Int32) : Option (Int32) :=
  ai_bd (Ff_within x1025 0 3) fun c1026 =>
  if c1026 = 0 ∨ c1026 = 1 then some (c1026) else none
def Fsea_putDensity_1 (x1023 : Int32) (x1024 : Int32) (w : WX) : Option (Int32 × WX) :=
  ai_bd (Ff_isLayer x1023) fun c1027 =>
  if c1027 = 0 then
    some ((-2), w)
  else
    ai_bd (Ff_within x1024 1 99) fun c1028 =>
    if c1028 = 0 then
      some ((-2), w)
    else
      if x1023 = 0 then
        if x1023 = 3 then
          ai_bd (ai_ix (a_s1_densities w) x1023) fun v1029 =>
          ai_bd (ai_up (a_s1_densities w) x1023 x1024) fun q1030 =>
          some (v1029, (u_s1_densities w q1030))
        else
          ai_bd (ai_ix (a_s1_densities w) (x1023 + 1)) fun v1031 =>
          if v1031 ≤ x1024 then
            some ((-3), w)
          else
            ai_bd (ai_ix (a_s1_densities w) x1023) fun v1032 =>
            ai_bd (ai_up (a_s1_densities w) x1023 x1024) fun q1033 =>
            some (v1032, (u_s1_densities w q1033))
      else
        ai_bd (ai_ix (a_s1_densities w) (x1023 - 1)) fun v1034 =>
        if x1024 ≤ v1034 then
          if x1023 = 3 then
            some ((-3), w)
          else
            ai_bd (ai_ix (a_s1_densities w) (x1023 + 1)) fun v1035 =>
            if v1035 ≤ x1024 then
              some ((-3), w)
            else
              some ((-3), w)
        else
          if x1023 = 3 then
            ai_bd (ai_ix (a_s1_densities w) x1023) fun v1036 =>
            ai_bd (ai_up (a_s1_densities w) x1023 x1024) fun q1037 =>
            some (v1036, (u_s1_densities w q1037))
          else
            ai_bd (ai_ix (a_s1_densities w) (x1023 + 1)) fun v1038 =>
            if v1038 ≤ x1024 then
              some ((-3), w)
            else
              ai_bd (ai_ix (a_s1_densities w) x1023) fun v1039 =>
              ai_bd (ai_up (a_s1_densities w) x1023 x1024) fun q1040 =>
              some (v1039, (u_s1_densities w q1040))
def Ff_water_0 (x1021 : Int32) (x1022 : Int32) (w : WX) : Option (Int32 × WX) :=
  ai_bd (Fsea_putDensity_1 x1021 x1022 w) fun c1041 =>
  ai_bd (Ff_counted_0 c1041.1 c1041.2) fun c1042 =>
  some (c1042.1, c1042.2)
def Fsea_hasCell_1 (x1050 : Int32) (w : WX) : Option (Int32 × WX) :=
  ai_bd (Ff_within x1050 0 ((a_s1_cells w) - 1)) fun c1051 =>
  if c1051 = 0 ∨ c1051 = 1 then some (c1051, w) else none
def Fsea_putThick_1 (x1046 : Int32) (x1047 : Int32) (x1048 : Int32) (w : WX) : Option (Int32 × WX) :=
  ai_bd (Ff_isLayer x1046) fun c1049 =>
  if c1049 = 0 then
    some ((-2), w)
  else
    ai_bd (Fsea_hasCell_1 x1047 w) fun c1052 =>
    if c1052.1 = 0 then
      some ((-2), c1052.2)
    else
      ai_bd (Ff_within x1048 0 9) fun c1053 =>
      if c1053 = 0 then
        some ((-2), c1052.2)
      else
        ai_bd (ai_ix (a_s1_thicks c1052.2) ((x1046 * 6) + x1047)) fun v1054 =>
        ai_bd (ai_up (a_s1_thicks c1052.2) ((x1046 * 6) + x1047) x1048) fun q1055 =>
        some (v1054, (u_s1_thicks c1052.2 q1055))
def Ff_thick_0 (x1043 : Int32) (x1044 : Int32) (x1045 : Int32) (w : WX) : Option (Int32 × WX) :=
  ai_bd (Fsea_putThick_1 x1043 x1044 x1045 w) fun c1056 =>
  ai_bd (Ff_counted_0 c1056.1 c1056.2) fun c1057 =>
  some (c1057.1, c1057.2)
def Fsea_putSkin_1 (x1060 : Int32) (x1061 : Int32) (w : WX) : Option (Int32 × WX) :=
  ai_bd (Ff_within x1060 0 2) fun c1062 =>
  if c1062 = 0 then
    some ((-2), w)
  else
    ai_bd (Ff_within x1061 0 99) fun c1063 =>
    if c1063 = 0 then
      some ((-2), w)
    else
      ai_bd (ai_ix (a_s1_skins w) x1060) fun v1064 =>
      ai_bd (ai_up (a_s1_skins w) x1060 x1061) fun q1065 =>
      some (v1064, (u_s1_skins w q1065))
def Ff_skin_0 (x1058 : Int32) (x1059 : Int32) (w : WX) : Option (Int32 × WX) :=
  ai_bd (Fsea_putSkin_1 x1058 x1059 w) fun c1066 =>
  ai_bd (Ff_counted_0 c1066.1 c1066.2) fun c1067 =>
  some (c1067.1, c1067.2)
def Ff_bad_0 (x1072 : Int32) (w : WX) : Option (Int32 × WX) :=
  some (x1072, (u_f_refusedBad w ((a_f_refusedBad w) + 1)))
def Ff_tide_0 (x1068 : Int32) (x1069 : Int32) (x1070 : Int32) (w : WX) : Option (Int32 × WX) :=
  ai_bd (Ff_isLayer x1068) fun c1071 =>
  if c1071 = 0 then
    ai_bd (Ff_bad_0 (-10) w) fun c1073 =>
    some (c1073.1, c1073.2)
  else
    ai_bd (Ff_within x1069 0 5) fun c1074 =>
    if c1074 = 0 then
      ai_bd (Ff_bad_0 (-10) w) fun c1075 =>
      some (c1075.1, c1075.2)
    else
      ai_bd (Ff_within x1070 (-2) 2) fun c1076 =>
      if c1076 = 0 then
        ai_bd (Ff_bad_0 (-10) w) fun c1079 =>
        some (c1079.1, c1079.2)
      else
        ai_bd (ai_ix (a_s1_tides w) ((x1068 * 6) + x1069)) fun v1077 =>
        ai_bd (ai_up (a_s1_tides w) ((x1068 * 6) + x1069) x1070) fun q1078 =>
        some (v1077, (u_s1_tides w q1078))
def Ff_current_0 (x1080 : Int32) (x1081 : Int32) (w : WX) : Option (Int32 × WX) :=
  ai_bd (Ff_isLayer x1080) fun c1082 =>
  if c1082 = 0 then
    ai_bd (Ff_bad_0 (-10) w) fun c1083 =>
    some (c1083.1, c1083.2)
  else
    ai_bd (Ff_within x1081 (-1) 1) fun c1084 =>
    if c1084 = 0 then
      ai_bd (Ff_bad_0 (-10) w) fun c1087 =>
      some (c1087.1, c1087.2)
    else
      ai_bd (ai_ix (a_s1_currents w) x1080) fun v1085 =>
      ai_bd (ai_up (a_s1_currents w) x1080 x1081) fun q1086 =>
      some (v1085, (u_s1_currents w q1086))
def Fthg_add_7 (x1091 : Int32) (x1092 : Int32) (x1093 : Int32) (w : WX) : Option (Int32 × WX) :=
  ai_bd (Ff_within x1091 0 5) fun c1094 =>
  if c1094 = 0 then
    some ((-2), w)
  else
    ai_bd (Ff_within x1092 1 99) fun c1095 =>
    if c1095 = 0 then
      some ((-2), w)
    else
      ai_bd (Ff_within x1093 1 9) fun c1096 =>
      if c1096 = 0 then
        some ((-2), w)
      else
        if (a_s1things_count w) < 6 then
          ai_bd (ai_up (a_s1things_kinds w) (a_s1things_count w) x1091) fun q1097 =>
          ai_bd (ai_up (a_s1things_weights w) (a_s1things_count w) x1092) fun q1098 =>
          ai_bd (ai_up (a_s1things_volumes w) (a_s1things_count w) x1093) fun q1099 =>
          ai_bd (ai_up (a_s1things_ballasts w) (a_s1things_count w) 0) fun q1100 =>
          some ((a_s1things_count w), (u_s1things_count (u_s1things_ballasts (u_s1things_volumes (u_s1things_weights (u_s1things_kinds w q1097) q1098) q1099) q1100) ((a_s1things_count w) + 1)))
        else
          some ((-4), w)
def Ff_thing_0 (x1088 : Int32) (x1089 : Int32) (x1090 : Int32) (w : WX) : Option (Int32 × WX) :=
  ai_bd (Fthg_add_7 x1088 x1089 x1090 w) fun c1101 =>
  ai_bd (Ff_counted_0 c1101.1 c1101.2) fun c1102 =>
  some (c1102.1, c1102.2)
def Fthg_has_7 (x1105 : Int32) (w : WX) : Option (Int32 × WX) :=
  ai_bd (Ff_within x1105 0 ((a_s1things_count w) - 1)) fun c1106 =>
  if c1106 = 0 ∨ c1106 = 1 then some (c1106, w) else none
def Ff_ballast_0 (x1103 : Int32) (x1104 : Int32) (w : WX) : Option (Int32 × WX) :=
  ai_bd (Fthg_has_7 x1103 w) fun c1107 =>
  if c1107.1 = 0 then
    ai_bd (Ff_bad_0 (-2) c1107.2) fun c1108 =>
    some (c1108.1, c1108.2)
  else
    ai_bd (Ff_within x1104 0 99) fun c1109 =>
    if c1109 = 0 then
      ai_bd (Ff_bad_0 (-2) c1107.2) fun c1112 =>
      some (c1112.1, c1112.2)
    else
      ai_bd (ai_ix (a_s1things_ballasts c1107.2) x1103) fun v1110 =>
      ai_bd (ai_up (a_s1things_ballasts c1107.2) x1103 x1104) fun q1111 =>
      some (v1110, (u_s1things_ballasts c1107.2 q1111))
def Fsea_hasPlace_1 (x1119 : Int32) (w : WX) : Option (Int32 × WX) :=
  if x1119 < 0 then
    some (0, w)
  else
    ai_bd (Fsea_hasCell_1 (x1119 / 10) w) fun c1120 =>
    if c1120.1 = 0 then
      some (0, c1120.2)
    else
      ai_bd (Ff_isLayer (x1119 - x1119 / 10 * 10)) fun c1121 =>
      if c1121 = 0 then
        some (0, c1120.2)
      else
        some (1, c1120.2)
def Flift_add_12 (x1125 : Int32) (x1126 : Int32) (x1127 : Int32) (w : WX) : Option (Int32 × WX) :=
  if (a_s1lifts_count w) < 10 then
    ai_bd (ai_up (a_s1lifts_froms w) (a_s1lifts_count w) x1125) fun q1128 =>
    ai_bd (ai_up (a_s1lifts_tos w) (a_s1lifts_count w) x1126) fun q1129 =>
    ai_bd (ai_up (a_s1lifts_times w) (a_s1lifts_count w) x1127) fun q1130 =>
    some ((a_s1lifts_count w), (u_s1lifts_count (u_s1lifts_times (u_s1lifts_tos (u_s1lifts_froms w q1128) q1129) q1130) ((a_s1lifts_count w) + 1)))
  else
    some ((-4), w)
def Fsea_addLift_1 (x1116 : Int32) (x1117 : Int32) (x1118 : Int32) (w : WX) : Option (Int32 × WX) :=
  ai_bd (Fsea_hasPlace_1 x1116 w) fun c1122 =>
  if c1122.1 = 0 then
    some ((-2), c1122.2)
  else
    ai_bd (Fsea_hasPlace_1 x1117 c1122.2) fun c1123 =>
    if c1123.1 = 0 then
      some ((-2), c1123.2)
    else
      if x1116 = x1117 then
        some ((-2), c1123.2)
      else
        ai_bd (Ff_within x1118 1 9) fun c1124 =>
        if c1124 = 0 then
          some ((-2), c1123.2)
        else
          ai_bd (Flift_add_12 x1116 x1117 x1118 c1123.2) fun c1131 =>
          some (c1131.1, c1131.2)
def Ff_lift_0 (x1113 : Int32) (x1114 : Int32) (x1115 : Int32) (w : WX) : Option (Int32 × WX) :=
  ai_bd (Fsea_addLift_1 x1113 x1114 x1115 w) fun c1132 =>
  ai_bd (Ff_counted_0 c1132.1 c1132.2) fun c1133 =>
  some (c1133.1, c1133.2)
def Gsea_addTown_1 : Nat → Nat → Int32 → Int32 → WX → Option (Int32 × WX)
  | 0, _, _, _, _ => none
  | n + 1, 0, y1137, y1138, w =>
    if (a_s1_towns w) ≤ y1138 then
      if (a_s1_towns w) < 6 then
        ai_bd (ai_up (a_s1_townPlaces w) (a_s1_towns w) y1137) fun q1139 =>
        some ((a_s1_towns w), (u_s1_towns (u_s1_townPlaces w q1139) ((a_s1_towns w) + 1)))
      else
        some ((-4), w)
    else
      ai_bd (ai_ix (a_s1_townPlaces w) y1138) fun v1140 =>
      if v1140 = y1137 then
        some ((-3), w)
      else
        Gsea_addTown_1 n 0 y1137 (y1138 + 1) w
  | _ + 1, _ + 1, _, _, _ => none
def Fsea_addTown_1 (n : Nat) (x1135 : Int32) (w : WX) : Option (Int32 × WX) :=
  ai_bd (Fsea_hasPlace_1 x1135 w) fun c1136 =>
  if c1136.1 = 0 then
    some ((-2), c1136.2)
  else
    Gsea_addTown_1 n 0 x1135 0 c1136.2
def Ff_town_0 (n : Nat) (x1134 : Int32) (w : WX) : Option (Int32 × WX) :=
  ai_bd (Fsea_addTown_1 n x1134 w) fun c1141 =>
  ai_bd (Ff_counted_0 c1141.1 c1141.2) fun c1142 =>
  some (c1142.1, c1142.2)
def Fsea_putDam_1 (x1145 : Int32) (x1146 : Int32) (w : WX) : Option (Int32 × WX) :=
  ai_bd (Ff_within x1145 0 ((a_s1_cells w) - 2)) fun c1147 =>
  if c1147 = 0 then
    some ((-2), w)
  else
    if x1146 = 0 then
      if (((a_s1_dams w) >>> (x1145 &&& 31)) &&& 1) = 0 then
        some ((-3), w)
      else
        some (1, (u_s1_dams w ((a_s1_dams w) ^^^ (1 <<< (x1145 &&& 31)))))
    else
      if (((a_s1_dams w) >>> (x1145 &&& 31)) &&& 1) = 1 then
        some ((-3), w)
      else
        some (1, (u_s1_dams w ((a_s1_dams w) ^^^ (1 <<< (x1145 &&& 31)))))
def Ff_dam_0 (x1143 : Int32) (x1144 : Int32) (w : WX) : Option (Int32 × WX) :=
  ai_bd (Fsea_putDam_1 x1143 x1144 w) fun c1148 =>
  ai_bd (Ff_counted_0 c1148.1 c1148.2) fun c1149 =>
  some (c1149.1, c1149.2)
def Fsea_addDrop_1 (x1152 : Int32) (x1153 : Int32) (w : WX) : Option (Int32 × WX) :=
  ai_bd (Ff_isLayer x1152) fun c1154 =>
  if c1154 = 0 then
    some ((-2), w)
  else
    if (a_s1_drops w) < 6 then
      ai_bd (ai_up (a_s1_dropLayers w) (a_s1_drops w) x1152) fun q1155 =>
      if x1153 = 0 then
        ai_bd (ai_up (a_s1_dropFloats w) (a_s1_drops w) 0) fun q1156 =>
        some (((a_s1_drops w) + 1), (u_s1_drops (u_s1_dropFloats (u_s1_dropLayers w q1155) q1156) ((a_s1_drops w) + 1)))
      else
        ai_bd (ai_up (a_s1_dropFloats w) (a_s1_drops w) 1) fun q1157 =>
        some (((a_s1_drops w) + 1), (u_s1_drops (u_s1_dropFloats (u_s1_dropLayers w q1155) q1157) ((a_s1_drops w) + 1)))
    else
      some ((-4), w)
def Ff_drop_0 (x1150 : Int32) (x1151 : Int32) (w : WX) : Option (Int32 × WX) :=
  ai_bd (Fsea_addDrop_1 x1150 x1151 w) fun c1158 =>
  ai_bd (Ff_counted_0 c1158.1 c1158.2) fun c1159 =>
  some (c1159.1, c1159.2)
def Fsea_empty_1 (x1161 : Int32) (w : WX) : Option (Int32 × WX) :=
  ai_bd (Ff_within x1161 0 3) fun c1162 =>
  if c1162 = 0 then
    some ((-2), w)
  else
    if x1161 = 0 then
      some ((a_s1things_count w), (u_s1things_count w 0))
    else
      if x1161 = 1 then
        some ((a_s1lifts_count w), (u_s1lifts_count w 0))
      else
        if x1161 = 2 then
          some ((a_s1_towns w), (u_s1_towns w 0))
        else
          some ((a_s1_drops w), (u_s1_drops w 0))
def Ff_clean_0 (x1160 : Int32) (w : WX) : Option (Int32 × WX) :=
  ai_bd (Fsea_empty_1 x1160 w) fun c1163 =>
  ai_bd (Ff_counted_0 c1163.1 c1163.2) fun c1164 =>
  some (c1164.1, c1164.2)
def Ftxt_add_78 (x1166 : Int32) (w : WX) : Option (Int32 × WX) :=
  ai_bd (Ff_within x1166 0 127) fun c1167 =>
  if c1167 = 0 then
    some ((-2), w)
  else
    if (a_text_length w) < 150 then
      ai_bd (ai_up (a_text_bytes w) (a_text_length w) x1166) fun q1168 =>
      some (((a_text_length w) + 1), (u_text_length (u_text_bytes w q1168) ((a_text_length w) + 1)))
    else
      some ((-4), w)
def Ff_type_0 (x1165 : Int32) (w : WX) : Option (Int32 × WX) :=
  ai_bd (Ftxt_add_78 x1165 w) fun c1169 =>
  ai_bd (Ff_counted_0 c1169.1 c1169.2) fun c1170 =>
  some (c1170.1, c1170.2)
def Ff_clear_0 (w : WX) : Option (Int32 × WX) :=
  some ((a_text_length w), (u_text_length w 0))
def Gtxt_skipBlanks_78 : Nat → Nat → WX → Option (WX)
  | 0, _, _ => none
  | n + 1, 0, w =>
    if (a_text_length w) ≤ (a_text_at w) then
      some (w)
    else
      ai_bd (ai_ix (a_text_bytes w) (a_text_at w)) fun v1171 =>
      if v1171 = 32 then
        Gtxt_skipBlanks_78 n 0  (u_text_at w ((a_text_at w) + 1))
      else
        some (w)
  | _ + 1, _ + 1, _ => none
def Ftxt_skipBlanks_78 (n : Nat) (w : WX) : Option (WX) :=
  Gtxt_skipBlanks_78 n 0  w
def Gtxt_isWord_78 : Nat → Nat → Int32 → Int32 → Int32 → Nat → WX → Option (Int32 × WX)
  | 0, _, _, _, _, _, _ => none
  | n + 1, 0, y1184, y1185, y1186, y1183, w =>
    ai_bd (ai_sln y1183) fun v1187 =>
    if v1187 ≤ y1186 then
      some (1, w)
    else
      ai_bd (ai_ix (a_text_bytes w) (y1184 + y1186)) fun v1188 =>
      ai_bd (ai_sch y1183 y1186) fun v1189 =>
      if v1188 = v1189 then
        Gtxt_isWord_78 n 0 y1184 y1185 (y1186 + 1) y1183 w
      else
        some (0, w)
  | _ + 1, _ + 1, _, _, _, _, _ => none
def Ftxt_isWord_78 (n : Nat) (x1179 : Nat) (x1180 : Int32) (x1181 : Int32) (w : WX) : Option (Int32 × WX) :=
  ai_bd (ai_sln x1179) fun v1182 =>
  if v1182 = (x1181 - x1180) then
    Gtxt_isWord_78 n 0 x1180 x1181 0 x1179 w
  else
    some (0, w)
def Gtxt_takeWord_78 : Nat → Nat → Int32 → Int32 → WX → Option (Int32 × WX)
  | 0, _, _, _, _ => none
  | n + 1, 0, y1174, _, w =>
    if (a_text_length w) ≤ (a_text_at w) then
      Gtxt_takeWord_78 n 1 y1174 0 w
    else
      ai_bd (ai_ix (a_text_bytes w) (a_text_at w)) fun v1175 =>
      ai_bd (Ff_within v1175 97 122) fun c1176 =>
      if c1176 = 0 then
        Gtxt_takeWord_78 n 1 y1174 0 w
      else
        Gtxt_takeWord_78 n 0 y1174 0 (u_text_at w ((a_text_at w) + 1))
  | n + 1, 1, y1177, y1178, w =>
    if 8 ≤ y1178 then
      some ((-1), w)
    else
      ai_bd (Ftxt_isWord_78 n (ai_nm y1178) y1177 (a_text_at w) w) fun c1190 =>
      if c1190.1 = 0 then
        Gtxt_takeWord_78 n 1 y1177 (y1178 + 1) c1190.2
      else
        some (y1178, c1190.2)
  | _ + 1, _ + 2, _, _, _ => none
def Ftxt_takeWord_78 (n : Nat) (w : WX) : Option (Int32 × WX) :=
  Gtxt_takeWord_78 n 0 (a_text_at w) 0 w
def Ftxt_numbersBehind (x1192 : Int32) : Option (Int32) :=
  if x1192 = 0 then
    some (1)
  else
  if x1192 = 1 then
    some (2)
  else
  if x1192 = 2 then
    some (3)
  else
  if x1192 = 3 then
    some (2)
  else
  if x1192 = 4 then
    some (3)
  else
  if x1192 = 5 then
    some (3)
  else
  if x1192 = 6 then
    some (1)
  else
  if x1192 = 7 then
    some (1)
  else
    some (3)
def Ftxt_isFigure_78 (w : WX) : Option (Int32 × WX) :=
  if (a_text_length w) ≤ (a_text_at w) then
    some (0, w)
  else
    ai_bd (ai_ix (a_text_bytes w) (a_text_at w)) fun v1198 =>
    ai_bd (Ff_within v1198 48 57) fun c1199 =>
    if c1199 = 0 then
      some (0, w)
    else
      some (1, w)
def Gtxt_takeNumbers_78 : Nat → Nat → Int32 → Int32 → WX → Option (Int32 × WX)
  | 0, _, _, _, _ => none
  | n + 1, 0, y1196, y1197, w =>
    if y1196 ≤ y1197 then
      some ((-1), w)
    else
      ai_bd (Ftxt_isFigure_78 w) fun c1200 =>
      if c1200.1 = 0 then
        some ((a_text_at c1200.2), c1200.2)
      else
        ai_bd (ai_ix (a_text_bytes c1200.2) (a_text_at c1200.2)) fun v1201 =>
        ai_bd (ai_up (a_text_numbers c1200.2) y1197 (v1201 - 48)) fun q1202 =>
        ai_bd (Ftxt_isFigure_78 (u_text_at (u_text_numbers c1200.2 q1202) ((a_text_at c1200.2) + 1))) fun c1203 =>
        if c1203.1 = 0 then
          ai_bd (Ftxt_isFigure_78 c1203.2) fun c1204 =>
          if c1204.1 = 0 then
            ai_bd (Ftxt_skipBlanks_78 n c1204.2) fun c1205 =>
            Gtxt_takeNumbers_78 n 0 y1196 (y1197 + 1) c1205
          else
            some ((a_text_at c1204.2), c1204.2)
        else
          ai_bd (ai_ix (a_text_numbers c1203.2) y1197) fun v1206 =>
          ai_bd (ai_ix (a_text_bytes c1203.2) (a_text_at c1203.2)) fun v1207 =>
          ai_bd (ai_up (a_text_numbers c1203.2) y1197 (((10 * v1206) + v1207) - 48)) fun q1208 =>
          ai_bd (Ftxt_isFigure_78 (u_text_at (u_text_numbers c1203.2 q1208) ((a_text_at c1203.2) + 1))) fun c1209 =>
          if c1209.1 = 0 then
            ai_bd (Ftxt_skipBlanks_78 n c1209.2) fun c1210 =>
            Gtxt_takeNumbers_78 n 0 y1196 (y1197 + 1) c1210
          else
            some ((a_text_at c1209.2), c1209.2)
  | _ + 1, _ + 1, _, _, _ => none
def Ftxt_takeNumbers_78 (n : Nat) (x1194 : Int32) (w : WX) : Option (Int32 × WX) :=
  ai_bd (Ftxt_skipBlanks_78 n w) fun c1195 =>
  Gtxt_takeNumbers_78 n 0 x1194 0 c1195
def Garr_fill_22 : Nat → Nat → Int32 → Int32 → Int32 → WX → Option (WX)
  | 0, _, _, _, _, _ => none
  | n + 1, 0, y1220, y1221, y1222, w =>
    if y1222 ≤ y1221 then
      some (w)
    else
      ai_bd (ai_up (a_s2_currents w) y1221 y1220) fun q1223 =>
      Garr_fill_22 n 0 y1220 (y1221 + 1) y1222 (u_s2_currents w q1223)
  | _ + 1, _ + 1, _, _, _, _ => none
def Farr_fill_22 (n : Nat) (x1219 : Int32) (w : WX) : Option (WX) :=
  Garr_fill_22 n 0 x1219 0 (Int32.ofNat (List.length (a_s2_currents w))) w
def Garr_fill_23 : Nat → Nat → Int32 → Int32 → Int32 → WX → Option (WX)
  | 0, _, _, _, _, _ => none
  | n + 1, 0, y1226, y1227, y1228, w =>
    if y1228 ≤ y1227 then
      some (w)
    else
      ai_bd (ai_up (a_s2_tides w) y1227 y1226) fun q1229 =>
      Garr_fill_23 n 0 y1226 (y1227 + 1) y1228 (u_s2_tides w q1229)
  | _ + 1, _ + 1, _, _, _, _ => none
def Farr_fill_23 (n : Nat) (x1225 : Int32) (w : WX) : Option (WX) :=
  Garr_fill_23 n 0 x1225 0 (Int32.ofNat (List.length (a_s2_tides w))) w
def Garr_fill_24 : Nat → Nat → Int32 → Int32 → Int32 → WX → Option (WX)
  | 0, _, _, _, _, _ => none
  | n + 1, 0, y1232, y1233, y1234, w =>
    if y1234 ≤ y1233 then
      some (w)
    else
      ai_bd (ai_up (a_s2_thicks w) y1233 y1232) fun q1235 =>
      Garr_fill_24 n 0 y1232 (y1233 + 1) y1234 (u_s2_thicks w q1235)
  | _ + 1, _ + 1, _, _, _, _ => none
def Farr_fill_24 (n : Nat) (x1231 : Int32) (w : WX) : Option (WX) :=
  Garr_fill_24 n 0 x1231 0 (Int32.ofNat (List.length (a_s2_thicks w))) w
def Garr_fill_25 : Nat → Nat → Int32 → Int32 → Int32 → WX → Option (WX)
  | 0, _, _, _, _, _ => none
  | n + 1, 0, y1238, y1239, y1240, w =>
    if y1240 ≤ y1239 then
      some (w)
    else
      ai_bd (ai_up (a_s2_skins w) y1239 y1238) fun q1241 =>
      Garr_fill_25 n 0 y1238 (y1239 + 1) y1240 (u_s2_skins w q1241)
  | _ + 1, _ + 1, _, _, _, _ => none
def Farr_fill_25 (n : Nat) (x1237 : Int32) (w : WX) : Option (WX) :=
  Garr_fill_25 n 0 x1237 0 (Int32.ofNat (List.length (a_s2_skins w))) w
def Fsea_startAnew_20 (n : Nat) (x1216 : Int32) (w : WX) : Option (Int32 × WX) :=
  ai_bd (Ff_within x1216 1 6) fun c1217 =>
  if c1217 = 0 then
    some ((-2), w)
  else
    ai_bd (ai_cpy [10, 13, 16, 20] (a_s2_densities w) 0 0 4) fun q1218 =>
    ai_bd (Farr_fill_22 n 0 (u_s2_densities (u_s2_dams (u_s2_hour (u_s2_cells w x1216) 0) 0) q1218)) fun c1224 =>
    ai_bd (Farr_fill_23 n 0 c1224) fun c1230 =>
    ai_bd (Farr_fill_24 n 3 c1230) fun c1236 =>
    ai_bd (Farr_fill_25 n 0 c1236) fun c1242 =>
    some ((a_s2_cells w), (u_s2_undos (u_s2_drops (u_s2_towns (u_s2lifts_count (u_s2things_count c1242 0) 0) 0) 0) 0))
def Fsea_putDensity_20 (x1246 : Int32) (x1247 : Int32) (w : WX) : Option (Int32 × WX) :=
  ai_bd (Ff_isLayer x1246) fun c1248 =>
  if c1248 = 0 then
    some ((-2), w)
  else
    ai_bd (Ff_within x1247 1 99) fun c1249 =>
    if c1249 = 0 then
      some ((-2), w)
    else
      if x1246 = 0 then
        if x1246 = 3 then
          ai_bd (ai_ix (a_s2_densities w) x1246) fun v1250 =>
          ai_bd (ai_up (a_s2_densities w) x1246 x1247) fun q1251 =>
          some (v1250, (u_s2_densities w q1251))
        else
          ai_bd (ai_ix (a_s2_densities w) (x1246 + 1)) fun v1252 =>
          if v1252 ≤ x1247 then
            some ((-3), w)
          else
            ai_bd (ai_ix (a_s2_densities w) x1246) fun v1253 =>
            ai_bd (ai_up (a_s2_densities w) x1246 x1247) fun q1254 =>
            some (v1253, (u_s2_densities w q1254))
      else
        ai_bd (ai_ix (a_s2_densities w) (x1246 - 1)) fun v1255 =>
        if x1247 ≤ v1255 then
          if x1246 = 3 then
            some ((-3), w)
          else
            ai_bd (ai_ix (a_s2_densities w) (x1246 + 1)) fun v1256 =>
            if v1256 ≤ x1247 then
              some ((-3), w)
            else
              some ((-3), w)
        else
          if x1246 = 3 then
            ai_bd (ai_ix (a_s2_densities w) x1246) fun v1257 =>
            ai_bd (ai_up (a_s2_densities w) x1246 x1247) fun q1258 =>
            some (v1257, (u_s2_densities w q1258))
          else
            ai_bd (ai_ix (a_s2_densities w) (x1246 + 1)) fun v1259 =>
            if v1259 ≤ x1247 then
              some ((-3), w)
            else
              ai_bd (ai_ix (a_s2_densities w) x1246) fun v1260 =>
              ai_bd (ai_up (a_s2_densities w) x1246 x1247) fun q1261 =>
              some (v1260, (u_s2_densities w q1261))
def Fsea_hasCell_20 (x1270 : Int32) (w : WX) : Option (Int32 × WX) :=
  ai_bd (Ff_within x1270 0 ((a_s2_cells w) - 1)) fun c1271 =>
  if c1271 = 0 ∨ c1271 = 1 then some (c1271, w) else none
def Fsea_putThick_20 (x1266 : Int32) (x1267 : Int32) (x1268 : Int32) (w : WX) : Option (Int32 × WX) :=
  ai_bd (Ff_isLayer x1266) fun c1269 =>
  if c1269 = 0 then
    some ((-2), w)
  else
    ai_bd (Fsea_hasCell_20 x1267 w) fun c1272 =>
    if c1272.1 = 0 then
      some ((-2), c1272.2)
    else
      ai_bd (Ff_within x1268 0 9) fun c1273 =>
      if c1273 = 0 then
        some ((-2), c1272.2)
      else
        ai_bd (ai_ix (a_s2_thicks c1272.2) ((x1266 * 6) + x1267)) fun v1274 =>
        ai_bd (ai_up (a_s2_thicks c1272.2) ((x1266 * 6) + x1267) x1268) fun q1275 =>
        some (v1274, (u_s2_thicks c1272.2 q1275))
def Fsea_putSkin_20 (x1279 : Int32) (x1280 : Int32) (w : WX) : Option (Int32 × WX) :=
  ai_bd (Ff_within x1279 0 2) fun c1281 =>
  if c1281 = 0 then
    some ((-2), w)
  else
    ai_bd (Ff_within x1280 0 99) fun c1282 =>
    if c1282 = 0 then
      some ((-2), w)
    else
      ai_bd (ai_ix (a_s2_skins w) x1279) fun v1283 =>
      ai_bd (ai_up (a_s2_skins w) x1279 x1280) fun q1284 =>
      some (v1283, (u_s2_skins w q1284))
def Fthg_add_26 (x1289 : Int32) (x1290 : Int32) (x1291 : Int32) (w : WX) : Option (Int32 × WX) :=
  ai_bd (Ff_within x1289 0 5) fun c1292 =>
  if c1292 = 0 then
    some ((-2), w)
  else
    ai_bd (Ff_within x1290 1 99) fun c1293 =>
    if c1293 = 0 then
      some ((-2), w)
    else
      ai_bd (Ff_within x1291 1 9) fun c1294 =>
      if c1294 = 0 then
        some ((-2), w)
      else
        if (a_s2things_count w) < 6 then
          ai_bd (ai_up (a_s2things_kinds w) (a_s2things_count w) x1289) fun q1295 =>
          ai_bd (ai_up (a_s2things_weights w) (a_s2things_count w) x1290) fun q1296 =>
          ai_bd (ai_up (a_s2things_volumes w) (a_s2things_count w) x1291) fun q1297 =>
          ai_bd (ai_up (a_s2things_ballasts w) (a_s2things_count w) 0) fun q1298 =>
          some ((a_s2things_count w), (u_s2things_count (u_s2things_ballasts (u_s2things_volumes (u_s2things_weights (u_s2things_kinds w q1295) q1296) q1297) q1298) ((a_s2things_count w) + 1)))
        else
          some ((-4), w)
def Fsea_hasPlace_20 (x1306 : Int32) (w : WX) : Option (Int32 × WX) :=
  if x1306 < 0 then
    some (0, w)
  else
    ai_bd (Fsea_hasCell_20 (x1306 / 10) w) fun c1307 =>
    if c1307.1 = 0 then
      some (0, c1307.2)
    else
      ai_bd (Ff_isLayer (x1306 - x1306 / 10 * 10)) fun c1308 =>
      if c1308 = 0 then
        some (0, c1307.2)
      else
        some (1, c1307.2)
def Flift_add_31 (x1312 : Int32) (x1313 : Int32) (x1314 : Int32) (w : WX) : Option (Int32 × WX) :=
  if (a_s2lifts_count w) < 10 then
    ai_bd (ai_up (a_s2lifts_froms w) (a_s2lifts_count w) x1312) fun q1315 =>
    ai_bd (ai_up (a_s2lifts_tos w) (a_s2lifts_count w) x1313) fun q1316 =>
    ai_bd (ai_up (a_s2lifts_times w) (a_s2lifts_count w) x1314) fun q1317 =>
    some ((a_s2lifts_count w), (u_s2lifts_count (u_s2lifts_times (u_s2lifts_tos (u_s2lifts_froms w q1315) q1316) q1317) ((a_s2lifts_count w) + 1)))
  else
    some ((-4), w)
def Fsea_addLift_20 (x1303 : Int32) (x1304 : Int32) (x1305 : Int32) (w : WX) : Option (Int32 × WX) :=
  ai_bd (Fsea_hasPlace_20 x1303 w) fun c1309 =>
  if c1309.1 = 0 then
    some ((-2), c1309.2)
  else
    ai_bd (Fsea_hasPlace_20 x1304 c1309.2) fun c1310 =>
    if c1310.1 = 0 then
      some ((-2), c1310.2)
    else
      if x1303 = x1304 then
        some ((-2), c1310.2)
      else
        ai_bd (Ff_within x1305 1 9) fun c1311 =>
        if c1311 = 0 then
          some ((-2), c1310.2)
        else
          ai_bd (Flift_add_31 x1303 x1304 x1305 c1310.2) fun c1318 =>
          some (c1318.1, c1318.2)
def Gsea_addTown_20 : Nat → Nat → Int32 → Int32 → WX → Option (Int32 × WX)
  | 0, _, _, _, _ => none
  | n + 1, 0, y1323, y1324, w =>
    if (a_s2_towns w) ≤ y1324 then
      if (a_s2_towns w) < 6 then
        ai_bd (ai_up (a_s2_townPlaces w) (a_s2_towns w) y1323) fun q1325 =>
        some ((a_s2_towns w), (u_s2_towns (u_s2_townPlaces w q1325) ((a_s2_towns w) + 1)))
      else
        some ((-4), w)
    else
      ai_bd (ai_ix (a_s2_townPlaces w) y1324) fun v1326 =>
      if v1326 = y1323 then
        some ((-3), w)
      else
        Gsea_addTown_20 n 0 y1323 (y1324 + 1) w
  | _ + 1, _ + 1, _, _, _ => none
def Fsea_addTown_20 (n : Nat) (x1321 : Int32) (w : WX) : Option (Int32 × WX) :=
  ai_bd (Fsea_hasPlace_20 x1321 w) fun c1322 =>
  if c1322.1 = 0 then
    some ((-2), c1322.2)
  else
    Gsea_addTown_20 n 0 x1321 0 c1322.2
def Fsea_putDam_20 (x1329 : Int32) (x1330 : Int32) (w : WX) : Option (Int32 × WX) :=
  ai_bd (Ff_within x1329 0 ((a_s2_cells w) - 2)) fun c1331 =>
  if c1331 = 0 then
    some ((-2), w)
  else
    if x1330 = 0 then
      if (((a_s2_dams w) >>> (x1329 &&& 31)) &&& 1) = 0 then
        some ((-3), w)
      else
        some (1, (u_s2_dams w ((a_s2_dams w) ^^^ (1 <<< (x1329 &&& 31)))))
    else
      if (((a_s2_dams w) >>> (x1329 &&& 31)) &&& 1) = 1 then
        some ((-3), w)
      else
        some (1, (u_s2_dams w ((a_s2_dams w) ^^^ (1 <<< (x1329 &&& 31)))))
def Ftxt_tellItem_78_20 (n : Nat) (x1214 : Int32) (w : WX) : Option (Int32 × WX) :=
  if x1214 = 0 then
    ai_bd (ai_ix (a_text_numbers w) 0) fun v1215 =>
    ai_bd (Fsea_startAnew_20 n v1215 w) fun c1243 =>
    some (c1243.1, c1243.2)
  else
  if x1214 = 1 then
    ai_bd (ai_ix (a_text_numbers w) 0) fun v1244 =>
    ai_bd (ai_ix (a_text_numbers w) 1) fun v1245 =>
    ai_bd (Fsea_putDensity_20 v1244 v1245 w) fun c1262 =>
    some (c1262.1, c1262.2)
  else
  if x1214 = 2 then
    ai_bd (ai_ix (a_text_numbers w) 0) fun v1263 =>
    ai_bd (ai_ix (a_text_numbers w) 1) fun v1264 =>
    ai_bd (ai_ix (a_text_numbers w) 2) fun v1265 =>
    ai_bd (Fsea_putThick_20 v1263 v1264 v1265 w) fun c1276 =>
    some (c1276.1, c1276.2)
  else
  if x1214 = 3 then
    ai_bd (ai_ix (a_text_numbers w) 0) fun v1277 =>
    ai_bd (ai_ix (a_text_numbers w) 1) fun v1278 =>
    ai_bd (Fsea_putSkin_20 v1277 v1278 w) fun c1285 =>
    some (c1285.1, c1285.2)
  else
  if x1214 = 4 then
    ai_bd (ai_ix (a_text_numbers w) 0) fun v1286 =>
    ai_bd (ai_ix (a_text_numbers w) 1) fun v1287 =>
    ai_bd (ai_ix (a_text_numbers w) 2) fun v1288 =>
    ai_bd (Fthg_add_26 v1286 v1287 v1288 w) fun c1299 =>
    some (c1299.1, c1299.2)
  else
  if x1214 = 5 then
    ai_bd (ai_ix (a_text_numbers w) 0) fun v1300 =>
    ai_bd (ai_ix (a_text_numbers w) 1) fun v1301 =>
    ai_bd (ai_ix (a_text_numbers w) 2) fun v1302 =>
    ai_bd (Fsea_addLift_20 v1300 v1301 v1302 w) fun c1319 =>
    some (c1319.1, c1319.2)
  else
  if x1214 = 6 then
    ai_bd (ai_ix (a_text_numbers w) 0) fun v1320 =>
    ai_bd (Fsea_addTown_20 n v1320 w) fun c1327 =>
    some (c1327.1, c1327.2)
  else
    ai_bd (ai_ix (a_text_numbers w) 0) fun v1328 =>
    ai_bd (Fsea_putDam_20 v1328 1 w) fun c1332 =>
    some (c1332.1, c1332.2)
def Gtxt_tell_78_20 : Nat → Nat → Int32 → WX → Option (Int32 × WX)
  | 0, _, _, _ => none
  | n + 1, 0, y1173, w =>
    if 150 ≤ y1173 then
      some ((-1), w)
    else
      if (a_text_length w) ≤ (a_text_at w) then
        some ((-1), w)
      else
        ai_bd (Ftxt_takeWord_78 n w) fun c1191 =>
        if c1191.1 = (-1) then
          some ((a_text_at w), c1191.2)
        else
          if c1191.1 = 0 then
            if (a_text_items c1191.2) = 0 then
              ai_bd (Ftxt_numbersBehind c1191.1) fun c1336 =>
              ai_bd (Ftxt_takeNumbers_78 n c1336 c1191.2) fun c1337 =>
              if c1337.1 = (-1) then
                if (a_text_length c1337.2) ≤ (a_text_at c1337.2) then
                  some ((a_text_at c1337.2), c1337.2)
                else
                  ai_bd (ai_ix (a_text_bytes c1337.2) (a_text_at c1337.2)) fun v1338 =>
                  if v1338 = 59 then
                    if (a_text_refusedItem c1337.2) = (-1) then
                      ai_bd (Ftxt_tellItem_78_20 n c1191.1 (u_text_at c1337.2 ((a_text_at c1337.2) + 1))) fun c1340 =>
                      if 0 ≤ c1340.1 then
                        ai_bd (Ftxt_skipBlanks_78 n (u_text_items c1340.2 ((a_text_items c1340.2) + 1))) fun c1341 =>
                        Gtxt_tell_78_20 n 0 (y1173 + 1) c1341
                      else
                        ai_bd (Ftxt_skipBlanks_78 n (u_text_items (u_text_refusedItem c1340.2 (a_text_items c1340.2)) ((a_text_items c1340.2) + 1))) fun c1342 =>
                        Gtxt_tell_78_20 n 0 (y1173 + 1) c1342
                    else
                      ai_bd (Ftxt_skipBlanks_78 n (u_text_items (u_text_at c1337.2 ((a_text_at c1337.2) + 1)) ((a_text_items c1337.2) + 1))) fun c1339 =>
                      Gtxt_tell_78_20 n 0 (y1173 + 1) c1339
                  else
                    some ((a_text_at c1337.2), c1337.2)
              else
                some (c1337.1, c1337.2)
            else
              some ((a_text_at w), c1191.2)
          else
            if (a_text_items c1191.2) = 0 then
              some ((a_text_at w), c1191.2)
            else
              ai_bd (Ftxt_numbersBehind c1191.1) fun c1193 =>
              ai_bd (Ftxt_takeNumbers_78 n c1193 c1191.2) fun c1211 =>
              if c1211.1 = (-1) then
                if (a_text_length c1211.2) ≤ (a_text_at c1211.2) then
                  some ((a_text_at c1211.2), c1211.2)
                else
                  ai_bd (ai_ix (a_text_bytes c1211.2) (a_text_at c1211.2)) fun v1212 =>
                  if v1212 = 59 then
                    if (a_text_refusedItem c1211.2) = (-1) then
                      ai_bd (Ftxt_tellItem_78_20 n c1191.1 (u_text_at c1211.2 ((a_text_at c1211.2) + 1))) fun c1333 =>
                      if 0 ≤ c1333.1 then
                        ai_bd (Ftxt_skipBlanks_78 n (u_text_items c1333.2 ((a_text_items c1333.2) + 1))) fun c1334 =>
                        Gtxt_tell_78_20 n 0 (y1173 + 1) c1334
                      else
                        ai_bd (Ftxt_skipBlanks_78 n (u_text_items (u_text_refusedItem c1333.2 (a_text_items c1333.2)) ((a_text_items c1333.2) + 1))) fun c1335 =>
                        Gtxt_tell_78_20 n 0 (y1173 + 1) c1335
                    else
                      ai_bd (Ftxt_skipBlanks_78 n (u_text_items (u_text_at c1211.2 ((a_text_at c1211.2) + 1)) ((a_text_items c1211.2) + 1))) fun c1213 =>
                      Gtxt_tell_78_20 n 0 (y1173 + 1) c1213
                  else
                    some ((a_text_at c1211.2), c1211.2)
              else
                some (c1211.1, c1211.2)
  | _ + 1, _ + 1, _, _ => none
def Ftxt_tell_78_20 (n : Nat) (w : WX) : Option (Int32 × WX) :=
  ai_bd (Ftxt_skipBlanks_78 n (u_text_refusedItem (u_text_items (u_text_at w 0) 0) (-1))) fun c1172 =>
  if (a_text_at c1172) < (a_text_length c1172) then
    Gtxt_tell_78_20 n 0 0 c1172
  else
    some ((a_text_length c1172), c1172)
def Fthg_copyFrom_7_26 (w : WX) : Option (WX) :=
  ai_bd (ai_cpy (a_s2things_kinds w) (a_s1things_kinds w) 0 0 6) fun q1349 =>
  ai_bd (ai_cpy (a_s2things_weights w) (a_s1things_weights w) 0 0 6) fun q1350 =>
  ai_bd (ai_cpy (a_s2things_volumes w) (a_s1things_volumes w) 0 0 6) fun q1351 =>
  ai_bd (ai_cpy (a_s2things_ballasts w) (a_s1things_ballasts w) 0 0 6) fun q1352 =>
  some ((u_s1things_ballasts (u_s1things_volumes (u_s1things_weights (u_s1things_kinds (u_s1things_count w (a_s2things_count w)) q1349) q1350) q1351) q1352))
def Flift_copyFrom_12_31 (w : WX) : Option (WX) :=
  ai_bd (ai_cpy (a_s2lifts_froms w) (a_s1lifts_froms w) 0 0 10) fun q1354 =>
  ai_bd (ai_cpy (a_s2lifts_tos w) (a_s1lifts_tos w) 0 0 10) fun q1355 =>
  ai_bd (ai_cpy (a_s2lifts_times w) (a_s1lifts_times w) 0 0 10) fun q1356 =>
  some ((u_s1lifts_times (u_s1lifts_tos (u_s1lifts_froms (u_s1lifts_count w (a_s2lifts_count w)) q1354) q1355) q1356))
def Fsea_copyFrom_1_20 (w : WX) : Option (WX) :=
  ai_bd (ai_cpy (a_s2_densities w) (a_s1_densities w) 0 0 4) fun q1344 =>
  ai_bd (ai_cpy (a_s2_currents w) (a_s1_currents w) 0 0 4) fun q1345 =>
  ai_bd (ai_cpy (a_s2_tides w) (a_s1_tides w) 0 0 24) fun q1346 =>
  ai_bd (ai_cpy (a_s2_thicks w) (a_s1_thicks w) 0 0 24) fun q1347 =>
  ai_bd (ai_cpy (a_s2_skins w) (a_s1_skins w) 0 0 3) fun q1348 =>
  ai_bd (Fthg_copyFrom_7_26 (u_s1_skins (u_s1_thicks (u_s1_tides (u_s1_currents (u_s1_densities (u_s1_dams (u_s1_hour (u_s1_cells w (a_s2_cells w)) (a_s2_hour w)) (a_s2_dams w)) q1344) q1345) q1346) q1347) q1348)) fun c1353 =>
  ai_bd (Flift_copyFrom_12_31 c1353) fun c1357 =>
  ai_bd (ai_cpy (a_s2_townPlaces c1357) (a_s1_townPlaces c1357) 0 0 6) fun q1358 =>
  ai_bd (ai_cpy (a_s2_dropLayers c1357) (a_s1_dropLayers c1357) 0 0 6) fun q1359 =>
  ai_bd (ai_cpy (a_s2_dropFloats c1357) (a_s1_dropFloats c1357) 0 0 6) fun q1360 =>
  ai_bd (ai_cpy (a_s2_hoursBefore c1357) (a_s1_hoursBefore c1357) 0 0 10) fun q1361 =>
  some ((u_s1_hoursBefore (u_s1_undos (u_s1_dropFloats (u_s1_dropLayers (u_s1_drops (u_s1_townPlaces (u_s1_towns c1357 (a_s2_towns c1357)) q1358) (a_s2_drops c1357)) q1359) q1360) (a_s2_undos c1357)) q1361))
def Ff_read_0 (n : Nat) (w : WX) : Option (Int32 × WX) :=
  ai_bd (Ftxt_tell_78_20 n w) fun c1343 =>
  if c1343.1 = (-1) then
    if (a_text_refusedItem c1343.2) = (-1) then
      ai_bd (Fsea_copyFrom_1_20 c1343.2) fun c1362 =>
      some ((a_text_items c1362), c1362)
    else
      some (((-1000) - (a_text_refusedItem c1343.2)), c1343.2)
  else
    some (((-10) - c1343.1), c1343.2)
def Fsea_goOn_1 (x1364 : Int32) (w : WX) : Option (Int32 × WX) :=
  ai_bd (Ff_within x1364 1 99) fun c1365 =>
  if c1365 = 0 then
    some ((-2), w)
  else
    if ((a_s1_hour w) + x1364) ≤ 999 then
      if (a_s1_undos w) < 10 then
        ai_bd (ai_up (a_s1_hoursBefore w) (a_s1_undos w) (a_s1_hour w)) fun q1366 =>
        some (((a_s1_hour w) + x1364), (u_s1_hour (u_s1_undos (u_s1_hoursBefore w q1366) ((a_s1_undos w) + 1)) ((a_s1_hour w) + x1364)))
      else
        ai_bd (ai_cpy (a_s1_hoursBefore w) (a_s1_hoursBefore w) 1 0 9) fun q1367 =>
        ai_bd (ai_up q1367 9 (a_s1_hour w)) fun q1368 =>
        some (((a_s1_hour w) + x1364), (u_s1_hour (u_s1_undos (u_s1_hoursBefore (u_s1_undos (u_s1_hoursBefore w q1367) 9) q1368) 10) ((a_s1_hour w) + x1364)))
    else
      some ((-3), w)
def Ff_hours_0 (x1363 : Int32) (w : WX) : Option (Int32 × WX) :=
  ai_bd (Fsea_goOn_1 x1363 w) fun c1369 =>
  ai_bd (Ff_counted_0 c1369.1 c1369.2) fun c1370 =>
  some (c1370.1, c1370.2)
def Fsea_goBack_1 (w : WX) : Option (Int32 × WX) :=
  if 0 < (a_s1_undos w) then
    ai_bd (ai_ix (a_s1_hoursBefore w) ((a_s1_undos w) - 1)) fun v1371 =>
    some (1, (u_s1_hour (u_s1_undos w ((a_s1_undos w) - 1)) v1371))
  else
    some ((-3), w)
def Ff_undo_0 (w : WX) : Option (Int32 × WX) :=
  ai_bd (Fsea_goBack_1 w) fun c1372 =>
  ai_bd (Ff_counted_0 c1372.1 c1372.2) fun c1373 =>
  some (c1373.1, c1373.2)
def Ffall_weightOf (x1392 : Int32) (x1393 : Int32) (x1394 : Int32) (x1395 : Int32) : Option (Int32) :=
  if x1392 = 1 then
    some ((x1393 + x1394))
  else
  if x1392 = 2 then
    some ((x1393 + x1394))
  else
  if x1392 = 3 then
    some (((x1393 + x1394) + (2 * (if 10 < x1395 then 10 else x1395))))
  else
    some (x1393)
def Ffall_roomOf (x1397 : Int32) (x1398 : Int32) (x1399 : Int32) : Option (Int32) :=
  if x1397 = 2 then
    some ((x1398 + 1))
  else
  if x1397 = 3 then
    some ((x1398 + 1))
  else
  if x1397 = 4 then
    some ((x1398 + (if 5 < (x1399 / 4) then 5 else (x1399 / 4))))
  else
    some (x1398)
def Ffall_forceOf (x1401 : Int32) (x1402 : Int32) : Option (Int32) :=
  if x1401 = 2 then
    some ((x1402 / 2))
  else
  if x1401 = 3 then
    some (100)
  else
  if x1401 = 4 then
    some (x1402)
  else
  if x1401 = 5 then
    some (0)
  else
    some (x1402)
def Ffall_shape_81 (x1387 : Int32) (x1388 : Int32) (x1389 : Int32) (x1390 : Int32) (x1391 : Int32) (w : WX) : Option (WX) :=
  ai_bd (Ffall_weightOf x1387 x1388 x1390 x1391) fun c1396 =>
  ai_bd (Ffall_roomOf x1387 x1389 x1391) fun c1400 =>
  ai_bd (Ffall_forceOf x1387 c1396) fun c1403 =>
  some ((u_fall_force (u_fall_room (u_fall_weighs w c1396) c1400) c1403))
def Ff_shapeWithBallast_0 (x1381 : Int32) (x1382 : Int32) (x1383 : Int32) (w : WX) : Option (WX) :=
  ai_bd (ai_ix (a_s1things_kinds w) x1381) fun v1384 =>
  ai_bd (ai_ix (a_s1things_weights w) x1381) fun v1385 =>
  ai_bd (ai_ix (a_s1things_volumes w) x1381) fun v1386 =>
  ai_bd (Ffall_shape_81 v1384 v1385 v1386 x1382 x1383 w) fun c1404 =>
  some (c1404)
def Ff_shapeNow_0 (x1379 : Int32) (w : WX) : Option (WX) :=
  ai_bd (ai_ix (a_s1things_ballasts w) x1379) fun v1380 =>
  ai_bd (Ff_shapeWithBallast_0 x1379 v1380 (a_s1_hour w) w) fun c1405 =>
  some (c1405)
def Ff_of_0 (x1374 : Int32) (x1375 : Int32) (w : WX) : Option (Int32 × WX) :=
  ai_bd (Fthg_has_7 x1374 w) fun c1376 =>
  if c1376.1 = 0 then
    ai_bd (Ff_bad_0 (-2) c1376.2) fun c1377 =>
    some (c1377.1, c1377.2)
  else
    ai_bd (Ff_within x1375 0 2) fun c1378 =>
    if c1378 = 0 then
      ai_bd (Ff_bad_0 (-2) c1376.2) fun c1408 =>
      some (c1408.1, c1408.2)
    else
      if x1375 = 0 then
        ai_bd (ai_ix (a_s1things_kinds c1376.2) x1374) fun v1407 =>
        some (v1407, c1376.2)
      else
        ai_bd (Ff_shapeNow_0 x1374 c1376.2) fun c1406 =>
        if x1375 = 1 then
          some ((a_fall_weighs c1406), c1406)
        else
          some ((a_fall_room c1406), c1406)
def Fsea_thickAt_1 (x1414 : Int32) (x1415 : Int32) (x1416 : Int32) (w : WX) : Option (Int32 × WX) :=
  ai_bd (ai_ix (a_s1_thicks w) ((x1414 * 6) + x1415)) fun v1417 =>
  ai_bd (ai_ix (a_s1_tides w) ((x1414 * 6) + (x1416 - x1416 / 6 * 6))) fun v1418 =>
  some ((if 0 < (v1417 + v1418) then (v1417 + v1418) else 0), w)
def Ff_deep_0 (x1409 : Int32) (x1410 : Int32) (w : WX) : Option (Int32 × WX) :=
  ai_bd (Ff_isLayer x1409) fun c1411 =>
  if c1411 = 0 then
    ai_bd (Ff_bad_0 (-2) w) fun c1412 =>
    some (c1412.1, c1412.2)
  else
    ai_bd (Fsea_hasCell_1 x1410 w) fun c1413 =>
    if c1413.1 = 0 then
      ai_bd (Ff_bad_0 (-2) c1413.2) fun c1420 =>
      some (c1420.1, c1420.2)
    else
      ai_bd (Fsea_thickAt_1 x1409 x1410 (a_s1_hour c1413.2) c1413.2) fun c1419 =>
      some (c1419.1, c1419.2)
def Garr_fill_82 : Nat → Nat → Int32 → Int32 → Int32 → WX → Option (WX)
  | 0, _, _, _, _, _ => none
  | n + 1, 0, y1437, y1438, y1439, w =>
    if y1439 ≤ y1438 then
      some (w)
    else
      ai_bd (ai_up (a_fall_passedThick w) y1438 y1437) fun q1440 =>
      Garr_fill_82 n 0 y1437 (y1438 + 1) y1439 (u_fall_passedThick w q1440)
  | _ + 1, _ + 1, _, _, _, _ => none
def Farr_fill_82 (n : Nat) (x1436 : Int32) (w : WX) : Option (WX) :=
  Garr_fill_82 n 0 x1436 0 (Int32.ofNat (List.length (a_fall_passedThick w))) w
def Ffall_forget_81 (n : Nat) (w : WX) : Option (WX) :=
  ai_bd (Farr_fill_82 n 0 (u_fall_stopper (u_fall_broken (u_fall_down w 0) 0) (-1))) fun c1441 =>
  some (c1441)
def Ffall_getsThrough_81_1 (x1451 : Int32) (x1452 : Int32) (w : WX) : Option (Int32 × WX) :=
  if ((x1452 >>> (x1451 &&& 31)) &&& 1) = 1 then
    some (1, w)
  else
    ai_bd (ai_ix (a_s1_skins w) x1451) fun v1453 =>
    if v1453 < (a_fall_force w) then
      some (1, (u_fall_broken w ((a_fall_broken w) ||| (1 <<< (x1451 &&& 31)))))
    else
      some (0, w)
def Gfall_letGo_81_1 : Nat → Nat → Int32 → Int32 → Int32 → Int32 → Int32 → WX → Option (WX)
  | 0, _, _, _, _, _, _, _ => none
  | n + 1, 0, y1443, y1444, y1445, y1446, y1447, w =>
    if 4 ≤ y1447 then
      some ((u_fall_layer w 4))
    else
      ai_bd (Fsea_thickAt_1 y1447 y1443 y1444 w) fun c1448 =>
      if c1448.1 = 0 then
        Gfall_letGo_81_1 n 0 y1443 y1444 y1445 y1446 (y1447 + 1) c1448.2
      else
        if y1446 = (-1) then
          ai_bd (ai_ix (a_s1_densities c1448.2) y1447) fun v1449 =>
          if ((a_fall_room c1448.2) * v1449) < (a_fall_weighs c1448.2) then
            ai_bd (ai_up (a_fall_passedThick c1448.2) y1447 c1448.1) fun q1450 =>
            Gfall_letGo_81_1 n 0 y1443 y1444 y1445 y1447 (y1447 + 1) (u_fall_down (u_fall_passedThick c1448.2 q1450) ((a_fall_down c1448.2) + c1448.1))
          else
            some ((u_fall_layer c1448.2 y1447))
        else
          ai_bd (Ffall_getsThrough_81_1 (y1447 - 1) y1445 c1448.2) fun c1454 =>
          if c1454.1 = 0 then
            some ((u_fall_layer (u_fall_stopper c1454.2 (y1447 - 1)) y1446))
          else
            ai_bd (ai_ix (a_s1_densities c1454.2) y1447) fun v1455 =>
            if ((a_fall_room c1454.2) * v1455) < (a_fall_weighs c1454.2) then
              ai_bd (ai_up (a_fall_passedThick c1454.2) y1447 c1448.1) fun q1456 =>
              Gfall_letGo_81_1 n 0 y1443 y1444 y1445 y1447 (y1447 + 1) (u_fall_down (u_fall_passedThick c1454.2 q1456) ((a_fall_down c1454.2) + c1448.1))
            else
              some ((u_fall_layer c1454.2 y1447))
  | _ + 1, _ + 1, _, _, _, _, _, _ => none
def Ffall_letGo_81_1 (n : Nat) (x1433 : Int32) (x1434 : Int32) (x1435 : Int32) (w : WX) : Option (WX) :=
  ai_bd (Ffall_forget_81 n w) fun c1442 =>
  Gfall_letGo_81_1 n 0 x1433 x1434 x1435 (-1) 0 c1442
def Ff_letGoNow_0 (n : Nat) (x1429 : Int32) (x1430 : Int32) (x1431 : Int32) (w : WX) : Option (WX) :=
  ai_bd (Ff_shapeNow_0 x1429 w) fun c1432 =>
  ai_bd (Ffall_letGo_81_1 n x1430 (a_s1_hour c1432) x1431 c1432) fun c1457 =>
  some (c1457)
def Ff_rests_0 (n : Nat) (x1421 : Int32) (x1422 : Int32) (x1423 : Int32) (w : WX) : Option (Int32 × WX) :=
  ai_bd (Fthg_has_7 x1421 w) fun c1424 =>
  if c1424.1 = 0 then
    ai_bd (Ff_bad_0 (-2) c1424.2) fun c1425 =>
    some (c1425.1, c1425.2)
  else
    ai_bd (Fsea_hasCell_1 x1422 c1424.2) fun c1426 =>
    if c1426.1 = 0 then
      ai_bd (Ff_bad_0 (-2) c1426.2) fun c1427 =>
      some (c1427.1, c1427.2)
    else
      ai_bd (Ff_within x1423 0 2) fun c1428 =>
      if c1428 = 0 then
        ai_bd (Ff_bad_0 (-2) c1426.2) fun c1459 =>
        some (c1459.1, c1459.2)
      else
        ai_bd (Ff_letGoNow_0 n x1421 x1422 0 c1426.2) fun c1458 =>
        if x1423 = 0 then
          some ((a_fall_layer c1458), c1458)
        else
          if x1423 = 1 then
            some ((a_fall_down c1458), c1458)
          else
            some ((a_fall_broken c1458), c1458)
def Ff_takesBallast_0 (x1463 : Int32) (w : WX) : Option (Int32 × WX) :=
  ai_bd (Fthg_has_7 x1463 w) fun c1464 =>
  if c1464.1 = 0 then
    some (0, c1464.2)
  else
    ai_bd (ai_ix (a_s1things_kinds c1464.2) x1463) fun v1465 =>
    ai_bd (Ff_within v1465 1 3) fun c1466 =>
    if c1466 = 0 then
      some (0, c1464.2)
    else
      some (1, c1464.2)
def Ff_letGoWithBallast_0 (n : Nat) (x1481 : Int32) (x1482 : Int32) (x1483 : Int32) (x1484 : Int32) (w : WX) : Option (WX) :=
  ai_bd (Ff_shapeWithBallast_0 x1481 x1483 x1484 w) fun c1485 =>
  ai_bd (Ffall_letGo_81_1 n x1482 x1484 0 c1485) fun c1486 =>
  some (c1486)
def Gf_leastBallast_0 : Nat → Nat → Int32 → Int32 → Int32 → Int32 → Int32 → WX → Option (Int32 × WX)
  | 0, _, _, _, _, _, _, _ => none
  | n + 1, 0, y1476, y1477, y1478, y1479, y1480, w =>
    if 99 < y1480 then
      some ((-1), w)
    else
      ai_bd (Ff_letGoWithBallast_0 n y1476 y1477 y1480 y1479 w) fun c1487 =>
      if (a_fall_layer c1487) = y1478 then
        some (y1480, c1487)
      else
        Gf_leastBallast_0 n 0 y1476 y1477 y1478 y1479 (y1480 + 1) c1487
  | _ + 1, _ + 1, _, _, _, _, _, _ => none
def Ff_leastBallast_0 (n : Nat) (x1472 : Int32) (x1473 : Int32) (x1474 : Int32) (x1475 : Int32) (w : WX) : Option (Int32 × WX) :=
  Gf_leastBallast_0 n 0 x1472 x1473 x1474 x1475 0 w
def Ff_sink_0 (n : Nat) (x1460 : Int32) (x1461 : Int32) (x1462 : Int32) (w : WX) : Option (Int32 × WX) :=
  ai_bd (Ff_takesBallast_0 x1460 w) fun c1467 =>
  if c1467.1 = 0 then
    ai_bd (Ff_bad_0 (-10) c1467.2) fun c1468 =>
    some (c1468.1, c1468.2)
  else
    ai_bd (Fsea_hasCell_1 x1461 c1467.2) fun c1469 =>
    if c1469.1 = 0 then
      ai_bd (Ff_bad_0 (-10) c1469.2) fun c1470 =>
      some (c1470.1, c1470.2)
    else
      ai_bd (Ff_within x1462 0 4) fun c1471 =>
      if c1471 = 0 then
        ai_bd (Ff_bad_0 (-10) c1469.2) fun c1489 =>
        some (c1489.1, c1489.2)
      else
        ai_bd (Ff_leastBallast_0 n x1460 x1461 x1462 (a_s1_hour c1469.2) c1469.2) fun c1488 =>
        some (c1488.1, c1488.2)
def Ff_holds_0 (n : Nat) (x1490 : Int32) (x1491 : Int32) (w : WX) : Option (Int32 × WX) :=
  ai_bd (Ff_takesBallast_0 x1490 w) fun c1492 =>
  if c1492.1 = 0 then
    ai_bd (Ff_bad_0 (-10) c1492.2) fun c1493 =>
    some (c1493.1, c1493.2)
  else
    ai_bd (Fsea_hasCell_1 x1491 c1492.2) fun c1494 =>
    if c1494.1 = 0 then
      ai_bd (Ff_bad_0 (-10) c1494.2) fun c1496 =>
      some (c1496.1, c1496.2)
    else
      ai_bd (Ff_letGoWithBallast_0 n x1490 x1491 99 (a_s1_hour c1494.2) c1494.2) fun c1495 =>
      some ((a_fall_stopper c1495), c1495)
def Gf_bestHour_0 : Nat → Nat → Int32 → Int32 → Int32 → Int32 → Int32 → Int32 → WX → Option (Int32 × WX)
  | 0, _, _, _, _, _, _, _, _ => none
  | n + 1, 0, y1506, y1507, y1508, y1509, y1510, y1511, w =>
    if 6 ≤ y1511 then
      some (y1509, w)
    else
      ai_bd (Ff_leastBallast_0 n y1506 y1507 y1508 ((a_s1_hour w) + y1511) w) fun c1512 =>
      if c1512.1 = (-1) then
        Gf_bestHour_0 n 0 y1506 y1507 y1508 y1509 y1510 (y1511 + 1) c1512.2
      else
        if y1510 ≤ c1512.1 then
          Gf_bestHour_0 n 0 y1506 y1507 y1508 y1509 y1510 (y1511 + 1) c1512.2
        else
          Gf_bestHour_0 n 0 y1506 y1507 y1508 y1511 c1512.1 (y1511 + 1) c1512.2
  | _ + 1, _ + 1, _, _, _, _, _, _, _ => none
def Ff_bestHour_0 (n : Nat) (x1497 : Int32) (x1498 : Int32) (x1499 : Int32) (w : WX) : Option (Int32 × WX) :=
  ai_bd (Ff_takesBallast_0 x1497 w) fun c1500 =>
  if c1500.1 = 0 then
    ai_bd (Ff_bad_0 (-10) c1500.2) fun c1501 =>
    some (c1501.1, c1501.2)
  else
    ai_bd (Fsea_hasCell_1 x1498 c1500.2) fun c1502 =>
    if c1502.1 = 0 then
      ai_bd (Ff_bad_0 (-10) c1502.2) fun c1503 =>
      some (c1503.1, c1503.2)
    else
      ai_bd (Ff_within x1499 0 4) fun c1504 =>
      if c1504 = 0 then
        ai_bd (Ff_bad_0 (-10) c1502.2) fun c1505 =>
        some (c1505.1, c1505.2)
      else
        Gf_bestHour_0 n 0 x1497 x1498 x1499 (-1) 100 0 c1502.2
def Garr_fill_87 : Nat → Nat → Int32 → Int32 → Int32 → WX → Option (WX)
  | 0, _, _, _, _, _ => none
  | n + 1, 0, y1521, y1522, y1523, w =>
    if y1523 ≤ y1522 then
      some (w)
    else
      ai_bd (ai_up (a_ways_reached w) y1522 y1521) fun q1524 =>
      Garr_fill_87 n 0 y1521 (y1522 + 1) y1523 (u_ways_reached w q1524)
  | _ + 1, _ + 1, _, _, _, _ => none
def Farr_fill_87 (n : Nat) (x1520 : Int32) (w : WX) : Option (WX) :=
  Garr_fill_87 n 0 x1520 0 (Int32.ofNat (List.length (a_ways_reached w))) w
def Fway_numberOf (x1526 : Int32) : Option (Int32) :=
  some ((((x1526 / 10) * 4) + (x1526 - x1526 / 10 * 10)))
def Fway_join_86 (x1540 : Int32) (x1541 : Int32) (x1542 : Int32) (w : WX) : Option (WX) :=
  ai_bd (ai_ix (a_ways_reached w) x1540) fun v1543 =>
  ai_bd (ai_ix (a_ways_reached w) x1541) fun v1544 =>
  ai_bd (ai_up (a_ways_reached w) x1540 (if (v1544 + x1542) < v1543 then (v1544 + x1542) else v1543)) fun q1545 =>
  ai_bd (ai_ix q1545 x1541) fun v1546 =>
  ai_bd (ai_ix q1545 x1540) fun v1547 =>
  ai_bd (ai_up q1545 x1541 (if (v1547 + x1542) < v1546 then (v1547 + x1542) else v1546)) fun q1548 =>
  some ((u_ways_reached (u_ways_reached w q1545) q1548))
def Gway_goByLifts_86_1 : Nat → Nat → Int32 → WX → Option (WX)
  | 0, _, _, _ => none
  | n + 1, 0, y1534, w =>
    if (a_s1lifts_count w) ≤ y1534 then
      some (w)
    else
      ai_bd (ai_ix (a_s1lifts_froms w) y1534) fun v1535 =>
      ai_bd (Fway_numberOf v1535) fun c1536 =>
      ai_bd (ai_ix (a_s1lifts_tos w) y1534) fun v1537 =>
      ai_bd (Fway_numberOf v1537) fun c1538 =>
      ai_bd (ai_ix (a_s1lifts_times w) y1534) fun v1539 =>
      ai_bd (Fway_join_86 c1536 c1538 v1539 w) fun c1549 =>
      Gway_goByLifts_86_1 n 0 (y1534 + 1) c1549
  | _ + 1, _ + 1, _, _ => none
def Fway_goByLifts_86_1 (n : Nat) (w : WX) : Option (WX) :=
  Gway_goByLifts_86_1 n 0 0 w
def Gway_goBeside_86_1 : Nat → Nat → Int32 → Int32 → WX → Option (WX)
  | 0, _, _, _, _ => none
  | n + 1, 0, y1551, _, w =>
    if ((a_s1_cells w) - 1) ≤ y1551 then
      some (w)
    else
      Gway_goBeside_86_1 n 1 y1551 0 w
  | n + 1, 1, y1552, y1553, w =>
    if 4 ≤ y1553 then
      Gway_goBeside_86_1 n 0 (y1552 + 1) 0 w
    else
      ai_bd (Fsea_thickAt_1 y1553 y1552 (a_s1_hour w) w) fun c1554 =>
      if c1554.1 ≤ 0 then
        Gway_goBeside_86_1 n 1 y1552 (y1553 + 1) c1554.2
      else
        ai_bd (Fsea_thickAt_1 y1553 (y1552 + 1) (a_s1_hour c1554.2) c1554.2) fun c1555 =>
        if c1555.1 ≤ 0 then
          Gway_goBeside_86_1 n 1 y1552 (y1553 + 1) c1555.2
        else
          ai_bd (Fway_join_86 ((y1552 * 4) + y1553) (((y1552 + 1) * 4) + y1553) 3 c1555.2) fun c1556 =>
          Gway_goBeside_86_1 n 1 y1552 (y1553 + 1) c1556
  | _ + 1, _ + 2, _, _, _ => none
def Fway_goBeside_86_1 (n : Nat) (w : WX) : Option (WX) :=
  Gway_goBeside_86_1 n 0 0 0 w
def Gway_soonestWay_86_1 : Nat → Nat → Int32 → Int32 → Int32 → WX → Option (Int32 × WX)
  | 0, _, _, _, _, _ => none
  | n + 1, 0, y1529, y1530, y1531, w =>
    if 24 ≤ y1531 then
      ai_bd (Fway_numberOf y1530) fun c1532 =>
      ai_bd (ai_ix (a_ways_reached w) c1532) fun v1533 =>
      if v1533 < 1000000 then
        some (v1533, w)
      else
        some ((-1), w)
    else
      ai_bd (Fway_goByLifts_86_1 n w) fun c1550 =>
      ai_bd (Fway_goBeside_86_1 n c1550) fun c1557 =>
      Gway_soonestWay_86_1 n 0 y1529 y1530 (y1531 + 1) c1557
  | _ + 1, _ + 1, _, _, _, _ => none
def Fway_soonestWay_86_1 (n : Nat) (x1518 : Int32) (x1519 : Int32) (w : WX) : Option (Int32 × WX) :=
  ai_bd (Farr_fill_87 n 1000000 w) fun c1525 =>
  ai_bd (Fway_numberOf x1518) fun c1527 =>
  ai_bd (ai_up (a_ways_reached c1525) c1527 0) fun q1528 =>
  Gway_soonestWay_86_1 n 0 x1518 x1519 1 (u_ways_reached c1525 q1528)
def Ff_soonest_0 (n : Nat) (x1513 : Int32) (x1514 : Int32) (w : WX) : Option (Int32 × WX) :=
  ai_bd (Fsea_hasPlace_1 x1513 w) fun c1515 =>
  if c1515.1 = 0 then
    ai_bd (Ff_bad_0 (-2) c1515.2) fun c1516 =>
    some (c1516.1, c1516.2)
  else
    ai_bd (Fsea_hasPlace_1 x1514 c1515.2) fun c1517 =>
    if c1517.1 = 0 then
      ai_bd (Ff_bad_0 (-2) c1517.2) fun c1559 =>
      some (c1559.1, c1559.2)
    else
      ai_bd (Fway_soonestWay_86_1 n x1513 x1514 c1517.2) fun c1558 =>
      some (c1558.1, c1558.2)
def Gsea_ceilingOf_1 : Nat → Nat → Int32 → Int32 → Int32 → Int32 → Int32 → WX → Option (Int32 × WX)
  | 0, _, _, _, _, _, _, _ => none
  | n + 1, 0, y1568, y1569, y1570, y1571, y1572, w =>
    if (a_s1_towns w) ≤ y1572 then
      some (y1570, w)
    else
      ai_bd (ai_ix (a_s1_townPlaces w) y1572) fun v1573 =>
      if (v1573 / 10) = (y1569 / 10) then
        if y1569 ≤ v1573 then
          Gsea_ceilingOf_1 n 0 y1568 y1569 y1570 y1571 (y1572 + 1) w
        else
          if v1573 ≤ y1571 then
            Gsea_ceilingOf_1 n 0 y1568 y1569 y1570 y1571 (y1572 + 1) w
          else
            Gsea_ceilingOf_1 n 0 y1568 y1569 y1572 v1573 (y1572 + 1) w
      else
        Gsea_ceilingOf_1 n 0 y1568 y1569 y1570 y1571 (y1572 + 1) w
  | _ + 1, _ + 1, _, _, _, _, _, _ => none
def Fsea_ceilingOf_1 (n : Nat) (x1566 : Int32) (w : WX) : Option (Int32 × WX) :=
  ai_bd (ai_ix (a_s1_townPlaces w) x1566) fun v1567 =>
  Gsea_ceilingOf_1 n 0 x1566 v1567 (-1) (-1) 0 w
def Fsea_duesOf_1 (x1575 : Int32) (w : WX) : Option (Int32 × WX) :=
  ai_bd (ai_ix (a_s1_townPlaces w) x1575) fun v1576 =>
  ai_bd (Fsea_thickAt_1 (v1576 - v1576 / 10 * 10) (v1576 / 10) (a_s1_hour w) w) fun c1577 =>
  some (c1577.1, c1577.2)
def Gf_net_0 : Nat → Nat → Int32 → Int32 → Int32 → WX → Option (Int32 × WX)
  | 0, _, _, _, _, _ => none
  | n + 1, 0, y1563, y1564, y1565, w =>
    if (a_s1_towns w) ≤ y1565 then
      some (y1564, w)
    else
      ai_bd (Fsea_ceilingOf_1 n y1565 w) fun c1574 =>
      if c1574.1 = (-1) then
        Gf_net_0 n 0 y1563 y1564 (y1565 + 1) c1574.2
      else
        if c1574.1 = y1563 then
          ai_bd (Fsea_duesOf_1 y1565 c1574.2) fun c1579 =>
          if y1565 = y1563 then
            ai_bd (Fsea_duesOf_1 y1565 c1579.2) fun c1580 =>
            Gf_net_0 n 0 y1563 ((y1564 + c1579.1) - c1580.1) (y1565 + 1) c1580.2
          else
            Gf_net_0 n 0 y1563 (y1564 + c1579.1) (y1565 + 1) c1579.2
        else
          if y1565 = y1563 then
            ai_bd (Fsea_duesOf_1 y1565 c1574.2) fun c1578 =>
            Gf_net_0 n 0 y1563 (y1564 - c1578.1) (y1565 + 1) c1578.2
          else
            Gf_net_0 n 0 y1563 y1564 (y1565 + 1) c1574.2
  | _ + 1, _ + 1, _, _, _, _ => none
def Ff_net_0 (n : Nat) (x1560 : Int32) (w : WX) : Option (Int32 × WX) :=
  ai_bd (Ff_within x1560 0 ((a_s1_towns w) - 1)) fun c1561 =>
  if c1561 = 0 then
    ai_bd (Ff_bad_0 (-1000) w) fun c1562 =>
    some (c1562.1, c1562.2)
  else
    Gf_net_0 n 0 x1560 0 0 w
def Ff_isSpill_0 (x1585 : Int32) (x1586 : Int32) (x1587 : Int32) (w : WX) : Option (Int32 × WX) :=
  ai_bd (Fsea_hasCell_1 x1585 w) fun c1588 =>
  if c1588.1 = 0 then
    some (0, c1588.2)
  else
    ai_bd (Ff_within x1586 0 999) fun c1589 =>
    if c1589 = 0 then
      some (0, c1588.2)
    else
      ai_bd (Ff_within x1587 0 40) fun c1590 =>
      if c1590 = 0 then
        some (0, c1588.2)
      else
        some (1, c1588.2)
def Garr_fill_84 : Nat → Nat → Int32 → Int32 → Int32 → WX → Option (WX)
  | 0, _, _, _, _, _ => none
  | n + 1, 0, y1597, y1598, y1599, w =>
    if y1599 ≤ y1598 then
      some (w)
    else
      ai_bd (ai_up (a_spread_amounts w) y1598 y1597) fun q1600 =>
      Garr_fill_84 n 0 y1597 (y1598 + 1) y1599 (u_spread_amounts w q1600)
  | _ + 1, _ + 1, _, _, _, _ => none
def Farr_fill_84 (n : Nat) (x1596 : Int32) (w : WX) : Option (WX) :=
  Garr_fill_84 n 0 x1596 0 (Int32.ofNat (List.length (a_spread_amounts w))) w
def Fspr_start_83 (n : Nat) (x1594 : Int32) (x1595 : Int32) (w : WX) : Option (WX) :=
  ai_bd (Farr_fill_84 n 0 w) fun c1601 =>
  ai_bd (ai_up (a_spread_amounts c1601) x1594 x1595) fun q1602 =>
  some ((u_spread_amounts c1601 q1602))
def Gspr_goOn_83 : Nat → Nat → Int32 → Int32 → Int32 → WX → Option (WX)
  | 0, _, _, _, _, _ => none
  | n + 1, 0, y1613, y1614, y1615, w =>
    if y1613 ≤ y1615 then
      Gspr_goOn_83 n 1 y1613 y1614 0 w
    else
      ai_bd (ai_ix (a_spread_amounts w) y1615) fun v1616 =>
      ai_bd (ai_up (a_spread_gifts w) y1615 (v1616 / 4)) fun q1617 =>
      Gspr_goOn_83 n 0 y1613 y1614 (y1615 + 1) (u_spread_gifts w q1617)
  | n + 1, 1, y1618, y1619, y1620, w =>
    if (y1618 - 1) ≤ y1620 then
      some (w)
    else
      if ((y1619 >>> (y1620 &&& 31)) &&& 1) = 0 then
        ai_bd (ai_ix (a_spread_amounts w) y1620) fun v1621 =>
        ai_bd (ai_ix (a_spread_gifts w) (y1620 + 1)) fun v1622 =>
        ai_bd (ai_ix (a_spread_gifts w) y1620) fun v1623 =>
        ai_bd (ai_up (a_spread_amounts w) y1620 (v1621 + (v1622 - v1623))) fun q1624 =>
        ai_bd (ai_ix q1624 (y1620 + 1)) fun v1625 =>
        ai_bd (ai_ix (a_spread_gifts w) y1620) fun v1626 =>
        ai_bd (ai_ix (a_spread_gifts w) (y1620 + 1)) fun v1627 =>
        ai_bd (ai_up q1624 (y1620 + 1) (v1625 + (v1626 - v1627))) fun q1628 =>
        Gspr_goOn_83 n 1 y1618 y1619 (y1620 + 1) (u_spread_amounts (u_spread_amounts w q1624) q1628)
      else
        Gspr_goOn_83 n 1 y1618 y1619 (y1620 + 1) w
  | _ + 1, _ + 2, _, _, _, _ => none
def Fspr_goOn_83 (n : Nat) (x1611 : Int32) (x1612 : Int32) (w : WX) : Option (WX) :=
  Gspr_goOn_83 n 0 x1611 x1612 0 w
def Gf_spill_0 : Nat → Nat → Int32 → Int32 → Int32 → Int32 → Int32 → WX → Option (Int32 × WX)
  | 0, _, _, _, _, _, _, _ => none
  | n + 1, 0, y1605, y1606, y1607, y1608, y1609, w =>
    if y1607 ≤ y1609 then
      ai_bd (ai_ix (a_spread_amounts w) y1608) fun v1610 =>
      some (v1610, w)
    else
      ai_bd (Fspr_goOn_83 n (a_s1_cells w) (a_s1_dams w) w) fun c1629 =>
      Gf_spill_0 n 0 y1605 y1606 y1607 y1608 (y1609 + 1) c1629
  | _ + 1, _ + 1, _, _, _, _, _, _ => none
def Ff_spill_0 (n : Nat) (x1581 : Int32) (x1582 : Int32) (x1583 : Int32) (x1584 : Int32) (w : WX) : Option (Int32 × WX) :=
  ai_bd (Ff_isSpill_0 x1581 x1582 x1583 w) fun c1591 =>
  if c1591.1 = 0 then
    ai_bd (Ff_bad_0 (-2) c1591.2) fun c1592 =>
    some (c1592.1, c1592.2)
  else
    ai_bd (Fsea_hasCell_1 x1584 c1591.2) fun c1593 =>
    if c1593.1 = 0 then
      ai_bd (Ff_bad_0 (-2) c1593.2) fun c1604 =>
      some (c1604.1, c1604.2)
    else
      ai_bd (Fspr_start_83 n x1581 x1582 c1593.2) fun c1603 =>
      Gf_spill_0 n 0 x1581 x1582 x1583 x1584 0 c1603
def Fint_bitCount (x1645 : Int32) : Option (Int32) :=
  some (((((((((x1645 - (((x1645 : Int32).toUInt32 >>> ((1 : Int32).toUInt32 &&& Int32.toUInt32 31)).toInt32 &&& 1431655765)) &&& 858993459) + ((((x1645 - (((x1645 : Int32).toUInt32 >>> ((1 : Int32).toUInt32 &&& Int32.toUInt32 31)).toInt32 &&& 1431655765)) : Int32).toUInt32 >>> ((2 : Int32).toUInt32 &&& Int32.toUInt32 31)).toInt32 &&& 858993459)) + (((((x1645 - (((x1645 : Int32).toUInt32 >>> ((1 : Int32).toUInt32 &&& Int32.toUInt32 31)).toInt32 &&& 1431655765)) &&& 858993459) + ((((x1645 - (((x1645 : Int32).toUInt32 >>> ((1 : Int32).toUInt32 &&& Int32.toUInt32 31)).toInt32 &&& 1431655765)) : Int32).toUInt32 >>> ((2 : Int32).toUInt32 &&& Int32.toUInt32 31)).toInt32 &&& 858993459)) : Int32).toUInt32 >>> ((4 : Int32).toUInt32 &&& Int32.toUInt32 31)).toInt32) &&& 252645135) + (((((((x1645 - (((x1645 : Int32).toUInt32 >>> ((1 : Int32).toUInt32 &&& Int32.toUInt32 31)).toInt32 &&& 1431655765)) &&& 858993459) + ((((x1645 - (((x1645 : Int32).toUInt32 >>> ((1 : Int32).toUInt32 &&& Int32.toUInt32 31)).toInt32 &&& 1431655765)) : Int32).toUInt32 >>> ((2 : Int32).toUInt32 &&& Int32.toUInt32 31)).toInt32 &&& 858993459)) + (((((x1645 - (((x1645 : Int32).toUInt32 >>> ((1 : Int32).toUInt32 &&& Int32.toUInt32 31)).toInt32 &&& 1431655765)) &&& 858993459) + ((((x1645 - (((x1645 : Int32).toUInt32 >>> ((1 : Int32).toUInt32 &&& Int32.toUInt32 31)).toInt32 &&& 1431655765)) : Int32).toUInt32 >>> ((2 : Int32).toUInt32 &&& Int32.toUInt32 31)).toInt32 &&& 858993459)) : Int32).toUInt32 >>> ((4 : Int32).toUInt32 &&& Int32.toUInt32 31)).toInt32) &&& 252645135) : Int32).toUInt32 >>> ((8 : Int32).toUInt32 &&& Int32.toUInt32 31)).toInt32) + ((((((((x1645 - (((x1645 : Int32).toUInt32 >>> ((1 : Int32).toUInt32 &&& Int32.toUInt32 31)).toInt32 &&& 1431655765)) &&& 858993459) + ((((x1645 - (((x1645 : Int32).toUInt32 >>> ((1 : Int32).toUInt32 &&& Int32.toUInt32 31)).toInt32 &&& 1431655765)) : Int32).toUInt32 >>> ((2 : Int32).toUInt32 &&& Int32.toUInt32 31)).toInt32 &&& 858993459)) + (((((x1645 - (((x1645 : Int32).toUInt32 >>> ((1 : Int32).toUInt32 &&& Int32.toUInt32 31)).toInt32 &&& 1431655765)) &&& 858993459) + ((((x1645 - (((x1645 : Int32).toUInt32 >>> ((1 : Int32).toUInt32 &&& Int32.toUInt32 31)).toInt32 &&& 1431655765)) : Int32).toUInt32 >>> ((2 : Int32).toUInt32 &&& Int32.toUInt32 31)).toInt32 &&& 858993459)) : Int32).toUInt32 >>> ((4 : Int32).toUInt32 &&& Int32.toUInt32 31)).toInt32) &&& 252645135) + (((((((x1645 - (((x1645 : Int32).toUInt32 >>> ((1 : Int32).toUInt32 &&& Int32.toUInt32 31)).toInt32 &&& 1431655765)) &&& 858993459) + ((((x1645 - (((x1645 : Int32).toUInt32 >>> ((1 : Int32).toUInt32 &&& Int32.toUInt32 31)).toInt32 &&& 1431655765)) : Int32).toUInt32 >>> ((2 : Int32).toUInt32 &&& Int32.toUInt32 31)).toInt32 &&& 858993459)) + (((((x1645 - (((x1645 : Int32).toUInt32 >>> ((1 : Int32).toUInt32 &&& Int32.toUInt32 31)).toInt32 &&& 1431655765)) &&& 858993459) + ((((x1645 - (((x1645 : Int32).toUInt32 >>> ((1 : Int32).toUInt32 &&& Int32.toUInt32 31)).toInt32 &&& 1431655765)) : Int32).toUInt32 >>> ((2 : Int32).toUInt32 &&& Int32.toUInt32 31)).toInt32 &&& 858993459)) : Int32).toUInt32 >>> ((4 : Int32).toUInt32 &&& Int32.toUInt32 31)).toInt32) &&& 252645135) : Int32).toUInt32 >>> ((8 : Int32).toUInt32 &&& Int32.toUInt32 31)).toInt32) : Int32).toUInt32 >>> ((16 : Int32).toUInt32 &&& Int32.toUInt32 31)).toInt32) &&& 63))
def Gspr_isIn_83 : Nat → Nat → Int32 → Int32 → WX → Option (Int32 × WX)
  | 0, _, _, _, _ => none
  | n + 1, 0, y1661, y1662, w =>
    if 6 ≤ y1662 then
      some (0, w)
    else
      if ((y1661 >>> (y1662 &&& 31)) &&& 1) = 1 then
        ai_bd (ai_ix (a_spread_amounts w) y1662) fun v1663 =>
        if v1663 ≤ 0 then
          Gspr_isIn_83 n 0 y1661 (y1662 + 1) w
        else
          some (1, w)
      else
        Gspr_isIn_83 n 0 y1661 (y1662 + 1) w
  | _ + 1, _ + 1, _, _, _ => none
def Fspr_isIn_83 (n : Nat) (x1660 : Int32) (w : WX) : Option (Int32 × WX) :=
  Gspr_isIn_83 n 0 x1660 0 w
def Gf_keepsOut_0 : Nat → Nat → Int32 → Int32 → Int32 → Int32 → Int32 → Int32 → WX → Option (Int32 × WX)
  | 0, _, _, _, _, _, _, _, _ => none
  | n + 1, 0, y1654, y1655, y1656, y1657, y1658, y1659, w =>
    if y1656 ≤ y1659 then
      ai_bd (Fspr_isIn_83 n y1657 w) fun c1664 =>
      if c1664.1 = 0 then
        some (1, c1664.2)
      else
        some (0, c1664.2)
    else
      ai_bd (Fspr_isIn_83 n y1657 w) fun c1665 =>
      if c1665.1 = 0 then
        ai_bd (Fspr_goOn_83 n (a_s1_cells c1665.2) y1658 c1665.2) fun c1666 =>
        Gf_keepsOut_0 n 0 y1654 y1655 y1656 y1657 y1658 (y1659 + 1) c1666
      else
        some (0, c1665.2)
  | _ + 1, _ + 1, _, _, _, _, _, _, _ => none
def Ff_keepsOut_0 (n : Nat) (x1648 : Int32) (x1649 : Int32) (x1650 : Int32) (x1651 : Int32) (x1652 : Int32) (w : WX) : Option (Int32 × WX) :=
  ai_bd (Fspr_start_83 n x1648 x1649 w) fun c1653 =>
  Gf_keepsOut_0 n 0 x1648 x1649 x1650 x1651 x1652 0 c1653
def Gf_keepOut_0 : Nat → Nat → Int32 → Int32 → Int32 → Int32 → Int32 → Int32 → Int32 → WX → Option (Int32 × WX)
  | 0, _, _, _, _, _, _, _, _, _ => none
  | n + 1, 0, y1638, y1639, y1640, y1641, y1642, y1643, y1644, w =>
    if y1643 ≤ y1644 then
      some (y1642, w)
    else
      if (y1644 &&& (a_s1_dams w)) = 0 then
        if y1642 = (-1) then
          ai_bd (Ff_keepsOut_0 n y1638 y1639 y1640 y1641 ((a_s1_dams w) ||| y1644) w) fun c1667 =>
          if c1667.1 = 0 then
            Gf_keepOut_0 n 0 y1638 y1639 y1640 y1641 y1642 y1643 (y1644 + 1) c1667.2
          else
            Gf_keepOut_0 n 0 y1638 y1639 y1640 y1641 y1644 y1643 (y1644 + 1) c1667.2
        else
          ai_bd (Fint_bitCount y1644) fun c1668 =>
          ai_bd (Fint_bitCount y1642) fun c1669 =>
          if c1669 ≤ c1668 then
            Gf_keepOut_0 n 0 y1638 y1639 y1640 y1641 y1642 y1643 (y1644 + 1) w
          else
            ai_bd (Ff_keepsOut_0 n y1638 y1639 y1640 y1641 ((a_s1_dams w) ||| y1644) w) fun c1670 =>
            if c1670.1 = 0 then
              Gf_keepOut_0 n 0 y1638 y1639 y1640 y1641 y1642 y1643 (y1644 + 1) c1670.2
            else
              Gf_keepOut_0 n 0 y1638 y1639 y1640 y1641 y1644 y1643 (y1644 + 1) c1670.2
      else
        if y1642 = (-1) then
          Gf_keepOut_0 n 0 y1638 y1639 y1640 y1641 y1642 y1643 (y1644 + 1) w
        else
          ai_bd (Fint_bitCount y1644) fun c1646 =>
          ai_bd (Fint_bitCount y1642) fun c1647 =>
          if c1647 ≤ c1646 then
            Gf_keepOut_0 n 0 y1638 y1639 y1640 y1641 y1642 y1643 (y1644 + 1) w
          else
            Gf_keepOut_0 n 0 y1638 y1639 y1640 y1641 y1642 y1643 (y1644 + 1) w
  | _ + 1, _ + 1, _, _, _, _, _, _, _, _ => none
def Ff_keepOut_0 (n : Nat) (x1630 : Int32) (x1631 : Int32) (x1632 : Int32) (x1633 : Int32) (w : WX) : Option (Int32 × WX) :=
  ai_bd (Ff_isSpill_0 x1630 x1631 x1632 w) fun c1634 =>
  if c1634.1 = 0 then
    ai_bd (Ff_bad_0 (-2) c1634.2) fun c1635 =>
    some (c1635.1, c1635.2)
  else
    ai_bd (Ff_within x1633 0 ((1 <<< ((a_s1_cells c1634.2) &&& 31)) - 1)) fun c1636 =>
    if c1636 = 0 then
      ai_bd (Ff_bad_0 (-2) c1634.2) fun c1637 =>
      some (c1637.1, c1637.2)
    else
      Gf_keepOut_0 n 0 x1630 x1631 x1632 x1633 (-1) (1 <<< (((a_s1_cells c1634.2) - 1) &&& 31)) 0 c1634.2
def Gsea_allThick_1 : Nat → Nat → Int32 → Int32 → Int32 → WX → Option (Int32 × WX)
  | 0, _, _, _, _, _ => none
  | n + 1, 0, y1680, y1681, y1682, w =>
    if 4 ≤ y1682 then
      some (y1681, w)
    else
      ai_bd (Fsea_thickAt_1 y1682 y1680 (a_s1_hour w) w) fun c1683 =>
      Gsea_allThick_1 n 0 y1680 (y1681 + c1683.1) (y1682 + 1) c1683.2
  | _ + 1, _ + 1, _, _, _, _ => none
def Fsea_allThick_1 (n : Nat) (x1679 : Int32) (w : WX) : Option (Int32 × WX) :=
  Gsea_allThick_1 n 0 x1679 0 0 w
def Gf_shaken_0 : Nat → Nat → Int32 → Int32 → Int32 → Int32 → Int32 → Int32 → Int32 → WX → Option (Int32 × WX)
  | 0, _, _, _, _, _, _, _, _, _ => none
  | n + 1, 0, y1686, y1687, y1688, y1689, y1690, y1691, y1692, w =>
    if y1686 < y1692 then
      some (y1690, w)
    else
      if y1691 ≤ y1689 then
        some (y1690, w)
      else
        Gf_shaken_0 n 0 y1686 y1687 y1688 y1689 (y1690 + 1) (y1691 - ((y1691 + 3) / 4)) (y1692 + 1) w
  | _ + 1, _ + 1, _, _, _, _, _, _, _, _ => none
def Ff_shaken_0 (n : Nat) (x1671 : Int32) (x1672 : Int32) (x1673 : Int32) (w : WX) : Option (Int32 × WX) :=
  ai_bd (Ff_within x1671 0 99) fun c1674 =>
  if c1674 = 0 then
    ai_bd (Ff_bad_0 (-2) w) fun c1675 =>
    some (c1675.1, c1675.2)
  else
    ai_bd (Fsea_hasCell_1 x1672 w) fun c1676 =>
    if c1676.1 = 0 then
      ai_bd (Ff_bad_0 (-2) c1676.2) fun c1677 =>
      some (c1677.1, c1677.2)
    else
      ai_bd (Ff_within x1673 0 1) fun c1678 =>
      if c1678 = 0 then
        ai_bd (Ff_bad_0 (-2) c1676.2) fun c1685 =>
        some (c1685.1, c1685.2)
      else
        if x1673 = 0 then
          Gf_shaken_0 n 0 x1671 x1672 x1673 0 0 x1671 0 c1676.2
        else
          ai_bd (Fsea_allThick_1 n x1672 c1676.2) fun c1684 =>
          Gf_shaken_0 n 0 x1671 x1672 x1673 c1684.1 0 x1671 0 c1684.2
def Gf_lies_0 : Nat → Nat → Int32 → Int32 → Int32 → Int32 → Int32 → Int32 → Int32 → Int32 → Int32 → WX → Option (Int32 × WX)
  | 0, _, _, _, _, _, _, _, _, _, _, _ => none
  | n + 1, 0, y1708, y1709, y1710, y1711, y1712, y1713, y1714, y1715, y1716, w =>
    if 99 < y1716 then
      if y1712 = 0 then
        some (y1713, w)
      else
        if y1712 = 1 then
          some (y1714, w)
        else
          some (y1715, w)
    else
      ai_bd (Ffall_shape_81 4 y1716 y1708 0 y1711 w) fun c1717 =>
      ai_bd (Ffall_letGo_81_1 n y1709 y1711 0 c1717) fun c1718 =>
      if (a_fall_layer c1718) = y1710 then
        if y1714 = (-1) then
          Gf_lies_0 n 0 y1708 y1709 y1710 y1711 y1712 (y1713 + 1) y1716 y1716 (y1716 + 1) c1718
        else
          Gf_lies_0 n 0 y1708 y1709 y1710 y1711 y1712 (y1713 + 1) y1714 y1716 (y1716 + 1) c1718
      else
        Gf_lies_0 n 0 y1708 y1709 y1710 y1711 y1712 y1713 y1714 y1715 (y1716 + 1) c1718
  | _ + 1, _ + 1, _, _, _, _, _, _, _, _, _, _ => none
def Ff_lies_0 (n : Nat) (x1693 : Int32) (x1694 : Int32) (x1695 : Int32) (x1696 : Int32) (x1697 : Int32) (w : WX) : Option (Int32 × WX) :=
  ai_bd (Ff_within x1693 1 9) fun c1698 =>
  if c1698 = 0 then
    ai_bd (Ff_bad_0 (-10) w) fun c1699 =>
    some (c1699.1, c1699.2)
  else
    ai_bd (Fsea_hasCell_1 x1694 w) fun c1700 =>
    if c1700.1 = 0 then
      ai_bd (Ff_bad_0 (-10) c1700.2) fun c1701 =>
      some (c1701.1, c1701.2)
    else
      ai_bd (Ff_within x1695 0 4) fun c1702 =>
      if c1702 = 0 then
        ai_bd (Ff_bad_0 (-10) c1700.2) fun c1703 =>
        some (c1703.1, c1703.2)
      else
        ai_bd (Ff_within x1696 0 999) fun c1704 =>
        if c1704 = 0 then
          ai_bd (Ff_bad_0 (-10) c1700.2) fun c1705 =>
          some (c1705.1, c1705.2)
        else
          ai_bd (Ff_within x1697 0 2) fun c1706 =>
          if c1706 = 0 then
            ai_bd (Ff_bad_0 (-10) c1700.2) fun c1707 =>
            some (c1707.1, c1707.2)
          else
            Gf_lies_0 n 0 x1693 x1694 x1695 x1696 x1697 0 (-1) (-1) 1 c1700.2
def Gfall_driftFrom_81_1 : Nat → Nat → Int32 → Int32 → Int32 → Int32 → WX → Option (Int32 × WX)
  | 0, _, _, _, _, _, _ => none
  | n + 1, 0, y1731, y1732, y1733, _, w =>
    if 4 ≤ y1733 then
      some (y1732, w)
    else
      Gfall_driftFrom_81_1 n 1 y1731 y1732 y1733 0 w
  | n + 1, 1, y1734, y1735, y1736, y1737, w =>
    ai_bd (ai_ix (a_fall_passedThick w) y1736) fun v1738 =>
    if v1738 ≤ y1737 then
      Gfall_driftFrom_81_1 n 0 y1734 y1735 (y1736 + 1) 0 w
    else
      ai_bd (ai_ix (a_s1_currents w) y1736) fun v1739 =>
      Gfall_driftFrom_81_1 n 1 y1734 (if 0 < (if (y1735 + v1739) < ((a_s1_cells w) - 1) then (y1735 + v1739) else ((a_s1_cells w) - 1)) then (if (y1735 + v1739) < ((a_s1_cells w) - 1) then (y1735 + v1739) else ((a_s1_cells w) - 1)) else 0) y1736 (y1737 + 1) w
  | _ + 1, _ + 2, _, _, _, _, _ => none
def Ffall_driftFrom_81_1 (n : Nat) (x1730 : Int32) (w : WX) : Option (Int32 × WX) :=
  Gfall_driftFrom_81_1 n 0 x1730 x1730 0 0 w
def Gf_wentIn_0 : Nat → Nat → Int32 → Int32 → Int32 → Int32 → WX → Option (Int32 × WX)
  | 0, _, _, _, _, _, _ => none
  | n + 1, 0, y1725, y1726, y1727, y1728, w =>
    if (a_s1_cells w) ≤ y1728 then
      some (y1727, w)
    else
      ai_bd (Ff_letGoNow_0 n y1725 y1728 0 w) fun c1729 =>
      ai_bd (Ffall_driftFrom_81_1 n y1728 c1729) fun c1740 =>
      if c1740.1 = y1726 then
        Gf_wentIn_0 n 0 y1725 y1726 (y1727 ||| (1 <<< (y1728 &&& 31))) (y1728 + 1) c1740.2
      else
        Gf_wentIn_0 n 0 y1725 y1726 y1727 (y1728 + 1) c1740.2
  | _ + 1, _ + 1, _, _, _, _, _ => none
def Ff_wentIn_0 (n : Nat) (x1719 : Int32) (x1720 : Int32) (w : WX) : Option (Int32 × WX) :=
  ai_bd (Fthg_has_7 x1719 w) fun c1721 =>
  if c1721.1 = 0 then
    ai_bd (Ff_bad_0 (-2) c1721.2) fun c1722 =>
    some (c1722.1, c1722.2)
  else
    ai_bd (Fsea_hasCell_1 x1720 c1721.2) fun c1723 =>
    if c1723.1 = 0 then
      ai_bd (Ff_bad_0 (-2) c1723.2) fun c1724 =>
      some (c1724.1, c1724.2)
    else
      Gf_wentIn_0 n 0 x1719 x1720 0 0 c1723.2
def Gf_areFish_0 : Nat → Nat → Int32 → Int32 → WX → Option (Int32 × WX)
  | 0, _, _, _, _ => none
  | n + 1, 0, y1748, y1749, w =>
    if (a_s1things_count w) ≤ y1749 then
      some (1, w)
    else
      if ((y1748 >>> (y1749 &&& 31)) &&& 1) = 1 then
        ai_bd (ai_ix (a_s1things_kinds w) y1749) fun v1750 =>
        if v1750 = 5 then
          Gf_areFish_0 n 0 y1748 (y1749 + 1) w
        else
          some (0, w)
      else
        Gf_areFish_0 n 0 y1748 (y1749 + 1) w
  | _ + 1, _ + 1, _, _, _ => none
def Ff_areFish_0 (n : Nat) (x1746 : Int32) (w : WX) : Option (Int32 × WX) :=
  ai_bd (Ff_within x1746 0 ((1 <<< ((a_s1things_count w) &&& 31)) - 1)) fun c1747 =>
  if c1747 = 0 then
    some (0, w)
  else
    Gf_areFish_0 n 0 x1746 0 w
def Gf_fillDowns_0 : Nat → Nat → Int32 → Int32 → WX → Option (WX)
  | 0, _, _, _, _ => none
  | n + 1, 0, y1755, y1756, w =>
    if (a_s1things_count w) ≤ y1756 then
      some (w)
    else
      ai_bd (ai_up (a_f_downs w) y1756 (-1)) fun q1757 =>
      ai_bd (ai_ix (a_s1things_kinds w) y1756) fun v1758 =>
      if v1758 = 5 then
        ai_bd (Ff_letGoNow_0 n y1756 y1755 0 (u_f_downs w q1757)) fun c1759 =>
        ai_bd (ai_up (a_f_downs c1759) y1756 (a_fall_down c1759)) fun q1760 =>
        Gf_fillDowns_0 n 0 y1755 (y1756 + 1) (u_f_downs c1759 q1760)
      else
        Gf_fillDowns_0 n 0 y1755 (y1756 + 1) (u_f_downs w q1757)
  | _ + 1, _ + 1, _, _, _ => none
def Ff_fillDowns_0 (n : Nat) (x1754 : Int32) (w : WX) : Option (WX) :=
  Gf_fillDowns_0 n 0 x1754 0 w
def Gf_caught_0 : Nat → Nat → Int32 → Int32 → Int32 → Int32 → WX → Option (Int32 × WX)
  | 0, _, _, _, _, _, _ => none
  | n + 1, 0, y1778, y1779, y1780, y1781, w =>
    if (a_s1things_count w) ≤ y1781 then
      some (y1780, w)
    else
      ai_bd (ai_ix (a_f_downs w) y1781) fun v1782 =>
      ai_bd (Ff_within v1782 y1778 y1779) fun c1783 =>
      if c1783 = 0 then
        Gf_caught_0 n 0 y1778 y1779 y1780 (y1781 + 1) w
      else
        Gf_caught_0 n 0 y1778 y1779 (y1780 ||| (1 <<< (y1781 &&& 31))) (y1781 + 1) w
  | _ + 1, _ + 1, _, _, _, _, _ => none
def Ff_caught_0 (n : Nat) (x1776 : Int32) (x1777 : Int32) (w : WX) : Option (Int32 × WX) :=
  Gf_caught_0 n 0 x1776 x1777 0 0 w
def Gf_nets_0 : Nat → Nat → Int32 → Int32 → Int32 → Int32 → Int32 → Int32 → Int32 → WX → Option (Int32 × WX)
  | 0, _, _, _, _, _, _, _, _, _ => none
  | n + 1, 0, y1763, y1764, y1765, y1766, y1767, y1768, _, w =>
    if 60 < y1768 then
      if y1765 = 0 then
        some (y1766, w)
      else
        some (y1767, w)
    else
      Gf_nets_0 n 1 y1763 y1764 y1765 y1766 y1767 y1768 y1768 w
  | n + 1, 1, y1769, y1770, y1771, y1772, y1773, y1774, y1775, w =>
    if 60 < y1775 then
      Gf_nets_0 n 0 y1769 y1770 y1771 y1772 y1773 (y1774 + 1) 0 w
    else
      ai_bd (Ff_caught_0 n y1774 y1775 w) fun c1784 =>
      if c1784.1 = y1770 then
        if y1773 = (-1) then
          Gf_nets_0 n 1 y1769 y1770 y1771 (y1772 + 1) ((100 * y1774) + y1775) y1774 (y1775 + 1) c1784.2
        else
          Gf_nets_0 n 1 y1769 y1770 y1771 (y1772 + 1) y1773 y1774 (y1775 + 1) c1784.2
      else
        Gf_nets_0 n 1 y1769 y1770 y1771 y1772 y1773 y1774 (y1775 + 1) c1784.2
  | _ + 1, _ + 2, _, _, _, _, _, _, _, _ => none
def Ff_nets_0 (n : Nat) (x1741 : Int32) (x1742 : Int32) (x1743 : Int32) (w : WX) : Option (Int32 × WX) :=
  ai_bd (Fsea_hasCell_1 x1741 w) fun c1744 =>
  if c1744.1 = 0 then
    ai_bd (Ff_bad_0 (-10) c1744.2) fun c1745 =>
    some (c1745.1, c1745.2)
  else
    ai_bd (Ff_areFish_0 n x1742 c1744.2) fun c1751 =>
    if c1751.1 = 0 then
      ai_bd (Ff_bad_0 (-10) c1751.2) fun c1752 =>
      some (c1752.1, c1752.2)
    else
      ai_bd (Ff_within x1743 0 1) fun c1753 =>
      if c1753 = 0 then
        ai_bd (Ff_bad_0 (-10) c1751.2) fun c1762 =>
        some (c1762.1, c1762.2)
      else
        ai_bd (Ff_fillDowns_0 n x1741 c1751.2) fun c1761 =>
        Gf_nets_0 n 0 x1741 x1742 x1743 0 (-1) 0 0 c1761
def Gsea_sweetInAll_1 : Nat → Nat → Int32 → Int32 → WX → Option (Int32 × WX)
  | 0, _, _, _, _ => none
  | n + 1, 0, y1787, y1788, w =>
    if (a_s1_cells w) ≤ y1788 then
      some (y1787, w)
    else
      ai_bd (Fsea_thickAt_1 0 y1788 (a_s1_hour w) w) fun c1789 =>
      Gsea_sweetInAll_1 n 0 (y1787 + c1789.1) (y1788 + 1) c1789.2
  | _ + 1, _ + 1, _, _, _ => none
def Fsea_sweetInAll_1 (n : Nat) (w : WX) : Option (Int32 × WX) :=
  Gsea_sweetInAll_1 n 0 0 0 w
def Ff_tapped (x1806 : Int32) (x1807 : Int32) (x1808 : Int32) : Option (Int32) :=
  some ((x1806 - (2 * (if 0 < ((x1806 + x1807) - x1808) then ((x1806 + x1807) - x1808) else 0))))
def Gf_isBestTap : Nat → Nat → Int32 → Int32 → Int32 → Int32 → Int32 → Option (Int32)
  | 0, _, _, _, _, _, _ => none
  | n + 1, 0, y1810, y1811, y1812, y1813, y1814 =>
    if 9 < y1814 then
      some (1)
    else
      ai_bd (Ff_tapped y1814 y1811 y1812) fun c1815 =>
      if c1815 ≤ y1813 then
        Gf_isBestTap n 0 y1810 y1811 y1812 y1813 (y1814 + 1)
      else
        some (0)
  | _ + 1, _ + 1, _, _, _, _, _ => none
def Ff_isBestTap (n : Nat) (x1803 : Int32) (x1804 : Int32) (x1805 : Int32) : Option (Int32) :=
  ai_bd (Ff_tapped x1803 x1804 x1805) fun c1809 =>
  Gf_isBestTap n 0 x1803 x1804 x1805 c1809 0
def Gf_tap_0 : Nat → Nat → Int32 → Int32 → Int32 → Int32 → Int32 → Int32 → WX → Option (Int32 × WX)
  | 0, _, _, _, _, _, _, _, _ => none
  | n + 1, 0, y1792, y1793, y1794, y1795, y1796, _, w =>
    if 9 < y1796 then
      if y1792 = 0 then
        some (y1794, w)
      else
        some (y1795, w)
    else
      Gf_tap_0 n 1 y1792 y1793 y1794 y1795 y1796 0 w
  | n + 1, 1, y1797, y1798, y1799, y1800, y1801, y1802, w =>
    if 9 < y1802 then
      Gf_tap_0 n 0 y1797 y1798 y1799 y1800 (y1801 + 1) 0 w
    else
      ai_bd (Ff_isBestTap n y1801 y1802 y1798) fun c1816 =>
      if c1816 = 0 then
        Gf_tap_0 n 1 y1797 y1798 y1799 y1800 y1801 (y1802 + 1) w
      else
        ai_bd (Ff_isBestTap n y1802 y1801 y1798) fun c1817 =>
        if c1817 = 0 then
          Gf_tap_0 n 1 y1797 y1798 y1799 y1800 y1801 (y1802 + 1) w
        else
          if y1800 = (-1) then
            Gf_tap_0 n 1 y1797 y1798 (y1799 + 1) ((10 * y1801) + y1802) y1801 (y1802 + 1) w
          else
            Gf_tap_0 n 1 y1797 y1798 (y1799 + 1) y1800 y1801 (y1802 + 1) w
  | _ + 1, _ + 2, _, _, _, _, _, _, _ => none
def Ff_tap_0 (n : Nat) (x1785 : Int32) (w : WX) : Option (Int32 × WX) :=
  ai_bd (Ff_within x1785 0 1) fun c1786 =>
  if c1786 = 0 then
    ai_bd (Ff_bad_0 (-10) w) fun c1791 =>
    some (c1791.1, c1791.2)
  else
    ai_bd (Fsea_sweetInAll_1 n w) fun c1790 =>
    Gf_tap_0 n 0 x1785 c1790.1 0 (-1) 0 0 c1790.2
def Gsea_fitsDrops_1 : Nat → Nat → Int32 → Int32 → Int32 → WX → Option (Int32 × WX)
  | 0, _, _, _, _, _ => none
  | n + 1, 0, y1844, y1845, y1846, w =>
    if (a_s1_drops w) ≤ y1846 then
      some (1, w)
    else
      ai_bd (ai_ix (a_s1_dropLayers w) y1846) fun v1847 =>
      ai_bd (ai_ix (a_s1_densities w) v1847) fun v1848 =>
      if (y1844 * v1848) < y1845 then
        ai_bd (ai_ix (a_s1_dropFloats w) y1846) fun v1849 =>
        if v1849 = 1 then
          some (0, w)
        else
          Gsea_fitsDrops_1 n 0 y1844 y1845 (y1846 + 1) w
      else
        ai_bd (ai_ix (a_s1_dropFloats w) y1846) fun v1850 =>
        if v1850 = 1 then
          Gsea_fitsDrops_1 n 0 y1844 y1845 (y1846 + 1) w
        else
          some (0, w)
  | _ + 1, _ + 1, _, _, _, _ => none
def Fsea_fitsDrops_1 (n : Nat) (x1842 : Int32) (x1843 : Int32) (w : WX) : Option (Int32 × WX) :=
  Gsea_fitsDrops_1 n 0 x1842 x1843 0 w
def Gf_nextToTry_0 : Nat → Nat → Int32 → Int32 → Int32 → Int32 → Int32 → Int32 → Int32 → WX → Option (Int32 × WX)
  | 0, _, _, _, _, _, _, _, _, _ => none
  | n + 1, 0, y1830, y1831, y1832, y1833, y1834, _, _, w =>
    if 4 ≤ y1834 then
      some (y1832, w)
    else
      Gf_nextToTry_0 n 1 y1830 y1831 y1832 y1833 y1834 0 1 w
  | n + 1, 1, y1835, y1836, y1837, y1838, y1839, y1840, y1841, w =>
    if 99 < y1841 then
      if y1838 ≤ (if y1840 < (y1836 - y1840) then (y1836 - y1840) else y1840) then
        Gf_nextToTry_0 n 0 y1835 y1836 y1837 y1838 (y1839 + 1) 0 0 w
      else
        Gf_nextToTry_0 n 0 y1835 y1836 y1839 (if y1840 < (y1836 - y1840) then (y1836 - y1840) else y1840) (y1839 + 1) 0 0 w
    else
      ai_bd (Fsea_fitsDrops_1 n y1835 y1841 w) fun c1851 =>
      if c1851.1 = 0 then
        Gf_nextToTry_0 n 1 y1835 y1836 y1837 y1838 y1839 y1840 (y1841 + 1) c1851.2
      else
        ai_bd (ai_ix (a_s1_densities c1851.2) y1839) fun v1852 =>
        if (y1835 * v1852) < y1841 then
          Gf_nextToTry_0 n 1 y1835 y1836 y1837 y1838 y1839 y1840 (y1841 + 1) c1851.2
        else
          Gf_nextToTry_0 n 1 y1835 y1836 y1837 y1838 y1839 (y1840 + 1) (y1841 + 1) c1851.2
  | _ + 1, _ + 2, _, _, _, _, _, _, _, _ => none
def Ff_nextToTry_0 (n : Nat) (x1828 : Int32) (x1829 : Int32) (w : WX) : Option (Int32 × WX) :=
  Gf_nextToTry_0 n 0 x1828 x1829 (-1) (x1829 + 1) 0 0 0 w
def Gf_known_0 : Nat → Nat → Int32 → Int32 → Int32 → Int32 → WX → Option (Int32 × WX)
  | 0, _, _, _, _, _, _ => none
  | n + 1, 0, y1824, y1825, y1826, y1827, w =>
    if 99 < y1827 then
      if y1825 = 0 then
        some (y1826, w)
      else
        if y1826 = 0 then
          some ((-1), w)
        else
          ai_bd (Ff_nextToTry_0 n y1824 y1826 w) fun c1853 =>
          some (c1853.1, c1853.2)
    else
      ai_bd (Fsea_fitsDrops_1 n y1824 y1827 w) fun c1854 =>
      if c1854.1 = 0 then
        Gf_known_0 n 0 y1824 y1825 y1826 (y1827 + 1) c1854.2
      else
        Gf_known_0 n 0 y1824 y1825 (y1826 + 1) (y1827 + 1) c1854.2
  | _ + 1, _ + 1, _, _, _, _, _ => none
def Ff_known_0 (n : Nat) (x1818 : Int32) (x1819 : Int32) (w : WX) : Option (Int32 × WX) :=
  ai_bd (Ff_within x1818 1 9) fun c1820 =>
  if c1820 = 0 then
    ai_bd (Ff_bad_0 (-10) w) fun c1821 =>
    some (c1821.1, c1821.2)
  else
    ai_bd (Ff_within x1819 0 1) fun c1822 =>
    if c1822 = 0 then
      ai_bd (Ff_bad_0 (-10) w) fun c1823 =>
      some (c1823.1, c1823.2)
    else
      Gf_known_0 n 0 x1818 x1819 0 1 w
def Gf_putFraction_0 : Nat → Nat → Int32 → Int64 → Int64 → Int64 → Int64 → WX → Option (WX)
  | 0, _, _, _, _, _, _, _ => none
  | n + 1, 0, y1890, y1886, y1887, y1888, y1889, w =>
    if 1000 ≤ y1890 then
      if (lg_cmp y1888 0) = 0 then
        some ((u_f_below (u_f_above w (y1886 / 1)) (y1887 / 1)))
      else
        if y1888 = 0 then none else
          if y1888 = 0 then none else
            some ((u_f_below (u_f_above w (y1886 / y1888)) (y1887 / y1888)))
    else
      if (lg_cmp y1889 0) = 0 then
        if (lg_cmp y1888 0) = 0 then
          some ((u_f_below (u_f_above w (y1886 / 1)) (y1887 / 1)))
        else
          if y1888 = 0 then none else
            if y1888 = 0 then none else
              some ((u_f_below (u_f_above w (y1886 / y1888)) (y1887 / y1888)))
      else
        if y1889 = 0 then none else
          Gf_putFraction_0 n 0 (y1890 + 1) y1886 y1887 y1889 (y1888 - y1888 / y1889 * y1889) w
  | _ + 1, _ + 1, _, _, _, _, _, _ => none
def Ff_putFraction_0 (n : Nat) (x1884 : Int64) (x1885 : Int64) (w : WX) : Option (WX) :=
  Gf_putFraction_0 n 0 0 x1884 x1885 x1885 x1884 w
def Gf_chanceOf : Nat → Nat → Int32 → Int32 → Int64 → Int64 → Int64 → Option (Int64)
  | 0, _, _, _, _, _, _ => none
  | n + 1, 0, y1896, y1900, y1897, y1898, y1899 =>
    if 3 ≤ y1900 then
      some (y1899)
    else
      if ((y1896 >>> (y1900 &&& 31)) &&& 1) = 1 then
        Gf_chanceOf n 0 y1896 (y1900 + 1) y1897 y1898 (y1899 * (y1897 - y1898))
      else
        Gf_chanceOf n 0 y1896 (y1900 + 1) y1897 y1898 (y1899 * y1898)
  | _ + 1, _ + 1, _, _, _, _, _ => none
def Ff_chanceOf (n : Nat) (x1893 : Int32) (x1894 : Int64) (x1895 : Int64) : Option (Int64) :=
  Gf_chanceOf n 0 x1893 0 x1894 x1895 1
def Gf_storm_0 : Nat → Nat → Int32 → Int32 → Int32 → Int32 → Int32 → Int32 → Int64 → Int64 → Int64 → WX → Option (Int32 × WX)
  | 0, _, _, _, _, _, _, _, _, _, _, _ => none
  | n + 1, 0, y1867, y1868, y1869, y1870, y1873, _, y1871, y1872, _, w =>
    if y1869 ≤ y1873 then
      ai_bd (Ff_letGoNow_0 n y1867 y1868 0 w) fun c1874 =>
      Gf_storm_0 n 1 y1867 y1868 y1869 y1870 (a_fall_layer c1874) 0 y1871 y1872 0 c1874
    else
      Gf_storm_0 n 0 y1867 y1868 y1869 y1870 (y1873 + 1) 0 (y1871 * 10) (y1872 * ((10 - y1870)).toInt64) 0 w
  | n + 1, 1, y1875, y1876, y1877, y1878, y1881, y1883, y1879, y1880, y1882, w =>
    if 8 ≤ y1883 then
      ai_bd (Ff_putFraction_0 n y1882 ((y1879 * y1879) * y1879) w) fun c1891 =>
      some (1, c1891)
    else
      ai_bd (Ff_letGoNow_0 n y1875 y1876 y1883 w) fun c1892 =>
      if (a_fall_layer c1892) ≤ y1881 then
        Gf_storm_0 n 1 y1875 y1876 y1877 y1878 y1881 (y1883 + 1) y1879 y1880 y1882 c1892
      else
        ai_bd (Ff_chanceOf n y1883 y1879 y1880) fun c1901 =>
        Gf_storm_0 n 1 y1875 y1876 y1877 y1878 y1881 (y1883 + 1) y1879 y1880 (y1882 + c1901) c1892
  | _ + 1, _ + 2, _, _, _, _, _, _, _, _, _, _ => none
def Ff_storm_0 (n : Nat) (x1855 : Int32) (x1856 : Int32) (x1857 : Int32) (x1858 : Int32) (w : WX) : Option (Int32 × WX) :=
  ai_bd (Fthg_has_7 x1855 w) fun c1859 =>
  if c1859.1 = 0 then
    ai_bd (Ff_bad_0 (-2) c1859.2) fun c1860 =>
    some (c1860.1, c1860.2)
  else
    ai_bd (Fsea_hasCell_1 x1856 c1859.2) fun c1861 =>
    if c1861.1 = 0 then
      ai_bd (Ff_bad_0 (-2) c1861.2) fun c1862 =>
      some (c1862.1, c1862.2)
    else
      ai_bd (Ff_within x1857 0 5) fun c1863 =>
      if c1863 = 0 then
        ai_bd (Ff_bad_0 (-2) c1861.2) fun c1864 =>
        some (c1864.1, c1864.2)
      else
        ai_bd (Ff_within x1858 0 10) fun c1865 =>
        if c1865 = 0 then
          ai_bd (Ff_bad_0 (-2) c1861.2) fun c1866 =>
          some (c1866.1, c1866.2)
        else
          Gf_storm_0 n 0 x1855 x1856 x1857 x1858 0 0 1 1 0 c1861.2
def Ff_part_0 (x1902 : Int32) (w : WX) : Option (Int64 × WX) :=
  ai_bd (Ff_within x1902 0 1) fun c1903 =>
  if c1903 = 0 then
    ai_bd (Ff_bad_0 (-2) w) fun c1904 =>
    some ((c1904.1).toInt64, c1904.2)
  else
    if x1902 = 0 then
      some ((a_f_above w), w)
    else
      some ((a_f_below w), w)
def Fthg_copyFrom_45_7 (w : WX) : Option (WX) :=
  ai_bd (ai_cpy (a_s1things_kinds w) (a_s3things_kinds w) 0 0 6) fun q1912 =>
  ai_bd (ai_cpy (a_s1things_weights w) (a_s3things_weights w) 0 0 6) fun q1913 =>
  ai_bd (ai_cpy (a_s1things_volumes w) (a_s3things_volumes w) 0 0 6) fun q1914 =>
  ai_bd (ai_cpy (a_s1things_ballasts w) (a_s3things_ballasts w) 0 0 6) fun q1915 =>
  some ((u_s3things_ballasts (u_s3things_volumes (u_s3things_weights (u_s3things_kinds (u_s3things_count w (a_s1things_count w)) q1912) q1913) q1914) q1915))
def Flift_copyFrom_50_12 (w : WX) : Option (WX) :=
  ai_bd (ai_cpy (a_s1lifts_froms w) (a_s3lifts_froms w) 0 0 10) fun q1917 =>
  ai_bd (ai_cpy (a_s1lifts_tos w) (a_s3lifts_tos w) 0 0 10) fun q1918 =>
  ai_bd (ai_cpy (a_s1lifts_times w) (a_s3lifts_times w) 0 0 10) fun q1919 =>
  some ((u_s3lifts_times (u_s3lifts_tos (u_s3lifts_froms (u_s3lifts_count w (a_s1lifts_count w)) q1917) q1918) q1919))
def Fsea_copyFrom_39_1 (w : WX) : Option (WX) :=
  ai_bd (ai_cpy (a_s1_densities w) (a_s3_densities w) 0 0 4) fun q1907 =>
  ai_bd (ai_cpy (a_s1_currents w) (a_s3_currents w) 0 0 4) fun q1908 =>
  ai_bd (ai_cpy (a_s1_tides w) (a_s3_tides w) 0 0 24) fun q1909 =>
  ai_bd (ai_cpy (a_s1_thicks w) (a_s3_thicks w) 0 0 24) fun q1910 =>
  ai_bd (ai_cpy (a_s1_skins w) (a_s3_skins w) 0 0 3) fun q1911 =>
  ai_bd (Fthg_copyFrom_45_7 (u_s3_skins (u_s3_thicks (u_s3_tides (u_s3_currents (u_s3_densities (u_s3_dams (u_s3_hour (u_s3_cells w (a_s1_cells w)) (a_s1_hour w)) (a_s1_dams w)) q1907) q1908) q1909) q1910) q1911)) fun c1916 =>
  ai_bd (Flift_copyFrom_50_12 c1916) fun c1920 =>
  ai_bd (ai_cpy (a_s1_townPlaces c1920) (a_s3_townPlaces c1920) 0 0 6) fun q1921 =>
  ai_bd (ai_cpy (a_s1_dropLayers c1920) (a_s3_dropLayers c1920) 0 0 6) fun q1922 =>
  ai_bd (ai_cpy (a_s1_dropFloats c1920) (a_s3_dropFloats c1920) 0 0 6) fun q1923 =>
  ai_bd (ai_cpy (a_s1_hoursBefore c1920) (a_s3_hoursBefore c1920) 0 0 10) fun q1924 =>
  some ((u_s3_hoursBefore (u_s3_undos (u_s3_dropFloats (u_s3_dropLayers (u_s3_drops (u_s3_townPlaces (u_s3_towns c1920 (a_s1_towns c1920)) q1921) (a_s1_drops c1920)) q1922) q1923) (a_s1_undos c1920)) q1924))
def Fthg_copyFrom_64_7 (w : WX) : Option (WX) :=
  ai_bd (ai_cpy (a_s1things_kinds w) (a_s4things_kinds w) 0 0 6) fun q1932 =>
  ai_bd (ai_cpy (a_s1things_weights w) (a_s4things_weights w) 0 0 6) fun q1933 =>
  ai_bd (ai_cpy (a_s1things_volumes w) (a_s4things_volumes w) 0 0 6) fun q1934 =>
  ai_bd (ai_cpy (a_s1things_ballasts w) (a_s4things_ballasts w) 0 0 6) fun q1935 =>
  some ((u_s4things_ballasts (u_s4things_volumes (u_s4things_weights (u_s4things_kinds (u_s4things_count w (a_s1things_count w)) q1932) q1933) q1934) q1935))
def Flift_copyFrom_69_12 (w : WX) : Option (WX) :=
  ai_bd (ai_cpy (a_s1lifts_froms w) (a_s4lifts_froms w) 0 0 10) fun q1937 =>
  ai_bd (ai_cpy (a_s1lifts_tos w) (a_s4lifts_tos w) 0 0 10) fun q1938 =>
  ai_bd (ai_cpy (a_s1lifts_times w) (a_s4lifts_times w) 0 0 10) fun q1939 =>
  some ((u_s4lifts_times (u_s4lifts_tos (u_s4lifts_froms (u_s4lifts_count w (a_s1lifts_count w)) q1937) q1938) q1939))
def Fsea_copyFrom_58_1 (w : WX) : Option (WX) :=
  ai_bd (ai_cpy (a_s1_densities w) (a_s4_densities w) 0 0 4) fun q1927 =>
  ai_bd (ai_cpy (a_s1_currents w) (a_s4_currents w) 0 0 4) fun q1928 =>
  ai_bd (ai_cpy (a_s1_tides w) (a_s4_tides w) 0 0 24) fun q1929 =>
  ai_bd (ai_cpy (a_s1_thicks w) (a_s4_thicks w) 0 0 24) fun q1930 =>
  ai_bd (ai_cpy (a_s1_skins w) (a_s4_skins w) 0 0 3) fun q1931 =>
  ai_bd (Fthg_copyFrom_64_7 (u_s4_skins (u_s4_thicks (u_s4_tides (u_s4_currents (u_s4_densities (u_s4_dams (u_s4_hour (u_s4_cells w (a_s1_cells w)) (a_s1_hour w)) (a_s1_dams w)) q1927) q1928) q1929) q1930) q1931)) fun c1936 =>
  ai_bd (Flift_copyFrom_69_12 c1936) fun c1940 =>
  ai_bd (ai_cpy (a_s1_townPlaces c1940) (a_s4_townPlaces c1940) 0 0 6) fun q1941 =>
  ai_bd (ai_cpy (a_s1_dropLayers c1940) (a_s4_dropLayers c1940) 0 0 6) fun q1942 =>
  ai_bd (ai_cpy (a_s1_dropFloats c1940) (a_s4_dropFloats c1940) 0 0 6) fun q1943 =>
  ai_bd (ai_cpy (a_s1_hoursBefore c1940) (a_s4_hoursBefore c1940) 0 0 10) fun q1944 =>
  some ((u_s4_hoursBefore (u_s4_undos (u_s4_dropFloats (u_s4_dropLayers (u_s4_drops (u_s4_townPlaces (u_s4_towns c1940 (a_s1_towns c1940)) q1941) (a_s1_drops c1940)) q1942) q1943) (a_s1_undos c1940)) q1944))
def Ff_image_0 (x1905 : Int32) (w : WX) : Option (Int32 × WX) :=
  ai_bd (Ff_within x1905 0 1) fun c1906 =>
  if c1906 = 0 then
    ai_bd (Ff_bad_0 (-2) w) fun c1947 =>
    some (c1947.1, c1947.2)
  else
    if x1905 = 0 then
      ai_bd (Fsea_copyFrom_39_1 w) fun c1925 =>
      ai_bd (ai_up (a_f_imageKept c1925) x1905 (vp_nar .boolean 1)) fun q1926 =>
      some (1, (u_f_imageKept c1925 q1926))
    else
      ai_bd (Fsea_copyFrom_58_1 w) fun c1945 =>
      ai_bd (ai_up (a_f_imageKept c1945) x1905 (vp_nar .boolean 1)) fun q1946 =>
      some (1, (u_f_imageKept c1945 q1946))
def Fthg_copyFrom_7_45 (w : WX) : Option (WX) :=
  ai_bd (ai_cpy (a_s3things_kinds w) (a_s1things_kinds w) 0 0 6) fun q1956 =>
  ai_bd (ai_cpy (a_s3things_weights w) (a_s1things_weights w) 0 0 6) fun q1957 =>
  ai_bd (ai_cpy (a_s3things_volumes w) (a_s1things_volumes w) 0 0 6) fun q1958 =>
  ai_bd (ai_cpy (a_s3things_ballasts w) (a_s1things_ballasts w) 0 0 6) fun q1959 =>
  some ((u_s1things_ballasts (u_s1things_volumes (u_s1things_weights (u_s1things_kinds (u_s1things_count w (a_s3things_count w)) q1956) q1957) q1958) q1959))
def Flift_copyFrom_12_50 (w : WX) : Option (WX) :=
  ai_bd (ai_cpy (a_s3lifts_froms w) (a_s1lifts_froms w) 0 0 10) fun q1961 =>
  ai_bd (ai_cpy (a_s3lifts_tos w) (a_s1lifts_tos w) 0 0 10) fun q1962 =>
  ai_bd (ai_cpy (a_s3lifts_times w) (a_s1lifts_times w) 0 0 10) fun q1963 =>
  some ((u_s1lifts_times (u_s1lifts_tos (u_s1lifts_froms (u_s1lifts_count w (a_s3lifts_count w)) q1961) q1962) q1963))
def Fsea_copyFrom_1_39 (w : WX) : Option (WX) :=
  ai_bd (ai_cpy (a_s3_densities w) (a_s1_densities w) 0 0 4) fun q1951 =>
  ai_bd (ai_cpy (a_s3_currents w) (a_s1_currents w) 0 0 4) fun q1952 =>
  ai_bd (ai_cpy (a_s3_tides w) (a_s1_tides w) 0 0 24) fun q1953 =>
  ai_bd (ai_cpy (a_s3_thicks w) (a_s1_thicks w) 0 0 24) fun q1954 =>
  ai_bd (ai_cpy (a_s3_skins w) (a_s1_skins w) 0 0 3) fun q1955 =>
  ai_bd (Fthg_copyFrom_7_45 (u_s1_skins (u_s1_thicks (u_s1_tides (u_s1_currents (u_s1_densities (u_s1_dams (u_s1_hour (u_s1_cells w (a_s3_cells w)) (a_s3_hour w)) (a_s3_dams w)) q1951) q1952) q1953) q1954) q1955)) fun c1960 =>
  ai_bd (Flift_copyFrom_12_50 c1960) fun c1964 =>
  ai_bd (ai_cpy (a_s3_townPlaces c1964) (a_s1_townPlaces c1964) 0 0 6) fun q1965 =>
  ai_bd (ai_cpy (a_s3_dropLayers c1964) (a_s1_dropLayers c1964) 0 0 6) fun q1966 =>
  ai_bd (ai_cpy (a_s3_dropFloats c1964) (a_s1_dropFloats c1964) 0 0 6) fun q1967 =>
  ai_bd (ai_cpy (a_s3_hoursBefore c1964) (a_s1_hoursBefore c1964) 0 0 10) fun q1968 =>
  some ((u_s1_hoursBefore (u_s1_undos (u_s1_dropFloats (u_s1_dropLayers (u_s1_drops (u_s1_townPlaces (u_s1_towns c1964 (a_s3_towns c1964)) q1965) (a_s3_drops c1964)) q1966) q1967) (a_s3_undos c1964)) q1968))
def Fthg_copyFrom_7_64 (w : WX) : Option (WX) :=
  ai_bd (ai_cpy (a_s4things_kinds w) (a_s1things_kinds w) 0 0 6) fun q1975 =>
  ai_bd (ai_cpy (a_s4things_weights w) (a_s1things_weights w) 0 0 6) fun q1976 =>
  ai_bd (ai_cpy (a_s4things_volumes w) (a_s1things_volumes w) 0 0 6) fun q1977 =>
  ai_bd (ai_cpy (a_s4things_ballasts w) (a_s1things_ballasts w) 0 0 6) fun q1978 =>
  some ((u_s1things_ballasts (u_s1things_volumes (u_s1things_weights (u_s1things_kinds (u_s1things_count w (a_s4things_count w)) q1975) q1976) q1977) q1978))
def Flift_copyFrom_12_69 (w : WX) : Option (WX) :=
  ai_bd (ai_cpy (a_s4lifts_froms w) (a_s1lifts_froms w) 0 0 10) fun q1980 =>
  ai_bd (ai_cpy (a_s4lifts_tos w) (a_s1lifts_tos w) 0 0 10) fun q1981 =>
  ai_bd (ai_cpy (a_s4lifts_times w) (a_s1lifts_times w) 0 0 10) fun q1982 =>
  some ((u_s1lifts_times (u_s1lifts_tos (u_s1lifts_froms (u_s1lifts_count w (a_s4lifts_count w)) q1980) q1981) q1982))
def Fsea_copyFrom_1_58 (w : WX) : Option (WX) :=
  ai_bd (ai_cpy (a_s4_densities w) (a_s1_densities w) 0 0 4) fun q1970 =>
  ai_bd (ai_cpy (a_s4_currents w) (a_s1_currents w) 0 0 4) fun q1971 =>
  ai_bd (ai_cpy (a_s4_tides w) (a_s1_tides w) 0 0 24) fun q1972 =>
  ai_bd (ai_cpy (a_s4_thicks w) (a_s1_thicks w) 0 0 24) fun q1973 =>
  ai_bd (ai_cpy (a_s4_skins w) (a_s1_skins w) 0 0 3) fun q1974 =>
  ai_bd (Fthg_copyFrom_7_64 (u_s1_skins (u_s1_thicks (u_s1_tides (u_s1_currents (u_s1_densities (u_s1_dams (u_s1_hour (u_s1_cells w (a_s4_cells w)) (a_s4_hour w)) (a_s4_dams w)) q1970) q1971) q1972) q1973) q1974)) fun c1979 =>
  ai_bd (Flift_copyFrom_12_69 c1979) fun c1983 =>
  ai_bd (ai_cpy (a_s4_townPlaces c1983) (a_s1_townPlaces c1983) 0 0 6) fun q1984 =>
  ai_bd (ai_cpy (a_s4_dropLayers c1983) (a_s1_dropLayers c1983) 0 0 6) fun q1985 =>
  ai_bd (ai_cpy (a_s4_dropFloats c1983) (a_s1_dropFloats c1983) 0 0 6) fun q1986 =>
  ai_bd (ai_cpy (a_s4_hoursBefore c1983) (a_s1_hoursBefore c1983) 0 0 10) fun q1987 =>
  some ((u_s1_hoursBefore (u_s1_undos (u_s1_dropFloats (u_s1_dropLayers (u_s1_drops (u_s1_townPlaces (u_s1_towns c1983 (a_s4_towns c1983)) q1984) (a_s4_drops c1983)) q1985) q1986) (a_s4_undos c1983)) q1987))
def Ff_from_0 (x1948 : Int32) (w : WX) : Option (Int32 × WX) :=
  ai_bd (Ff_within x1948 0 1) fun c1949 =>
  if c1949 = 0 then
    ai_bd (Ff_bad_0 (-2) w) fun c1990 =>
    some (c1990.1, c1990.2)
  else
    ai_bd (ai_ix (a_f_imageKept w) x1948) fun v1950 =>
    if v1950 = 0 then
      ai_bd (Ff_counted_0 (-3) w) fun c1989 =>
      some (c1989.1, c1989.2)
    else
      if x1948 = 0 then
        ai_bd (Fsea_copyFrom_1_39 w) fun c1969 =>
        some (1, c1969)
      else
        ai_bd (Fsea_copyFrom_1_58 w) fun c1988 =>
        some (1, c1988)
def Ff_status_0 (x1991 : Int32) (w : WX) : Option (Int32 × WX) :=
  if x1991 = 0 then
    some ((a_f_refusedBad w), w)
  else
  if x1991 = 1 then
    some ((a_f_refusedNo w), w)
  else
  if x1991 = 2 then
    some ((a_f_refusedFull w), w)
  else
    ai_bd (Ff_bad_0 (-1) w) fun c1992 =>
    some (c1992.1, c1992.2)
def Fsea_countOf_1 (x1995 : Int32) (w : WX) : Option (Int32 × WX) :=
  if x1995 = 0 then
    some ((a_s1_cells w), w)
  else
  if x1995 = 1 then
    some ((a_s1_hour w), w)
  else
  if x1995 = 2 then
    some ((a_s1things_count w), w)
  else
  if x1995 = 3 then
    some ((a_s1lifts_count w), w)
  else
  if x1995 = 4 then
    some ((a_s1_towns w), w)
  else
  if x1995 = 5 then
    some ((a_s1_dams w), w)
  else
  if x1995 = 6 then
    some ((a_s1_drops w), w)
  else
    some ((a_s1_undos w), w)
def Ff_count_0 (x1993 : Int32) (w : WX) : Option (Int32 × WX) :=
  ai_bd (Ff_within x1993 0 8) fun c1994 =>
  if c1994 = 0 then
    ai_bd (Ff_bad_0 (-2) w) fun c1997 =>
    some (c1997.1, c1997.2)
  else
    if x1993 = 8 then
      some ((a_text_length w), w)
    else
      ai_bd (Fsea_countOf_1 x1993 w) fun c1996 =>
      some (c1996.1, c1996.2)
def Gsea_digestWaters_1 : Nat → Nat → Int32 → Int32 → Int64 → Int64 → WX → Option (Int64 × WX)
  | 0, _, _, _, _, _, _ => none
  | n + 1, 0, y2003, _, y2001, y2002, w =>
    if 4 ≤ y2003 then
      Gsea_digestWaters_1 n 3 0 0 y2001 y2002 w
    else
      ai_bd (ai_ix (a_s1_densities w) y2003) fun v2004 =>
      ai_bd (ai_ix (a_s1_currents w) y2003) fun v2005 =>
      Gsea_digestWaters_1 n 1 y2003 0 y2001 ((31 * ((31 * y2002) + (v2004).toInt64)) + (v2005).toInt64) w
  | n + 1, 1, y2012, y2013, y2010, y2011, w =>
    if 6 ≤ y2013 then
      Gsea_digestWaters_1 n 2 y2012 0 y2010 y2011 w
    else
      ai_bd (ai_ix (a_s1_tides w) ((y2012 * 6) + y2013)) fun v2014 =>
      Gsea_digestWaters_1 n 1 y2012 (y2013 + 1) y2010 ((31 * y2011) + (v2014).toInt64) w
  | n + 1, 2, y2017, y2018, y2015, y2016, w =>
    if (a_s1_cells w) ≤ y2018 then
      Gsea_digestWaters_1 n 0 (y2017 + 1) 0 y2015 y2016 w
    else
      ai_bd (ai_ix (a_s1_thicks w) ((y2017 * 6) + y2018)) fun v2019 =>
      Gsea_digestWaters_1 n 2 y2017 (y2018 + 1) y2015 ((31 * y2016) + (v2019).toInt64) w
  | n + 1, 3, y2008, _, y2006, y2007, w =>
    if 3 ≤ y2008 then
      some (y2007, w)
    else
      ai_bd (ai_ix (a_s1_skins w) y2008) fun v2009 =>
      Gsea_digestWaters_1 n 3 (y2008 + 1) 0 y2006 ((31 * y2007) + (v2009).toInt64) w
  | _ + 1, _ + 4, _, _, _, _, _ => none
def Fsea_digestWaters_1 (n : Nat) (x2000 : Int64) (w : WX) : Option (Int64 × WX) :=
  Gsea_digestWaters_1 n 0 0 0 x2000 x2000 w
def Gsea_digestRows_1 : Nat → Nat → Int32 → Int64 → Int64 → WX → Option (Int64 × WX)
  | 0, _, _, _, _, _ => none
  | n + 1, 0, y2024, y2022, y2023, w =>
    if (a_s1things_count w) ≤ y2024 then
      Gsea_digestRows_1 n 1 0 y2022 y2023 w
    else
      ai_bd (ai_ix (a_s1things_kinds w) y2024) fun v2025 =>
      ai_bd (ai_ix (a_s1things_weights w) y2024) fun v2026 =>
      ai_bd (ai_ix (a_s1things_volumes w) y2024) fun v2027 =>
      ai_bd (ai_ix (a_s1things_ballasts w) y2024) fun v2028 =>
      Gsea_digestRows_1 n 0 (y2024 + 1) y2022 ((31 * ((31 * ((31 * ((31 * y2023) + (v2025).toInt64)) + (v2026).toInt64)) + (v2027).toInt64)) + (v2028).toInt64) w
  | n + 1, 1, y2031, y2029, y2030, w =>
    if (a_s1lifts_count w) ≤ y2031 then
      Gsea_digestRows_1 n 2 0 y2029 y2030 w
    else
      ai_bd (ai_ix (a_s1lifts_froms w) y2031) fun v2032 =>
      ai_bd (ai_ix (a_s1lifts_tos w) y2031) fun v2033 =>
      ai_bd (ai_ix (a_s1lifts_times w) y2031) fun v2034 =>
      Gsea_digestRows_1 n 1 (y2031 + 1) y2029 ((31 * ((31 * ((31 * y2030) + (v2032).toInt64)) + (v2033).toInt64)) + (v2034).toInt64) w
  | n + 1, 2, y2037, y2035, y2036, w =>
    if (a_s1_towns w) ≤ y2037 then
      Gsea_digestRows_1 n 3 0 y2035 y2036 w
    else
      ai_bd (ai_ix (a_s1_townPlaces w) y2037) fun v2038 =>
      Gsea_digestRows_1 n 2 (y2037 + 1) y2035 ((31 * y2036) + (v2038).toInt64) w
  | n + 1, 3, y2041, y2039, y2040, w =>
    if (a_s1_drops w) ≤ y2041 then
      some (y2040, w)
    else
      ai_bd (ai_ix (a_s1_dropLayers w) y2041) fun v2042 =>
      ai_bd (ai_ix (a_s1_dropFloats w) y2041) fun v2043 =>
      Gsea_digestRows_1 n 3 (y2041 + 1) y2039 ((31 * ((31 * y2040) + (v2042).toInt64)) + (v2043).toInt64) w
  | _ + 1, _ + 4, _, _, _, _ => none
def Fsea_digestRows_1 (n : Nat) (x2021 : Int64) (w : WX) : Option (Int64 × WX) :=
  Gsea_digestRows_1 n 0 0 x2021 x2021 w
def Gf_digest_0 : Nat → Nat → Int32 → Int64 → WX → Option (Int64 × WX)
  | 0, _, _, _, _ => none
  | n + 1, 0, y1999, y1998, w =>
    if 8 ≤ y1999 then
      ai_bd (Fsea_digestWaters_1 n ((31 * y1998) + ((a_text_length w)).toInt64) w) fun c2020 =>
      ai_bd (Fsea_digestRows_1 n c2020.1 c2020.2) fun c2044 =>
      some (((31 * ((31 * c2044.1) + (a_f_above c2044.2))) + (a_f_below c2044.2)), c2044.2)
    else
      ai_bd (Fsea_countOf_1 y1999 w) fun c2045 =>
      Gf_digest_0 n 0 (y1999 + 1) ((31 * y1998) + (c2045.1).toInt64) c2045.2
  | _ + 1, _ + 1, _, _, _ => none
def Ff_digest_0 (n : Nat) (w : WX) : Option (Int64 × WX) :=
  Gf_digest_0 n 0 0 887 w
