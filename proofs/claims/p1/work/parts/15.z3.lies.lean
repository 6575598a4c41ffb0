/-! what a drowned one weighed, on the fresh object -/
def l6 : List Int32 := [0, 1, 2, 3, 4, 5]
theorem mod6 {h : Int32} (h0 : 0 ≤ h) : h - h / 6 * 6 ∈ l6 := by
  obtain ⟨j, hj, rfl⟩ := nI_of (Int32.not_lt.mpr h0)
  rw [show (6 : Int32) = nI 6 from rfl, pk_rem hj (by decide) (by decide)]
  have h6 : j % 6 < 6 := Nat.mod_lt _ (by decide)
  have key : ∀ j : Nat, j < 6 → nI j ∈ l6 := by decide +kernel
  exact key _ h6
def XK (w : WX) : Prop := a_s1_densities w = a_s1_densities wx0 ∧ a_s1_skins w = a_s1_skins wx0 ∧ a_s1_thicks w = a_s1_thicks wx0 ∧ a_s1_tides w = a_s1_tides wx0 ∧ ∃ t0 t1 t2 t3 : Int32, a_fall_passedThick w = [t0, t1, t2, t3]
def XF (w : WX) (we ro fo : Int32) : Prop := XK w ∧ a_fall_weighs w = we ∧ a_fall_room w = ro ∧ a_fall_force w = fo
theorem XF_l {w : WX} {we ro fo : Int32} (h : XF w we ro fo) (q : Int32) : XF (u_fall_layer w q) we ro fo := ⟨⟨h.1.1, h.1.2.1, h.1.2.2.1, h.1.2.2.2.1, h.1.2.2.2.2⟩, h.2.1, h.2.2.1, h.2.2.2⟩
theorem XF_s {w : WX} {we ro fo : Int32} (h : XF w we ro fo) (q : Int32) : XF (u_fall_stopper w q) we ro fo := ⟨⟨h.1.1, h.1.2.1, h.1.2.2.1, h.1.2.2.2.1, h.1.2.2.2.2⟩, h.2.1, h.2.2.1, h.2.2.2⟩
theorem XF_d {w : WX} {we ro fo : Int32} (h : XF w we ro fo) (q : Int32) : XF (u_fall_down w q) we ro fo := ⟨⟨h.1.1, h.1.2.1, h.1.2.2.1, h.1.2.2.2.1, h.1.2.2.2.2⟩, h.2.1, h.2.2.1, h.2.2.2⟩
theorem XF_b {w : WX} {we ro fo : Int32} (h : XF w we ro fo) (q : Int32) : XF (u_fall_broken w q) we ro fo := ⟨⟨h.1.1, h.1.2.1, h.1.2.2.1, h.1.2.2.2.1, h.1.2.2.2.2⟩, h.2.1, h.2.2.1, h.2.2.2⟩
theorem XF_p {w : WX} {we ro fo : Int32} (h : XF w we ro fo) (t0 t1 t2 t3 : Int32) : XF (u_fall_passedThick w [t0, t1, t2, t3]) we ro fo := ⟨⟨h.1.1, h.1.2.1, h.1.2.2.1, h.1.2.2.2.1, ⟨t0, t1, t2, t3, rfl⟩⟩, h.2.1, h.2.2.1, h.2.2.2⟩
theorem tk1 : ∀ l ∈ l4, ∀ c ∈ l4, ai_ix (a_s1_thicks wx0) ((l * 6) + c) = some 3 := by decide +kernel
theorem tk2 : ∀ l ∈ l4, ∀ c ∈ l6, ai_ix (a_s1_tides wx0) ((l * 6) + c) = some 0 := by decide +kernel
theorem tm1 : ∀ l ∈ l4, ∀ c ∈ l4, ai_ix (a_m_w wm0) ((40 + (6 * l)) + c) = some 3 := by decide +kernel
theorem tm2 : ∀ l ∈ l4, ∀ c ∈ l6, ai_ix (a_m_w wm0) ((16 + (6 * l)) + c) = some 0 := by decide +kernel
theorem cl_thick {l c : Int32} (hl : l ∈ l4) (hc : c ∈ l4) {h : Int32} (hq : h - h / 6 * 6 ∈ l6) {w : WX} (hw : XK w) : Fsea_thickAt_1 l c h w = some ((3 : Int32), w) := by
  unfold Fsea_thickAt_1
  rw [hw.2.2.1, hw.2.2.2.1, tk1 l hl c hc, bd_some, tk2 l hl _ hq, bd_some, if_pos (by decide), Int32.add_zero]
/-- where a weight comes to rest, the room known -/
def Lf (ro we : Int32) : Int32 := if ro * 10 < we then (if ro * 13 < we then (if ro * 16 < we then (if ro * 20 < we then 4 else 3) else 2) else 1) else 0
theorem lgT {x : Int32} {we ro fo : Int32} {w : WX} (hw : XF w we ro fo) (hx : ¬ ((0 >>> (x &&& 31)) &&& 1) = (1 : Int32)) (hv : ai_ix (a_s1_skins wx0) x = some 0) (hf : 0 < fo) : Ffall_getsThrough_81_1 x 0 w = some ((1 : Int32), u_fall_broken w ((a_fall_broken w) ||| (1 <<< (x &&& 31)))) := by
  unfold Ffall_getsThrough_81_1
  rw [if_neg hx, hw.1.2.1, hv, bd_some, hw.2.2.2, if_pos hf]
theorem lgE {n : Nat} {c h last y : Int32} (hy : 4 ≤ y) (w : WX) : Gfall_letGo_81_1 (n + 1) 0 c h 0 last y w = some (u_fall_layer w 4) := by
  rw [Gfall_letGo_81_1, if_pos hy]
theorem up4 (t0 t1 t2 t3 v : Int32) {y : Int32} (hy : y ∈ l4) : ∃ q0 q1 q2 q3 : Int32, ai_up [t0, t1, t2, t3] y v = some [q0, q1, q2, q3] := by
  rcases l4c hy with rfl | rfl | rfl | rfl
  · exact ⟨v, t1, t2, t3, rfl⟩
  · exact ⟨t0, v, t2, t3, rfl⟩
  · exact ⟨t0, t1, v, t3, rfl⟩
  · exact ⟨t0, t1, t2, v, rfl⟩
theorem lgS_t {n : Nat} {c h last y de we ro fo : Int32} {w : WX} (hw : XF w we ro fo) (hc : c ∈ l4) (hq : h - h / 6 * 6 ∈ l6) (hf : 0 < fo) (hy : ¬ 4 ≤ y) (hyl : y ∈ l4) (hlast : ¬ last = (-1)) (hx : ¬ ((0 >>> ((y - 1) &&& 31)) &&& 1) = (1 : Int32)) (hv : ai_ix (a_s1_skins wx0) (y - 1) = some 0) (hd : ai_ix (a_s1_densities wx0) y = some de) (hlt : ro * de < we) : ∃ w', XF w' we ro fo ∧ Gfall_letGo_81_1 (n + 1) 0 c h 0 last y w = Gfall_letGo_81_1 n 0 c h 0 y (y + 1) w' := by
  have hB := XF_b hw ((a_fall_broken w) ||| (1 <<< ((y - 1) &&& 31)))
  obtain ⟨t0, t1, t2, t3, ht⟩ := hB.1.2.2.2.2
  obtain ⟨q0, q1, q2, q3, hu⟩ := up4 t0 t1 t2 t3 3 hyl
  refine ⟨_, XF_d (XF_p hB q0 q1 q2 q3) ((a_fall_down (u_fall_broken w ((a_fall_broken w) ||| (1 <<< ((y - 1) &&& 31))))) + 3), ?_⟩
  rw [Gfall_letGo_81_1, if_neg hy, cl_thick hyl hc hq hw.1, bd_some]
  dsimp only
  rw [if_neg (by decide), if_neg hlast, lgT hw hx hv hf, bd_some]
  dsimp only
  rw [if_neg (by decide), hB.1.1, hd, bd_some, hB.2.2.1, hB.2.1, if_pos hlt, ht, hu, bd_some]
theorem lgS_f {n : Nat} {c h last y de we ro fo : Int32} {w : WX} (hw : XF w we ro fo) (hc : c ∈ l4) (hq : h - h / 6 * 6 ∈ l6) (hf : 0 < fo) (hy : ¬ 4 ≤ y) (hyl : y ∈ l4) (hlast : ¬ last = (-1)) (hx : ¬ ((0 >>> ((y - 1) &&& 31)) &&& 1) = (1 : Int32)) (hv : ai_ix (a_s1_skins wx0) (y - 1) = some 0) (hd : ai_ix (a_s1_densities wx0) y = some de) (hlt : ¬ ro * de < we) : ∃ w', XF w' we ro fo ∧ a_fall_layer w' = y ∧ Gfall_letGo_81_1 (n + 1) 0 c h 0 last y w = some w' := by
  have hB := XF_b hw ((a_fall_broken w) ||| (1 <<< ((y - 1) &&& 31)))
  refine ⟨_, XF_l hB y, rfl, ?_⟩
  rw [Gfall_letGo_81_1, if_neg hy, cl_thick hyl hc hq hw.1, bd_some]
  dsimp only
  rw [if_neg (by decide), if_neg hlast, lgT hw hx hv hf, bd_some]
  dsimp only
  rw [if_neg (by decide), hB.1.1, hd, bd_some, hB.2.2.1, hB.2.1, if_neg hlt]
theorem lg0_t {n : Nat} {c h y de we ro fo : Int32} {w : WX} (hw : XF w we ro fo) (hc : c ∈ l4) (hq : h - h / 6 * 6 ∈ l6) (hy : ¬ 4 ≤ y) (hyl : y ∈ l4) (hd : ai_ix (a_s1_densities wx0) y = some de) (hlt : ro * de < we) : ∃ w', XF w' we ro fo ∧ Gfall_letGo_81_1 (n + 1) 0 c h 0 (-1) y w = Gfall_letGo_81_1 n 0 c h 0 y (y + 1) w' := by
  obtain ⟨t0, t1, t2, t3, ht⟩ := hw.1.2.2.2.2
  obtain ⟨q0, q1, q2, q3, hu⟩ := up4 t0 t1 t2 t3 3 hyl
  refine ⟨_, XF_d (XF_p hw q0 q1 q2 q3) ((a_fall_down w) + 3), ?_⟩
  rw [Gfall_letGo_81_1, if_neg hy, cl_thick hyl hc hq hw.1, bd_some]
  dsimp only
  rw [if_neg (by decide), if_pos rfl, hw.1.1, hd, bd_some, hw.2.2.1, hw.2.1, if_pos hlt, ht, hu, bd_some]
theorem lg0_f {n : Nat} {c h y de we ro fo : Int32} {w : WX} (hw : XF w we ro fo) (hc : c ∈ l4) (hq : h - h / 6 * 6 ∈ l6) (hy : ¬ 4 ≤ y) (hyl : y ∈ l4) (hd : ai_ix (a_s1_densities wx0) y = some de) (hlt : ¬ ro * de < we) : ∃ w', XF w' we ro fo ∧ a_fall_layer w' = y ∧ Gfall_letGo_81_1 (n + 1) 0 c h 0 (-1) y w = some w' := by
  refine ⟨_, XF_l hw y, rfl, ?_⟩
  rw [Gfall_letGo_81_1, if_neg hy, cl_thick hyl hc hq hw.1, bd_some]
  dsimp only
  rw [if_neg (by decide), if_pos rfl, hw.1.1, hd, bd_some, hw.2.2.1, hw.2.1, if_neg hlt]
theorem f82_s {n : Nat} {c we ro fo t0 t1 t2 t3 q0 q1 q2 q3 : Int32} {w : WX} (hw : XF w we ro fo) (ht : a_fall_passedThick w = [t0, t1, t2, t3]) (hc : ¬ 4 ≤ c) (hu : ai_up [t0, t1, t2, t3] c 0 = some [q0, q1, q2, q3]) : ∃ w', Garr_fill_82 (n + 1) 0 0 c 4 w = Garr_fill_82 n 0 0 (c + 1) 4 w' ∧ XF w' we ro fo ∧ a_fall_passedThick w' = [q0, q1, q2, q3] := by
  refine ⟨_, ?_, XF_p hw q0 q1 q2 q3, rfl⟩
  rw [Garr_fill_82, if_neg hc, ht, hu, bd_some]
theorem f82_e {n : Nat} {c : Int32} {w : WX} (hc : 4 ≤ c) : Garr_fill_82 (n + 1) 0 0 c 4 w = some w := by
  rw [Garr_fill_82, if_pos hc]
theorem lgF (n : Nat) {we ro fo : Int32} {w : WX} (hw : XF w we ro fo) : ∃ w', Ffall_forget_81 (n + 20) w = some w' ∧ XF w' we ro fo := by
  have h1 := XF_s (XF_b (XF_d hw 0) 0) (-1)
  obtain ⟨t0, t1, t2, t3, ht⟩ := h1.1.2.2.2.2
  obtain ⟨w1, e1, x1, y1⟩ := f82_s (n := n + 19) (c := 0) h1 ht (by decide) (q0 := 0) (q1 := t1) (q2 := t2) (q3 := t3) rfl
  obtain ⟨w2, e2, x2, y2⟩ := f82_s (n := n + 18) (c := 0 + 1) x1 y1 (by decide) (q0 := 0) (q1 := 0) (q2 := t2) (q3 := t3) rfl
  obtain ⟨w3, e3, x3, y3⟩ := f82_s (n := n + 17) (c := 0 + 1 + 1) x2 y2 (by decide) (q0 := 0) (q1 := 0) (q2 := 0) (q3 := t3) rfl
  obtain ⟨w4, e4, x4, y4⟩ := f82_s (n := n + 16) (c := 0 + 1 + 1 + 1) x3 y3 (by decide) (q0 := 0) (q1 := 0) (q2 := 0) (q3 := 0) rfl
  refine ⟨w4, ?_, x4⟩
  unfold Ffall_forget_81 Farr_fill_82
  rw [ht, show Int32.ofNat (List.length [t0, t1, t2, t3]) = 4 from rfl, e1, e2, e3, e4, f82_e (n := n + 15) (by decide), bd_some]
theorem lgo (n : Nat) {c h we ro fo : Int32} (hc : c ∈ l4) (hq : h - h / 6 * 6 ∈ l6) {w : WX} (hw : XF w we ro fo) (hf : 0 < fo) : ∃ w', Ffall_letGo_81_1 (n + 20) c h 0 w = some w' ∧ XF w' we ro fo ∧ a_fall_layer w' = Lf ro we := by
  obtain ⟨w0, e0, x0⟩ := lgF n hw
  unfold Ffall_letGo_81_1 Lf
  rw [e0, bd_some]
  by_cases h1 : ro * 10 < we
  · obtain ⟨w1, x1, e1⟩ := lg0_t (n := n + 19) (y := 0) x0 hc hq (by decide) (by decide) (show ai_ix (a_s1_densities wx0) 0 = some 10 from by decide +kernel) h1
    rw [if_pos h1, e1]
    by_cases h2 : ro * 13 < we
    · obtain ⟨w2, x2, e2⟩ := lgS_t (n := n + 18) (y := 0 + 1) (last := 0) x1 hc hq hf (by decide) (by decide) (by decide) (by decide) (by decide +kernel) (show ai_ix (a_s1_densities wx0) (0 + 1) = some 13 from by decide +kernel) h2
      rw [if_pos h2, e2]
      by_cases h3 : ro * 16 < we
      · obtain ⟨w3, x3, e3⟩ := lgS_t (n := n + 17) (y := 0 + 1 + 1) (last := 0 + 1) x2 hc hq hf (by decide) (by decide) (by decide) (by decide) (by decide +kernel) (show ai_ix (a_s1_densities wx0) (0 + 1 + 1) = some 16 from by decide +kernel) h3
        rw [if_pos h3, e3]
        by_cases h4 : ro * 20 < we
        · obtain ⟨w4, x4, e4⟩ := lgS_t (n := n + 16) (y := 0 + 1 + 1 + 1) (last := 0 + 1 + 1) x3 hc hq hf (by decide) (by decide) (by decide) (by decide) (by decide +kernel) (show ai_ix (a_s1_densities wx0) (0 + 1 + 1 + 1) = some 20 from by decide +kernel) h4
          rw [if_pos h4, e4, lgE (n := n + 15) (by decide)]
          exact ⟨_, rfl, XF_l x4 4, rfl⟩
        · obtain ⟨w4, x4, l4', e4⟩ := lgS_f (n := n + 16) (y := 0 + 1 + 1 + 1) (last := 0 + 1 + 1) x3 hc hq hf (by decide) (by decide) (by decide) (by decide) (by decide +kernel) (show ai_ix (a_s1_densities wx0) (0 + 1 + 1 + 1) = some 20 from by decide +kernel) h4
          rw [if_neg h4, e4]
          exact ⟨w4, rfl, x4, l4'⟩
      · obtain ⟨w3, x3, l3, e3⟩ := lgS_f (n := n + 17) (y := 0 + 1 + 1) (last := 0 + 1) x2 hc hq hf (by decide) (by decide) (by decide) (by decide) (by decide +kernel) (show ai_ix (a_s1_densities wx0) (0 + 1 + 1) = some 16 from by decide +kernel) h3
        rw [if_neg h3, e3]
        exact ⟨w3, rfl, x3, l3⟩
    · obtain ⟨w2, x2, l2, e2⟩ := lgS_f (n := n + 18) (y := 0 + 1) (last := 0) x1 hc hq hf (by decide) (by decide) (by decide) (by decide) (by decide +kernel) (show ai_ix (a_s1_densities wx0) (0 + 1) = some 13 from by decide +kernel) h2
      rw [if_neg h2, e2]
      exact ⟨w2, rfl, x2, l2⟩
  · obtain ⟨w1, x1, l1, e1⟩ := lg0_f (n := n + 19) (y := 0) x0 hc hq (by decide) (by decide) (show ai_ix (a_s1_densities wx0) 0 = some 10 from by decide +kernel) h1
    rw [if_neg h1, e1]
    exact ⟨w1, rfl, x1, l1⟩
theorem lesser5 (x : Int32) : Fm_lesser x 5 = some (if 5 < x then 5 else x) := by
  unfold Fm_lesser
  by_cases h1 : 5 ≤ x
  · rw [if_pos h1]
    by_cases h2 : 5 < x
    · rw [if_pos h2]
    · rw [if_neg h2, Int32.le_antisymm (Int32.not_lt.mp h2) h1]
  · rw [if_neg h1, if_neg (fun z => h1 (Int32.le_of_lt z))]
def rmf (vo ho : Int32) : Int32 := vo + (if 5 < ho / 4 then 5 else ho / 4)
def YF (m : WM) (wt vo ho : Int32) : Prop := a_m_kind m = 4 ∧ a_m_torn m = 0 ∧ a_m_w m = a_m_w wm0 ∧ a_m_weight m = wt ∧ a_m_volume m = vo ∧ a_m_hour m = ho
def YC (m : WM) (wt vo ho : Int32) : Prop := YF m wt vo ho ∧ a_m_restsIn m = 4 ∧ a_m_stops m = (-1)
theorem YF_b {m : WM} {wt vo ho : Int32} (h : YF m wt vo ho) (q : Int32) : YF (u_m_broken m q) wt vo ho := ⟨h.1, h.2.1, h.2.2.1, h.2.2.2.1, h.2.2.2.2.1, h.2.2.2.2.2⟩
theorem YF_p {m : WM} {wt vo ho : Int32} (h : YF m wt vo ho) (q : Int32) : YF (u_m_passes m q) wt vo ho := ⟨h.1, h.2.1, h.2.2.1, h.2.2.2.1, h.2.2.2.2.1, h.2.2.2.2.2⟩
theorem YF_d {m : WM} {wt vo ho : Int32} (h : YF m wt vo ho) (q : Int32) : YF (u_m_down m q) wt vo ho := ⟨h.1, h.2.1, h.2.2.1, h.2.2.2.1, h.2.2.2.2.1, h.2.2.2.2.2⟩
theorem YF_r {m : WM} {wt vo ho : Int32} (h : YF m wt vo ho) (q : Int32) : YF (u_m_restsIn m q) wt vo ho := ⟨h.1, h.2.1, h.2.2.1, h.2.2.2.1, h.2.2.2.2.1, h.2.2.2.2.2⟩
theorem YF_s {m : WM} {wt vo ho : Int32} (h : YF m wt vo ho) (q : Int32) : YF (u_m_stops m q) wt vo ho := ⟨h.1, h.2.1, h.2.2.1, h.2.2.2.1, h.2.2.2.2.1, h.2.2.2.2.2⟩
theorem YF_w {m : WM} {wt vo ho : Int32} (h : YF m wt vo ho) (q : Int32) : YF (u_m_weight m q) q vo ho := ⟨h.1, h.2.1, h.2.2.1, rfl, h.2.2.2.2.1, h.2.2.2.2.2⟩
theorem YC_b {m : WM} {wt vo ho : Int32} (h : YC m wt vo ho) (q : Int32) : YC (u_m_broken m q) wt vo ho := ⟨YF_b h.1 q, h.2.1, h.2.2⟩
theorem YC_p {m : WM} {wt vo ho : Int32} (h : YC m wt vo ho) (q : Int32) : YC (u_m_passes m q) wt vo ho := ⟨YF_p h.1 q, h.2.1, h.2.2⟩
theorem YC_d {m : WM} {wt vo ho : Int32} (h : YC m wt vo ho) (q : Int32) : YC (u_m_down m q) wt vo ho := ⟨YF_d h.1 q, h.2.1, h.2.2⟩
theorem m_thick {l c : Int32} (hl : l ∈ l4) (hc : c ∈ l4) {h : Int32} (hq : h - h / 6 * 6 ∈ l6) {m : WM} (hm : a_m_w m = a_m_w wm0) : Fm_thickIn_89 l c h m = some ((3 : Int32), m) := by
  unfold Fm_thickIn_89
  rw [hm, tm1 l hl c hc, bd_some, tm2 l hl _ hq, bd_some, if_pos (by decide), Int32.add_zero]
theorem m_room {m : WM} {wt vo ho : Int32} (h : YF m wt vo ho) : Fm_room_89 m = some (rmf vo ho, m) := by
  unfold Fm_room_89
  rw [h.1, if_neg (by decide), if_neg (by decide), if_pos rfl, h.2.2.2.2.2, lesser5, bd_some, h.2.2.2.2.1]
  rfl
theorem m_weighs {m : WM} {wt vo ho : Int32} (h : YF m wt vo ho) : Fm_weighs_89 m = some (wt, m) := by
  unfold Fm_weighs_89
  rw [h.1, if_neg (by decide), if_neg (by decide), if_neg (by decide), if_neg (by decide), h.2.2.2.1, Int32.add_zero, Int32.add_zero]
theorem m_breaks {x : Int32} {m : WM} {wt vo ho : Int32} (h : YF m wt vo ho) (hx : Fm_has 0 x = some 0) (hv : ai_ix (a_m_w wm0) (64 + x) = some 0) (hw : 0 < wt) : Fm_breaks_89 x m = some ((1 : Int32), m) := by
  unfold Fm_breaks_89
  rw [h.2.1, hx, bd_some, if_pos rfl, h.2.2.1, hv, bd_some, h.1, if_neg (by decide), if_neg (by decide), if_neg (by decide), m_weighs h, bd_some]
  dsimp only
  rw [if_neg (Int32.not_le.mpr hw)]
theorem cd_end {n : Nat} {c last y : Int32} {m : WM} (hr : ¬ a_m_restsIn m = 4 ∨ 4 ≤ y) : Gm_comesDown_89 (n + 1) 0 c last y m = some m := by
  rw [Gm_comesDown_89]
  by_cases h1 : 4 ≤ y
  · rw [if_pos h1]
  · rw [if_neg h1, if_neg (hr.resolve_right h1)]
set_option maxHeartbeats 4000000 in
theorem cdS_t {n : Nat} {c last y de wt vo ho : Int32} {m : WM} (hm : YC m wt vo ho) (hc : c ∈ l4) (hq : ho - ho / 6 * 6 ∈ l6) (hy : ¬ 4 ≤ y) (hyl : y ∈ l4) (hlast : ¬ last = (-1)) (hw : 0 < wt) (hx : Fm_has 0 (y - 1) = some 0) (hv : ai_ix (a_m_w wm0) (64 + (y - 1)) = some 0) (hd : ai_ix (a_m_w wm0) (8 + y) = some de) (hlt : rmf vo ho * de < wt) : ∃ m', YC m' wt vo ho ∧ Gm_comesDown_89 (n + 1) 0 c last y m = Gm_comesDown_89 n 0 c y (y + 1) m' := by
  have hB := YC_b hm ((a_m_broken m) ||| (1 <<< ((y - 1) &&& 31)))
  refine ⟨_, YC_d (YC_p hB ((a_m_passes (u_m_broken m ((a_m_broken m) ||| (1 <<< ((y - 1) &&& 31))))) ||| (1 <<< (y &&& 31)))) ((a_m_down (u_m_broken m ((a_m_broken m) ||| (1 <<< ((y - 1) &&& 31))))) + 3), ?_⟩
  rw [Gm_comesDown_89, if_neg hy, if_pos hm.2.1, if_pos hm.2.2, hm.1.2.2.2.2.2, m_thick hyl hc hq hm.1.2.2.1, bd_some]
  dsimp only
  rw [if_neg (show ¬ (3 : Int32) ≤ 0 by decide), if_neg hlast, m_breaks hm.1 hx hv hw, bd_some]
  dsimp only
  rw [if_neg (show ¬ (1 : Int32) = 0 by decide), if_neg (show ¬ (3 : Int32) ≤ 0 by decide), if_neg hlast, hm.1.2.1, hx, bd_some, if_pos rfl, m_weighs hB.1, bd_some]
  dsimp only
  rw [m_room hB.1, bd_some]
  dsimp only
  rw [hB.1.2.2.1, hd, bd_some, if_pos hlt]
set_option maxHeartbeats 4000000 in
theorem cdS_f {n : Nat} {c last y de wt vo ho : Int32} {m : WM} (hm : YC m wt vo ho) (hc : c ∈ l4) (hq : ho - ho / 6 * 6 ∈ l6) (hy : ¬ 4 ≤ y) (hyl : y ∈ l4) (hlast : ¬ last = (-1)) (hw : 0 < wt) (hx : Fm_has 0 (y - 1) = some 0) (hv : ai_ix (a_m_w wm0) (64 + (y - 1)) = some 0) (hd : ai_ix (a_m_w wm0) (8 + y) = some de) (hlt : ¬ rmf vo ho * de < wt) : ∃ m', YF m' wt vo ho ∧ a_m_restsIn m' = y ∧ Gm_comesDown_89 (n + 1) 0 c last y m = Gm_comesDown_89 n 0 c last (y + 1) m' := by
  have hB := YC_b hm ((a_m_broken m) ||| (1 <<< ((y - 1) &&& 31)))
  refine ⟨_, YF_r hB.1 y, rfl, ?_⟩
  rw [Gm_comesDown_89, if_neg hy, if_pos hm.2.1, if_pos hm.2.2, hm.1.2.2.2.2.2, m_thick hyl hc hq hm.1.2.2.1, bd_some]
  dsimp only
  rw [if_neg (show ¬ (3 : Int32) ≤ 0 by decide), if_neg hlast, m_breaks hm.1 hx hv hw, bd_some]
  dsimp only
  rw [if_neg (show ¬ (1 : Int32) = 0 by decide), if_neg (show ¬ (3 : Int32) ≤ 0 by decide), if_neg hlast, hm.1.2.1, hx, bd_some, if_pos rfl, m_weighs hB.1, bd_some]
  dsimp only
  rw [m_room hB.1, bd_some]
  dsimp only
  rw [hB.1.2.2.1, hd, bd_some, if_neg hlt]
set_option maxHeartbeats 4000000 in
theorem cd0_t {n : Nat} {c y de wt vo ho : Int32} {m : WM} (hm : YC m wt vo ho) (hc : c ∈ l4) (hq : ho - ho / 6 * 6 ∈ l6) (hy : ¬ 4 ≤ y) (hyl : y ∈ l4) (hd : ai_ix (a_m_w wm0) (8 + y) = some de) (hlt : rmf vo ho * de < wt) : ∃ m', YC m' wt vo ho ∧ Gm_comesDown_89 (n + 1) 0 c (-1) y m = Gm_comesDown_89 n 0 c y (y + 1) m' := by
  have hB := YC_b hm ((a_m_broken m) ||| 0)
  refine ⟨_, YC_d (YC_p hB ((a_m_passes (u_m_broken m ((a_m_broken m) ||| 0))) ||| (1 <<< (y &&& 31)))) ((a_m_down (u_m_broken m ((a_m_broken m) ||| 0))) + 3), ?_⟩
  rw [Gm_comesDown_89, if_neg hy, if_pos hm.2.1, if_pos hm.2.2, hm.1.2.2.2.2.2, m_thick hyl hc hq hm.1.2.2.1, bd_some]
  dsimp only
  rw [if_neg (show ¬ (3 : Int32) ≤ 0 by decide), if_pos rfl, if_neg (show ¬ (3 : Int32) ≤ 0 by decide), if_pos rfl, m_weighs hB.1, bd_some]
  dsimp only
  rw [m_room hB.1, bd_some]
  dsimp only
  rw [hB.1.2.2.1, hd, bd_some, if_pos hlt]
set_option maxHeartbeats 4000000 in
theorem cd0_f {n : Nat} {c y de wt vo ho : Int32} {m : WM} (hm : YC m wt vo ho) (hc : c ∈ l4) (hq : ho - ho / 6 * 6 ∈ l6) (hy : ¬ 4 ≤ y) (hyl : y ∈ l4) (hd : ai_ix (a_m_w wm0) (8 + y) = some de) (hlt : ¬ rmf vo ho * de < wt) : ∃ m', YF m' wt vo ho ∧ a_m_restsIn m' = y ∧ Gm_comesDown_89 (n + 1) 0 c (-1) y m = Gm_comesDown_89 n 0 c (-1) (y + 1) m' := by
  have hB := YC_b hm ((a_m_broken m) ||| 0)
  refine ⟨_, YF_r hB.1 y, rfl, ?_⟩
  rw [Gm_comesDown_89, if_neg hy, if_pos hm.2.1, if_pos hm.2.2, hm.1.2.2.2.2.2, m_thick hyl hc hq hm.1.2.2.1, bd_some]
  dsimp only
  rw [if_neg (show ¬ (3 : Int32) ≤ 0 by decide), if_pos rfl, if_neg (show ¬ (3 : Int32) ≤ 0 by decide), if_pos rfl, m_weighs hB.1, bd_some]
  dsimp only
  rw [m_room hB.1, bd_some]
  dsimp only
  rw [hB.1.2.2.1, hd, bd_some, if_neg hlt]
theorem rne {m : WM} {y : Int32} (h : a_m_restsIn m = y) (hy : ¬ y = 4) : ¬ a_m_restsIn m = 4 := by rw [h]; exact hy
theorem cdo (n : Nat) {c wt vo ho : Int32} (hc : c ∈ l4) (hq : ho - ho / 6 * 6 ∈ l6) {m : WM} (hm : YF m wt vo ho) (hw : 0 < wt) : ∃ m', Fm_comesDown_89 (n + 20) c m = some m' ∧ YF m' wt vo ho ∧ a_m_restsIn m' = Lf (rmf vo ho) wt := by
  have x0 : YC (u_m_stops (u_m_passes (u_m_broken (u_m_down (u_m_restsIn m 4) 0) 0) 0) (-1)) wt vo ho := ⟨YF_s (YF_p (YF_b (YF_d (YF_r hm 4) 0) 0) 0) (-1), rfl, rfl⟩
  unfold Fm_comesDown_89 Lf
  by_cases h1 : rmf vo ho * 10 < wt
  · obtain ⟨w1, x1, e1⟩ := cd0_t (n := n + 19) (y := 0) x0 hc hq (by decide) (by decide) (show ai_ix (a_m_w wm0) (8 + 0) = some 10 from by decide +kernel) h1
    rw [if_pos h1, e1]
    by_cases h2 : rmf vo ho * 13 < wt
    · obtain ⟨w2, x2, e2⟩ := cdS_t (n := n + 18) (y := 0 + 1) (last := 0) x1 hc hq (by decide) (by decide) (by decide) hw (by decide +kernel) (by decide +kernel) (show ai_ix (a_m_w wm0) (8 + (0 + 1)) = some 13 from by decide +kernel) h2
      rw [if_pos h2, e2]
      by_cases h3 : rmf vo ho * 16 < wt
      · obtain ⟨w3, x3, e3⟩ := cdS_t (n := n + 17) (y := 0 + 1 + 1) (last := 0 + 1) x2 hc hq (by decide) (by decide) (by decide) hw (by decide +kernel) (by decide +kernel) (show ai_ix (a_m_w wm0) (8 + (0 + 1 + 1)) = some 16 from by decide +kernel) h3
        rw [if_pos h3, e3]
        by_cases h4 : rmf vo ho * 20 < wt
        · obtain ⟨w4, x4, e4⟩ := cdS_t (n := n + 16) (y := 0 + 1 + 1 + 1) (last := 0 + 1 + 1) x3 hc hq (by decide) (by decide) (by decide) hw (by decide +kernel) (by decide +kernel) (show ai_ix (a_m_w wm0) (8 + (0 + 1 + 1 + 1)) = some 20 from by decide +kernel) h4
          rw [if_pos h4, e4, cd_end (n := n + 15) (Or.inr (by decide))]
          exact ⟨w4, rfl, x4.1, x4.2.1⟩
        · obtain ⟨w4, x4, r4, e4⟩ := cdS_f (n := n + 16) (y := 0 + 1 + 1 + 1) (last := 0 + 1 + 1) x3 hc hq (by decide) (by decide) (by decide) hw (by decide +kernel) (by decide +kernel) (show ai_ix (a_m_w wm0) (8 + (0 + 1 + 1 + 1)) = some 20 from by decide +kernel) h4
          rw [if_neg h4, e4, cd_end (n := n + 15) (Or.inr (by decide))]
          exact ⟨w4, rfl, x4, r4⟩
      · obtain ⟨w3, x3, r3, e3⟩ := cdS_f (n := n + 17) (y := 0 + 1 + 1) (last := 0 + 1) x2 hc hq (by decide) (by decide) (by decide) hw (by decide +kernel) (by decide +kernel) (show ai_ix (a_m_w wm0) (8 + (0 + 1 + 1)) = some 16 from by decide +kernel) h3
        rw [if_neg h3, e3, cd_end (n := n + 16) (Or.inl (rne r3 (by decide)))]
        exact ⟨w3, rfl, x3, r3⟩
    · obtain ⟨w2, x2, r2, e2⟩ := cdS_f (n := n + 18) (y := 0 + 1) (last := 0) x1 hc hq (by decide) (by decide) (by decide) hw (by decide +kernel) (by decide +kernel) (show ai_ix (a_m_w wm0) (8 + (0 + 1)) = some 13 from by decide +kernel) h2
      rw [if_neg h2, e2, cd_end (n := n + 17) (Or.inl (rne r2 (by decide)))]
      exact ⟨w2, rfl, x2, r2⟩
  · obtain ⟨w1, x1, r1, e1⟩ := cd0_f (n := n + 19) (y := 0) x0 hc hq (by decide) (by decide) (show ai_ix (a_m_w wm0) (8 + 0) = some 10 from by decide +kernel) h1
    rw [if_neg h1, e1, cd_end (n := n + 18) (Or.inl (rne r1 (by decide)))]
    exact ⟨w1, rfl, x1, r1⟩
theorem Gf_li_s (n : Nat) (x1 x2 x3 x4 x5 x6 x7 x8 x9 : Int32) (w : WX) : Gf_lies_0 (n + 1) 0 x1 x2 x3 x4 x5 x6 x7 x8 x9 w = (if 99 < x9 then (if x5 = 0 then some (x6, w) else if x5 = 1 then some (x7, w) else some (x8, w)) else ai_bd (Ffall_shape_81 4 x9 x1 0 x4 w) fun c => ai_bd (Ffall_letGo_81_1 n x2 x4 0 c) fun e => if (a_fall_layer e) = x3 then (if x7 = (-1) then Gf_lies_0 n 0 x1 x2 x3 x4 x5 (x6 + 1) x9 x9 (x9 + 1) e else Gf_lies_0 n 0 x1 x2 x3 x4 x5 (x6 + 1) x7 x9 (x9 + 1) e) else Gf_lies_0 n 0 x1 x2 x3 x4 x5 x6 x7 x8 (x9 + 1) e) := by rw [Gf_lies_0]
theorem Gm_li_s (n : Nat) (x1 x2 x3 x4 x5 x6 x7 x8 x9 : Int32) (w : WM) : Gm_lies_89 (n + 1) 0 x1 x2 x3 x4 x5 x6 x7 x8 x9 w = (if 100 ≤ x9 then (if x5 = 0 then some (x6, w) else if x5 = 1 then some (x7, w) else some (x8, w)) else ai_bd (Fm_comesDown_89 n x2 (u_m_weight w x9)) fun e => if (a_m_restsIn e) = x3 then (if x7 = (-1) then Gm_lies_89 n 0 x1 x2 x3 x4 x5 (x6 + 1) x9 x9 (x9 + 1) e else Gm_lies_89 n 0 x1 x2 x3 x4 x5 (x6 + 1) x7 x9 (x9 + 1) e) else Gm_lies_89 n 0 x1 x2 x3 x4 x5 x6 x7 x8 (x9 + 1) e) := by rw [Gm_lies_89]
theorem sh4 (x vo ho : Int32) {w : WX} (hw : XK w) : ∃ w', Ffall_shape_81 4 x vo 0 ho w = some w' ∧ XF w' x (rmf vo ho) x := by
  refine ⟨u_fall_force (u_fall_room (u_fall_weighs w x) (rmf vo ho)) x, ?_, ⟨⟨hw.1, hw.2.1, hw.2.2.1, hw.2.2.2.1, hw.2.2.2.2⟩, rfl, rfl, rfl⟩⟩
  unfold Ffall_shape_81
  rw [show Ffall_weightOf 4 x 0 ho = some x from by unfold Ffall_weightOf; rw [if_neg (by decide), if_neg (by decide), if_neg (by decide)], bd_some]
  rw [show Ffall_roomOf 4 vo ho = some (rmf vo ho) from by unfold Ffall_roomOf rmf; rw [if_neg (by decide), if_neg (by decide), if_pos rfl], bd_some]
  rw [show Ffall_forceOf 4 x = some x from by unfold Ffall_forceOf; rw [if_neg (by decide), if_neg (by decide), if_pos rfl], bd_some]
theorem li_loop (x1 : Int32) {x2 : Int32} (hc : x2 ∈ l4) (x3 : Int32) {x4 : Int32} (hq : x4 - x4 / 6 * 6 ∈ l6) (x5 : Int32) : ∀ (r j : Nat), j + r = 100 → 1 ≤ j → ∀ n, r + 30 ≤ n → ∀ (x6 x7 x8 wt : Int32) (w : WX) (m : WM), XK w → YF m wt x1 x4 → eqv (Gf_lies_0 n 0 x1 x2 x3 x4 x5 x6 x7 x8 (nI j) w) (Gm_lies_89 n 0 x1 x2 x3 x4 x5 x6 x7 x8 (nI j) m) = true := by
  intro r
  induction r with
  | zero =>
    intro j hj h1 n hn x6 x7 x8 wt w m hw hm
    obtain ⟨n, rfl⟩ : ∃ z, n = z + 1 := ⟨n - 1, by omega⟩
    obtain rfl : j = 100 := by omega
    rw [Gf_li_s, Gm_li_s, if_pos (show (99 : Int32) < nI 100 by decide), if_pos (show (100 : Int32) ≤ nI 100 by decide)]
    by_cases h5 : x5 = 0
    · rw [if_pos h5, if_pos h5]; exact eqv_some _ _ _
    · rw [if_neg h5, if_neg h5]
      by_cases h6 : x5 = 1
      · rw [if_pos h6, if_pos h6]; exact eqv_some _ _ _
      · rw [if_neg h6, if_neg h6]; exact eqv_some _ _ _
  | succ r ih =>
    intro j hj h1 n hn x6 x7 x8 wt w m hw hm
    obtain ⟨k, rfl⟩ : ∃ z, n = (z + 20) + 1 := ⟨n - 21, by omega⟩
    have hpos : (0 : Int32) < nI j := nI_lt (a := 0) (by omega) (by omega)
    have n1 : ¬ (99 : Int32) < nI j := nI_nlt (b := j) (a := 99) (by omega) (by omega)
    have n2 : ¬ (100 : Int32) ≤ nI j := nI_ge (b := 100) (by omega) (by decide)
    rw [Gf_li_s, Gm_li_s, if_neg n1, if_neg n2]
    obtain ⟨w1, e1, x1'⟩ := sh4 (nI j) x1 x4 hw
    obtain ⟨w2, e2, x2', l2⟩ := lgo k hc hq x1' hpos
    obtain ⟨m2, e3, y2, r2⟩ := cdo k hc hq (YF_w hm (nI j)) hpos
    rw [e1, bd_some, e2, bd_some, e3, bd_some, l2, r2, nI_1]
    by_cases h3 : Lf (rmf x1 x4) (nI j) = x3
    · rw [if_pos h3, if_pos h3]
      by_cases h7 : x7 = (-1)
      · rw [if_pos h7, if_pos h7]
        exact ih (j + 1) (by omega) (by omega) (k + 20) (by omega) _ _ _ _ w2 m2 x2'.1 y2
      · rw [if_neg h7, if_neg h7]
        exact ih (j + 1) (by omega) (by omega) (k + 20) (by omega) _ _ _ _ w2 m2 x2'.1 y2
    · rw [if_neg h3, if_neg h3]
      exact ih (j + 1) (by omega) (by omega) (k + 20) (by omega) _ _ _ _ w2 m2 x2'.1 y2
theorem lies_f1 (a1 a2 a3 a4 a5 : Int32) (h0 : 1 ≤ a1 ∧ a1 ≤ 9) (h1 : 0 ≤ a2 ∧ a2 ≤ 3) (h2 : 0 ≤ a3 ∧ a3 ≤ 4) (h3 : 0 ≤ a4 ∧ a4 ≤ 999) (h4 : 0 ≤ a5 ∧ a5 ≤ 2) (n : Nat) : Ff_lies_0 n a1 a2 a3 a4 a5 wx0 = Gf_lies_0 n 0 a1 a2 a3 a4 a5 0 (-1) (-1) 1 wx0 := by
  simp only [Ff_lies_0, hasCell0, Ff_within_eq, bd_some, if_pos h0, if_pos h1, if_pos h2, if_pos h3, if_pos h4, one_ne, if_false]
theorem lies_f2 (a1 a2 a3 a4 a5 : Int32) (h0 : 1 ≤ a1 ∧ a1 ≤ 9) (h1 : 0 ≤ a2 ∧ a2 ≤ 3) (h2 : 0 ≤ a3 ∧ a3 ≤ 4) (h3 : 0 ≤ a4 ∧ a4 ≤ 999) (h4 : 0 ≤ a5 ∧ a5 ≤ 2) (n : Nat) : Fm_lies_89 n a1 a2 a3 a4 a5 wm0 = Gm_lies_89 n 0 a1 a2 a3 a4 a5 0 (-1) (-1) 1 (u_m_torn (u_m_hour (u_m_load (u_m_volume (u_m_kind wm0 4) a1) 0) a4) 0) := by
  simp only [Fm_lies_89, isCell0, in_1_9, in_0_4, in_0_999, in_0_2, bd_some, if_pos h0, if_pos h1, if_pos h2, if_pos h3, if_pos h4, one_ne, if_false]
theorem XK0 : XK wx0 := ⟨rfl, rfl, rfl, rfl, 0, 0, 0, 0, rfl⟩
theorem YF0 (a1 a4 : Int32) : YF (u_m_torn (u_m_hour (u_m_load (u_m_volume (u_m_kind wm0 4) a1) 0) a4) 0) 0 a1 a4 := ⟨rfl, rfl, rfl, rfl, rfl, rfl⟩
theorem lies_go (a1 a2 a3 a4 a5 : Int32) (h0 : 1 ≤ a1 ∧ a1 ≤ 9) (h1 : 0 ≤ a2 ∧ a2 ≤ 3) (h2 : 0 ≤ a3 ∧ a3 ≤ 4) (h3 : 0 ≤ a4 ∧ a4 ≤ 999) (h4 : 0 ≤ a5 ∧ a5 ≤ 2) (n : Nat) (hn : 129 ≤ n) : eqv (Ff_lies_0 n a1 a2 a3 a4 a5 wx0) (Fm_lies_89 n a1 a2 a3 a4 a5 wm0) = true := by
  rw [lies_f1 a1 a2 a3 a4 a5 h0 h1 h2 h3 h4 n, lies_f2 a1 a2 a3 a4 a5 h0 h1 h2 h3 h4 n]
  have e := li_loop a1 (rg4 h1) a3 (mod6 h3.1) a5 99 1 (by omega) (by omega) n (by omega) 0 (-1) (-1) 0 wx0 _ XK0 (YF0 a1 a4)
  rw [show nI 1 = 1 from rfl] at e
  exact e
theorem lies_good (a1 a2 a3 a4 a5 : Int32) (h0 : 1 ≤ a1 ∧ a1 ≤ 9) (h1 : 0 ≤ a2 ∧ a2 ≤ 3) (h2 : 0 ≤ a3 ∧ a3 ≤ 4) (h3 : 0 ≤ a4 ∧ a4 ≤ 999) (h4 : 0 ≤ a5 ∧ a5 ≤ 2) : eqv (Ff_lies_0 4200 a1 a2 a3 a4 a5 wx0) (Fm_lies_89 4200 a1 a2 a3 a4 a5 wm0) = true := lies_go a1 a2 a3 a4 a5 h0 h1 h2 h3 h4 4200 (by decide)
