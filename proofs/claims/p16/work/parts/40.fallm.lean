/-! the reference's fall of a thing, and the calls that ask for one fall -/
def mkK (m : WM) (a b c d e g : Int32) : WM := (m.1, m.2.1, m.2.2.1, m.2.2.2.1, m.2.2.2.2.1, m.2.2.2.2.2.1, m.2.2.2.2.2.2.1, m.2.2.2.2.2.2.2.1, m.2.2.2.2.2.2.2.2.1, m.2.2.2.2.2.2.2.2.2.1, m.2.2.2.2.2.2.2.2.2.2.1, m.2.2.2.2.2.2.2.2.2.2.2.1, m.2.2.2.2.2.2.2.2.2.2.2.2.1, a, b, c, d, e, g, m.2.2.2.2.2.2.2.2.2.2.2.2.2.2.2.2.2.2.2)
section MKK
variable (m : WM) (a b c d e g x : Int32) (i j k l o : Int32)
theorem mK_in : mkF (mkK m (a_m_kind m) (a_m_weight m) (a_m_volume m) (a_m_load m) (a_m_hour m) (a_m_torn m)) (a_m_restsIn m) (a_m_down m) (a_m_broken m) (a_m_passes m) (a_m_stops m) = m := rfl
theorem mF_mF (i2 j2 k2 l2 o2 : Int32) : mkF (mkF m i j k l o) i2 j2 k2 l2 o2 = mkF m i2 j2 k2 l2 o2 := rfl
theorem mK_w : a_m_w (mkK m a b c d e g) = a_m_w m := rfl
theorem mK_kind : a_m_kind (mkK m a b c d e g) = a := rfl
theorem mK_weight : a_m_weight (mkK m a b c d e g) = b := rfl
theorem mK_volume : a_m_volume (mkK m a b c d e g) = c := rfl
theorem mK_load : a_m_load (mkK m a b c d e g) = d := rfl
theorem mK_hour : a_m_hour (mkK m a b c d e g) = e := rfl
theorem mK_torn : a_m_torn (mkK m a b c d e g) = g := rfl
theorem mKu_kind0 : u_m_kind (mkF (mkK m a b c d e g) i j k l o) x = mkF (mkK m x b c d e g) i j k l o := rfl
theorem mKu_weight : u_m_weight (mkF (mkK m a b c d e g) i j k l o) x = mkF (mkK m a x c d e g) i j k l o := rfl
theorem mKu_volume : u_m_volume (mkF (mkK m a b c d e g) i j k l o) x = mkF (mkK m a b x d e g) i j k l o := rfl
theorem mKu_load : u_m_load (mkF (mkK m a b c d e g) i j k l o) x = mkF (mkK m a b c x e g) i j k l o := rfl
theorem mKu_hour : u_m_hour (mkF (mkK m a b c d e g) i j k l o) x = mkF (mkK m a b c d x g) i j k l o := rfl
theorem mKu_torn : u_m_torn (mkF (mkK m a b c d e g) i j k l o) x = mkF (mkK m a b c d e x) i j k l o := rfl
theorem mFK_w : a_m_w (mkF (mkK m a b c d e g) i j k l o) = a_m_w m := rfl
end MKK
theorem M_comes {m : WM} (hw : (a_m_w m).length = 596) {f : Nat → Int32} (hf : sl (a_m_w m) 0 = f) {c h n : Nat} (hn : 6 ≤ n) (hc : c < 6) (hh : h < 2 ^ 31) (hsk : ∀ i, i < 3 → isN (f (64 + i)) 0 99) (ki we vo lo to : Int32) (i j k l o : Int32) : Fm_comesDown_89 n (nI c) (mkF (mkK m ki we vo lo (nI h) to) i j k l o) = some (mkF (mkK m ki we vo lo (nI h) to) (fS f c h to (Wt ki we lo (nI h)) (Ro ki vo (nI h)) (Fo ki (Wt ki we lo (nI h))) 4 0 (-1) 0 0 0 [0, 0, 0, 0]).1 (fS f c h to (Wt ki we lo (nI h)) (Ro ki vo (nI h)) (Fo ki (Wt ki we lo (nI h))) 4 0 (-1) 0 0 0 [0, 0, 0, 0]).2.1 (fS f c h to (Wt ki we lo (nI h)) (Ro ki vo (nI h)) (Fo ki (Wt ki we lo (nI h))) 4 0 (-1) 0 0 0 [0, 0, 0, 0]).2.2.1 (fS f c h to (Wt ki we lo (nI h)) (Ro ki vo (nI h)) (Fo ki (Wt ki we lo (nI h))) 4 0 (-1) 0 0 0 [0, 0, 0, 0]).2.2.2.2.1 (fS f c h to (Wt ki we lo (nI h)) (Ro ki vo (nI h)) (Fo ki (Wt ki we lo (nI h))) 4 0 (-1) 0 0 0 [0, 0, 0, 0]).2.2.2.1) := by
  unfold Fm_comesDown_89
  rw [mkF_in, mF_mF]
  have q := M_fallG (m := mkK m ki we vo lo (nI h) to) (f := f) (c := c) (h := h) (to := to) (W := Wt ki we lo (nI h)) (Rm := Ro ki vo (nI h)) (Fc := Fo ki (Wt ki we lo (nI h))) hw hf hc hh rfl hsk rfl rfl rfl rfl 4 0 n (-1) 0 0 0 [0, 0, 0, 0] (by omega) (by omega) (Or.inl rfl)
  rw [nI_0] at q
  exact q
/-- the reference's world at the end of the fall of thing t -/
def mT (m : WM) (f : Nat → Int32) (t c h : Nat) (b to : Int32) : WM := mkF (mkK m (f (67 + t)) (f (73 + t)) (f (79 + t)) b (nI h) to) (fT f t c h b to).1 (fT f t c h b to).2.1 (fT f t c h b to).2.2.1 (fT f t c h b to).2.2.2.2.1 (fT f t c h b to).2.2.2.1
theorem M_goT {m : WM} (hw : (a_m_w m).length = 596) {f : Nat → Int32} (hf : sl (a_m_w m) 0 = f) {t c h n : Nat} (hn : 6 ≤ n) (hc : c < 6) (hh : h < 2 ^ 31) (hsk : ∀ i, i < 3 → isN (f (64 + i)) 0 99) (b to i j k l o : Int32) : Fm_comesDown_89 n (nI c) (mkF (mkK m (f (67 + t)) (f (73 + t)) (f (79 + t)) b (nI h) to) i j k l o) = some (mT m f t c h b to) := by
  unfold mT fT
  exact M_comes hw hf hn hc hh hsk (f (67 + t)) (f (73 + t)) (f (79 + t)) b to i j k l o
theorem M_lay {m : WM} (hw : (a_m_w m).length = 596) {f : Nat → Int32} (hf : sl (a_m_w m) 0 = f) {t : Nat} (ht : t < 6) : Fm_lay_89 (nI t) m = some (mkF (mkK m (f (67 + t)) (f (73 + t)) (f (79 + t)) (f (85 + t)) (f 1) 0) (a_m_restsIn m) (a_m_down m) (a_m_broken m) (a_m_passes m) (a_m_stops m)) := by
  unfold Fm_lay_89
  rw [m_ix0 hw (x := 67 + nI t) (67 + t) (by rw [show (67 : Int32) = nI 67 from rfl, nI_add]) (by omega), bd_some, m_ix0 hw (x := 73 + nI t) (73 + t) (by rw [show (73 : Int32) = nI 73 from rfl, nI_add]) (by omega), bd_some, m_ix0 hw (x := 79 + nI t) (79 + t) (by rw [show (79 : Int32) = nI 79 from rfl, nI_add]) (by omega), bd_some, m_ix0 hw (x := 85 + nI t) (85 + t) (by rw [show (85 : Int32) = nI 85 from rfl, nI_add]) (by omega), bd_some, m_ix0 hw (x := 1) 1 rfl (by omega), bd_some, hf]
  conv => lhs; rw [← mK_in m]
  rw [mKu_kind0, mKu_weight, mKu_volume, mKu_load, mKu_hour, mKu_torn]
