/-! A matroid: becoming another kind; changing a number. -/
theorem mw_gr (F G R L : va_W) : F ++ ((G ++ (R ++ [])) ++ L) = (F ++ G) ++ (R ++ L) := by simp
theorem mw_grP {D : va_G} {cl : List vw_C} {H : Heap} {F G R L : va_W} (hP : va_P D cl (F ++ ((G ++ (R ++ [])) ++ L)) H) : va_P D cl ((F ++ G) ++ (R ++ L)) H := by rw [← mw_gr]; exact hP
theorem mw_grD {A : Nat → Prop} {F G R L : va_W} (hP : va_D A (F ++ ((G ++ (R ++ [])) ++ L))) : va_D A ((F ++ G) ++ (R ++ L)) := by rw [← mw_gr]; exact hP
theorem ma_Rf {n : Nat} {r : Nat → Nat} {t : ma_S} (h : ∀ s, s < 2 ^ n → t.2.2.1 0 s = -1) : ma_R n r t := ⟨fun s hs => Or.inl (h s hs), fun _ => h⟩
theorem nd_MA_becomeUniform_0 : decode nc_MA_becomeUniform 0 = .ok (.aload_n 0, 1) := by decide +kernel
theorem nd_MA_becomeUniform_1 : decode nc_MA_becomeUniform 1 = .ok (.getfield 12, 3) := by decide +kernel
theorem nd_MA_becomeUniform_4 : decode nc_MA_becomeUniform 4 = .ok (.iload_n 1, 1) := by decide +kernel
theorem nd_MA_becomeUniform_5 : decode nc_MA_becomeUniform 5 = .ok (.putfield 55, 3) := by decide +kernel
theorem nd_MA_becomeUniform_8 : decode nc_MA_becomeUniform 8 = .ok (.aload_n 0, 1) := by decide +kernel
theorem nd_MA_becomeUniform_9 : decode nc_MA_becomeUniform 9 = .ok (.aload_n 0, 1) := by decide +kernel
theorem nd_MA_becomeUniform_10 : decode nc_MA_becomeUniform 10 = .ok (.getfield 12, 3) := by decide +kernel
theorem nd_MA_becomeUniform_13 : decode nc_MA_becomeUniform 13 = .ok (.invokevirtual 59, 3) := by decide +kernel
theorem nd_MA_becomeUniform_16 : decode nc_MA_becomeUniform 16 = .ok (.return_, 1) := by decide +kernel
set_option maxRecDepth 20000 in
theorem c_MA_becomeUniform (l : Launch) (D : va_G) (cI cG cM : ClassId)  (a : ma_A) (n : Nat) (hn : n ≤ 10) (kd : Nat) (sc : Nat → Int32) (f E P C : Nat → Nat → Int32) (x : ma_T) (hI : ma_I n x (kd, sc, f, E, P, C)) (k : Nat) (hk10 : k ≤ 10) (sz : Nat) : wb_Mv l ny_MA_becomeUniform nc_MA_becomeUniform 2 ({ frames := 3, cells := 0, slots := 0, locals := 64 }) D (ty_all cI cG cM) (mw_ cI cG a n (kd, sc, f, E, P, C)) sz [.ref (a.1 0), .int (nI (k))] (fun u : ma_S => ma_I n (0, k, x.2.2) u) (fun u : ma_S => mw_ cI cG a n u) := by
  refine wb_start (S := ma_S) (by decide) (Nat.le_of_ble_eq_true rfl) ?_
  intro p e0 s0 m below meth c ls A hx hb hr hml htg hown hk hP hK hN hl hAe hsz hD hA
  have hl : lv_has ls 2 [(0, .ref (a.1 0)), (1, .int (nI (k)))] := hl
  have hP : va_P D cl_all ([((a.1 0), .inr (1, [.ref (a.1 2), .ref (a.1 7), .ref (a.1 3), .ref (a.1 10), .ref (a.1 1), .int (sc 0), .ref (a.1 kd)])), ((a.1 1), .inl (cI, 2 ^ n, .inl (f 0))), ((a.1 2), .inr (2, [.int (sc 1)])), ((a.1 3), .inr (4, [.ref (a.1 6), .ref (a.1 4), .ref (a.1 5)])), ((a.1 4), .inl (cI, 4, .inl (f 1))), ((a.1 5), .inl (cI, 4, .inl (f 2))), ((a.1 6), .inl (cI, n, .inl (f 3)))] ++ (mw_G cI cG a n (kd, sc, f, E, P, C) ++ mw_L cI cG a n (kd, sc, f, E, P, C))) s0.heap := hP
  have hD : va_D A ([((a.1 0), .inr (1, [.ref (a.1 2), .ref (a.1 7), .ref (a.1 3), .ref (a.1 10), .ref (a.1 1), .int (sc 0), .ref (a.1 kd)])), ((a.1 1), .inl (cI, 2 ^ n, .inl (f 0))), ((a.1 2), .inr (2, [.int (sc 1)])), ((a.1 3), .inr (4, [.ref (a.1 6), .ref (a.1 4), .ref (a.1 5)])), ((a.1 4), .inl (cI, 4, .inl (f 1))), ((a.1 5), .inl (cI, 4, .inl (f 2))), ((a.1 6), .inl (cI, n, .inl (f 3)))] ++ (mw_G cI cG a n (kd, sc, f, E, P, C) ++ mw_L cI cG a n (kd, sc, f, E, P, C))) := hD
  have hS : va_S A s0.heap s0.heap [] := va_S.rf
  have hRf : 3 ≤ ({ frames := 3, cells := 0, slots := 0, locals := 64 } : Room).frames := Nat.le_refl _
  have hRl : 64 ≤ ({ frames := 3, cells := 0, slots := 0, locals := 64 } : Room).locals := Nat.le_refl _
  have hCS : 0 ≤ ({ frames := 3, cells := 0, slots := 0, locals := 64 } : Room).cells ∧ 0 ≤ ({ frames := 3, cells := 0, slots := 0, locals := 64 } : Room).slots := ⟨Nat.zero_le _, Nat.zero_le _⟩
  have h2n : 2 ^ n ≤ 1024 := Nat.pow_le_pow_right (by omega) hn
  refine lv_aload_n hx hb nd_MA_becomeUniform_0 rfl (lv_at hl 0 rfl) ?_
  refine va_get (D := D) (C := nr_MA) (T := nt_MA) (N := 7) hx hb htg tf_MA hown hK hP 0 rfl rfl 0 (by decide) (htg _ tm_100) (fun _ h => h) rfl nd_MA_becomeUniform_1 ?_
  refine lv_iload_n hx hb nd_MA_becomeUniform_4 rfl (lv_at hl 1 rfl) ?_
  refine va_putN (D := D) (C := nr_UK) (T := nt_UK) (N := 1) hx hb htg tf_UK nu_UK no_UK nn_UK hown hK hP hD hS 2 rfl rfl 0 (by decide) (va_Nw.use rfl (tn_38 hN)) (fun _ h => h) rfl rfl rfl rfl (Nat.le_of_ble_eq_true rfl) nd_MA_becomeUniform_5 (fun H locs hP hD hS => ?_)
  have hP : va_P D cl_all ([((a.1 0), .inr (1, [.ref (a.1 2), .ref (a.1 7), .ref (a.1 3), .ref (a.1 10), .ref (a.1 1), .int (sc 0), .ref (a.1 kd)])), ((a.1 1), .inl (cI, 2 ^ n, .inl (f 0))), ((a.1 2), .inr (2, [.int (nI (k))])), ((a.1 3), .inr (4, [.ref (a.1 6), .ref (a.1 4), .ref (a.1 5)])), ((a.1 4), .inl (cI, 4, .inl (f 1))), ((a.1 5), .inl (cI, 4, .inl (f 2))), ((a.1 6), .inl (cI, n, .inl (f 3)))] ++ (mw_G cI cG a n (kd, sc, f, E, P, C) ++ mw_L cI cG a n (kd, sc, f, E, P, C))) H := hP
  have hD : va_D A ([((a.1 0), .inr (1, [.ref (a.1 2), .ref (a.1 7), .ref (a.1 3), .ref (a.1 10), .ref (a.1 1), .int (sc 0), .ref (a.1 kd)])), ((a.1 1), .inl (cI, 2 ^ n, .inl (f 0))), ((a.1 2), .inr (2, [.int (nI (k))])), ((a.1 3), .inr (4, [.ref (a.1 6), .ref (a.1 4), .ref (a.1 5)])), ((a.1 4), .inl (cI, 4, .inl (f 1))), ((a.1 5), .inl (cI, 4, .inl (f 2))), ((a.1 6), .inl (cI, n, .inl (f 3)))] ++ (mw_G cI cG a n (kd, sc, f, E, P, C) ++ mw_L cI cG a n (kd, sc, f, E, P, C))) := hD
  refine lv_aload_n hx hb nd_MA_becomeUniform_8 rfl (lv_at hl 0 rfl) ?_
  refine lv_aload_n hx hb nd_MA_becomeUniform_9 rfl (lv_at hl 0 rfl) ?_
  refine va_get (D := D) (C := nr_MA) (T := nt_MA) (N := 7) hx hb htg tf_MA hown hK hP 0 rfl rfl 0 (by decide) (htg _ tm_100) (fun _ h => h) rfl nd_MA_becomeUniform_10 ?_
  refine wd_Vv (C := nr_MA) (n := 1) (X := []) (Y := [((a.1 0), .inr (1, [.ref (a.1 2), .ref (a.1 7), .ref (a.1 3), .ref (a.1 10), .ref (a.1 1), .int (sc 0), .ref (a.1 kd)])), ((a.1 1), .inl (cI, 2 ^ n, .inl (f 0)))]) (Z := [((a.1 2), .inr (2, [.int (nI (k))])), ((a.1 3), .inr (4, [.ref (a.1 6), .ref (a.1 4), .ref (a.1 5)])), ((a.1 4), .inl (cI, 4, .inl (f 1))), ((a.1 5), .inl (cI, 4, .inl (f 2))), ((a.1 6), .inl (cI, n, .inl (f 3)))] ++ (mw_G cI cG a n (kd, sc, f, E, P, C) ++ mw_L cI cG a n (kd, sc, f, E, P, C))) hx hb hml hown htg (c_MA_become l D cI cG cM a n hn kd 2 (sc 0) (f 0) (fun q => hI.2.2.2 q) _) tm_152 tm_149 tm_151 tp_0 tm_2 (by decide +kernel) ⟨⟨Nat.le_trans (by decide) hRf, Nat.le_trans (by decide) hRl⟩, rfl, rfl⟩ hP hD hS hA hK hN (va_recv (q0 := 0) (ci := 1) hK hP rfl rfl) rfl hl.1 rfl (Nat.le_of_ble_eq_true rfl) nd_MA_becomeUniform_13 hCS (fun u13 H locs hp13 hP hD hS => ?_)
  have hP : va_P D cl_all ([((a.1 0), .inr (1, [.ref (a.1 2), .ref (a.1 7), .ref (a.1 3), .ref (a.1 10), .ref (a.1 1), .int (u13.1), .ref (a.1 2)])), ((a.1 1), .inl (cI, 2 ^ n, .inl u13.2)), ((a.1 2), .inr (2, [.int (nI (k))])), ((a.1 3), .inr (4, [.ref (a.1 6), .ref (a.1 4), .ref (a.1 5)])), ((a.1 4), .inl (cI, 4, .inl (f 1))), ((a.1 5), .inl (cI, 4, .inl (f 2))), ((a.1 6), .inl (cI, n, .inl (f 3)))] ++ (mw_G cI cG a n (kd, sc, f, E, P, C) ++ mw_L cI cG a n (kd, sc, f, E, P, C))) H := hP
  have hD : va_D A ([((a.1 0), .inr (1, [.ref (a.1 2), .ref (a.1 7), .ref (a.1 3), .ref (a.1 10), .ref (a.1 1), .int (u13.1), .ref (a.1 2)])), ((a.1 1), .inl (cI, 2 ^ n, .inl u13.2)), ((a.1 2), .inr (2, [.int (nI (k))])), ((a.1 3), .inr (4, [.ref (a.1 6), .ref (a.1 4), .ref (a.1 5)])), ((a.1 4), .inl (cI, 4, .inl (f 1))), ((a.1 5), .inl (cI, 4, .inl (f 2))), ((a.1 6), .inl (cI, n, .inl (f 3)))] ++ (mw_G cI cG a n (kd, sc, f, E, P, C) ++ mw_L cI cG a n (kd, sc, f, E, P, C))) := hD
  exact wb_vret ((2, va_up (va_up sc 1 (nI k)) 0 u13.1, va_up f 0 u13.2, E, P, C)) hx hb hr hk hAe (⟨Or.inl ⟨rfl, hk10⟩, Or.inl ⟨rfl, rfl, rfl⟩, ma_Rf (fun s hs => hp13.2 s hs)⟩) hP hD hS nd_MA_becomeUniform_16
theorem nd_MA_becomeGraphic_0 : decode nc_MA_becomeGraphic 0 = .ok (.aload_n 0, 1) := by decide +kernel
theorem nd_MA_becomeGraphic_1 : decode nc_MA_becomeGraphic 1 = .ok (.getfield 23, 3) := by decide +kernel
theorem nd_MA_becomeGraphic_4 : decode nc_MA_becomeGraphic 4 = .ok (.invokevirtual 63, 3) := by decide +kernel
theorem nd_MA_becomeGraphic_7 : decode nc_MA_becomeGraphic 7 = .ok (.aload_n 0, 1) := by decide +kernel
theorem nd_MA_becomeGraphic_8 : decode nc_MA_becomeGraphic 8 = .ok (.aload_n 0, 1) := by decide +kernel
theorem nd_MA_becomeGraphic_9 : decode nc_MA_becomeGraphic 9 = .ok (.getfield 23, 3) := by decide +kernel
theorem nd_MA_becomeGraphic_12 : decode nc_MA_becomeGraphic 12 = .ok (.invokevirtual 59, 3) := by decide +kernel
theorem nd_MA_becomeGraphic_15 : decode nc_MA_becomeGraphic 15 = .ok (.return_, 1) := by decide +kernel
set_option maxRecDepth 20000 in
theorem c_MA_becomeGraphic (l : Launch) (D : va_G) (cI cG cM : ClassId)  (a : ma_A) (n : Nat) (hn : n ≤ 10) (kd : Nat) (sc : Nat → Int32) (f E P C : Nat → Nat → Int32) (x : ma_T) (hI : ma_I n x (kd, sc, f, E, P, C))  (sz : Nat) : wb_Mv l ny_MA_becomeGraphic nc_MA_becomeGraphic 1 ({ frames := 3, cells := 0, slots := 0, locals := 64 }) D (ty_all cI cG cM) (mw_ cI cG a n (kd, sc, f, E, P, C)) sz [.ref (a.1 0)] (fun u : ma_S => ma_I n (1, x.2.1, (fun _ => 0), (fun _ => 0), x.2.2.2.2) u) (fun u : ma_S => mw_ cI cG a n u) := by
  refine wb_start (S := ma_S) (by decide) (Nat.le_of_ble_eq_true rfl) ?_
  intro p e0 s0 m below meth c ls A hx hb hr hml htg hown hk hP hK hN hl hAe hsz hD hA
  have hl : lv_has ls 1 [(0, .ref (a.1 0))] := hl
  have hP : va_P D cl_all ([((a.1 0), .inr (1, [.ref (a.1 2), .ref (a.1 7), .ref (a.1 3), .ref (a.1 10), .ref (a.1 1), .int (sc 0), .ref (a.1 kd)])), ((a.1 1), .inl (cI, 2 ^ n, .inl (f 0))), ((a.1 2), .inr (2, [.int (sc 1)])), ((a.1 3), .inr (4, [.ref (a.1 6), .ref (a.1 4), .ref (a.1 5)])), ((a.1 4), .inl (cI, 4, .inl (f 1))), ((a.1 5), .inl (cI, 4, .inl (f 2))), ((a.1 6), .inl (cI, n, .inl (f 3)))] ++ (mw_G cI cG a n (kd, sc, f, E, P, C) ++ mw_L cI cG a n (kd, sc, f, E, P, C))) s0.heap := hP
  have hD : va_D A ([((a.1 0), .inr (1, [.ref (a.1 2), .ref (a.1 7), .ref (a.1 3), .ref (a.1 10), .ref (a.1 1), .int (sc 0), .ref (a.1 kd)])), ((a.1 1), .inl (cI, 2 ^ n, .inl (f 0))), ((a.1 2), .inr (2, [.int (sc 1)])), ((a.1 3), .inr (4, [.ref (a.1 6), .ref (a.1 4), .ref (a.1 5)])), ((a.1 4), .inl (cI, 4, .inl (f 1))), ((a.1 5), .inl (cI, 4, .inl (f 2))), ((a.1 6), .inl (cI, n, .inl (f 3)))] ++ (mw_G cI cG a n (kd, sc, f, E, P, C) ++ mw_L cI cG a n (kd, sc, f, E, P, C))) := hD
  have hS : va_S A s0.heap s0.heap [] := va_S.rf
  have hRf : 3 ≤ ({ frames := 3, cells := 0, slots := 0, locals := 64 } : Room).frames := Nat.le_refl _
  have hRl : 64 ≤ ({ frames := 3, cells := 0, slots := 0, locals := 64 } : Room).locals := Nat.le_refl _
  have hCS : 0 ≤ ({ frames := 3, cells := 0, slots := 0, locals := 64 } : Room).cells ∧ 0 ≤ ({ frames := 3, cells := 0, slots := 0, locals := 64 } : Room).slots := ⟨Nat.zero_le _, Nat.zero_le _⟩
  have h2n : 2 ^ n ≤ 1024 := Nat.pow_le_pow_right (by omega) hn
  refine lv_aload_n hx hb nd_MA_becomeGraphic_0 rfl (lv_at hl 0 rfl) ?_
  refine va_get (D := D) (C := nr_MA) (T := nt_MA) (N := 7) hx hb htg tf_MA hown hK hP 0 rfl rfl 1 (by decide) (htg _ tm_101) (fun _ h => h) rfl nd_MA_becomeGraphic_1 ?_
  refine wd_Vv (C := nr_GK) (n := 0) (X := [((a.1 0), .inr (1, [.ref (a.1 2), .ref (a.1 7), .ref (a.1 3), .ref (a.1 10), .ref (a.1 1), .int (sc 0), .ref (a.1 kd)])), ((a.1 1), .inl (cI, 2 ^ n, .inl (f 0))), ((a.1 2), .inr (2, [.int (sc 1)])), ((a.1 3), .inr (4, [.ref (a.1 6), .ref (a.1 4), .ref (a.1 5)])), ((a.1 4), .inl (cI, 4, .inl (f 1))), ((a.1 5), .inl (cI, 4, .inl (f 2))), ((a.1 6), .inl (cI, n, .inl (f 3)))]) (Y := mw_G cI cG a n (kd, sc, f, E, P, C)) (Z := mw_L cI cG a n (kd, sc, f, E, P, C)) hx hb hml hown htg (c_GK_clear l D cI cG cM (a.1 7) (a.1 8) (a.1 9) n hn a.2.1 (f 4) E _) tm_168 tm_165 tm_166 tm_167 tm_5 (by decide +kernel) ⟨⟨Nat.le_trans (by decide) hRf, Nat.le_trans (by decide) hRl⟩, rfl, rfl⟩ hP hD hS hA hK hN (va_recv (q0 := 0) (ci := 3) hK (wm_P (X := [((a.1 0), .inr (1, [.ref (a.1 2), .ref (a.1 7), .ref (a.1 3), .ref (a.1 10), .ref (a.1 1), .int (sc 0), .ref (a.1 kd)])), ((a.1 1), .inl (cI, 2 ^ n, .inl (f 0))), ((a.1 2), .inr (2, [.int (sc 1)])), ((a.1 3), .inr (4, [.ref (a.1 6), .ref (a.1 4), .ref (a.1 5)])), ((a.1 4), .inl (cI, 4, .inl (f 1))), ((a.1 5), .inl (cI, 4, .inl (f 2))), ((a.1 6), .inl (cI, n, .inl (f 3)))]) (Y := mw_G cI cG a n (kd, sc, f, E, P, C)) (Z := mw_L cI cG a n (kd, sc, f, E, P, C)) hP).2.1 rfl rfl) rfl hl.1 rfl (Nat.le_of_ble_eq_true rfl) nd_MA_becomeGraphic_4 hCS (fun u4 H locs hp4 hP hD hS => ?_)
  have hP : va_P D cl_all ([((a.1 0), .inr (1, [.ref (a.1 2), .ref (a.1 7), .ref (a.1 3), .ref (a.1 10), .ref (a.1 1), .int (sc 0), .ref (a.1 kd)])), ((a.1 1), .inl (cI, 2 ^ n, .inl (f 0))), ((a.1 2), .inr (2, [.int (sc 1)])), ((a.1 3), .inr (4, [.ref (a.1 6), .ref (a.1 4), .ref (a.1 5)])), ((a.1 4), .inl (cI, 4, .inl (f 1))), ((a.1 5), .inl (cI, 4, .inl (f 2))), ((a.1 6), .inl (cI, n, .inl (f 3)))] ++ (mw_G cI cG a n (kd, sc, f, u4, P, C) ++ mw_L cI cG a n (kd, sc, f, u4, P, C))) H := hP
  have hD : va_D A ([((a.1 0), .inr (1, [.ref (a.1 2), .ref (a.1 7), .ref (a.1 3), .ref (a.1 10), .ref (a.1 1), .int (sc 0), .ref (a.1 kd)])), ((a.1 1), .inl (cI, 2 ^ n, .inl (f 0))), ((a.1 2), .inr (2, [.int (sc 1)])), ((a.1 3), .inr (4, [.ref (a.1 6), .ref (a.1 4), .ref (a.1 5)])), ((a.1 4), .inl (cI, 4, .inl (f 1))), ((a.1 5), .inl (cI, 4, .inl (f 2))), ((a.1 6), .inl (cI, n, .inl (f 3)))] ++ (mw_G cI cG a n (kd, sc, f, u4, P, C) ++ mw_L cI cG a n (kd, sc, f, u4, P, C))) := hD
  refine lv_aload_n hx hb nd_MA_becomeGraphic_7 rfl (lv_at hl 0 rfl) ?_
  refine lv_aload_n hx hb nd_MA_becomeGraphic_8 rfl (lv_at hl 0 rfl) ?_
  refine va_get (D := D) (C := nr_MA) (T := nt_MA) (N := 7) hx hb htg tf_MA hown hK hP 0 rfl rfl 1 (by decide) (htg _ tm_101) (fun _ h => h) rfl nd_MA_becomeGraphic_9 ?_
  refine wd_Vv (C := nr_MA) (n := 1) (X := []) (Y := [((a.1 0), .inr (1, [.ref (a.1 2), .ref (a.1 7), .ref (a.1 3), .ref (a.1 10), .ref (a.1 1), .int (sc 0), .ref (a.1 kd)])), ((a.1 1), .inl (cI, 2 ^ n, .inl (f 0)))]) (Z := [((a.1 2), .inr (2, [.int (sc 1)])), ((a.1 3), .inr (4, [.ref (a.1 6), .ref (a.1 4), .ref (a.1 5)])), ((a.1 4), .inl (cI, 4, .inl (f 1))), ((a.1 5), .inl (cI, 4, .inl (f 2))), ((a.1 6), .inl (cI, n, .inl (f 3)))] ++ (mw_G cI cG a n (kd, sc, f, u4, P, C) ++ mw_L cI cG a n (kd, sc, f, u4, P, C))) hx hb hml hown htg (c_MA_become l D cI cG cM a n hn kd 7 (sc 0) (f 0) (fun q => hI.2.2.2 q) _) tm_152 tm_149 tm_151 tp_0 tm_2 (by decide +kernel) ⟨⟨Nat.le_trans (by decide) hRf, Nat.le_trans (by decide) hRl⟩, rfl, rfl⟩ hP hD hS hA hK hN (va_recv (q0 := 0) (ci := 1) hK hP rfl rfl) rfl hl.1 rfl (Nat.le_of_ble_eq_true rfl) nd_MA_becomeGraphic_12 hCS (fun u12 H locs hp12 hP hD hS => ?_)
  have hP : va_P D cl_all ([((a.1 0), .inr (1, [.ref (a.1 2), .ref (a.1 7), .ref (a.1 3), .ref (a.1 10), .ref (a.1 1), .int (u12.1), .ref (a.1 7)])), ((a.1 1), .inl (cI, 2 ^ n, .inl u12.2)), ((a.1 2), .inr (2, [.int (sc 1)])), ((a.1 3), .inr (4, [.ref (a.1 6), .ref (a.1 4), .ref (a.1 5)])), ((a.1 4), .inl (cI, 4, .inl (f 1))), ((a.1 5), .inl (cI, 4, .inl (f 2))), ((a.1 6), .inl (cI, n, .inl (f 3)))] ++ (mw_G cI cG a n (kd, sc, f, u4, P, C) ++ mw_L cI cG a n (kd, sc, f, u4, P, C))) H := hP
  have hD : va_D A ([((a.1 0), .inr (1, [.ref (a.1 2), .ref (a.1 7), .ref (a.1 3), .ref (a.1 10), .ref (a.1 1), .int (u12.1), .ref (a.1 7)])), ((a.1 1), .inl (cI, 2 ^ n, .inl u12.2)), ((a.1 2), .inr (2, [.int (sc 1)])), ((a.1 3), .inr (4, [.ref (a.1 6), .ref (a.1 4), .ref (a.1 5)])), ((a.1 4), .inl (cI, 4, .inl (f 1))), ((a.1 5), .inl (cI, 4, .inl (f 2))), ((a.1 6), .inl (cI, n, .inl (f 3)))] ++ (mw_G cI cG a n (kd, sc, f, u4, P, C) ++ mw_L cI cG a n (kd, sc, f, u4, P, C))) := hD
  exact wb_vret ((7, va_up sc 0 u12.1, va_up f 0 u12.2, u4, P, C)) hx hb hr hk hAe (⟨Or.inr (Or.inl ⟨rfl, fun _ _ => ⟨show 0 < 8 from by decide, show 0 < 8 from by decide⟩⟩), Or.inr (Or.inl ⟨rfl, rfl, fun e he => ⟨hp4 e he 0 (by omega), hp4 e he 1 (by omega)⟩⟩), ma_Rf (fun s hs => hp12.2 s hs)⟩) hP hD hS nd_MA_becomeGraphic_15
theorem nd_MA_becomeClasses_0 : decode nc_MA_becomeClasses 0 = .ok (.aload_n 0, 1) := by decide +kernel
theorem nd_MA_becomeClasses_1 : decode nc_MA_becomeClasses 1 = .ok (.getfield 30, 3) := by decide +kernel
theorem nd_MA_becomeClasses_4 : decode nc_MA_becomeClasses 4 = .ok (.invokevirtual 66, 3) := by decide +kernel
theorem nd_MA_becomeClasses_7 : decode nc_MA_becomeClasses 7 = .ok (.aload_n 0, 1) := by decide +kernel
theorem nd_MA_becomeClasses_8 : decode nc_MA_becomeClasses 8 = .ok (.aload_n 0, 1) := by decide +kernel
theorem nd_MA_becomeClasses_9 : decode nc_MA_becomeClasses 9 = .ok (.getfield 30, 3) := by decide +kernel
theorem nd_MA_becomeClasses_12 : decode nc_MA_becomeClasses 12 = .ok (.invokevirtual 59, 3) := by decide +kernel
theorem nd_MA_becomeClasses_15 : decode nc_MA_becomeClasses 15 = .ok (.return_, 1) := by decide +kernel
set_option maxRecDepth 20000 in
theorem c_MA_becomeClasses (l : Launch) (D : va_G) (cI cG cM : ClassId)  (a : ma_A) (n : Nat) (hn : n ≤ 10) (kd : Nat) (sc : Nat → Int32) (f E P C : Nat → Nat → Int32) (x : ma_T) (hI : ma_I n x (kd, sc, f, E, P, C))  (sz : Nat) : wb_Mv l ny_MA_becomeClasses nc_MA_becomeClasses 1 ({ frames := 3, cells := 0, slots := 0, locals := 64 }) D (ty_all cI cG cM) (mw_ cI cG a n (kd, sc, f, E, P, C)) sz [.ref (a.1 0)] (fun u : ma_S => ma_I n (2, x.2.1, x.2.2.1, x.2.2.2.1, (fun _ => 0), (fun _ => 0), x.2.2.2.2.2.2) u) (fun u : ma_S => mw_ cI cG a n u) := by
  refine wb_start (S := ma_S) (by decide) (Nat.le_of_ble_eq_true rfl) ?_
  intro p e0 s0 m below meth c ls A hx hb hr hml htg hown hk hP hK hN hl hAe hsz hD hA
  have hl : lv_has ls 1 [(0, .ref (a.1 0))] := hl
  have hP : va_P D cl_all ([((a.1 0), .inr (1, [.ref (a.1 2), .ref (a.1 7), .ref (a.1 3), .ref (a.1 10), .ref (a.1 1), .int (sc 0), .ref (a.1 kd)])), ((a.1 1), .inl (cI, 2 ^ n, .inl (f 0))), ((a.1 2), .inr (2, [.int (sc 1)])), ((a.1 3), .inr (4, [.ref (a.1 6), .ref (a.1 4), .ref (a.1 5)])), ((a.1 4), .inl (cI, 4, .inl (f 1))), ((a.1 5), .inl (cI, 4, .inl (f 2))), ((a.1 6), .inl (cI, n, .inl (f 3)))] ++ (mw_G cI cG a n (kd, sc, f, E, P, C) ++ mw_L cI cG a n (kd, sc, f, E, P, C))) s0.heap := hP
  have hD : va_D A ([((a.1 0), .inr (1, [.ref (a.1 2), .ref (a.1 7), .ref (a.1 3), .ref (a.1 10), .ref (a.1 1), .int (sc 0), .ref (a.1 kd)])), ((a.1 1), .inl (cI, 2 ^ n, .inl (f 0))), ((a.1 2), .inr (2, [.int (sc 1)])), ((a.1 3), .inr (4, [.ref (a.1 6), .ref (a.1 4), .ref (a.1 5)])), ((a.1 4), .inl (cI, 4, .inl (f 1))), ((a.1 5), .inl (cI, 4, .inl (f 2))), ((a.1 6), .inl (cI, n, .inl (f 3)))] ++ (mw_G cI cG a n (kd, sc, f, E, P, C) ++ mw_L cI cG a n (kd, sc, f, E, P, C))) := hD
  have hS : va_S A s0.heap s0.heap [] := va_S.rf
  have hRf : 3 ≤ ({ frames := 3, cells := 0, slots := 0, locals := 64 } : Room).frames := Nat.le_refl _
  have hRl : 64 ≤ ({ frames := 3, cells := 0, slots := 0, locals := 64 } : Room).locals := Nat.le_refl _
  have hCS : 0 ≤ ({ frames := 3, cells := 0, slots := 0, locals := 64 } : Room).cells ∧ 0 ≤ ({ frames := 3, cells := 0, slots := 0, locals := 64 } : Room).slots := ⟨Nat.zero_le _, Nat.zero_le _⟩
  have h2n : 2 ^ n ≤ 1024 := Nat.pow_le_pow_right (by omega) hn
  refine lv_aload_n hx hb nd_MA_becomeClasses_0 rfl (lv_at hl 0 rfl) ?_
  refine va_get (D := D) (C := nr_MA) (T := nt_MA) (N := 7) hx hb htg tf_MA hown hK hP 0 rfl rfl 2 (by decide) (htg _ tm_102) (fun _ h => h) rfl nd_MA_becomeClasses_1 ?_
  refine wd_Vv (C := nr_CK) (n := 0) (X := [((a.1 0), .inr (1, [.ref (a.1 2), .ref (a.1 7), .ref (a.1 3), .ref (a.1 10), .ref (a.1 1), .int (sc 0), .ref (a.1 kd)])), ((a.1 1), .inl (cI, 2 ^ n, .inl (f 0))), ((a.1 2), .inr (2, [.int (sc 1)]))]) (Y := [((a.1 3), .inr (4, [.ref (a.1 6), .ref (a.1 4), .ref (a.1 5)])), ((a.1 4), .inl (cI, 4, .inl (f 1))), ((a.1 5), .inl (cI, 4, .inl (f 2))), ((a.1 6), .inl (cI, n, .inl (f 3)))]) (Z := (mw_G cI cG a n (kd, sc, f, E, P, C) ++ mw_L cI cG a n (kd, sc, f, E, P, C))) hx hb hml hown htg (c_CK_clear l D cI cG cM (a.1 3) (a.1 4) (a.1 5) (a.1 6) n hn (f 1) (f 2) (f 3) _) tm_193 tm_190 tm_191 tm_192 tm_6 (by decide +kernel) ⟨⟨Nat.le_trans (by decide) hRf, Nat.le_trans (by decide) hRl⟩, rfl, rfl⟩ hP hD hS hA hK hN (va_recv (q0 := 3) (ci := 4) hK hP rfl rfl) rfl hl.1 rfl (Nat.le_of_ble_eq_true rfl) nd_MA_becomeClasses_4 hCS (fun u4 H locs hp4 hP hD hS => ?_)
  have hP : va_P D cl_all ([((a.1 0), .inr (1, [.ref (a.1 2), .ref (a.1 7), .ref (a.1 3), .ref (a.1 10), .ref (a.1 1), .int (sc 0), .ref (a.1 kd)])), ((a.1 1), .inl (cI, 2 ^ n, .inl (f 0))), ((a.1 2), .inr (2, [.int (sc 1)])), ((a.1 3), .inr (4, [.ref (a.1 6), .ref (a.1 4), .ref (a.1 5)])), ((a.1 4), .inl (cI, 4, .inl u4.2)), ((a.1 5), .inl (cI, 4, .inl (f 2))), ((a.1 6), .inl (cI, n, .inl u4.1))] ++ (mw_G cI cG a n (kd, sc, f, E, P, C) ++ mw_L cI cG a n (kd, sc, f, E, P, C))) H := hP
  have hD : va_D A ([((a.1 0), .inr (1, [.ref (a.1 2), .ref (a.1 7), .ref (a.1 3), .ref (a.1 10), .ref (a.1 1), .int (sc 0), .ref (a.1 kd)])), ((a.1 1), .inl (cI, 2 ^ n, .inl (f 0))), ((a.1 2), .inr (2, [.int (sc 1)])), ((a.1 3), .inr (4, [.ref (a.1 6), .ref (a.1 4), .ref (a.1 5)])), ((a.1 4), .inl (cI, 4, .inl u4.2)), ((a.1 5), .inl (cI, 4, .inl (f 2))), ((a.1 6), .inl (cI, n, .inl u4.1))] ++ (mw_G cI cG a n (kd, sc, f, E, P, C) ++ mw_L cI cG a n (kd, sc, f, E, P, C))) := hD
  refine lv_aload_n hx hb nd_MA_becomeClasses_7 rfl (lv_at hl 0 rfl) ?_
  refine lv_aload_n hx hb nd_MA_becomeClasses_8 rfl (lv_at hl 0 rfl) ?_
  refine va_get (D := D) (C := nr_MA) (T := nt_MA) (N := 7) hx hb htg tf_MA hown hK hP 0 rfl rfl 2 (by decide) (htg _ tm_102) (fun _ h => h) rfl nd_MA_becomeClasses_9 ?_
  refine wd_Vv (C := nr_MA) (n := 1) (X := []) (Y := [((a.1 0), .inr (1, [.ref (a.1 2), .ref (a.1 7), .ref (a.1 3), .ref (a.1 10), .ref (a.1 1), .int (sc 0), .ref (a.1 kd)])), ((a.1 1), .inl (cI, 2 ^ n, .inl (f 0)))]) (Z := [((a.1 2), .inr (2, [.int (sc 1)])), ((a.1 3), .inr (4, [.ref (a.1 6), .ref (a.1 4), .ref (a.1 5)])), ((a.1 4), .inl (cI, 4, .inl u4.2)), ((a.1 5), .inl (cI, 4, .inl (f 2))), ((a.1 6), .inl (cI, n, .inl u4.1))] ++ (mw_G cI cG a n (kd, sc, f, E, P, C) ++ mw_L cI cG a n (kd, sc, f, E, P, C))) hx hb hml hown htg (c_MA_become l D cI cG cM a n hn kd 3 (sc 0) (f 0) (fun q => hI.2.2.2 q) _) tm_152 tm_149 tm_151 tp_0 tm_2 (by decide +kernel) ⟨⟨Nat.le_trans (by decide) hRf, Nat.le_trans (by decide) hRl⟩, rfl, rfl⟩ hP hD hS hA hK hN (va_recv (q0 := 0) (ci := 1) hK hP rfl rfl) rfl hl.1 rfl (Nat.le_of_ble_eq_true rfl) nd_MA_becomeClasses_12 hCS (fun u12 H locs hp12 hP hD hS => ?_)
  have hP : va_P D cl_all ([((a.1 0), .inr (1, [.ref (a.1 2), .ref (a.1 7), .ref (a.1 3), .ref (a.1 10), .ref (a.1 1), .int (u12.1), .ref (a.1 3)])), ((a.1 1), .inl (cI, 2 ^ n, .inl u12.2)), ((a.1 2), .inr (2, [.int (sc 1)])), ((a.1 3), .inr (4, [.ref (a.1 6), .ref (a.1 4), .ref (a.1 5)])), ((a.1 4), .inl (cI, 4, .inl u4.2)), ((a.1 5), .inl (cI, 4, .inl (f 2))), ((a.1 6), .inl (cI, n, .inl u4.1))] ++ (mw_G cI cG a n (kd, sc, f, E, P, C) ++ mw_L cI cG a n (kd, sc, f, E, P, C))) H := hP
  have hD : va_D A ([((a.1 0), .inr (1, [.ref (a.1 2), .ref (a.1 7), .ref (a.1 3), .ref (a.1 10), .ref (a.1 1), .int (u12.1), .ref (a.1 3)])), ((a.1 1), .inl (cI, 2 ^ n, .inl u12.2)), ((a.1 2), .inr (2, [.int (sc 1)])), ((a.1 3), .inr (4, [.ref (a.1 6), .ref (a.1 4), .ref (a.1 5)])), ((a.1 4), .inl (cI, 4, .inl u4.2)), ((a.1 5), .inl (cI, 4, .inl (f 2))), ((a.1 6), .inl (cI, n, .inl u4.1))] ++ (mw_G cI cG a n (kd, sc, f, E, P, C) ++ mw_L cI cG a n (kd, sc, f, E, P, C))) := hD
  exact wb_vret ((3, va_up sc 0 u12.1, va_up (va_up (va_up f 3 u4.1) 1 u4.2) 0 u12.2, E, P, C)) hx hb hr hk hAe (⟨Or.inr (Or.inr (Or.inl ⟨rfl, fun _ _ => show 0 < 4 from by decide, fun _ _ => show 0 ≤ 10 from by decide⟩)), Or.inr (Or.inr (Or.inl ⟨rfl, rfl, hp4.1, hp4.2⟩)), ma_Rf (fun s hs => hp12.2 s hs)⟩) hP hD hS nd_MA_becomeClasses_15
theorem nd_MA_becomeLinear_0 : decode nc_MA_becomeLinear 0 = .ok (.aload_n 0, 1) := by decide +kernel
theorem nd_MA_becomeLinear_1 : decode nc_MA_becomeLinear 1 = .ok (.getfield 37, 3) := by decide +kernel
theorem nd_MA_becomeLinear_4 : decode nc_MA_becomeLinear 4 = .ok (.iload_n 1, 1) := by decide +kernel
theorem nd_MA_becomeLinear_5 : decode nc_MA_becomeLinear 5 = .ok (.invokevirtual 67, 3) := by decide +kernel
theorem nd_MA_becomeLinear_8 : decode nc_MA_becomeLinear 8 = .ok (.aload_n 0, 1) := by decide +kernel
theorem nd_MA_becomeLinear_9 : decode nc_MA_becomeLinear 9 = .ok (.aload_n 0, 1) := by decide +kernel
theorem nd_MA_becomeLinear_10 : decode nc_MA_becomeLinear 10 = .ok (.getfield 37, 3) := by decide +kernel
theorem nd_MA_becomeLinear_13 : decode nc_MA_becomeLinear 13 = .ok (.invokevirtual 59, 3) := by decide +kernel
theorem nd_MA_becomeLinear_16 : decode nc_MA_becomeLinear 16 = .ok (.return_, 1) := by decide +kernel
set_option maxRecDepth 20000 in
theorem c_MA_becomeLinear (l : Launch) (D : va_G) (cI cG cM : ClassId)  (a : ma_A) (n : Nat) (hn : n ≤ 10) (kd : Nat) (sc : Nat → Int32) (f E P C : Nat → Nat → Int32) (x : ma_T) (hI : ma_I n x (kd, sc, f, E, P, C)) (p : Nat) (hp : p = 2 ∨ p = 3 ∨ p = 5 ∨ p = 7) (sz : Nat) : wb_Mv l ny_MA_becomeLinear nc_MA_becomeLinear 2 ({ frames := 3, cells := 0, slots := 0, locals := 64 }) D (ty_all cI cG cM) (mw_ cI cG a n (kd, sc, f, E, P, C)) sz [.ref (a.1 0), .int (nI (p))] (fun u : ma_S => ma_I n (3, x.2.1, x.2.2.1, x.2.2.2.1, x.2.2.2.2.1, x.2.2.2.2.2.1, p, (fun _ _ => 0)) u) (fun u : ma_S => mw_ cI cG a n u) := by
  refine wb_start (S := ma_S) (by decide) (Nat.le_of_ble_eq_true rfl) ?_
  intro p0 e0 s0 m below meth c ls A hx hb hr hml htg hown hk hP hK hN hl hAe hsz hD hA
  have hl : lv_has ls 2 [(0, .ref (a.1 0)), (1, .int (nI (p)))] := hl
  have hP : va_P D cl_all ([((a.1 0), .inr (1, [.ref (a.1 2), .ref (a.1 7), .ref (a.1 3), .ref (a.1 10), .ref (a.1 1), .int (sc 0), .ref (a.1 kd)])), ((a.1 1), .inl (cI, 2 ^ n, .inl (f 0))), ((a.1 2), .inr (2, [.int (sc 1)])), ((a.1 3), .inr (4, [.ref (a.1 6), .ref (a.1 4), .ref (a.1 5)])), ((a.1 4), .inl (cI, 4, .inl (f 1))), ((a.1 5), .inl (cI, 4, .inl (f 2))), ((a.1 6), .inl (cI, n, .inl (f 3)))] ++ (mw_G cI cG a n (kd, sc, f, E, P, C) ++ mw_L cI cG a n (kd, sc, f, E, P, C))) s0.heap := hP
  have hD : va_D A ([((a.1 0), .inr (1, [.ref (a.1 2), .ref (a.1 7), .ref (a.1 3), .ref (a.1 10), .ref (a.1 1), .int (sc 0), .ref (a.1 kd)])), ((a.1 1), .inl (cI, 2 ^ n, .inl (f 0))), ((a.1 2), .inr (2, [.int (sc 1)])), ((a.1 3), .inr (4, [.ref (a.1 6), .ref (a.1 4), .ref (a.1 5)])), ((a.1 4), .inl (cI, 4, .inl (f 1))), ((a.1 5), .inl (cI, 4, .inl (f 2))), ((a.1 6), .inl (cI, n, .inl (f 3)))] ++ (mw_G cI cG a n (kd, sc, f, E, P, C) ++ mw_L cI cG a n (kd, sc, f, E, P, C))) := hD
  have hS : va_S A s0.heap s0.heap [] := va_S.rf
  have hRf : 3 ≤ ({ frames := 3, cells := 0, slots := 0, locals := 64 } : Room).frames := Nat.le_refl _
  have hRl : 64 ≤ ({ frames := 3, cells := 0, slots := 0, locals := 64 } : Room).locals := Nat.le_refl _
  have hCS : 0 ≤ ({ frames := 3, cells := 0, slots := 0, locals := 64 } : Room).cells ∧ 0 ≤ ({ frames := 3, cells := 0, slots := 0, locals := 64 } : Room).slots := ⟨Nat.zero_le _, Nat.zero_le _⟩
  have h2n : 2 ^ n ≤ 1024 := Nat.pow_le_pow_right (by omega) hn
  refine lv_aload_n hx hb nd_MA_becomeLinear_0 rfl (lv_at hl 0 rfl) ?_
  refine va_get (D := D) (C := nr_MA) (T := nt_MA) (N := 7) hx hb htg tf_MA hown hK hP 0 rfl rfl 3 (by decide) (htg _ tm_103) (fun _ h => h) rfl nd_MA_becomeLinear_1 ?_
  refine lv_iload_n hx hb nd_MA_becomeLinear_4 rfl (lv_at hl 1 rfl) ?_
  rw [mw_Lp rfl, mw_rot] at hP hD
  refine wd_Vv (C := nr_LK) (n := 1) (Y := ([(a.1 10, .inr (5, [.ref (a.1 13), .ref (a.1 11), .ref (a.1 12), .int (sc 2)])), (a.1 11, .inl (cG, 4, .inr (.inr (.inr (.inr (fun i => if i < 4 then some (a.2.2.1 i) else none)))))), (a.1 12, .inl (cI, 4, .inl (f 5))), (a.1 13, .inl (cG, n, .inr (.inr (.inr (.inr (fun i => if i < n then some (a.2.2.2 i) else none))))))] ++ (rw_R cI 4 a.2.2.1 P 4 ++ (rw_R cI 4 a.2.2.2 C n ++ [])))) (Z := []) hx hb hml hown htg (c_LK_clear l D cI cG cM (a.1 10) (a.1 11) (a.1 12) (a.1 13) n hn a.2.2.1 a.2.2.2 p P (f 5) (sc 2) C _) tm_225 tm_222 tm_223 tm_224 tm_7 (by decide +kernel) ⟨⟨Nat.le_trans (by decide) hRf, Nat.le_trans (by decide) hRl⟩, rfl, rfl⟩ hP hD hS hA hK hN (va_recv (q0 := 0) (ci := 5) hK (wm_P (Y := ([(a.1 10, .inr (5, [.ref (a.1 13), .ref (a.1 11), .ref (a.1 12), .int (sc 2)])), (a.1 11, .inl (cG, 4, .inr (.inr (.inr (.inr (fun i => if i < 4 then some (a.2.2.1 i) else none)))))), (a.1 12, .inl (cI, 4, .inl (f 5))), (a.1 13, .inl (cG, n, .inr (.inr (.inr (.inr (fun i => if i < n then some (a.2.2.2 i) else none))))))] ++ (rw_R cI 4 a.2.2.1 P 4 ++ (rw_R cI 4 a.2.2.2 C n ++ [])))) (Z := []) hP).2.1 rfl rfl) rfl hl.1 rfl (Nat.le_of_ble_eq_true rfl) nd_MA_becomeLinear_5 hCS (fun u5 H locs hp5 hP hD hS => ?_)
  rw [← mw_rot] at hP hD
  have hP : va_P D cl_all ([((a.1 0), .inr (1, [.ref (a.1 2), .ref (a.1 7), .ref (a.1 3), .ref (a.1 10), .ref (a.1 1), .int (sc 0), .ref (a.1 kd)])), ((a.1 1), .inl (cI, 2 ^ n, .inl (f 0))), ((a.1 2), .inr (2, [.int (sc 1)])), ((a.1 3), .inr (4, [.ref (a.1 6), .ref (a.1 4), .ref (a.1 5)])), ((a.1 4), .inl (cI, 4, .inl (f 1))), ((a.1 5), .inl (cI, 4, .inl (f 2))), ((a.1 6), .inl (cI, n, .inl (f 3)))] ++ (mw_G cI cG a n (kd, va_up sc 2 (nI p), f, E, P, u5) ++ mw_L cI cG a n (kd, va_up sc 2 (nI p), f, E, P, u5))) H := hP
  have hD : va_D A ([((a.1 0), .inr (1, [.ref (a.1 2), .ref (a.1 7), .ref (a.1 3), .ref (a.1 10), .ref (a.1 1), .int (sc 0), .ref (a.1 kd)])), ((a.1 1), .inl (cI, 2 ^ n, .inl (f 0))), ((a.1 2), .inr (2, [.int (sc 1)])), ((a.1 3), .inr (4, [.ref (a.1 6), .ref (a.1 4), .ref (a.1 5)])), ((a.1 4), .inl (cI, 4, .inl (f 1))), ((a.1 5), .inl (cI, 4, .inl (f 2))), ((a.1 6), .inl (cI, n, .inl (f 3)))] ++ (mw_G cI cG a n (kd, va_up sc 2 (nI p), f, E, P, u5) ++ mw_L cI cG a n (kd, va_up sc 2 (nI p), f, E, P, u5))) := hD
  refine lv_aload_n hx hb nd_MA_becomeLinear_8 rfl (lv_at hl 0 rfl) ?_
  refine lv_aload_n hx hb nd_MA_becomeLinear_9 rfl (lv_at hl 0 rfl) ?_
  refine va_get (D := D) (C := nr_MA) (T := nt_MA) (N := 7) hx hb htg tf_MA hown hK hP 0 rfl rfl 3 (by decide) (htg _ tm_103) (fun _ h => h) rfl nd_MA_becomeLinear_10 ?_
  refine wd_Vv (C := nr_MA) (n := 1) (X := []) (Y := [((a.1 0), .inr (1, [.ref (a.1 2), .ref (a.1 7), .ref (a.1 3), .ref (a.1 10), .ref (a.1 1), .int (sc 0), .ref (a.1 kd)])), ((a.1 1), .inl (cI, 2 ^ n, .inl (f 0)))]) (Z := [((a.1 2), .inr (2, [.int (sc 1)])), ((a.1 3), .inr (4, [.ref (a.1 6), .ref (a.1 4), .ref (a.1 5)])), ((a.1 4), .inl (cI, 4, .inl (f 1))), ((a.1 5), .inl (cI, 4, .inl (f 2))), ((a.1 6), .inl (cI, n, .inl (f 3)))] ++ (mw_G cI cG a n (kd, va_up sc 2 (nI p), f, E, P, u5) ++ mw_L cI cG a n (kd, va_up sc 2 (nI p), f, E, P, u5))) hx hb hml hown htg (c_MA_become l D cI cG cM a n hn kd 10 (sc 0) (f 0) (fun q => hI.2.2.2 q) _) tm_152 tm_149 tm_151 tp_0 tm_2 (by decide +kernel) ⟨⟨Nat.le_trans (by decide) hRf, Nat.le_trans (by decide) hRl⟩, rfl, rfl⟩ hP hD hS hA hK hN (va_recv (q0 := 0) (ci := 1) hK hP rfl rfl) rfl hl.1 rfl (Nat.le_of_ble_eq_true rfl) nd_MA_becomeLinear_13 hCS (fun u13 H locs hp13 hP hD hS => ?_)
  have hP : va_P D cl_all ([((a.1 0), .inr (1, [.ref (a.1 2), .ref (a.1 7), .ref (a.1 3), .ref (a.1 10), .ref (a.1 1), .int (u13.1), .ref (a.1 10)])), ((a.1 1), .inl (cI, 2 ^ n, .inl u13.2)), ((a.1 2), .inr (2, [.int (sc 1)])), ((a.1 3), .inr (4, [.ref (a.1 6), .ref (a.1 4), .ref (a.1 5)])), ((a.1 4), .inl (cI, 4, .inl (f 1))), ((a.1 5), .inl (cI, 4, .inl (f 2))), ((a.1 6), .inl (cI, n, .inl (f 3)))] ++ (mw_G cI cG a n (kd, va_up sc 2 (nI p), f, E, P, u5) ++ mw_L cI cG a n (kd, va_up sc 2 (nI p), f, E, P, u5))) H := hP
  have hD : va_D A ([((a.1 0), .inr (1, [.ref (a.1 2), .ref (a.1 7), .ref (a.1 3), .ref (a.1 10), .ref (a.1 1), .int (u13.1), .ref (a.1 10)])), ((a.1 1), .inl (cI, 2 ^ n, .inl u13.2)), ((a.1 2), .inr (2, [.int (sc 1)])), ((a.1 3), .inr (4, [.ref (a.1 6), .ref (a.1 4), .ref (a.1 5)])), ((a.1 4), .inl (cI, 4, .inl (f 1))), ((a.1 5), .inl (cI, 4, .inl (f 2))), ((a.1 6), .inl (cI, n, .inl (f 3)))] ++ (mw_G cI cG a n (kd, va_up sc 2 (nI p), f, E, P, u5) ++ mw_L cI cG a n (kd, va_up sc 2 (nI p), f, E, P, u5))) := hD
  exact wb_vret ((10, va_up (va_up sc 2 (nI p)) 0 u13.1, va_up f 0 u13.2, E, P, u5)) hx hb hr hk hAe (⟨Or.inr (Or.inr (Or.inr ⟨rfl, hp, fun _ _ _ _ => by show 0 < p; omega⟩)), Or.inr (Or.inr (Or.inr ⟨rfl, rfl, rfl, hp5⟩)), ma_Rf (fun s hs => hp13.2 s hs)⟩) hP hD hS nd_MA_becomeLinear_16
theorem nd_MA_setEdge_0 : decode nc_MA_setEdge 0 = .ok (.aload_n 0, 1) := by decide +kernel
theorem nd_MA_setEdge_1 : decode nc_MA_setEdge 1 = .ok (.getfield 51, 3) := by decide +kernel
theorem nd_MA_setEdge_4 : decode nc_MA_setEdge 4 = .ok (.astore 5, 2) := by decide +kernel
theorem nd_MA_setEdge_6 : decode nc_MA_setEdge 6 = .ok (.aload 5, 2) := by decide +kernel
theorem nd_MA_setEdge_8 : decode nc_MA_setEdge 8 = .ok (.instanceof 18, 3) := by decide +kernel
theorem nd_MA_setEdge_11 : decode nc_MA_setEdge 11 = .ok (.ifCond .eq 36, 3) := by decide +kernel
theorem nd_MA_setEdge_14 : decode nc_MA_setEdge 14 = .ok (.aload 5, 2) := by decide +kernel
theorem nd_MA_setEdge_16 : decode nc_MA_setEdge 16 = .ok (.checkcast 18, 3) := by decide +kernel
theorem nd_MA_setEdge_19 : decode nc_MA_setEdge 19 = .ok (.astore 4, 2) := by decide +kernel
theorem nd_MA_setEdge_21 : decode nc_MA_setEdge 21 = .ok (.aload 4, 2) := by decide +kernel
theorem nd_MA_setEdge_23 : decode nc_MA_setEdge 23 = .ok (.getfield 69, 3) := by decide +kernel
theorem nd_MA_setEdge_26 : decode nc_MA_setEdge 26 = .ok (.iload_n 1, 1) := by decide +kernel
theorem nd_MA_setEdge_27 : decode nc_MA_setEdge 27 = .ok (.aaload, 1) := by decide +kernel
theorem nd_MA_setEdge_28 : decode nc_MA_setEdge 28 = .ok (.iconst 0, 1) := by decide +kernel
theorem nd_MA_setEdge_29 : decode nc_MA_setEdge 29 = .ok (.iload_n 2, 1) := by decide +kernel
theorem nd_MA_setEdge_30 : decode nc_MA_setEdge 30 = .ok (.iastore, 1) := by decide +kernel
theorem nd_MA_setEdge_31 : decode nc_MA_setEdge 31 = .ok (.aload 4, 2) := by decide +kernel
theorem nd_MA_setEdge_33 : decode nc_MA_setEdge 33 = .ok (.getfield 69, 3) := by decide +kernel
theorem nd_MA_setEdge_36 : decode nc_MA_setEdge 36 = .ok (.iload_n 1, 1) := by decide +kernel
theorem nd_MA_setEdge_37 : decode nc_MA_setEdge 37 = .ok (.aaload, 1) := by decide +kernel
theorem nd_MA_setEdge_38 : decode nc_MA_setEdge 38 = .ok (.iconst 1, 1) := by decide +kernel
theorem nd_MA_setEdge_39 : decode nc_MA_setEdge 39 = .ok (.iload_n 3, 1) := by decide +kernel
theorem nd_MA_setEdge_40 : decode nc_MA_setEdge 40 = .ok (.iastore, 1) := by decide +kernel
theorem nd_MA_setEdge_41 : decode nc_MA_setEdge 41 = .ok (.aload_n 0, 1) := by decide +kernel
theorem nd_MA_setEdge_42 : decode nc_MA_setEdge 42 = .ok (.invokevirtual 73, 3) := by decide +kernel
theorem nd_MA_setEdge_45 : decode nc_MA_setEdge 45 = .ok (.iconst 1, 1) := by decide +kernel
theorem nd_MA_setEdge_46 : decode nc_MA_setEdge 46 = .ok (.ireturn, 1) := by decide +kernel
theorem nd_MA_setEdge_47 : decode nc_MA_setEdge 47 = .ok (.iconst 0, 1) := by decide +kernel
theorem nd_MA_setEdge_48 : decode nc_MA_setEdge 48 = .ok (.ireturn, 1) := by decide +kernel
set_option maxRecDepth 20000 in
theorem c_MA_setEdge (l : Launch) (D : va_G) (cI cG cM : ClassId)  (a : ma_A) (n : Nat) (hn : n ≤ 10) (kd : Nat) (sc : Nat → Int32) (f E P C : Nat → Nat → Int32) (x : ma_T) (hI : ma_I n x (kd, sc, f, E, P, C)) (el uu vv : Nat) (hel : el < n) (huu : uu < 8) (hvv : vv < 8) (sz : Nat) : wb_Mi l ny_MA_setEdge nc_MA_setEdge 6 (some .boolean) ({ frames := 2, cells := 0, slots := 0, locals := 43 }) D (ty_all cI cG cM) (mw_ cI cG a n (kd, sc, f, E, P, C)) sz [.ref (a.1 0), .int (nI (el)), .int (nI (uu)), .int (nI (vv))] (fun (v : Int32) (u : ma_S) => (x.1 = 1 → v = nI 1 ∧ ma_I n (x.1, x.2.1, va_up x.2.2.1 el uu, va_up x.2.2.2.1 el vv, x.2.2.2.2) u) ∧ (¬ x.1 = 1 → v = nI 0 ∧ ma_I n x u)) (fun u : ma_S => mw_ cI cG a n u) := by
  refine wb_start (S := ma_S) (by decide) (Nat.le_of_ble_eq_true rfl) ?_
  intro p e0 s0 m below meth c ls A hx hb hr hml htg hown hk hP hK hN hl hAe hsz hD hA
  have hl : lv_has ls 6 [(0, .ref (a.1 0)), (1, .int (nI (el))), (2, .int (nI (uu))), (3, .int (nI (vv)))] := hl
  have hP : va_P D cl_all ([((a.1 0), .inr (1, [.ref (a.1 2), .ref (a.1 7), .ref (a.1 3), .ref (a.1 10), .ref (a.1 1), .int (sc 0), .ref (a.1 kd)])), ((a.1 1), .inl (cI, 2 ^ n, .inl (f 0))), ((a.1 2), .inr (2, [.int (sc 1)])), ((a.1 3), .inr (4, [.ref (a.1 6), .ref (a.1 4), .ref (a.1 5)])), ((a.1 4), .inl (cI, 4, .inl (f 1))), ((a.1 5), .inl (cI, 4, .inl (f 2))), ((a.1 6), .inl (cI, n, .inl (f 3)))] ++ (mw_G cI cG a n (kd, sc, f, E, P, C) ++ mw_L cI cG a n (kd, sc, f, E, P, C))) s0.heap := hP
  have hD : va_D A ([((a.1 0), .inr (1, [.ref (a.1 2), .ref (a.1 7), .ref (a.1 3), .ref (a.1 10), .ref (a.1 1), .int (sc 0), .ref (a.1 kd)])), ((a.1 1), .inl (cI, 2 ^ n, .inl (f 0))), ((a.1 2), .inr (2, [.int (sc 1)])), ((a.1 3), .inr (4, [.ref (a.1 6), .ref (a.1 4), .ref (a.1 5)])), ((a.1 4), .inl (cI, 4, .inl (f 1))), ((a.1 5), .inl (cI, 4, .inl (f 2))), ((a.1 6), .inl (cI, n, .inl (f 3)))] ++ (mw_G cI cG a n (kd, sc, f, E, P, C) ++ mw_L cI cG a n (kd, sc, f, E, P, C))) := hD
  have hS : va_S A s0.heap s0.heap [] := va_S.rf
  have hRf : 2 ≤ ({ frames := 2, cells := 0, slots := 0, locals := 43 } : Room).frames := Nat.le_refl _
  have hRl : 43 ≤ ({ frames := 2, cells := 0, slots := 0, locals := 43 } : Room).locals := Nat.le_refl _
  have hCS : 0 ≤ ({ frames := 2, cells := 0, slots := 0, locals := 43 } : Room).cells ∧ 0 ≤ ({ frames := 2, cells := 0, slots := 0, locals := 43 } : Room).slots := ⟨Nat.zero_le _, Nat.zero_le _⟩
  have h2n : 2 ^ n ≤ 1024 := Nat.pow_le_pow_right (by omega) hn
  rcases hI.2.1 with ⟨hq, hkd, ho⟩ | ⟨hq, hkd, ho⟩ | ⟨hq, hkd, ho, ho2⟩ | ⟨hq, hkd, ho, ho2⟩
  · have hkd : kd = 2 := hkd
    subst hkd
    refine lv_aload_n hx hb nd_MA_setEdge_0 rfl (lv_at hl 0 rfl) ?_
    refine va_get (D := D) (C := nr_MA) (T := nt_MA) (N := 7) hx hb htg tf_MA hown hK hP 0 rfl rfl 6 (by decide) (htg _ tm_106) (fun _ h => h) rfl nd_MA_setEdge_1 ?_
    refine lv_astore hx hb nd_MA_setEdge_4 hl (by decide) rfl (fun ls hl => ?_)
    have hl : lv_has ls 6 [(5, .ref (a.1 2)), (0, .ref (a.1 0)), (1, .int (nI (el))), (2, .int (nI (uu))), (3, .int (nI (vv)))] := hl
    refine lv_aload hx hb nd_MA_setEdge_6 (lv_at hl 0 rfl) ?_
    refine va_instNo (C := nr_UK) hx hb hown (htg _ tm_43) (tn_UK_GK hN) (va_recv (q0 := 2) (ci := 2) hK hP rfl rfl) nd_MA_setEdge_8 ?_
    refine wi_top (y := nI 0) rfl ?_
    refine wi_if_eq (tgt := 47) hx hb (by decide) nd_MA_setEdge_11 rfl (fun _ => ?_) (fun h => absurd h (by decide))
    refine wi_ic hx hb (a := 0) nd_MA_setEdge_47 ?_
    exact wb_zret ((2, sc, f, E, P, C)) hx hb hr hk rfl hAe (⟨fun q => by have hq : x.1 = 0 := hq; omega, fun _ => ⟨rfl, hI⟩⟩) hP hD hS nd_MA_setEdge_48
  · have hkd : kd = 7 := hkd
    subst hkd
    refine lv_aload_n hx hb nd_MA_setEdge_0 rfl (lv_at hl 0 rfl) ?_
    refine va_get (D := D) (C := nr_MA) (T := nt_MA) (N := 7) hx hb htg tf_MA hown hK hP 0 rfl rfl 6 (by decide) (htg _ tm_106) (fun _ h => h) rfl nd_MA_setEdge_1 ?_
    refine lv_astore hx hb nd_MA_setEdge_4 hl (by decide) rfl (fun ls hl => ?_)
    have hl : lv_has ls 6 [(5, .ref (a.1 7)), (0, .ref (a.1 0)), (1, .int (nI (el))), (2, .int (nI (uu))), (3, .int (nI (vv)))] := hl
    refine lv_aload hx hb nd_MA_setEdge_6 (lv_at hl 0 rfl) ?_
    refine va_instY (C := nr_GK) hx hb hown (htg _ tm_43) (tn_570 hN) (va_recv (q0 := 0) (ci := 3) hK (wm_P (X := [((a.1 0), .inr (1, [.ref (a.1 2), .ref (a.1 7), .ref (a.1 3), .ref (a.1 10), .ref (a.1 1), .int (sc 0), .ref (a.1 7)])), ((a.1 1), .inl (cI, 2 ^ n, .inl (f 0))), ((a.1 2), .inr (2, [.int (sc 1)])), ((a.1 3), .inr (4, [.ref (a.1 6), .ref (a.1 4), .ref (a.1 5)])), ((a.1 4), .inl (cI, 4, .inl (f 1))), ((a.1 5), .inl (cI, 4, .inl (f 2))), ((a.1 6), .inl (cI, n, .inl (f 3)))]) (Y := mw_G cI cG a n (7, sc, f, E, P, C)) (Z := mw_L cI cG a n (7, sc, f, E, P, C)) hP).2.1 rfl rfl) nd_MA_setEdge_8 ?_
    refine wi_top (y := nI 1) rfl ?_
    refine wi_if_eq (tgt := 47) hx hb (by decide) nd_MA_setEdge_11 rfl (fun h => absurd h (by decide)) (fun _ => ?_)
    refine lv_aload hx hb nd_MA_setEdge_14 (lv_at hl 0 rfl) ?_
    refine va_castY (C := nr_GK) hx hb hown (htg _ tm_43) (tn_570 hN) (va_recv (q0 := 0) (ci := 3) hK (wm_P (X := [((a.1 0), .inr (1, [.ref (a.1 2), .ref (a.1 7), .ref (a.1 3), .ref (a.1 10), .ref (a.1 1), .int (sc 0), .ref (a.1 7)])), ((a.1 1), .inl (cI, 2 ^ n, .inl (f 0))), ((a.1 2), .inr (2, [.int (sc 1)])), ((a.1 3), .inr (4, [.ref (a.1 6), .ref (a.1 4), .ref (a.1 5)])), ((a.1 4), .inl (cI, 4, .inl (f 1))), ((a.1 5), .inl (cI, 4, .inl (f 2))), ((a.1 6), .inl (cI, n, .inl (f 3)))]) (Y := mw_G cI cG a n (7, sc, f, E, P, C)) (Z := mw_L cI cG a n (7, sc, f, E, P, C)) hP).2.1 rfl rfl) nd_MA_setEdge_16 ?_
    refine lv_astore hx hb nd_MA_setEdge_19 hl (by decide) rfl (fun ls hl => ?_)
    have hl : lv_has ls 6 [(4, .ref (a.1 7)), (5, .ref (a.1 7)), (0, .ref (a.1 0)), (1, .int (nI (el))), (2, .int (nI (uu))), (3, .int (nI (vv)))] := hl
    have hP : va_P D cl_all ([((a.1 0), .inr (1, [.ref (a.1 2), .ref (a.1 7), .ref (a.1 3), .ref (a.1 10), .ref (a.1 1), .int (sc 0), .ref (a.1 7)])), ((a.1 1), .inl (cI, 2 ^ n, .inl (f 0))), ((a.1 2), .inr (2, [.int (sc 1)])), ((a.1 3), .inr (4, [.ref (a.1 6), .ref (a.1 4), .ref (a.1 5)])), ((a.1 4), .inl (cI, 4, .inl (f 1))), ((a.1 5), .inl (cI, 4, .inl (f 2))), ((a.1 6), .inl (cI, n, .inl (f 3))), ((a.1 7), .inr (3, [.ref (a.1 9), .ref (a.1 8)])), ((a.1 8), .inl (cI, 8, .inl (f 4))), ((a.1 9), .inl (cG, n, .inr (.inr (.inr (.inr (fun i => if i < n then some (a.2.1 i) else none))))))] ++ (rw_R cI 2 a.2.1 E n ++ mw_L cI cG a n (7, sc, f, E, P, C))) s0.heap := mw_grP (F := [((a.1 0), .inr (1, [.ref (a.1 2), .ref (a.1 7), .ref (a.1 3), .ref (a.1 10), .ref (a.1 1), .int (sc 0), .ref (a.1 7)])), ((a.1 1), .inl (cI, 2 ^ n, .inl (f 0))), ((a.1 2), .inr (2, [.int (sc 1)])), ((a.1 3), .inr (4, [.ref (a.1 6), .ref (a.1 4), .ref (a.1 5)])), ((a.1 4), .inl (cI, 4, .inl (f 1))), ((a.1 5), .inl (cI, 4, .inl (f 2))), ((a.1 6), .inl (cI, n, .inl (f 3)))]) (G := [((a.1 7), .inr (3, [.ref (a.1 9), .ref (a.1 8)])), ((a.1 8), .inl (cI, 8, .inl (f 4))), ((a.1 9), .inl (cG, n, .inr (.inr (.inr (.inr (fun i => if i < n then some (a.2.1 i) else none))))))]) (R := rw_R cI 2 a.2.1 E n) (L := mw_L cI cG a n (7, sc, f, E, P, C)) hP
    have hD : va_D A ([((a.1 0), .inr (1, [.ref (a.1 2), .ref (a.1 7), .ref (a.1 3), .ref (a.1 10), .ref (a.1 1), .int (sc 0), .ref (a.1 7)])), ((a.1 1), .inl (cI, 2 ^ n, .inl (f 0))), ((a.1 2), .inr (2, [.int (sc 1)])), ((a.1 3), .inr (4, [.ref (a.1 6), .ref (a.1 4), .ref (a.1 5)])), ((a.1 4), .inl (cI, 4, .inl (f 1))), ((a.1 5), .inl (cI, 4, .inl (f 2))), ((a.1 6), .inl (cI, n, .inl (f 3))), ((a.1 7), .inr (3, [.ref (a.1 9), .ref (a.1 8)])), ((a.1 8), .inl (cI, 8, .inl (f 4))), ((a.1 9), .inl (cG, n, .inr (.inr (.inr (.inr (fun i => if i < n then some (a.2.1 i) else none))))))] ++ (rw_R cI 2 a.2.1 E n ++ mw_L cI cG a n (7, sc, f, E, P, C))) := mw_grD (F := [((a.1 0), .inr (1, [.ref (a.1 2), .ref (a.1 7), .ref (a.1 3), .ref (a.1 10), .ref (a.1 1), .int (sc 0), .ref (a.1 7)])), ((a.1 1), .inl (cI, 2 ^ n, .inl (f 0))), ((a.1 2), .inr (2, [.int (sc 1)])), ((a.1 3), .inr (4, [.ref (a.1 6), .ref (a.1 4), .ref (a.1 5)])), ((a.1 4), .inl (cI, 4, .inl (f 1))), ((a.1 5), .inl (cI, 4, .inl (f 2))), ((a.1 6), .inl (cI, n, .inl (f 3)))]) (G := [((a.1 7), .inr (3, [.ref (a.1 9), .ref (a.1 8)])), ((a.1 8), .inl (cI, 8, .inl (f 4))), ((a.1 9), .inl (cG, n, .inr (.inr (.inr (.inr (fun i => if i < n then some (a.2.1 i) else none))))))]) (R := rw_R cI 2 a.2.1 E n) (L := mw_L cI cG a n (7, sc, f, E, P, C)) hD
    refine lv_aload hx hb nd_MA_setEdge_21 (lv_at hl 0 rfl) ?_
    refine va_getN (D := D) (C := nr_GK) (T := nt_GK) (N := 2) hx hb htg tf_GK hown hK hP 7 rfl rfl 0 (by decide) (va_Nw.use rfl (tn_52 hN)) (fun _ h => h) rfl nd_MA_setEdge_23 ?_
    refine lv_iload_n hx hb nd_MA_setEdge_26 rfl (lv_at hl 3 rfl) ?_
    refine wi_aald (v := (a.2.1 el)) hx hb hK hP 9 1 rfl rfl rfl (by omega) (by omega) (if_pos (by omega)) nd_MA_setEdge_27 ?_
    refine wi_ic hx hb (a := 0) nd_MA_setEdge_28 ?_
    refine lv_iload_n hx hb nd_MA_setEdge_29 rfl (lv_at hl 4 rfl) ?_
    refine wi_iast hx hb hK hP hD hS _ 0 (rw_atL (by omega)) rfl (by omega) (by omega) nd_MA_setEdge_30 (fun H locs hP hD hS => ?_)
    rw [rw_setL (by omega)] at hP hD
    have hP : va_P D cl_all ([((a.1 0), .inr (1, [.ref (a.1 2), .ref (a.1 7), .ref (a.1 3), .ref (a.1 10), .ref (a.1 1), .int (sc 0), .ref (a.1 7)])), ((a.1 1), .inl (cI, 2 ^ n, .inl (f 0))), ((a.1 2), .inr (2, [.int (sc 1)])), ((a.1 3), .inr (4, [.ref (a.1 6), .ref (a.1 4), .ref (a.1 5)])), ((a.1 4), .inl (cI, 4, .inl (f 1))), ((a.1 5), .inl (cI, 4, .inl (f 2))), ((a.1 6), .inl (cI, n, .inl (f 3))), ((a.1 7), .inr (3, [.ref (a.1 9), .ref (a.1 8)])), ((a.1 8), .inl (cI, 8, .inl (f 4))), ((a.1 9), .inl (cG, n, .inr (.inr (.inr (.inr (fun i => if i < n then some (a.2.1 i) else none))))))] ++ (rw_R cI 2 a.2.1 (va_up E el (upd (E el) 0 (nI (uu)))) n ++ mw_L cI cG a n (7, sc, f, E, P, C))) H := hP
    have hD : va_D A ([((a.1 0), .inr (1, [.ref (a.1 2), .ref (a.1 7), .ref (a.1 3), .ref (a.1 10), .ref (a.1 1), .int (sc 0), .ref (a.1 7)])), ((a.1 1), .inl (cI, 2 ^ n, .inl (f 0))), ((a.1 2), .inr (2, [.int (sc 1)])), ((a.1 3), .inr (4, [.ref (a.1 6), .ref (a.1 4), .ref (a.1 5)])), ((a.1 4), .inl (cI, 4, .inl (f 1))), ((a.1 5), .inl (cI, 4, .inl (f 2))), ((a.1 6), .inl (cI, n, .inl (f 3))), ((a.1 7), .inr (3, [.ref (a.1 9), .ref (a.1 8)])), ((a.1 8), .inl (cI, 8, .inl (f 4))), ((a.1 9), .inl (cG, n, .inr (.inr (.inr (.inr (fun i => if i < n then some (a.2.1 i) else none))))))] ++ (rw_R cI 2 a.2.1 (va_up E el (upd (E el) 0 (nI (uu)))) n ++ mw_L cI cG a n (7, sc, f, E, P, C))) := hD
    refine lv_aload hx hb nd_MA_setEdge_31 (lv_at hl 0 rfl) ?_
    refine va_getN (D := D) (C := nr_GK) (T := nt_GK) (N := 2) hx hb htg tf_GK hown hK hP 7 rfl rfl 0 (by decide) (va_Nw.use rfl (tn_52 hN)) (fun _ h => h) rfl nd_MA_setEdge_33 ?_
    refine lv_iload_n hx hb nd_MA_setEdge_36 rfl (lv_at hl 3 rfl) ?_
    refine wi_aald (v := (a.2.1 el)) hx hb hK hP 9 1 rfl rfl rfl (by omega) (by omega) (if_pos (by omega)) nd_MA_setEdge_37 ?_
    refine wi_ic hx hb (a := 1) nd_MA_setEdge_38 ?_
    refine lv_iload_n hx hb nd_MA_setEdge_39 rfl (lv_at hl 5 rfl) ?_
    refine wi_iast hx hb hK hP hD hS _ 0 (rw_atL (by omega)) rfl (by omega) (by omega) nd_MA_setEdge_40 (fun H locs hP hD hS => ?_)
    rw [rw_setL (by omega)] at hP hD
    have hP : va_P D cl_all ([((a.1 0), .inr (1, [.ref (a.1 2), .ref (a.1 7), .ref (a.1 3), .ref (a.1 10), .ref (a.1 1), .int (sc 0), .ref (a.1 7)])), ((a.1 1), .inl (cI, 2 ^ n, .inl (f 0))), ((a.1 2), .inr (2, [.int (sc 1)])), ((a.1 3), .inr (4, [.ref (a.1 6), .ref (a.1 4), .ref (a.1 5)])), ((a.1 4), .inl (cI, 4, .inl (f 1))), ((a.1 5), .inl (cI, 4, .inl (f 2))), ((a.1 6), .inl (cI, n, .inl (f 3))), ((a.1 7), .inr (3, [.ref (a.1 9), .ref (a.1 8)])), ((a.1 8), .inl (cI, 8, .inl (f 4))), ((a.1 9), .inl (cG, n, .inr (.inr (.inr (.inr (fun i => if i < n then some (a.2.1 i) else none))))))] ++ (rw_R cI 2 a.2.1 (va_up (va_up E el (upd (E el) 0 (nI (uu)))) el (upd ((va_up E el (upd (E el) 0 (nI (uu)))) el) 1 (nI (vv)))) n ++ mw_L cI cG a n (7, sc, f, E, P, C))) H := hP
    have hD : va_D A ([((a.1 0), .inr (1, [.ref (a.1 2), .ref (a.1 7), .ref (a.1 3), .ref (a.1 10), .ref (a.1 1), .int (sc 0), .ref (a.1 7)])), ((a.1 1), .inl (cI, 2 ^ n, .inl (f 0))), ((a.1 2), .inr (2, [.int (sc 1)])), ((a.1 3), .inr (4, [.ref (a.1 6), .ref (a.1 4), .ref (a.1 5)])), ((a.1 4), .inl (cI, 4, .inl (f 1))), ((a.1 5), .inl (cI, 4, .inl (f 2))), ((a.1 6), .inl (cI, n, .inl (f 3))), ((a.1 7), .inr (3, [.ref (a.1 9), .ref (a.1 8)])), ((a.1 8), .inl (cI, 8, .inl (f 4))), ((a.1 9), .inl (cG, n, .inr (.inr (.inr (.inr (fun i => if i < n then some (a.2.1 i) else none))))))] ++ (rw_R cI 2 a.2.1 (va_up (va_up E el (upd (E el) 0 (nI (uu)))) el (upd ((va_up E el (upd (E el) 0 (nI (uu)))) el) 1 (nI (vv)))) n ++ mw_L cI cG a n (7, sc, f, E, P, C))) := hD
    refine lv_aload_n hx hb nd_MA_setEdge_41 rfl (lv_at hl 2 rfl) ?_
    refine wd_Vv (C := nr_MA) (n := 0) (X := []) (Y := [((a.1 0), .inr (1, [.ref (a.1 2), .ref (a.1 7), .ref (a.1 3), .ref (a.1 10), .ref (a.1 1), .int (sc 0), .ref (a.1 7)])), ((a.1 1), .inl (cI, 2 ^ n, .inl (f 0)))]) (Z := [((a.1 2), .inr (2, [.int (sc 1)])), ((a.1 3), .inr (4, [.ref (a.1 6), .ref (a.1 4), .ref (a.1 5)])), ((a.1 4), .inl (cI, 4, .inl (f 1))), ((a.1 5), .inl (cI, 4, .inl (f 2))), ((a.1 6), .inl (cI, n, .inl (f 3))), ((a.1 7), .inr (3, [.ref (a.1 9), .ref (a.1 8)])), ((a.1 8), .inl (cI, 8, .inl (f 4))), ((a.1 9), .inl (cG, n, .inr (.inr (.inr (.inr (fun i => if i < n then some (a.2.1 i) else none))))))] ++ (rw_R cI 2 a.2.1 (va_up (va_up E el (upd (E el) 0 (nI (uu)))) el (upd ((va_up E el (upd (E el) 0 (nI (uu)))) el) 1 (nI (vv)))) n ++ mw_L cI cG a n (7, sc, f, E, P, C))) hx hb hml hown htg (c_MA_forgetRanks l D cI cG cM a n hn 7 (sc 0) (f 0) (fun q => hI.2.2.2 q) _) tm_156 tm_153 tm_155 tp_1 tm_2 (by decide +kernel) ⟨⟨Nat.le_trans (by decide) hRf, Nat.le_trans (by decide) hRl⟩, rfl, rfl⟩ hP hD hS hA hK hN (va_recv (q0 := 0) (ci := 1) hK hP rfl rfl) rfl hl.1 rfl (Nat.le_of_ble_eq_true rfl) nd_MA_setEdge_42 hCS (fun u42 H locs hp42 hP hD hS => ?_)
    have hP : va_P D cl_all ([((a.1 0), .inr (1, [.ref (a.1 2), .ref (a.1 7), .ref (a.1 3), .ref (a.1 10), .ref (a.1 1), .int (u42.1), .ref (a.1 7)])), ((a.1 1), .inl (cI, 2 ^ n, .inl u42.2)), ((a.1 2), .inr (2, [.int (sc 1)])), ((a.1 3), .inr (4, [.ref (a.1 6), .ref (a.1 4), .ref (a.1 5)])), ((a.1 4), .inl (cI, 4, .inl (f 1))), ((a.1 5), .inl (cI, 4, .inl (f 2))), ((a.1 6), .inl (cI, n, .inl (f 3))), ((a.1 7), .inr (3, [.ref (a.1 9), .ref (a.1 8)])), ((a.1 8), .inl (cI, 8, .inl (f 4))), ((a.1 9), .inl (cG, n, .inr (.inr (.inr (.inr (fun i => if i < n then some (a.2.1 i) else none))))))] ++ (rw_R cI 2 a.2.1 (va_up (va_up E el (upd (E el) 0 (nI (uu)))) el (upd ((va_up E el (upd (E el) 0 (nI (uu)))) el) 1 (nI (vv)))) n ++ mw_L cI cG a n (7, sc, f, E, P, C))) H := hP
    have hD : va_D A ([((a.1 0), .inr (1, [.ref (a.1 2), .ref (a.1 7), .ref (a.1 3), .ref (a.1 10), .ref (a.1 1), .int (u42.1), .ref (a.1 7)])), ((a.1 1), .inl (cI, 2 ^ n, .inl u42.2)), ((a.1 2), .inr (2, [.int (sc 1)])), ((a.1 3), .inr (4, [.ref (a.1 6), .ref (a.1 4), .ref (a.1 5)])), ((a.1 4), .inl (cI, 4, .inl (f 1))), ((a.1 5), .inl (cI, 4, .inl (f 2))), ((a.1 6), .inl (cI, n, .inl (f 3))), ((a.1 7), .inr (3, [.ref (a.1 9), .ref (a.1 8)])), ((a.1 8), .inl (cI, 8, .inl (f 4))), ((a.1 9), .inl (cG, n, .inr (.inr (.inr (.inr (fun i => if i < n then some (a.2.1 i) else none))))))] ++ (rw_R cI 2 a.2.1 (va_up (va_up E el (upd (E el) 0 (nI (uu)))) el (upd ((va_up E el (upd (E el) 0 (nI (uu)))) el) 1 (nI (vv)))) n ++ mw_L cI cG a n (7, sc, f, E, P, C))) := hD
    refine wi_ic hx hb (a := 1) nd_MA_setEdge_45 ?_
    have hP : va_P D cl_all (mw_ cI cG a n (7, va_up sc 0 u42.1, va_up f 0 u42.2, (va_up (va_up E el (upd (E el) 0 (nI uu))) el (upd (va_up E el (upd (E el) 0 (nI uu)) el) 1 (nI vv))), P, C)) H := by show va_P D cl_all ([((a.1 0), .inr (1, [.ref (a.1 2), .ref (a.1 7), .ref (a.1 3), .ref (a.1 10), .ref (a.1 1), .int (u42.1), .ref (a.1 7)])), ((a.1 1), .inl (cI, 2 ^ n, .inl u42.2)), ((a.1 2), .inr (2, [.int (sc 1)])), ((a.1 3), .inr (4, [.ref (a.1 6), .ref (a.1 4), .ref (a.1 5)])), ((a.1 4), .inl (cI, 4, .inl (f 1))), ((a.1 5), .inl (cI, 4, .inl (f 2))), ((a.1 6), .inl (cI, n, .inl (f 3)))] ++ (([((a.1 7), .inr (3, [.ref (a.1 9), .ref (a.1 8)])), ((a.1 8), .inl (cI, 8, .inl (f 4))), ((a.1 9), .inl (cG, n, .inr (.inr (.inr (.inr (fun i => if i < n then some (a.2.1 i) else none))))))] ++ (rw_R cI 2 a.2.1 (va_up (va_up E el (upd (E el) 0 (nI (uu)))) el (upd ((va_up E el (upd (E el) 0 (nI (uu)))) el) 1 (nI (vv)))) n ++ [])) ++ mw_L cI cG a n (7, sc, f, E, P, C))) H; rw [mw_gr]; exact hP
    have hD : va_D A (mw_ cI cG a n (7, va_up sc 0 u42.1, va_up f 0 u42.2, (va_up (va_up E el (upd (E el) 0 (nI uu))) el (upd (va_up E el (upd (E el) 0 (nI uu)) el) 1 (nI vv))), P, C)) := by show va_D A ([((a.1 0), .inr (1, [.ref (a.1 2), .ref (a.1 7), .ref (a.1 3), .ref (a.1 10), .ref (a.1 1), .int (u42.1), .ref (a.1 7)])), ((a.1 1), .inl (cI, 2 ^ n, .inl u42.2)), ((a.1 2), .inr (2, [.int (sc 1)])), ((a.1 3), .inr (4, [.ref (a.1 6), .ref (a.1 4), .ref (a.1 5)])), ((a.1 4), .inl (cI, 4, .inl (f 1))), ((a.1 5), .inl (cI, 4, .inl (f 2))), ((a.1 6), .inl (cI, n, .inl (f 3)))] ++ (([((a.1 7), .inr (3, [.ref (a.1 9), .ref (a.1 8)])), ((a.1 8), .inl (cI, 8, .inl (f 4))), ((a.1 9), .inl (cG, n, .inr (.inr (.inr (.inr (fun i => if i < n then some (a.2.1 i) else none))))))] ++ (rw_R cI 2 a.2.1 (va_up (va_up E el (upd (E el) 0 (nI (uu)))) el (upd ((va_up E el (upd (E el) 0 (nI (uu)))) el) 1 (nI (vv)))) n ++ [])) ++ mw_L cI cG a n (7, sc, f, E, P, C))); rw [mw_gr]; exact hD
    have hv : ∀ i, i < n → x.2.2.1 i < 8 ∧ x.2.2.2.1 i < 8 := by rcases hI.1 with ⟨q, -⟩ | ⟨q, q2⟩ | ⟨q, -⟩ | ⟨q, -⟩ <;> first | exact q2 | omega
    have ho : ∀ e, e < n → E e 0 = nI (x.2.2.1 e) ∧ E e 1 = nI (x.2.2.2.1 e) := ho
    exact wb_zret ((7, va_up sc 0 u42.1, va_up f 0 u42.2, (va_up (va_up E el (upd (E el) 0 (nI uu))) el (upd (va_up E el (upd (E el) 0 (nI uu)) el) 1 (nI vv))), P, C)) hx hb hr hk rfl hAe (⟨fun _ => ⟨rfl, Or.inr (Or.inl ⟨hq, fun i hi => if q : i = el then by simp [va_up, q]; omega else by simp [va_up, q]; exact hv i hi⟩), Or.inr (Or.inl ⟨hq, rfl, fun e he => if q : e = el then by simp [va_up, upd, q] else by simp [va_up, q]; exact ho e he⟩), ma_Rf (fun s hs => hp42.2 s hs)⟩, fun q => absurd hq q⟩) hP hD hS nd_MA_setEdge_46
  · have hkd : kd = 3 := hkd
    subst hkd
    refine lv_aload_n hx hb nd_MA_setEdge_0 rfl (lv_at hl 0 rfl) ?_
    refine va_get (D := D) (C := nr_MA) (T := nt_MA) (N := 7) hx hb htg tf_MA hown hK hP 0 rfl rfl 6 (by decide) (htg _ tm_106) (fun _ h => h) rfl nd_MA_setEdge_1 ?_
    refine lv_astore hx hb nd_MA_setEdge_4 hl (by decide) rfl (fun ls hl => ?_)
    have hl : lv_has ls 6 [(5, .ref (a.1 3)), (0, .ref (a.1 0)), (1, .int (nI (el))), (2, .int (nI (uu))), (3, .int (nI (vv)))] := hl
    refine lv_aload hx hb nd_MA_setEdge_6 (lv_at hl 0 rfl) ?_
    refine va_instNo (C := nr_CK) hx hb hown (htg _ tm_43) (tn_CK_GK hN) (va_recv (q0 := 3) (ci := 4) hK hP rfl rfl) nd_MA_setEdge_8 ?_
    refine wi_top (y := nI 0) rfl ?_
    refine wi_if_eq (tgt := 47) hx hb (by decide) nd_MA_setEdge_11 rfl (fun _ => ?_) (fun h => absurd h (by decide))
    refine wi_ic hx hb (a := 0) nd_MA_setEdge_47 ?_
    exact wb_zret ((3, sc, f, E, P, C)) hx hb hr hk rfl hAe (⟨fun q => by have hq : x.1 = 2 := hq; omega, fun _ => ⟨rfl, hI⟩⟩) hP hD hS nd_MA_setEdge_48
  · have hkd : kd = 10 := hkd
    subst hkd
    refine lv_aload_n hx hb nd_MA_setEdge_0 rfl (lv_at hl 0 rfl) ?_
    refine va_get (D := D) (C := nr_MA) (T := nt_MA) (N := 7) hx hb htg tf_MA hown hK hP 0 rfl rfl 6 (by decide) (htg _ tm_106) (fun _ h => h) rfl nd_MA_setEdge_1 ?_
    refine lv_astore hx hb nd_MA_setEdge_4 hl (by decide) rfl (fun ls hl => ?_)
    have hl : lv_has ls 6 [(5, .ref (a.1 10)), (0, .ref (a.1 0)), (1, .int (nI (el))), (2, .int (nI (uu))), (3, .int (nI (vv)))] := hl
    refine lv_aload hx hb nd_MA_setEdge_6 (lv_at hl 0 rfl) ?_
    refine va_instNo (C := nr_LK) hx hb hown (htg _ tm_43) (tn_LK_GK hN) (va_recv (q0 := 0) (ci := 5) hK (wm_P (Y := mw_L cI cG a n (10, sc, f, E, P, C)) (Z := []) (show va_P D cl_all (([((a.1 0), .inr (1, [.ref (a.1 2), .ref (a.1 7), .ref (a.1 3), .ref (a.1 10), .ref (a.1 1), .int (sc 0), .ref (a.1 10)])), ((a.1 1), .inl (cI, 2 ^ n, .inl (f 0))), ((a.1 2), .inr (2, [.int (sc 1)])), ((a.1 3), .inr (4, [.ref (a.1 6), .ref (a.1 4), .ref (a.1 5)])), ((a.1 4), .inl (cI, 4, .inl (f 1))), ((a.1 5), .inl (cI, 4, .inl (f 2))), ((a.1 6), .inl (cI, n, .inl (f 3)))] ++ mw_G cI cG a n (10, sc, f, E, P, C)) ++ (mw_L cI cG a n (10, sc, f, E, P, C) ++ [])) s0.heap by rw [← mw_rot]; exact hP)).2.1 rfl rfl) nd_MA_setEdge_8 ?_
    refine wi_top (y := nI 0) rfl ?_
    refine wi_if_eq (tgt := 47) hx hb (by decide) nd_MA_setEdge_11 rfl (fun _ => ?_) (fun h => absurd h (by decide))
    refine wi_ic hx hb (a := 0) nd_MA_setEdge_47 ?_
    exact wb_zret ((10, sc, f, E, P, C)) hx hb hr hk rfl hAe (⟨fun q => by have hq : x.1 = 3 := hq; omega, fun _ => ⟨rfl, hI⟩⟩) hP hD hS nd_MA_setEdge_48
theorem nd_MA_setClass_0 : decode nc_MA_setClass 0 = .ok (.aload_n 0, 1) := by decide +kernel
theorem nd_MA_setClass_1 : decode nc_MA_setClass 1 = .ok (.getfield 51, 3) := by decide +kernel
theorem nd_MA_setClass_4 : decode nc_MA_setClass 4 = .ok (.astore 4, 2) := by decide +kernel
theorem nd_MA_setClass_6 : decode nc_MA_setClass 6 = .ok (.aload 4, 2) := by decide +kernel
theorem nd_MA_setClass_8 : decode nc_MA_setClass 8 = .ok (.instanceof 27, 3) := by decide +kernel
theorem nd_MA_setClass_11 : decode nc_MA_setClass 11 = .ok (.ifCond .eq 22, 3) := by decide +kernel
theorem nd_MA_setClass_14 : decode nc_MA_setClass 14 = .ok (.aload 4, 2) := by decide +kernel
theorem nd_MA_setClass_16 : decode nc_MA_setClass 16 = .ok (.checkcast 27, 3) := by decide +kernel
theorem nd_MA_setClass_19 : decode nc_MA_setClass 19 = .ok (.astore_n 3, 1) := by decide +kernel
theorem nd_MA_setClass_20 : decode nc_MA_setClass 20 = .ok (.aload_n 3, 1) := by decide +kernel
theorem nd_MA_setClass_21 : decode nc_MA_setClass 21 = .ok (.getfield 76, 3) := by decide +kernel
theorem nd_MA_setClass_24 : decode nc_MA_setClass 24 = .ok (.iload_n 1, 1) := by decide +kernel
theorem nd_MA_setClass_25 : decode nc_MA_setClass 25 = .ok (.iload_n 2, 1) := by decide +kernel
theorem nd_MA_setClass_26 : decode nc_MA_setClass 26 = .ok (.iastore, 1) := by decide +kernel
theorem nd_MA_setClass_27 : decode nc_MA_setClass 27 = .ok (.aload_n 0, 1) := by decide +kernel
theorem nd_MA_setClass_28 : decode nc_MA_setClass 28 = .ok (.invokevirtual 73, 3) := by decide +kernel
theorem nd_MA_setClass_31 : decode nc_MA_setClass 31 = .ok (.iconst 1, 1) := by decide +kernel
theorem nd_MA_setClass_32 : decode nc_MA_setClass 32 = .ok (.ireturn, 1) := by decide +kernel
theorem nd_MA_setClass_33 : decode nc_MA_setClass 33 = .ok (.iconst 0, 1) := by decide +kernel
theorem nd_MA_setClass_34 : decode nc_MA_setClass 34 = .ok (.ireturn, 1) := by decide +kernel
set_option maxRecDepth 20000 in
theorem c_MA_setClass (l : Launch) (D : va_G) (cI cG cM : ClassId)  (a : ma_A) (n : Nat) (hn : n ≤ 10) (kd : Nat) (sc : Nat → Int32) (f E P C : Nat → Nat → Int32) (x : ma_T) (hI : ma_I n x (kd, sc, f, E, P, C)) (el cc0 : Nat) (hel : el < n) (hcc : cc0 < 4) (sz : Nat) : wb_Mi l ny_MA_setClass nc_MA_setClass 5 (some .boolean) ({ frames := 2, cells := 0, slots := 0, locals := 43 }) D (ty_all cI cG cM) (mw_ cI cG a n (kd, sc, f, E, P, C)) sz [.ref (a.1 0), .int (nI (el)), .int (nI (cc0))] (fun (v : Int32) (u : ma_S) => (x.1 = 2 → v = nI 1 ∧ ma_I n (x.1, x.2.1, x.2.2.1, x.2.2.2.1, va_up x.2.2.2.2.1 el cc0, x.2.2.2.2.2) u) ∧ (¬ x.1 = 2 → v = nI 0 ∧ ma_I n x u)) (fun u : ma_S => mw_ cI cG a n u) := by
  refine wb_start (S := ma_S) (by decide) (Nat.le_of_ble_eq_true rfl) ?_
  intro p e0 s0 m below meth c ls A hx hb hr hml htg hown hk hP hK hN hl hAe hsz hD hA
  have hl : lv_has ls 5 [(0, .ref (a.1 0)), (1, .int (nI (el))), (2, .int (nI (cc0)))] := hl
  have hP : va_P D cl_all ([((a.1 0), .inr (1, [.ref (a.1 2), .ref (a.1 7), .ref (a.1 3), .ref (a.1 10), .ref (a.1 1), .int (sc 0), .ref (a.1 kd)])), ((a.1 1), .inl (cI, 2 ^ n, .inl (f 0))), ((a.1 2), .inr (2, [.int (sc 1)])), ((a.1 3), .inr (4, [.ref (a.1 6), .ref (a.1 4), .ref (a.1 5)])), ((a.1 4), .inl (cI, 4, .inl (f 1))), ((a.1 5), .inl (cI, 4, .inl (f 2))), ((a.1 6), .inl (cI, n, .inl (f 3)))] ++ (mw_G cI cG a n (kd, sc, f, E, P, C) ++ mw_L cI cG a n (kd, sc, f, E, P, C))) s0.heap := hP
  have hD : va_D A ([((a.1 0), .inr (1, [.ref (a.1 2), .ref (a.1 7), .ref (a.1 3), .ref (a.1 10), .ref (a.1 1), .int (sc 0), .ref (a.1 kd)])), ((a.1 1), .inl (cI, 2 ^ n, .inl (f 0))), ((a.1 2), .inr (2, [.int (sc 1)])), ((a.1 3), .inr (4, [.ref (a.1 6), .ref (a.1 4), .ref (a.1 5)])), ((a.1 4), .inl (cI, 4, .inl (f 1))), ((a.1 5), .inl (cI, 4, .inl (f 2))), ((a.1 6), .inl (cI, n, .inl (f 3)))] ++ (mw_G cI cG a n (kd, sc, f, E, P, C) ++ mw_L cI cG a n (kd, sc, f, E, P, C))) := hD
  have hS : va_S A s0.heap s0.heap [] := va_S.rf
  have hRf : 2 ≤ ({ frames := 2, cells := 0, slots := 0, locals := 43 } : Room).frames := Nat.le_refl _
  have hRl : 43 ≤ ({ frames := 2, cells := 0, slots := 0, locals := 43 } : Room).locals := Nat.le_refl _
  have hCS : 0 ≤ ({ frames := 2, cells := 0, slots := 0, locals := 43 } : Room).cells ∧ 0 ≤ ({ frames := 2, cells := 0, slots := 0, locals := 43 } : Room).slots := ⟨Nat.zero_le _, Nat.zero_le _⟩
  have h2n : 2 ^ n ≤ 1024 := Nat.pow_le_pow_right (by omega) hn
  rcases hI.2.1 with ⟨hq, hkd, ho⟩ | ⟨hq, hkd, ho⟩ | ⟨hq, hkd, ho, ho2⟩ | ⟨hq, hkd, ho, ho2⟩
  · have hkd : kd = 2 := hkd
    subst hkd
    refine lv_aload_n hx hb nd_MA_setClass_0 rfl (lv_at hl 0 rfl) ?_
    refine va_get (D := D) (C := nr_MA) (T := nt_MA) (N := 7) hx hb htg tf_MA hown hK hP 0 rfl rfl 6 (by decide) (htg _ tm_106) (fun _ h => h) rfl nd_MA_setClass_1 ?_
    refine lv_astore hx hb nd_MA_setClass_4 hl (by decide) rfl (fun ls hl => ?_)
    have hl : lv_has ls 5 [(4, .ref (a.1 2)), (0, .ref (a.1 0)), (1, .int (nI (el))), (2, .int (nI (cc0)))] := hl
    refine lv_aload hx hb nd_MA_setClass_6 (lv_at hl 0 rfl) ?_
    refine va_instNo (C := nr_UK) hx hb hown (htg _ tm_59) (tn_UK_CK hN) (va_recv (q0 := 2) (ci := 2) hK hP rfl rfl) nd_MA_setClass_8 ?_
    refine wi_top (y := nI 0) rfl ?_
    refine wi_if_eq (tgt := 33) hx hb (by decide) nd_MA_setClass_11 rfl (fun _ => ?_) (fun h => absurd h (by decide))
    refine wi_ic hx hb (a := 0) nd_MA_setClass_33 ?_
    exact wb_zret ((2, sc, f, E, P, C)) hx hb hr hk rfl hAe (⟨fun q => by have hq : x.1 = 0 := hq; omega, fun _ => ⟨rfl, hI⟩⟩) hP hD hS nd_MA_setClass_34
  · have hkd : kd = 7 := hkd
    subst hkd
    refine lv_aload_n hx hb nd_MA_setClass_0 rfl (lv_at hl 0 rfl) ?_
    refine va_get (D := D) (C := nr_MA) (T := nt_MA) (N := 7) hx hb htg tf_MA hown hK hP 0 rfl rfl 6 (by decide) (htg _ tm_106) (fun _ h => h) rfl nd_MA_setClass_1 ?_
    refine lv_astore hx hb nd_MA_setClass_4 hl (by decide) rfl (fun ls hl => ?_)
    have hl : lv_has ls 5 [(4, .ref (a.1 7)), (0, .ref (a.1 0)), (1, .int (nI (el))), (2, .int (nI (cc0)))] := hl
    refine lv_aload hx hb nd_MA_setClass_6 (lv_at hl 0 rfl) ?_
    refine va_instNo (C := nr_GK) hx hb hown (htg _ tm_59) (tn_GK_CK hN) (va_recv (q0 := 0) (ci := 3) hK (wm_P (X := [((a.1 0), .inr (1, [.ref (a.1 2), .ref (a.1 7), .ref (a.1 3), .ref (a.1 10), .ref (a.1 1), .int (sc 0), .ref (a.1 7)])), ((a.1 1), .inl (cI, 2 ^ n, .inl (f 0))), ((a.1 2), .inr (2, [.int (sc 1)])), ((a.1 3), .inr (4, [.ref (a.1 6), .ref (a.1 4), .ref (a.1 5)])), ((a.1 4), .inl (cI, 4, .inl (f 1))), ((a.1 5), .inl (cI, 4, .inl (f 2))), ((a.1 6), .inl (cI, n, .inl (f 3)))]) (Y := mw_G cI cG a n (7, sc, f, E, P, C)) (Z := mw_L cI cG a n (7, sc, f, E, P, C)) hP).2.1 rfl rfl) nd_MA_setClass_8 ?_
    refine wi_top (y := nI 0) rfl ?_
    refine wi_if_eq (tgt := 33) hx hb (by decide) nd_MA_setClass_11 rfl (fun _ => ?_) (fun h => absurd h (by decide))
    refine wi_ic hx hb (a := 0) nd_MA_setClass_33 ?_
    exact wb_zret ((7, sc, f, E, P, C)) hx hb hr hk rfl hAe (⟨fun q => by have hq : x.1 = 1 := hq; omega, fun _ => ⟨rfl, hI⟩⟩) hP hD hS nd_MA_setClass_34
  · have hkd : kd = 3 := hkd
    subst hkd
    refine lv_aload_n hx hb nd_MA_setClass_0 rfl (lv_at hl 0 rfl) ?_
    refine va_get (D := D) (C := nr_MA) (T := nt_MA) (N := 7) hx hb htg tf_MA hown hK hP 0 rfl rfl 6 (by decide) (htg _ tm_106) (fun _ h => h) rfl nd_MA_setClass_1 ?_
    refine lv_astore hx hb nd_MA_setClass_4 hl (by decide) rfl (fun ls hl => ?_)
    have hl : lv_has ls 5 [(4, .ref (a.1 3)), (0, .ref (a.1 0)), (1, .int (nI (el))), (2, .int (nI (cc0)))] := hl
    refine lv_aload hx hb nd_MA_setClass_6 (lv_at hl 0 rfl) ?_
    refine va_instY (C := nr_CK) hx hb hown (htg _ tm_59) (tn_571 hN) (va_recv (q0 := 3) (ci := 4) hK hP rfl rfl) nd_MA_setClass_8 ?_
    refine wi_top (y := nI 1) rfl ?_
    refine wi_if_eq (tgt := 33) hx hb (by decide) nd_MA_setClass_11 rfl (fun h => absurd h (by decide)) (fun _ => ?_)
    refine lv_aload hx hb nd_MA_setClass_14 (lv_at hl 0 rfl) ?_
    refine va_castY (C := nr_CK) hx hb hown (htg _ tm_59) (tn_571 hN) (va_recv (q0 := 3) (ci := 4) hK hP rfl rfl) nd_MA_setClass_16 ?_
    refine lv_astore_n hx hb nd_MA_setClass_19 rfl hl (by decide) rfl (fun ls hl => ?_)
    have hl : lv_has ls 5 [(3, .ref (a.1 3)), (4, .ref (a.1 3)), (0, .ref (a.1 0)), (1, .int (nI (el))), (2, .int (nI (cc0)))] := hl
    refine lv_aload_n hx hb nd_MA_setClass_20 rfl (lv_at hl 0 rfl) ?_
    refine va_getN (D := D) (C := nr_CK) (T := nt_CK) (N := 3) hx hb htg tf_CK hown hK hP 3 rfl rfl 0 (by decide) (va_Nw.use rfl (tn_66 hN)) (fun _ h => h) rfl nd_MA_setClass_21 ?_
    refine lv_iload_n hx hb nd_MA_setClass_24 rfl (lv_at hl 3 rfl) ?_
    refine lv_iload_n hx hb nd_MA_setClass_25 rfl (lv_at hl 4 rfl) ?_
    refine wi_iast hx hb hK hP hD hS 6 0 rfl rfl (by omega) (by omega) nd_MA_setClass_26 (fun H locs hP hD hS => ?_)
    have hP : va_P D cl_all ([((a.1 0), .inr (1, [.ref (a.1 2), .ref (a.1 7), .ref (a.1 3), .ref (a.1 10), .ref (a.1 1), .int (sc 0), .ref (a.1 3)])), ((a.1 1), .inl (cI, 2 ^ n, .inl (f 0))), ((a.1 2), .inr (2, [.int (sc 1)])), ((a.1 3), .inr (4, [.ref (a.1 6), .ref (a.1 4), .ref (a.1 5)])), ((a.1 4), .inl (cI, 4, .inl (f 1))), ((a.1 5), .inl (cI, 4, .inl (f 2))), ((a.1 6), .inl (cI, n, .inl (upd (f 3) el (nI (cc0)))))] ++ (mw_G cI cG a n (3, sc, f, E, P, C) ++ mw_L cI cG a n (3, sc, f, E, P, C))) H := hP
    have hD : va_D A ([((a.1 0), .inr (1, [.ref (a.1 2), .ref (a.1 7), .ref (a.1 3), .ref (a.1 10), .ref (a.1 1), .int (sc 0), .ref (a.1 3)])), ((a.1 1), .inl (cI, 2 ^ n, .inl (f 0))), ((a.1 2), .inr (2, [.int (sc 1)])), ((a.1 3), .inr (4, [.ref (a.1 6), .ref (a.1 4), .ref (a.1 5)])), ((a.1 4), .inl (cI, 4, .inl (f 1))), ((a.1 5), .inl (cI, 4, .inl (f 2))), ((a.1 6), .inl (cI, n, .inl (upd (f 3) el (nI (cc0)))))] ++ (mw_G cI cG a n (3, sc, f, E, P, C) ++ mw_L cI cG a n (3, sc, f, E, P, C))) := hD
    refine lv_aload_n hx hb nd_MA_setClass_27 rfl (lv_at hl 2 rfl) ?_
    refine wd_Vv (C := nr_MA) (n := 0) (X := []) (Y := [((a.1 0), .inr (1, [.ref (a.1 2), .ref (a.1 7), .ref (a.1 3), .ref (a.1 10), .ref (a.1 1), .int (sc 0), .ref (a.1 3)])), ((a.1 1), .inl (cI, 2 ^ n, .inl (f 0)))]) (Z := [((a.1 2), .inr (2, [.int (sc 1)])), ((a.1 3), .inr (4, [.ref (a.1 6), .ref (a.1 4), .ref (a.1 5)])), ((a.1 4), .inl (cI, 4, .inl (f 1))), ((a.1 5), .inl (cI, 4, .inl (f 2))), ((a.1 6), .inl (cI, n, .inl (upd (f 3) el (nI (cc0)))))] ++ (mw_G cI cG a n (3, sc, f, E, P, C) ++ mw_L cI cG a n (3, sc, f, E, P, C))) hx hb hml hown htg (c_MA_forgetRanks l D cI cG cM a n hn 3 (sc 0) (f 0) (fun q => hI.2.2.2 q) _) tm_156 tm_153 tm_155 tp_1 tm_2 (by decide +kernel) ⟨⟨Nat.le_trans (by decide) hRf, Nat.le_trans (by decide) hRl⟩, rfl, rfl⟩ hP hD hS hA hK hN (va_recv (q0 := 0) (ci := 1) hK hP rfl rfl) rfl hl.1 rfl (Nat.le_of_ble_eq_true rfl) nd_MA_setClass_28 hCS (fun u28 H locs hp28 hP hD hS => ?_)
    have hP : va_P D cl_all ([((a.1 0), .inr (1, [.ref (a.1 2), .ref (a.1 7), .ref (a.1 3), .ref (a.1 10), .ref (a.1 1), .int (u28.1), .ref (a.1 3)])), ((a.1 1), .inl (cI, 2 ^ n, .inl u28.2)), ((a.1 2), .inr (2, [.int (sc 1)])), ((a.1 3), .inr (4, [.ref (a.1 6), .ref (a.1 4), .ref (a.1 5)])), ((a.1 4), .inl (cI, 4, .inl (f 1))), ((a.1 5), .inl (cI, 4, .inl (f 2))), ((a.1 6), .inl (cI, n, .inl (upd (f 3) el (nI (cc0)))))] ++ (mw_G cI cG a n (3, sc, f, E, P, C) ++ mw_L cI cG a n (3, sc, f, E, P, C))) H := hP
    have hD : va_D A ([((a.1 0), .inr (1, [.ref (a.1 2), .ref (a.1 7), .ref (a.1 3), .ref (a.1 10), .ref (a.1 1), .int (u28.1), .ref (a.1 3)])), ((a.1 1), .inl (cI, 2 ^ n, .inl u28.2)), ((a.1 2), .inr (2, [.int (sc 1)])), ((a.1 3), .inr (4, [.ref (a.1 6), .ref (a.1 4), .ref (a.1 5)])), ((a.1 4), .inl (cI, 4, .inl (f 1))), ((a.1 5), .inl (cI, 4, .inl (f 2))), ((a.1 6), .inl (cI, n, .inl (upd (f 3) el (nI (cc0)))))] ++ (mw_G cI cG a n (3, sc, f, E, P, C) ++ mw_L cI cG a n (3, sc, f, E, P, C))) := hD
    refine wi_ic hx hb (a := 1) nd_MA_setClass_31 ?_
    have hv : (∀ i, i < n → x.2.2.2.2.1 i < 4) ∧ ∀ c, c < 4 → x.2.2.2.2.2.1 c ≤ 10 := by rcases hI.1 with ⟨q, -⟩ | ⟨q, -⟩ | ⟨q, q2⟩ | ⟨q, -⟩ <;> first | exact q2 | omega
    have ho : ∀ e, e < n → f 3 e = nI (x.2.2.2.2.1 e) := ho
    have ho2 : ∀ c, c < 4 → f 1 c = nI (x.2.2.2.2.2.1 c) := ho2
    exact wb_zret ((3, va_up sc 0 u28.1, va_up (va_up f 3 (upd (f 3) el (nI cc0))) 0 u28.2, E, P, C)) hx hb hr hk rfl hAe (⟨fun _ => ⟨rfl, Or.inr (Or.inr (Or.inl ⟨hq, fun i hi => if q : i = el then by simp [va_up, q]; omega else by simp [va_up, q]; exact hv.1 i hi, hv.2⟩)), Or.inr (Or.inr (Or.inl ⟨hq, rfl, fun e he => if q : e = el then by simp [va_up, upd, q] else by simp [va_up, upd, q]; exact ho e he, ho2⟩)), ma_Rf (fun s hs => hp28.2 s hs)⟩, fun q => absurd hq q⟩) hP hD hS nd_MA_setClass_32
  · have hkd : kd = 10 := hkd
    subst hkd
    refine lv_aload_n hx hb nd_MA_setClass_0 rfl (lv_at hl 0 rfl) ?_
    refine va_get (D := D) (C := nr_MA) (T := nt_MA) (N := 7) hx hb htg tf_MA hown hK hP 0 rfl rfl 6 (by decide) (htg _ tm_106) (fun _ h => h) rfl nd_MA_setClass_1 ?_
    refine lv_astore hx hb nd_MA_setClass_4 hl (by decide) rfl (fun ls hl => ?_)
    have hl : lv_has ls 5 [(4, .ref (a.1 10)), (0, .ref (a.1 0)), (1, .int (nI (el))), (2, .int (nI (cc0)))] := hl
    refine lv_aload hx hb nd_MA_setClass_6 (lv_at hl 0 rfl) ?_
    refine va_instNo (C := nr_LK) hx hb hown (htg _ tm_59) (tn_LK_CK hN) (va_recv (q0 := 0) (ci := 5) hK (wm_P (Y := mw_L cI cG a n (10, sc, f, E, P, C)) (Z := []) (show va_P D cl_all (([((a.1 0), .inr (1, [.ref (a.1 2), .ref (a.1 7), .ref (a.1 3), .ref (a.1 10), .ref (a.1 1), .int (sc 0), .ref (a.1 10)])), ((a.1 1), .inl (cI, 2 ^ n, .inl (f 0))), ((a.1 2), .inr (2, [.int (sc 1)])), ((a.1 3), .inr (4, [.ref (a.1 6), .ref (a.1 4), .ref (a.1 5)])), ((a.1 4), .inl (cI, 4, .inl (f 1))), ((a.1 5), .inl (cI, 4, .inl (f 2))), ((a.1 6), .inl (cI, n, .inl (f 3)))] ++ mw_G cI cG a n (10, sc, f, E, P, C)) ++ (mw_L cI cG a n (10, sc, f, E, P, C) ++ [])) s0.heap by rw [← mw_rot]; exact hP)).2.1 rfl rfl) nd_MA_setClass_8 ?_
    refine wi_top (y := nI 0) rfl ?_
    refine wi_if_eq (tgt := 33) hx hb (by decide) nd_MA_setClass_11 rfl (fun _ => ?_) (fun h => absurd h (by decide))
    refine wi_ic hx hb (a := 0) nd_MA_setClass_33 ?_
    exact wb_zret ((10, sc, f, E, P, C)) hx hb hr hk rfl hAe (⟨fun q => by have hq : x.1 = 3 := hq; omega, fun _ => ⟨rfl, hI⟩⟩) hP hD hS nd_MA_setClass_34
theorem nd_MA_setCap_0 : decode nc_MA_setCap 0 = .ok (.aload_n 0, 1) := by decide +kernel
theorem nd_MA_setCap_1 : decode nc_MA_setCap 1 = .ok (.getfield 51, 3) := by decide +kernel
theorem nd_MA_setCap_4 : decode nc_MA_setCap 4 = .ok (.astore 4, 2) := by decide +kernel
theorem nd_MA_setCap_6 : decode nc_MA_setCap 6 = .ok (.aload 4, 2) := by decide +kernel
theorem nd_MA_setCap_8 : decode nc_MA_setCap 8 = .ok (.instanceof 27, 3) := by decide +kernel
theorem nd_MA_setCap_11 : decode nc_MA_setCap 11 = .ok (.ifCond .eq 22, 3) := by decide +kernel
theorem nd_MA_setCap_14 : decode nc_MA_setCap 14 = .ok (.aload 4, 2) := by decide +kernel
theorem nd_MA_setCap_16 : decode nc_MA_setCap 16 = .ok (.checkcast 27, 3) := by decide +kernel
theorem nd_MA_setCap_19 : decode nc_MA_setCap 19 = .ok (.astore_n 3, 1) := by decide +kernel
theorem nd_MA_setCap_20 : decode nc_MA_setCap 20 = .ok (.aload_n 3, 1) := by decide +kernel
theorem nd_MA_setCap_21 : decode nc_MA_setCap 21 = .ok (.getfield 79, 3) := by decide +kernel
theorem nd_MA_setCap_24 : decode nc_MA_setCap 24 = .ok (.iload_n 1, 1) := by decide +kernel
theorem nd_MA_setCap_25 : decode nc_MA_setCap 25 = .ok (.iload_n 2, 1) := by decide +kernel
theorem nd_MA_setCap_26 : decode nc_MA_setCap 26 = .ok (.iastore, 1) := by decide +kernel
theorem nd_MA_setCap_27 : decode nc_MA_setCap 27 = .ok (.aload_n 0, 1) := by decide +kernel
theorem nd_MA_setCap_28 : decode nc_MA_setCap 28 = .ok (.invokevirtual 73, 3) := by decide +kernel
theorem nd_MA_setCap_31 : decode nc_MA_setCap 31 = .ok (.iconst 1, 1) := by decide +kernel
theorem nd_MA_setCap_32 : decode nc_MA_setCap 32 = .ok (.ireturn, 1) := by decide +kernel
theorem nd_MA_setCap_33 : decode nc_MA_setCap 33 = .ok (.iconst 0, 1) := by decide +kernel
theorem nd_MA_setCap_34 : decode nc_MA_setCap 34 = .ok (.ireturn, 1) := by decide +kernel
set_option maxRecDepth 20000 in
theorem c_MA_setCap (l : Launch) (D : va_G) (cI cG cM : ClassId)  (a : ma_A) (n : Nat) (hn : n ≤ 10) (kd : Nat) (sc : Nat → Int32) (f E P C : Nat → Nat → Int32) (x : ma_T) (hI : ma_I n x (kd, sc, f, E, P, C)) (c0 k0 : Nat) (hc0 : c0 < 4) (hk0 : k0 ≤ 10) (sz : Nat) : wb_Mi l ny_MA_setCap nc_MA_setCap 5 (some .boolean) ({ frames := 2, cells := 0, slots := 0, locals := 43 }) D (ty_all cI cG cM) (mw_ cI cG a n (kd, sc, f, E, P, C)) sz [.ref (a.1 0), .int (nI (c0)), .int (nI (k0))] (fun (v : Int32) (u : ma_S) => (x.1 = 2 → v = nI 1 ∧ ma_I n (x.1, x.2.1, x.2.2.1, x.2.2.2.1, x.2.2.2.2.1, va_up x.2.2.2.2.2.1 c0 k0, x.2.2.2.2.2.2) u) ∧ (¬ x.1 = 2 → v = nI 0 ∧ ma_I n x u)) (fun u : ma_S => mw_ cI cG a n u) := by
  refine wb_start (S := ma_S) (by decide) (Nat.le_of_ble_eq_true rfl) ?_
  intro p e0 s0 m below meth c ls A hx hb hr hml htg hown hk hP hK hN hl hAe hsz hD hA
  have hl : lv_has ls 5 [(0, .ref (a.1 0)), (1, .int (nI (c0))), (2, .int (nI (k0)))] := hl
  have hP : va_P D cl_all ([((a.1 0), .inr (1, [.ref (a.1 2), .ref (a.1 7), .ref (a.1 3), .ref (a.1 10), .ref (a.1 1), .int (sc 0), .ref (a.1 kd)])), ((a.1 1), .inl (cI, 2 ^ n, .inl (f 0))), ((a.1 2), .inr (2, [.int (sc 1)])), ((a.1 3), .inr (4, [.ref (a.1 6), .ref (a.1 4), .ref (a.1 5)])), ((a.1 4), .inl (cI, 4, .inl (f 1))), ((a.1 5), .inl (cI, 4, .inl (f 2))), ((a.1 6), .inl (cI, n, .inl (f 3)))] ++ (mw_G cI cG a n (kd, sc, f, E, P, C) ++ mw_L cI cG a n (kd, sc, f, E, P, C))) s0.heap := hP
  have hD : va_D A ([((a.1 0), .inr (1, [.ref (a.1 2), .ref (a.1 7), .ref (a.1 3), .ref (a.1 10), .ref (a.1 1), .int (sc 0), .ref (a.1 kd)])), ((a.1 1), .inl (cI, 2 ^ n, .inl (f 0))), ((a.1 2), .inr (2, [.int (sc 1)])), ((a.1 3), .inr (4, [.ref (a.1 6), .ref (a.1 4), .ref (a.1 5)])), ((a.1 4), .inl (cI, 4, .inl (f 1))), ((a.1 5), .inl (cI, 4, .inl (f 2))), ((a.1 6), .inl (cI, n, .inl (f 3)))] ++ (mw_G cI cG a n (kd, sc, f, E, P, C) ++ mw_L cI cG a n (kd, sc, f, E, P, C))) := hD
  have hS : va_S A s0.heap s0.heap [] := va_S.rf
  have hRf : 2 ≤ ({ frames := 2, cells := 0, slots := 0, locals := 43 } : Room).frames := Nat.le_refl _
  have hRl : 43 ≤ ({ frames := 2, cells := 0, slots := 0, locals := 43 } : Room).locals := Nat.le_refl _
  have hCS : 0 ≤ ({ frames := 2, cells := 0, slots := 0, locals := 43 } : Room).cells ∧ 0 ≤ ({ frames := 2, cells := 0, slots := 0, locals := 43 } : Room).slots := ⟨Nat.zero_le _, Nat.zero_le _⟩
  have h2n : 2 ^ n ≤ 1024 := Nat.pow_le_pow_right (by omega) hn
  rcases hI.2.1 with ⟨hq, hkd, ho⟩ | ⟨hq, hkd, ho⟩ | ⟨hq, hkd, ho, ho2⟩ | ⟨hq, hkd, ho, ho2⟩
  · have hkd : kd = 2 := hkd
    subst hkd
    refine lv_aload_n hx hb nd_MA_setCap_0 rfl (lv_at hl 0 rfl) ?_
    refine va_get (D := D) (C := nr_MA) (T := nt_MA) (N := 7) hx hb htg tf_MA hown hK hP 0 rfl rfl 6 (by decide) (htg _ tm_106) (fun _ h => h) rfl nd_MA_setCap_1 ?_
    refine lv_astore hx hb nd_MA_setCap_4 hl (by decide) rfl (fun ls hl => ?_)
    have hl : lv_has ls 5 [(4, .ref (a.1 2)), (0, .ref (a.1 0)), (1, .int (nI (c0))), (2, .int (nI (k0)))] := hl
    refine lv_aload hx hb nd_MA_setCap_6 (lv_at hl 0 rfl) ?_
    refine va_instNo (C := nr_UK) hx hb hown (htg _ tm_59) (tn_UK_CK hN) (va_recv (q0 := 2) (ci := 2) hK hP rfl rfl) nd_MA_setCap_8 ?_
    refine wi_top (y := nI 0) rfl ?_
    refine wi_if_eq (tgt := 33) hx hb (by decide) nd_MA_setCap_11 rfl (fun _ => ?_) (fun h => absurd h (by decide))
    refine wi_ic hx hb (a := 0) nd_MA_setCap_33 ?_
    exact wb_zret ((2, sc, f, E, P, C)) hx hb hr hk rfl hAe (⟨fun q => by have hq : x.1 = 0 := hq; omega, fun _ => ⟨rfl, hI⟩⟩) hP hD hS nd_MA_setCap_34
  · have hkd : kd = 7 := hkd
    subst hkd
    refine lv_aload_n hx hb nd_MA_setCap_0 rfl (lv_at hl 0 rfl) ?_
    refine va_get (D := D) (C := nr_MA) (T := nt_MA) (N := 7) hx hb htg tf_MA hown hK hP 0 rfl rfl 6 (by decide) (htg _ tm_106) (fun _ h => h) rfl nd_MA_setCap_1 ?_
    refine lv_astore hx hb nd_MA_setCap_4 hl (by decide) rfl (fun ls hl => ?_)
    have hl : lv_has ls 5 [(4, .ref (a.1 7)), (0, .ref (a.1 0)), (1, .int (nI (c0))), (2, .int (nI (k0)))] := hl
    refine lv_aload hx hb nd_MA_setCap_6 (lv_at hl 0 rfl) ?_
    refine va_instNo (C := nr_GK) hx hb hown (htg _ tm_59) (tn_GK_CK hN) (va_recv (q0 := 0) (ci := 3) hK (wm_P (X := [((a.1 0), .inr (1, [.ref (a.1 2), .ref (a.1 7), .ref (a.1 3), .ref (a.1 10), .ref (a.1 1), .int (sc 0), .ref (a.1 7)])), ((a.1 1), .inl (cI, 2 ^ n, .inl (f 0))), ((a.1 2), .inr (2, [.int (sc 1)])), ((a.1 3), .inr (4, [.ref (a.1 6), .ref (a.1 4), .ref (a.1 5)])), ((a.1 4), .inl (cI, 4, .inl (f 1))), ((a.1 5), .inl (cI, 4, .inl (f 2))), ((a.1 6), .inl (cI, n, .inl (f 3)))]) (Y := mw_G cI cG a n (7, sc, f, E, P, C)) (Z := mw_L cI cG a n (7, sc, f, E, P, C)) hP).2.1 rfl rfl) nd_MA_setCap_8 ?_
    refine wi_top (y := nI 0) rfl ?_
    refine wi_if_eq (tgt := 33) hx hb (by decide) nd_MA_setCap_11 rfl (fun _ => ?_) (fun h => absurd h (by decide))
    refine wi_ic hx hb (a := 0) nd_MA_setCap_33 ?_
    exact wb_zret ((7, sc, f, E, P, C)) hx hb hr hk rfl hAe (⟨fun q => by have hq : x.1 = 1 := hq; omega, fun _ => ⟨rfl, hI⟩⟩) hP hD hS nd_MA_setCap_34
  · have hkd : kd = 3 := hkd
    subst hkd
    refine lv_aload_n hx hb nd_MA_setCap_0 rfl (lv_at hl 0 rfl) ?_
    refine va_get (D := D) (C := nr_MA) (T := nt_MA) (N := 7) hx hb htg tf_MA hown hK hP 0 rfl rfl 6 (by decide) (htg _ tm_106) (fun _ h => h) rfl nd_MA_setCap_1 ?_
    refine lv_astore hx hb nd_MA_setCap_4 hl (by decide) rfl (fun ls hl => ?_)
    have hl : lv_has ls 5 [(4, .ref (a.1 3)), (0, .ref (a.1 0)), (1, .int (nI (c0))), (2, .int (nI (k0)))] := hl
    refine lv_aload hx hb nd_MA_setCap_6 (lv_at hl 0 rfl) ?_
    refine va_instY (C := nr_CK) hx hb hown (htg _ tm_59) (tn_571 hN) (va_recv (q0 := 3) (ci := 4) hK hP rfl rfl) nd_MA_setCap_8 ?_
    refine wi_top (y := nI 1) rfl ?_
    refine wi_if_eq (tgt := 33) hx hb (by decide) nd_MA_setCap_11 rfl (fun h => absurd h (by decide)) (fun _ => ?_)
    refine lv_aload hx hb nd_MA_setCap_14 (lv_at hl 0 rfl) ?_
    refine va_castY (C := nr_CK) hx hb hown (htg _ tm_59) (tn_571 hN) (va_recv (q0 := 3) (ci := 4) hK hP rfl rfl) nd_MA_setCap_16 ?_
    refine lv_astore_n hx hb nd_MA_setCap_19 rfl hl (by decide) rfl (fun ls hl => ?_)
    have hl : lv_has ls 5 [(3, .ref (a.1 3)), (4, .ref (a.1 3)), (0, .ref (a.1 0)), (1, .int (nI (c0))), (2, .int (nI (k0)))] := hl
    refine lv_aload_n hx hb nd_MA_setCap_20 rfl (lv_at hl 0 rfl) ?_
    refine va_getN (D := D) (C := nr_CK) (T := nt_CK) (N := 3) hx hb htg tf_CK hown hK hP 3 rfl rfl 1 (by decide) (va_Nw.use rfl (tn_68 hN)) (fun _ h => h) rfl nd_MA_setCap_21 ?_
    refine lv_iload_n hx hb nd_MA_setCap_24 rfl (lv_at hl 3 rfl) ?_
    refine lv_iload_n hx hb nd_MA_setCap_25 rfl (lv_at hl 4 rfl) ?_
    refine wi_iast hx hb hK hP hD hS 4 0 rfl rfl (by omega) (by omega) nd_MA_setCap_26 (fun H locs hP hD hS => ?_)
    have hP : va_P D cl_all ([((a.1 0), .inr (1, [.ref (a.1 2), .ref (a.1 7), .ref (a.1 3), .ref (a.1 10), .ref (a.1 1), .int (sc 0), .ref (a.1 3)])), ((a.1 1), .inl (cI, 2 ^ n, .inl (f 0))), ((a.1 2), .inr (2, [.int (sc 1)])), ((a.1 3), .inr (4, [.ref (a.1 6), .ref (a.1 4), .ref (a.1 5)])), ((a.1 4), .inl (cI, 4, .inl (upd (f 1) c0 (nI (k0))))), ((a.1 5), .inl (cI, 4, .inl (f 2))), ((a.1 6), .inl (cI, n, .inl (f 3)))] ++ (mw_G cI cG a n (3, sc, f, E, P, C) ++ mw_L cI cG a n (3, sc, f, E, P, C))) H := hP
    have hD : va_D A ([((a.1 0), .inr (1, [.ref (a.1 2), .ref (a.1 7), .ref (a.1 3), .ref (a.1 10), .ref (a.1 1), .int (sc 0), .ref (a.1 3)])), ((a.1 1), .inl (cI, 2 ^ n, .inl (f 0))), ((a.1 2), .inr (2, [.int (sc 1)])), ((a.1 3), .inr (4, [.ref (a.1 6), .ref (a.1 4), .ref (a.1 5)])), ((a.1 4), .inl (cI, 4, .inl (upd (f 1) c0 (nI (k0))))), ((a.1 5), .inl (cI, 4, .inl (f 2))), ((a.1 6), .inl (cI, n, .inl (f 3)))] ++ (mw_G cI cG a n (3, sc, f, E, P, C) ++ mw_L cI cG a n (3, sc, f, E, P, C))) := hD
    refine lv_aload_n hx hb nd_MA_setCap_27 rfl (lv_at hl 2 rfl) ?_
    refine wd_Vv (C := nr_MA) (n := 0) (X := []) (Y := [((a.1 0), .inr (1, [.ref (a.1 2), .ref (a.1 7), .ref (a.1 3), .ref (a.1 10), .ref (a.1 1), .int (sc 0), .ref (a.1 3)])), ((a.1 1), .inl (cI, 2 ^ n, .inl (f 0)))]) (Z := [((a.1 2), .inr (2, [.int (sc 1)])), ((a.1 3), .inr (4, [.ref (a.1 6), .ref (a.1 4), .ref (a.1 5)])), ((a.1 4), .inl (cI, 4, .inl (upd (f 1) c0 (nI (k0))))), ((a.1 5), .inl (cI, 4, .inl (f 2))), ((a.1 6), .inl (cI, n, .inl (f 3)))] ++ (mw_G cI cG a n (3, sc, f, E, P, C) ++ mw_L cI cG a n (3, sc, f, E, P, C))) hx hb hml hown htg (c_MA_forgetRanks l D cI cG cM a n hn 3 (sc 0) (f 0) (fun q => hI.2.2.2 q) _) tm_156 tm_153 tm_155 tp_1 tm_2 (by decide +kernel) ⟨⟨Nat.le_trans (by decide) hRf, Nat.le_trans (by decide) hRl⟩, rfl, rfl⟩ hP hD hS hA hK hN (va_recv (q0 := 0) (ci := 1) hK hP rfl rfl) rfl hl.1 rfl (Nat.le_of_ble_eq_true rfl) nd_MA_setCap_28 hCS (fun u28 H locs hp28 hP hD hS => ?_)
    have hP : va_P D cl_all ([((a.1 0), .inr (1, [.ref (a.1 2), .ref (a.1 7), .ref (a.1 3), .ref (a.1 10), .ref (a.1 1), .int (u28.1), .ref (a.1 3)])), ((a.1 1), .inl (cI, 2 ^ n, .inl u28.2)), ((a.1 2), .inr (2, [.int (sc 1)])), ((a.1 3), .inr (4, [.ref (a.1 6), .ref (a.1 4), .ref (a.1 5)])), ((a.1 4), .inl (cI, 4, .inl (upd (f 1) c0 (nI (k0))))), ((a.1 5), .inl (cI, 4, .inl (f 2))), ((a.1 6), .inl (cI, n, .inl (f 3)))] ++ (mw_G cI cG a n (3, sc, f, E, P, C) ++ mw_L cI cG a n (3, sc, f, E, P, C))) H := hP
    have hD : va_D A ([((a.1 0), .inr (1, [.ref (a.1 2), .ref (a.1 7), .ref (a.1 3), .ref (a.1 10), .ref (a.1 1), .int (u28.1), .ref (a.1 3)])), ((a.1 1), .inl (cI, 2 ^ n, .inl u28.2)), ((a.1 2), .inr (2, [.int (sc 1)])), ((a.1 3), .inr (4, [.ref (a.1 6), .ref (a.1 4), .ref (a.1 5)])), ((a.1 4), .inl (cI, 4, .inl (upd (f 1) c0 (nI (k0))))), ((a.1 5), .inl (cI, 4, .inl (f 2))), ((a.1 6), .inl (cI, n, .inl (f 3)))] ++ (mw_G cI cG a n (3, sc, f, E, P, C) ++ mw_L cI cG a n (3, sc, f, E, P, C))) := hD
    refine wi_ic hx hb (a := 1) nd_MA_setCap_31 ?_
    have hv : (∀ i, i < n → x.2.2.2.2.1 i < 4) ∧ ∀ c, c < 4 → x.2.2.2.2.2.1 c ≤ 10 := by rcases hI.1 with ⟨q, -⟩ | ⟨q, -⟩ | ⟨q, q2⟩ | ⟨q, -⟩ <;> first | exact q2 | omega
    have ho : ∀ e, e < n → f 3 e = nI (x.2.2.2.2.1 e) := ho
    have ho2 : ∀ c, c < 4 → f 1 c = nI (x.2.2.2.2.2.1 c) := ho2
    exact wb_zret ((3, va_up sc 0 u28.1, va_up (va_up f 1 (upd (f 1) c0 (nI k0))) 0 u28.2, E, P, C)) hx hb hr hk rfl hAe (⟨fun _ => ⟨rfl, Or.inr (Or.inr (Or.inl ⟨hq, hv.1, fun i hi => if q : i = c0 then by simp [va_up, q]; omega else by simp [va_up, q]; exact hv.2 i hi⟩)), Or.inr (Or.inr (Or.inl ⟨hq, rfl, ho, fun e he => if q : e = c0 then by simp [va_up, upd, q] else by simp [va_up, upd, q]; exact ho2 e he⟩)), ma_Rf (fun s hs => hp28.2 s hs)⟩, fun q => absurd hq q⟩) hP hD hS nd_MA_setCap_32
  · have hkd : kd = 10 := hkd
    subst hkd
    refine lv_aload_n hx hb nd_MA_setCap_0 rfl (lv_at hl 0 rfl) ?_
    refine va_get (D := D) (C := nr_MA) (T := nt_MA) (N := 7) hx hb htg tf_MA hown hK hP 0 rfl rfl 6 (by decide) (htg _ tm_106) (fun _ h => h) rfl nd_MA_setCap_1 ?_
    refine lv_astore hx hb nd_MA_setCap_4 hl (by decide) rfl (fun ls hl => ?_)
    have hl : lv_has ls 5 [(4, .ref (a.1 10)), (0, .ref (a.1 0)), (1, .int (nI (c0))), (2, .int (nI (k0)))] := hl
    refine lv_aload hx hb nd_MA_setCap_6 (lv_at hl 0 rfl) ?_
    refine va_instNo (C := nr_LK) hx hb hown (htg _ tm_59) (tn_LK_CK hN) (va_recv (q0 := 0) (ci := 5) hK (wm_P (Y := mw_L cI cG a n (10, sc, f, E, P, C)) (Z := []) (show va_P D cl_all (([((a.1 0), .inr (1, [.ref (a.1 2), .ref (a.1 7), .ref (a.1 3), .ref (a.1 10), .ref (a.1 1), .int (sc 0), .ref (a.1 10)])), ((a.1 1), .inl (cI, 2 ^ n, .inl (f 0))), ((a.1 2), .inr (2, [.int (sc 1)])), ((a.1 3), .inr (4, [.ref (a.1 6), .ref (a.1 4), .ref (a.1 5)])), ((a.1 4), .inl (cI, 4, .inl (f 1))), ((a.1 5), .inl (cI, 4, .inl (f 2))), ((a.1 6), .inl (cI, n, .inl (f 3)))] ++ mw_G cI cG a n (10, sc, f, E, P, C)) ++ (mw_L cI cG a n (10, sc, f, E, P, C) ++ [])) s0.heap by rw [← mw_rot]; exact hP)).2.1 rfl rfl) nd_MA_setCap_8 ?_
    refine wi_top (y := nI 0) rfl ?_
    refine wi_if_eq (tgt := 33) hx hb (by decide) nd_MA_setCap_11 rfl (fun _ => ?_) (fun h => absurd h (by decide))
    refine wi_ic hx hb (a := 0) nd_MA_setCap_33 ?_
    exact wb_zret ((10, sc, f, E, P, C)) hx hb hr hk rfl hAe (⟨fun q => by have hq : x.1 = 3 := hq; omega, fun _ => ⟨rfl, hI⟩⟩) hP hD hS nd_MA_setCap_34
theorem nd_MA_setEntry_0 : decode nc_MA_setEntry 0 = .ok (.aload_n 0, 1) := by decide +kernel
theorem nd_MA_setEntry_1 : decode nc_MA_setEntry 1 = .ok (.getfield 51, 3) := by decide +kernel
theorem nd_MA_setEntry_4 : decode nc_MA_setEntry 4 = .ok (.astore 5, 2) := by decide +kernel
theorem nd_MA_setEntry_6 : decode nc_MA_setEntry 6 = .ok (.aload 5, 2) := by decide +kernel
theorem nd_MA_setEntry_8 : decode nc_MA_setEntry 8 = .ok (.instanceof 34, 3) := by decide +kernel
theorem nd_MA_setEntry_11 : decode nc_MA_setEntry 11 = .ok (.ifCond .eq 24, 3) := by decide +kernel
theorem nd_MA_setEntry_14 : decode nc_MA_setEntry 14 = .ok (.aload 5, 2) := by decide +kernel
theorem nd_MA_setEntry_16 : decode nc_MA_setEntry 16 = .ok (.checkcast 34, 3) := by decide +kernel
theorem nd_MA_setEntry_19 : decode nc_MA_setEntry 19 = .ok (.astore 4, 2) := by decide +kernel
theorem nd_MA_setEntry_21 : decode nc_MA_setEntry 21 = .ok (.aload 4, 2) := by decide +kernel
theorem nd_MA_setEntry_23 : decode nc_MA_setEntry 23 = .ok (.iload_n 1, 1) := by decide +kernel
theorem nd_MA_setEntry_24 : decode nc_MA_setEntry 24 = .ok (.iload_n 2, 1) := by decide +kernel
theorem nd_MA_setEntry_25 : decode nc_MA_setEntry 25 = .ok (.iload_n 3, 1) := by decide +kernel
theorem nd_MA_setEntry_26 : decode nc_MA_setEntry 26 = .ok (.invokevirtual 82, 3) := by decide +kernel
theorem nd_MA_setEntry_29 : decode nc_MA_setEntry 29 = .ok (.aload_n 0, 1) := by decide +kernel
theorem nd_MA_setEntry_30 : decode nc_MA_setEntry 30 = .ok (.invokevirtual 73, 3) := by decide +kernel
theorem nd_MA_setEntry_33 : decode nc_MA_setEntry 33 = .ok (.iconst 1, 1) := by decide +kernel
theorem nd_MA_setEntry_34 : decode nc_MA_setEntry 34 = .ok (.ireturn, 1) := by decide +kernel
theorem nd_MA_setEntry_35 : decode nc_MA_setEntry 35 = .ok (.iconst 0, 1) := by decide +kernel
theorem nd_MA_setEntry_36 : decode nc_MA_setEntry 36 = .ok (.ireturn, 1) := by decide +kernel
set_option maxRecDepth 20000 in
theorem c_MA_setEntry (l : Launch) (D : va_G) (cI cG cM : ClassId)  (a : ma_A) (n : Nat) (hn : n ≤ 10) (kd : Nat) (sc : Nat → Int32) (f E P C : Nat → Nat → Int32) (x : ma_T) (hI : ma_I n x (kd, sc, f, E, P, C)) (el row : Nat) (hel : el < n) (hrow : row < 4) (v0 : Int32) (sz : Nat) : wb_Mi l ny_MA_setEntry nc_MA_setEntry 6 (some .boolean) ({ frames := 2, cells := 0, slots := 0, locals := 45 }) D (ty_all cI cG cM) (mw_ cI cG a n (kd, sc, f, E, P, C)) sz [.ref (a.1 0), .int (nI (el)), .int (nI (row)), .int (v0)] (fun (v : Int32) (u : ma_S) => (x.1 = 3 → v = nI 1 ∧ ma_I n (x.1, x.2.1, x.2.2.1, x.2.2.2.1, x.2.2.2.2.1, x.2.2.2.2.2.1, x.2.2.2.2.2.2.1, va_up x.2.2.2.2.2.2.2 el (va_up (x.2.2.2.2.2.2.2 el) row (fm_ v0 x.2.2.2.2.2.2.1))) u) ∧ (¬ x.1 = 3 → v = nI 0 ∧ ma_I n x u)) (fun u : ma_S => mw_ cI cG a n u) := by
  refine wb_start (S := ma_S) (by decide) (Nat.le_of_ble_eq_true rfl) ?_
  intro p e0 s0 m below meth c ls A hx hb hr hml htg hown hk hP hK hN hl hAe hsz hD hA
  have hl : lv_has ls 6 [(0, .ref (a.1 0)), (1, .int (nI (el))), (2, .int (nI (row))), (3, .int (v0))] := hl
  have hP : va_P D cl_all ([((a.1 0), .inr (1, [.ref (a.1 2), .ref (a.1 7), .ref (a.1 3), .ref (a.1 10), .ref (a.1 1), .int (sc 0), .ref (a.1 kd)])), ((a.1 1), .inl (cI, 2 ^ n, .inl (f 0))), ((a.1 2), .inr (2, [.int (sc 1)])), ((a.1 3), .inr (4, [.ref (a.1 6), .ref (a.1 4), .ref (a.1 5)])), ((a.1 4), .inl (cI, 4, .inl (f 1))), ((a.1 5), .inl (cI, 4, .inl (f 2))), ((a.1 6), .inl (cI, n, .inl (f 3)))] ++ (mw_G cI cG a n (kd, sc, f, E, P, C) ++ mw_L cI cG a n (kd, sc, f, E, P, C))) s0.heap := hP
  have hD : va_D A ([((a.1 0), .inr (1, [.ref (a.1 2), .ref (a.1 7), .ref (a.1 3), .ref (a.1 10), .ref (a.1 1), .int (sc 0), .ref (a.1 kd)])), ((a.1 1), .inl (cI, 2 ^ n, .inl (f 0))), ((a.1 2), .inr (2, [.int (sc 1)])), ((a.1 3), .inr (4, [.ref (a.1 6), .ref (a.1 4), .ref (a.1 5)])), ((a.1 4), .inl (cI, 4, .inl (f 1))), ((a.1 5), .inl (cI, 4, .inl (f 2))), ((a.1 6), .inl (cI, n, .inl (f 3)))] ++ (mw_G cI cG a n (kd, sc, f, E, P, C) ++ mw_L cI cG a n (kd, sc, f, E, P, C))) := hD
  have hS : va_S A s0.heap s0.heap [] := va_S.rf
  have hRf : 2 ≤ ({ frames := 2, cells := 0, slots := 0, locals := 45 } : Room).frames := Nat.le_refl _
  have hRl : 45 ≤ ({ frames := 2, cells := 0, slots := 0, locals := 45 } : Room).locals := Nat.le_refl _
  have hCS : 0 ≤ ({ frames := 2, cells := 0, slots := 0, locals := 45 } : Room).cells ∧ 0 ≤ ({ frames := 2, cells := 0, slots := 0, locals := 45 } : Room).slots := ⟨Nat.zero_le _, Nat.zero_le _⟩
  have h2n : 2 ^ n ≤ 1024 := Nat.pow_le_pow_right (by omega) hn
  rcases hI.2.1 with ⟨hq, hkd, ho⟩ | ⟨hq, hkd, ho⟩ | ⟨hq, hkd, ho, ho2⟩ | ⟨hq, hkd, ho, ho2⟩
  · have hkd : kd = 2 := hkd
    subst hkd
    refine lv_aload_n hx hb nd_MA_setEntry_0 rfl (lv_at hl 0 rfl) ?_
    refine va_get (D := D) (C := nr_MA) (T := nt_MA) (N := 7) hx hb htg tf_MA hown hK hP 0 rfl rfl 6 (by decide) (htg _ tm_106) (fun _ h => h) rfl nd_MA_setEntry_1 ?_
    refine lv_astore hx hb nd_MA_setEntry_4 hl (by decide) rfl (fun ls hl => ?_)
    have hl : lv_has ls 6 [(5, .ref (a.1 2)), (0, .ref (a.1 0)), (1, .int (nI (el))), (2, .int (nI (row))), (3, .int (v0))] := hl
    refine lv_aload hx hb nd_MA_setEntry_6 (lv_at hl 0 rfl) ?_
    refine va_instNo (C := nr_UK) hx hb hown (htg _ tm_77) (tn_UK_LK hN) (va_recv (q0 := 2) (ci := 2) hK hP rfl rfl) nd_MA_setEntry_8 ?_
    refine wi_top (y := nI 0) rfl ?_
    refine wi_if_eq (tgt := 35) hx hb (by decide) nd_MA_setEntry_11 rfl (fun _ => ?_) (fun h => absurd h (by decide))
    refine wi_ic hx hb (a := 0) nd_MA_setEntry_35 ?_
    exact wb_zret ((2, sc, f, E, P, C)) hx hb hr hk rfl hAe (⟨fun q => by have hq : x.1 = 0 := hq; omega, fun _ => ⟨rfl, hI⟩⟩) hP hD hS nd_MA_setEntry_36
  · have hkd : kd = 7 := hkd
    subst hkd
    refine lv_aload_n hx hb nd_MA_setEntry_0 rfl (lv_at hl 0 rfl) ?_
    refine va_get (D := D) (C := nr_MA) (T := nt_MA) (N := 7) hx hb htg tf_MA hown hK hP 0 rfl rfl 6 (by decide) (htg _ tm_106) (fun _ h => h) rfl nd_MA_setEntry_1 ?_
    refine lv_astore hx hb nd_MA_setEntry_4 hl (by decide) rfl (fun ls hl => ?_)
    have hl : lv_has ls 6 [(5, .ref (a.1 7)), (0, .ref (a.1 0)), (1, .int (nI (el))), (2, .int (nI (row))), (3, .int (v0))] := hl
    refine lv_aload hx hb nd_MA_setEntry_6 (lv_at hl 0 rfl) ?_
    refine va_instNo (C := nr_GK) hx hb hown (htg _ tm_77) (tn_GK_LK hN) (va_recv (q0 := 0) (ci := 3) hK (wm_P (X := [((a.1 0), .inr (1, [.ref (a.1 2), .ref (a.1 7), .ref (a.1 3), .ref (a.1 10), .ref (a.1 1), .int (sc 0), .ref (a.1 7)])), ((a.1 1), .inl (cI, 2 ^ n, .inl (f 0))), ((a.1 2), .inr (2, [.int (sc 1)])), ((a.1 3), .inr (4, [.ref (a.1 6), .ref (a.1 4), .ref (a.1 5)])), ((a.1 4), .inl (cI, 4, .inl (f 1))), ((a.1 5), .inl (cI, 4, .inl (f 2))), ((a.1 6), .inl (cI, n, .inl (f 3)))]) (Y := mw_G cI cG a n (7, sc, f, E, P, C)) (Z := mw_L cI cG a n (7, sc, f, E, P, C)) hP).2.1 rfl rfl) nd_MA_setEntry_8 ?_
    refine wi_top (y := nI 0) rfl ?_
    refine wi_if_eq (tgt := 35) hx hb (by decide) nd_MA_setEntry_11 rfl (fun _ => ?_) (fun h => absurd h (by decide))
    refine wi_ic hx hb (a := 0) nd_MA_setEntry_35 ?_
    exact wb_zret ((7, sc, f, E, P, C)) hx hb hr hk rfl hAe (⟨fun q => by have hq : x.1 = 1 := hq; omega, fun _ => ⟨rfl, hI⟩⟩) hP hD hS nd_MA_setEntry_36
  · have hkd : kd = 3 := hkd
    subst hkd
    refine lv_aload_n hx hb nd_MA_setEntry_0 rfl (lv_at hl 0 rfl) ?_
    refine va_get (D := D) (C := nr_MA) (T := nt_MA) (N := 7) hx hb htg tf_MA hown hK hP 0 rfl rfl 6 (by decide) (htg _ tm_106) (fun _ h => h) rfl nd_MA_setEntry_1 ?_
    refine lv_astore hx hb nd_MA_setEntry_4 hl (by decide) rfl (fun ls hl => ?_)
    have hl : lv_has ls 6 [(5, .ref (a.1 3)), (0, .ref (a.1 0)), (1, .int (nI (el))), (2, .int (nI (row))), (3, .int (v0))] := hl
    refine lv_aload hx hb nd_MA_setEntry_6 (lv_at hl 0 rfl) ?_
    refine va_instNo (C := nr_CK) hx hb hown (htg _ tm_77) (tn_CK_LK hN) (va_recv (q0 := 3) (ci := 4) hK hP rfl rfl) nd_MA_setEntry_8 ?_
    refine wi_top (y := nI 0) rfl ?_
    refine wi_if_eq (tgt := 35) hx hb (by decide) nd_MA_setEntry_11 rfl (fun _ => ?_) (fun h => absurd h (by decide))
    refine wi_ic hx hb (a := 0) nd_MA_setEntry_35 ?_
    exact wb_zret ((3, sc, f, E, P, C)) hx hb hr hk rfl hAe (⟨fun q => by have hq : x.1 = 2 := hq; omega, fun _ => ⟨rfl, hI⟩⟩) hP hD hS nd_MA_setEntry_36
  · have hkd : kd = 10 := hkd
    subst hkd
    refine lv_aload_n hx hb nd_MA_setEntry_0 rfl (lv_at hl 0 rfl) ?_
    refine va_get (D := D) (C := nr_MA) (T := nt_MA) (N := 7) hx hb htg tf_MA hown hK hP 0 rfl rfl 6 (by decide) (htg _ tm_106) (fun _ h => h) rfl nd_MA_setEntry_1 ?_
    refine lv_astore hx hb nd_MA_setEntry_4 hl (by decide) rfl (fun ls hl => ?_)
    have hl : lv_has ls 6 [(5, .ref (a.1 10)), (0, .ref (a.1 0)), (1, .int (nI (el))), (2, .int (nI (row))), (3, .int (v0))] := hl
    refine lv_aload hx hb nd_MA_setEntry_6 (lv_at hl 0 rfl) ?_
    refine va_instY (C := nr_LK) hx hb hown (htg _ tm_77) (tn_572 hN) (va_recv (q0 := 0) (ci := 5) hK (wm_P (Y := mw_L cI cG a n (10, sc, f, E, P, C)) (Z := []) (show va_P D cl_all (([((a.1 0), .inr (1, [.ref (a.1 2), .ref (a.1 7), .ref (a.1 3), .ref (a.1 10), .ref (a.1 1), .int (sc 0), .ref (a.1 10)])), ((a.1 1), .inl (cI, 2 ^ n, .inl (f 0))), ((a.1 2), .inr (2, [.int (sc 1)])), ((a.1 3), .inr (4, [.ref (a.1 6), .ref (a.1 4), .ref (a.1 5)])), ((a.1 4), .inl (cI, 4, .inl (f 1))), ((a.1 5), .inl (cI, 4, .inl (f 2))), ((a.1 6), .inl (cI, n, .inl (f 3)))] ++ mw_G cI cG a n (10, sc, f, E, P, C)) ++ (mw_L cI cG a n (10, sc, f, E, P, C) ++ [])) s0.heap by rw [← mw_rot]; exact hP)).2.1 rfl rfl) nd_MA_setEntry_8 ?_
    refine wi_top (y := nI 1) rfl ?_
    refine wi_if_eq (tgt := 35) hx hb (by decide) nd_MA_setEntry_11 rfl (fun h => absurd h (by decide)) (fun _ => ?_)
    refine lv_aload hx hb nd_MA_setEntry_14 (lv_at hl 0 rfl) ?_
    refine va_castY (C := nr_LK) hx hb hown (htg _ tm_77) (tn_572 hN) (va_recv (q0 := 0) (ci := 5) hK (wm_P (Y := mw_L cI cG a n (10, sc, f, E, P, C)) (Z := []) (show va_P D cl_all (([((a.1 0), .inr (1, [.ref (a.1 2), .ref (a.1 7), .ref (a.1 3), .ref (a.1 10), .ref (a.1 1), .int (sc 0), .ref (a.1 10)])), ((a.1 1), .inl (cI, 2 ^ n, .inl (f 0))), ((a.1 2), .inr (2, [.int (sc 1)])), ((a.1 3), .inr (4, [.ref (a.1 6), .ref (a.1 4), .ref (a.1 5)])), ((a.1 4), .inl (cI, 4, .inl (f 1))), ((a.1 5), .inl (cI, 4, .inl (f 2))), ((a.1 6), .inl (cI, n, .inl (f 3)))] ++ mw_G cI cG a n (10, sc, f, E, P, C)) ++ (mw_L cI cG a n (10, sc, f, E, P, C) ++ [])) s0.heap by rw [← mw_rot]; exact hP)).2.1 rfl rfl) nd_MA_setEntry_16 ?_
    refine lv_astore hx hb nd_MA_setEntry_19 hl (by decide) rfl (fun ls hl => ?_)
    have hl : lv_has ls 6 [(4, .ref (a.1 10)), (5, .ref (a.1 10)), (0, .ref (a.1 0)), (1, .int (nI (el))), (2, .int (nI (row))), (3, .int (v0))] := hl
    refine lv_aload hx hb nd_MA_setEntry_21 (lv_at hl 0 rfl) ?_
    refine lv_iload_n hx hb nd_MA_setEntry_23 rfl (lv_at hl 3 rfl) ?_
    refine lv_iload_n hx hb nd_MA_setEntry_24 rfl (lv_at hl 4 rfl) ?_
    refine lv_iload_n hx hb nd_MA_setEntry_25 rfl (lv_at hl 5 rfl) ?_
    have ho : sc 2 = nI x.2.2.2.2.2.2.1 := ho
    have ho2 : ∀ e, e < n → ∀ i, i < 4 → C e i = nI (x.2.2.2.2.2.2.2 e i) := ho2
    have hv : (x.2.2.2.2.2.2.1 = 2 ∨ x.2.2.2.2.2.2.1 = 3 ∨ x.2.2.2.2.2.2.1 = 5 ∨ x.2.2.2.2.2.2.1 = 7) ∧ ∀ e, e < n → ∀ i, i < 4 → x.2.2.2.2.2.2.2 e i < x.2.2.2.2.2.2.1 := by rcases hI.1 with ⟨q, -⟩ | ⟨q, -⟩ | ⟨q, -⟩ | ⟨q, q2⟩ <;> first | exact q2 | omega
    rw [mw_Lp ho, mw_rot] at hP hD
    refine wd_Vv (C := nr_LK) (n := 3) (Y := ([(a.1 10, .inr (5, [.ref (a.1 13), .ref (a.1 11), .ref (a.1 12), .int (nI x.2.2.2.2.2.2.1)])), (a.1 11, .inl (cG, 4, .inr (.inr (.inr (.inr (fun i => if i < 4 then some (a.2.2.1 i) else none)))))), (a.1 12, .inl (cI, 4, .inl (f 5))), (a.1 13, .inl (cG, n, .inr (.inr (.inr (.inr (fun i => if i < n then some (a.2.2.2 i) else none))))))] ++ (rw_R cI 4 a.2.2.1 P 4 ++ (rw_R cI 4 a.2.2.2 C n ++ [])))) (Z := []) hx hb hml hown htg (c_LK_setNumber l D cI cG cM (a.1 10) (a.1 11) (a.1 12) (a.1 13) n hn a.2.2.1 a.2.2.2 C x.2.2.2.2.2.2.1 hv.1 P (f 5) el row hel hrow v0 _) tm_238 tm_235 tm_236 tm_237 tm_7 (by decide +kernel) ⟨⟨Nat.le_trans (by decide) hRf, Nat.le_trans (by decide) hRl⟩, rfl, rfl⟩ hP hD hS hA hK hN (va_recv (q0 := 0) (ci := 5) hK (wm_P (Y := ([(a.1 10, .inr (5, [.ref (a.1 13), .ref (a.1 11), .ref (a.1 12), .int (nI x.2.2.2.2.2.2.1)])), (a.1 11, .inl (cG, 4, .inr (.inr (.inr (.inr (fun i => if i < 4 then some (a.2.2.1 i) else none)))))), (a.1 12, .inl (cI, 4, .inl (f 5))), (a.1 13, .inl (cG, n, .inr (.inr (.inr (.inr (fun i => if i < n then some (a.2.2.2 i) else none))))))] ++ (rw_R cI 4 a.2.2.1 P 4 ++ (rw_R cI 4 a.2.2.2 C n ++ [])))) (Z := []) hP).2.1 rfl rfl) rfl hl.1 rfl (Nat.le_of_ble_eq_true rfl) nd_MA_setEntry_26 hCS (fun u26 H locs hp26 hP hD hS => ?_)
    rw [← mw_rot] at hP hD
    have hP : va_P D cl_all ([((a.1 0), .inr (1, [.ref (a.1 2), .ref (a.1 7), .ref (a.1 3), .ref (a.1 10), .ref (a.1 1), .int (sc 0), .ref (a.1 10)])), ((a.1 1), .inl (cI, 2 ^ n, .inl (f 0))), ((a.1 2), .inr (2, [.int (sc 1)])), ((a.1 3), .inr (4, [.ref (a.1 6), .ref (a.1 4), .ref (a.1 5)])), ((a.1 4), .inl (cI, 4, .inl (f 1))), ((a.1 5), .inl (cI, 4, .inl (f 2))), ((a.1 6), .inl (cI, n, .inl (f 3)))] ++ (mw_G cI cG a n (10, sc, f, E, P, C) ++ mw_L cI cG a n (10, sc, f, E, P, va_up C el (upd (C el) row (nI (fm_ v0 x.2.2.2.2.2.2.1)))))) H := by rw [mw_Lp (sc := sc) (C := va_up C el (upd (C el) row (nI (fm_ v0 x.2.2.2.2.2.2.1)))) ho]; exact hP
    have hD : va_D A ([((a.1 0), .inr (1, [.ref (a.1 2), .ref (a.1 7), .ref (a.1 3), .ref (a.1 10), .ref (a.1 1), .int (sc 0), .ref (a.1 10)])), ((a.1 1), .inl (cI, 2 ^ n, .inl (f 0))), ((a.1 2), .inr (2, [.int (sc 1)])), ((a.1 3), .inr (4, [.ref (a.1 6), .ref (a.1 4), .ref (a.1 5)])), ((a.1 4), .inl (cI, 4, .inl (f 1))), ((a.1 5), .inl (cI, 4, .inl (f 2))), ((a.1 6), .inl (cI, n, .inl (f 3)))] ++ (mw_G cI cG a n (10, sc, f, E, P, C) ++ mw_L cI cG a n (10, sc, f, E, P, va_up C el (upd (C el) row (nI (fm_ v0 x.2.2.2.2.2.2.1)))))) := by rw [mw_Lp (sc := sc) (C := va_up C el (upd (C el) row (nI (fm_ v0 x.2.2.2.2.2.2.1)))) ho]; exact hD
    refine lv_aload_n hx hb nd_MA_setEntry_29 rfl (lv_at hl 2 rfl) ?_
    refine wd_Vv (C := nr_MA) (n := 0) (X := []) (Y := [((a.1 0), .inr (1, [.ref (a.1 2), .ref (a.1 7), .ref (a.1 3), .ref (a.1 10), .ref (a.1 1), .int (sc 0), .ref (a.1 10)])), ((a.1 1), .inl (cI, 2 ^ n, .inl (f 0)))]) (Z := [((a.1 2), .inr (2, [.int (sc 1)])), ((a.1 3), .inr (4, [.ref (a.1 6), .ref (a.1 4), .ref (a.1 5)])), ((a.1 4), .inl (cI, 4, .inl (f 1))), ((a.1 5), .inl (cI, 4, .inl (f 2))), ((a.1 6), .inl (cI, n, .inl (f 3)))] ++ (mw_G cI cG a n (10, sc, f, E, P, C) ++ mw_L cI cG a n (10, sc, f, E, P, va_up C el (upd (C el) row (nI (fm_ v0 x.2.2.2.2.2.2.1)))))) hx hb hml hown htg (c_MA_forgetRanks l D cI cG cM a n hn 10 (sc 0) (f 0) (fun q => hI.2.2.2 q) _) tm_156 tm_153 tm_155 tp_1 tm_2 (by decide +kernel) ⟨⟨Nat.le_trans (by decide) hRf, Nat.le_trans (by decide) hRl⟩, rfl, rfl⟩ hP hD hS hA hK hN (va_recv (q0 := 0) (ci := 1) hK hP rfl rfl) rfl hl.1 rfl (Nat.le_of_ble_eq_true rfl) nd_MA_setEntry_30 hCS (fun u30 H locs hp30 hP hD hS => ?_)
    have hP : va_P D cl_all ([((a.1 0), .inr (1, [.ref (a.1 2), .ref (a.1 7), .ref (a.1 3), .ref (a.1 10), .ref (a.1 1), .int (u30.1), .ref (a.1 10)])), ((a.1 1), .inl (cI, 2 ^ n, .inl u30.2)), ((a.1 2), .inr (2, [.int (sc 1)])), ((a.1 3), .inr (4, [.ref (a.1 6), .ref (a.1 4), .ref (a.1 5)])), ((a.1 4), .inl (cI, 4, .inl (f 1))), ((a.1 5), .inl (cI, 4, .inl (f 2))), ((a.1 6), .inl (cI, n, .inl (f 3)))] ++ (mw_G cI cG a n (10, sc, f, E, P, C) ++ mw_L cI cG a n (10, sc, f, E, P, va_up C el (upd (C el) row (nI (fm_ v0 x.2.2.2.2.2.2.1)))))) H := hP
    have hD : va_D A ([((a.1 0), .inr (1, [.ref (a.1 2), .ref (a.1 7), .ref (a.1 3), .ref (a.1 10), .ref (a.1 1), .int (u30.1), .ref (a.1 10)])), ((a.1 1), .inl (cI, 2 ^ n, .inl u30.2)), ((a.1 2), .inr (2, [.int (sc 1)])), ((a.1 3), .inr (4, [.ref (a.1 6), .ref (a.1 4), .ref (a.1 5)])), ((a.1 4), .inl (cI, 4, .inl (f 1))), ((a.1 5), .inl (cI, 4, .inl (f 2))), ((a.1 6), .inl (cI, n, .inl (f 3)))] ++ (mw_G cI cG a n (10, sc, f, E, P, C) ++ mw_L cI cG a n (10, sc, f, E, P, va_up C el (upd (C el) row (nI (fm_ v0 x.2.2.2.2.2.2.1)))))) := hD
    refine wi_ic hx hb (a := 1) nd_MA_setEntry_33 ?_
    exact wb_zret ((10, va_up sc 0 u30.1, va_up f 0 u30.2, E, P, va_up C el (upd (C el) row (nI (fm_ v0 x.2.2.2.2.2.2.1))))) hx hb hr hk rfl hAe (⟨fun _ => ⟨rfl, Or.inr (Or.inr (Or.inr ⟨hq, hv.1, fun e he i hi => if q : e = el then (if q2 : i = row then by simp [va_up, q, q2]; exact fm_lt v0 (by omega) else by simp [va_up, q, q2]; exact hv.2 el hel i hi) else by simp [va_up, q]; exact hv.2 e he i hi⟩)), Or.inr (Or.inr (Or.inr ⟨hq, rfl, ho, fun e he i hi => if q : e = el then (if q2 : i = row then by simp [va_up, upd, q, q2] else by simp [va_up, upd, q, q2]; exact ho2 el hel i hi) else by simp [va_up, q]; exact ho2 e he i hi⟩)), ma_Rf (fun s hs => hp30.2 s hs)⟩, fun q => absurd hq q⟩) hP hD hS nd_MA_setEntry_34
