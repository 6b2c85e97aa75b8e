/-! The class: the other calls that change it; the simple questions. -/
theorem nd_CB_graphic_0 : decode nc_CB_graphic 0 = .ok (.iload_n 1, 1) := by decide +kernel
theorem nd_CB_graphic_1 : decode nc_CB_graphic 1 = .ok (.invokestatic 29, 3) := by decide +kernel
theorem nd_CB_graphic_4 : decode nc_CB_graphic 4 = .ok (.ifCond .ne 5, 3) := by decide +kernel
theorem nd_CB_graphic_7 : decode nc_CB_graphic 7 = .ok (.iconst 0, 1) := by decide +kernel
theorem nd_CB_graphic_8 : decode nc_CB_graphic 8 = .ok (.ireturn, 1) := by decide +kernel
theorem nd_CB_graphic_9 : decode nc_CB_graphic 9 = .ok (.aload_n 0, 1) := by decide +kernel
theorem nd_CB_graphic_10 : decode nc_CB_graphic 10 = .ok (.getfield 25, 3) := by decide +kernel
theorem nd_CB_graphic_13 : decode nc_CB_graphic 13 = .ok (.iload_n 1, 1) := by decide +kernel
theorem nd_CB_graphic_14 : decode nc_CB_graphic 14 = .ok (.aaload, 1) := by decide +kernel
theorem nd_CB_graphic_15 : decode nc_CB_graphic 15 = .ok (.invokevirtual 40, 3) := by decide +kernel
theorem nd_CB_graphic_18 : decode nc_CB_graphic 18 = .ok (.iconst 1, 1) := by decide +kernel
theorem nd_CB_graphic_19 : decode nc_CB_graphic 19 = .ok (.ireturn, 1) := by decide +kernel
set_option maxRecDepth 20000 in
theorem c_CB_graphic (l : Launch) (D : va_G) (cI cG cM : ClassId)  (q : Nat → Nat) (n : Nat) (hn1 : 1 ≤ n) (hn : n ≤ 10) (mr : Nat → Option Nat) (a0 a1 : ma_A) (hm0 : mr 0 = some (a0.1 0)) (hm1 : mr 1 = some (a1.1 0)) (w : Nat → Int32) (t0 t1 : ma_S) (y : cb_Y) (hI : cb_I n y (w, t0, t1)) (wh : Int32) (sz : Nat) : wb_Mi l ny_CB_graphic nc_CB_graphic 2 (some .boolean) ({ frames := 4, cells := 0, slots := 0, locals := 84 }) D (ty_all cI cG cM) (cw_ cI cG cM q n mr a0 a1 (w, t0, t1)) sz [.ref (q 0), .int (wh)] (fun (v : Int32) (u : cb_S) => v = (sp_graphic y wh).1 ∧ cb_I n (sp_graphic y wh).2 u) (fun u : cb_S => cw_ cI cG cM q n mr a0 a1 u) := by
  refine wb_start (S := cb_S) (by decide) (Nat.le_of_ble_eq_true rfl) ?_
  intro p e0 s0 m below meth c ls A hx hb hr hml htg hown hk hP hK hN hl hAe hsz hD hA
  have hl : lv_has ls 2 [(0, .ref (q 0)), (1, .int (wh))] := hl
  have hP : va_P D cl_all ([((q 0), .inr (0, [.int (nI (n)), .int (nI (2 ^ n - 1)), .ref (q 1), .ref (q 2)])), ((q 1), .inl (cI, n, .inl w)), ((q 2), .inl (cM, 2, .inr (.inr (.inr (.inr mr)))))] ++ (mw_ cI cG a0 n t0 ++ (mw_ cI cG a1 n t1 ++ []))) s0.heap := hP
  have hD : va_D A ([((q 0), .inr (0, [.int (nI (n)), .int (nI (2 ^ n - 1)), .ref (q 1), .ref (q 2)])), ((q 1), .inl (cI, n, .inl w)), ((q 2), .inl (cM, 2, .inr (.inr (.inr (.inr mr)))))] ++ (mw_ cI cG a0 n t0 ++ (mw_ cI cG a1 n t1 ++ []))) := hD
  have hS : va_S A s0.heap s0.heap [] := va_S.rf
  have hRf : 4 ≤ ({ frames := 4, cells := 0, slots := 0, locals := 84 } : Room).frames := Nat.le_refl _
  have hRl : 84 ≤ ({ frames := 4, cells := 0, slots := 0, locals := 84 } : Room).locals := Nat.le_refl _
  have hCS : 0 ≤ ({ frames := 4, cells := 0, slots := 0, locals := 84 } : Room).cells ∧ 0 ≤ ({ frames := 4, cells := 0, slots := 0, locals := 84 } : Room).slots := ⟨Nat.zero_le _, Nat.zero_le _⟩
  have h2n : 2 ^ n ≤ 1024 := Nat.pow_le_pow_right (by omega) hn
  have h2p : 1 ≤ 2 ^ n := Nat.one_le_two_pow
  have hI0 : ma_I n y.2.1 t0 := hI.2.1
  have hI1 : ma_I n y.2.2 t1 := hI.2.2
  refine lv_iload_n hx hb nd_CB_graphic_0 rfl (lv_at hl 1 rfl) ?_
  rcases sm_which wh with hw1 | hw1 | hw1
  · subst hw1
    refine wc_S (n := 1) hx hb hml hown htg (c_CB_isMatroid l D _ (nI 0) (nI 1) (fun _ => rfl) (fun h => absurd (Or.inl nI_0) h)) tm_141 tm_139 tm_140 tm_1 (by decide +kernel) ⟨⟨Nat.le_trans (by decide) hRf, Nat.le_trans (by decide) hRl⟩, rfl, rfl⟩ (wa_pre wa_nil hK hN) rfl hl.1 rfl (Nat.le_of_ble_eq_true rfl) nd_CB_graphic_1 hCS ?_
    refine wi_if_ne (tgt := 9) hx hb (by decide) nd_CB_graphic_4 rfl (fun _ => ?_) (fun h => absurd h (by decide))
    refine lv_aload_n hx hb nd_CB_graphic_9 rfl (lv_at hl 0 rfl) ?_
    refine va_get (D := D) (C := nr_CB) (T := nt_CB) (N := 4) hx hb htg tf_CB hown hK hP 0 rfl rfl 3 (by decide) (htg _ tm_125) (fun _ h => h) rfl nd_CB_graphic_10 ?_
    refine lv_iload_n hx hb nd_CB_graphic_13 rfl (lv_at hl 1 rfl) ?_
    refine wi_aald (v := (a0.1 0)) hx hb hK hP 2 2 rfl rfl rfl (by omega) (by omega) (hm0) nd_CB_graphic_14 ?_
    refine wd_Vv (C := nr_MA) (n := 0) (X := [((q 0), .inr (0, [.int (nI (n)), .int (nI (2 ^ n - 1)), .ref (q 1), .ref (q 2)])), ((q 1), .inl (cI, n, .inl w)), ((q 2), .inl (cM, 2, .inr (.inr (.inr (.inr mr)))))]) (Y := mw_ cI cG a0 n t0) (Z := (mw_ cI cG a1 n t1 ++ [])) hx hb hml hown htg (c_MA_becomeGraphic l D cI cG cM a0 n hn t0.1 t0.2.1 t0.2.2.1 t0.2.2.2.1 t0.2.2.2.2.1 t0.2.2.2.2.2 y.2.1 hI0  _) tm_164 tm_161 tm_162 tm_163 tm_2 (by decide +kernel) ⟨⟨Nat.le_trans (by decide) hRf, Nat.le_trans (by decide) hRl⟩, rfl, rfl⟩ hP hD hS hA hK hN (va_recv (q0 := 0) (ci := 1) hK (wm_P (X := [((q 0), .inr (0, [.int (nI (n)), .int (nI (2 ^ n - 1)), .ref (q 1), .ref (q 2)])), ((q 1), .inl (cI, n, .inl w)), ((q 2), .inl (cM, 2, .inr (.inr (.inr (.inr mr)))))]) (Y := mw_ cI cG a0 n t0) (Z := (mw_ cI cG a1 n t1 ++ [])) hP).2.1 rfl rfl) rfl hl.1 rfl (Nat.le_of_ble_eq_true rfl) nd_CB_graphic_15 hCS (fun u15 H locs hp15 hP hD hS => ?_)
    have hP : va_P D cl_all ([((q 0), .inr (0, [.int (nI (n)), .int (nI (2 ^ n - 1)), .ref (q 1), .ref (q 2)])), ((q 1), .inl (cI, n, .inl w)), ((q 2), .inl (cM, 2, .inr (.inr (.inr (.inr mr)))))] ++ (mw_ cI cG a0 n u15 ++ (mw_ cI cG a1 n t1 ++ []))) H := hP
    have hD : va_D A ([((q 0), .inr (0, [.int (nI (n)), .int (nI (2 ^ n - 1)), .ref (q 1), .ref (q 2)])), ((q 1), .inl (cI, n, .inl w)), ((q 2), .inl (cM, 2, .inr (.inr (.inr (.inr mr)))))] ++ (mw_ cI cG a0 n u15 ++ (mw_ cI cG a1 n t1 ++ []))) := hD
    refine wi_ic hx hb (a := 1) nd_CB_graphic_18 ?_
    have hsp : sp_graphic y (nI (0))  = (nI 1, (y.1, (1, y.2.1.2.1, (fun _ => 0), (fun _ => 0), y.2.1.2.2.2.2), y.2.2)) := by unfold sp_graphic; simp only [sw_0, tn_0]; simp [cb_m, cb_s]
    exact wb_zret ((w, u15, t1)) hx hb hr hk rfl hAe (by rw [hsp]; exact ⟨rfl, ⟨hI.1, hp15, hI1⟩⟩) hP hD hS nd_CB_graphic_19
  · subst hw1
    refine wc_S (n := 1) hx hb hml hown htg (c_CB_isMatroid l D _ (nI 1) (nI 1) (fun _ => rfl) (fun h => absurd (Or.inr rfl) h)) tm_141 tm_139 tm_140 tm_1 (by decide +kernel) ⟨⟨Nat.le_trans (by decide) hRf, Nat.le_trans (by decide) hRl⟩, rfl, rfl⟩ (wa_pre wa_nil hK hN) rfl hl.1 rfl (Nat.le_of_ble_eq_true rfl) nd_CB_graphic_1 hCS ?_
    refine wi_if_ne (tgt := 9) hx hb (by decide) nd_CB_graphic_4 rfl (fun _ => ?_) (fun h => absurd h (by decide))
    refine lv_aload_n hx hb nd_CB_graphic_9 rfl (lv_at hl 0 rfl) ?_
    refine va_get (D := D) (C := nr_CB) (T := nt_CB) (N := 4) hx hb htg tf_CB hown hK hP 0 rfl rfl 3 (by decide) (htg _ tm_125) (fun _ h => h) rfl nd_CB_graphic_10 ?_
    refine lv_iload_n hx hb nd_CB_graphic_13 rfl (lv_at hl 1 rfl) ?_
    refine wi_aald (v := (a1.1 0)) hx hb hK hP 2 2 rfl rfl rfl (by omega) (by omega) (hm1) nd_CB_graphic_14 ?_
    rw [← List.append_assoc] at hP hD
    refine wd_Vv (C := nr_MA) (n := 0) (X := ([((q 0), .inr (0, [.int (nI (n)), .int (nI (2 ^ n - 1)), .ref (q 1), .ref (q 2)])), ((q 1), .inl (cI, n, .inl w)), ((q 2), .inl (cM, 2, .inr (.inr (.inr (.inr mr)))))] ++ mw_ cI cG a0 n t0)) (Y := mw_ cI cG a1 n t1) (Z := []) hx hb hml hown htg (c_MA_becomeGraphic l D cI cG cM a1 n hn t1.1 t1.2.1 t1.2.2.1 t1.2.2.2.1 t1.2.2.2.2.1 t1.2.2.2.2.2 y.2.2 hI1  _) tm_164 tm_161 tm_162 tm_163 tm_2 (by decide +kernel) ⟨⟨Nat.le_trans (by decide) hRf, Nat.le_trans (by decide) hRl⟩, rfl, rfl⟩ hP hD hS hA hK hN (va_recv (q0 := 0) (ci := 1) hK (wm_P (X := ([((q 0), .inr (0, [.int (nI (n)), .int (nI (2 ^ n - 1)), .ref (q 1), .ref (q 2)])), ((q 1), .inl (cI, n, .inl w)), ((q 2), .inl (cM, 2, .inr (.inr (.inr (.inr mr)))))] ++ mw_ cI cG a0 n t0)) (Y := mw_ cI cG a1 n t1) (Z := []) hP).2.1 rfl rfl) rfl hl.1 rfl (Nat.le_of_ble_eq_true rfl) nd_CB_graphic_15 hCS (fun u15 H locs hp15 hP hD hS => ?_)
    rw [List.append_assoc] at hP hD
    have hP : va_P D cl_all ([((q 0), .inr (0, [.int (nI (n)), .int (nI (2 ^ n - 1)), .ref (q 1), .ref (q 2)])), ((q 1), .inl (cI, n, .inl w)), ((q 2), .inl (cM, 2, .inr (.inr (.inr (.inr mr)))))] ++ (mw_ cI cG a0 n t0 ++ (mw_ cI cG a1 n u15 ++ []))) H := hP
    have hD : va_D A ([((q 0), .inr (0, [.int (nI (n)), .int (nI (2 ^ n - 1)), .ref (q 1), .ref (q 2)])), ((q 1), .inl (cI, n, .inl w)), ((q 2), .inl (cM, 2, .inr (.inr (.inr (.inr mr)))))] ++ (mw_ cI cG a0 n t0 ++ (mw_ cI cG a1 n u15 ++ []))) := hD
    refine wi_ic hx hb (a := 1) nd_CB_graphic_18 ?_
    have hsp : sp_graphic y (nI (1))  = (nI 1, (y.1, y.2.1, (1, y.2.2.2.1, (fun _ => 0), (fun _ => 0), y.2.2.2.2.2.2))) := by unfold sp_graphic; simp only [sw_1, tn_1]; simp [cb_m, cb_s]
    exact wb_zret ((w, t0, u15)) hx hb hr hk rfl hAe (by rw [hsp]; exact ⟨rfl, ⟨hI.1, hI0, hp15⟩⟩) hP hD hS nd_CB_graphic_19
  · refine wc_S (n := 1) hx hb hml hown htg (c_CB_isMatroid l D _ wh (nI 0) (fun h => absurd h (fun z => z.elim (fun z => hw1.1 (z.trans nI_0.symm)) hw1.2)) (fun _ => rfl)) tm_141 tm_139 tm_140 tm_1 (by decide +kernel) ⟨⟨Nat.le_trans (by decide) hRf, Nat.le_trans (by decide) hRl⟩, rfl, rfl⟩ (wa_pre wa_nil hK hN) rfl hl.1 rfl (Nat.le_of_ble_eq_true rfl) nd_CB_graphic_1 hCS ?_
    refine wi_if_ne (tgt := 9) hx hb (by decide) nd_CB_graphic_4 rfl (fun h => absurd h (by decide)) (fun _ => ?_)
    refine wi_ic hx hb (a := 0) nd_CB_graphic_7 ?_
    have hsp : sp_graphic y wh  = (nI 0, y) := by unfold sp_graphic; simp [sw_n hw1]
    exact wb_zret ((w, t0, t1)) hx hb hr hk rfl hAe (by rw [hsp]; exact ⟨rfl, hI⟩) hP hD hS nd_CB_graphic_8
theorem nd_CB_classes_0 : decode nc_CB_classes 0 = .ok (.iload_n 1, 1) := by decide +kernel
theorem nd_CB_classes_1 : decode nc_CB_classes 1 = .ok (.invokestatic 29, 3) := by decide +kernel
theorem nd_CB_classes_4 : decode nc_CB_classes 4 = .ok (.ifCond .ne 5, 3) := by decide +kernel
theorem nd_CB_classes_7 : decode nc_CB_classes 7 = .ok (.iconst 0, 1) := by decide +kernel
theorem nd_CB_classes_8 : decode nc_CB_classes 8 = .ok (.ireturn, 1) := by decide +kernel
theorem nd_CB_classes_9 : decode nc_CB_classes 9 = .ok (.aload_n 0, 1) := by decide +kernel
theorem nd_CB_classes_10 : decode nc_CB_classes 10 = .ok (.getfield 25, 3) := by decide +kernel
theorem nd_CB_classes_13 : decode nc_CB_classes 13 = .ok (.iload_n 1, 1) := by decide +kernel
theorem nd_CB_classes_14 : decode nc_CB_classes 14 = .ok (.aaload, 1) := by decide +kernel
theorem nd_CB_classes_15 : decode nc_CB_classes 15 = .ok (.invokevirtual 50, 3) := by decide +kernel
theorem nd_CB_classes_18 : decode nc_CB_classes 18 = .ok (.iconst 1, 1) := by decide +kernel
theorem nd_CB_classes_19 : decode nc_CB_classes 19 = .ok (.ireturn, 1) := by decide +kernel
set_option maxRecDepth 20000 in
theorem c_CB_classes (l : Launch) (D : va_G) (cI cG cM : ClassId)  (q : Nat → Nat) (n : Nat) (hn1 : 1 ≤ n) (hn : n ≤ 10) (mr : Nat → Option Nat) (a0 a1 : ma_A) (hm0 : mr 0 = some (a0.1 0)) (hm1 : mr 1 = some (a1.1 0)) (w : Nat → Int32) (t0 t1 : ma_S) (y : cb_Y) (hI : cb_I n y (w, t0, t1)) (wh : Int32) (sz : Nat) : wb_Mi l ny_CB_classes nc_CB_classes 2 (some .boolean) ({ frames := 4, cells := 0, slots := 0, locals := 84 }) D (ty_all cI cG cM) (cw_ cI cG cM q n mr a0 a1 (w, t0, t1)) sz [.ref (q 0), .int (wh)] (fun (v : Int32) (u : cb_S) => v = (sp_classes y wh).1 ∧ cb_I n (sp_classes y wh).2 u) (fun u : cb_S => cw_ cI cG cM q n mr a0 a1 u) := by
  refine wb_start (S := cb_S) (by decide) (Nat.le_of_ble_eq_true rfl) ?_
  intro p e0 s0 m below meth c ls A hx hb hr hml htg hown hk hP hK hN hl hAe hsz hD hA
  have hl : lv_has ls 2 [(0, .ref (q 0)), (1, .int (wh))] := hl
  have hP : va_P D cl_all ([((q 0), .inr (0, [.int (nI (n)), .int (nI (2 ^ n - 1)), .ref (q 1), .ref (q 2)])), ((q 1), .inl (cI, n, .inl w)), ((q 2), .inl (cM, 2, .inr (.inr (.inr (.inr mr)))))] ++ (mw_ cI cG a0 n t0 ++ (mw_ cI cG a1 n t1 ++ []))) s0.heap := hP
  have hD : va_D A ([((q 0), .inr (0, [.int (nI (n)), .int (nI (2 ^ n - 1)), .ref (q 1), .ref (q 2)])), ((q 1), .inl (cI, n, .inl w)), ((q 2), .inl (cM, 2, .inr (.inr (.inr (.inr mr)))))] ++ (mw_ cI cG a0 n t0 ++ (mw_ cI cG a1 n t1 ++ []))) := hD
  have hS : va_S A s0.heap s0.heap [] := va_S.rf
  have hRf : 4 ≤ ({ frames := 4, cells := 0, slots := 0, locals := 84 } : Room).frames := Nat.le_refl _
  have hRl : 84 ≤ ({ frames := 4, cells := 0, slots := 0, locals := 84 } : Room).locals := Nat.le_refl _
  have hCS : 0 ≤ ({ frames := 4, cells := 0, slots := 0, locals := 84 } : Room).cells ∧ 0 ≤ ({ frames := 4, cells := 0, slots := 0, locals := 84 } : Room).slots := ⟨Nat.zero_le _, Nat.zero_le _⟩
  have h2n : 2 ^ n ≤ 1024 := Nat.pow_le_pow_right (by omega) hn
  have h2p : 1 ≤ 2 ^ n := Nat.one_le_two_pow
  have hI0 : ma_I n y.2.1 t0 := hI.2.1
  have hI1 : ma_I n y.2.2 t1 := hI.2.2
  refine lv_iload_n hx hb nd_CB_classes_0 rfl (lv_at hl 1 rfl) ?_
  rcases sm_which wh with hw1 | hw1 | hw1
  · subst hw1
    refine wc_S (n := 1) hx hb hml hown htg (c_CB_isMatroid l D _ (nI 0) (nI 1) (fun _ => rfl) (fun h => absurd (Or.inl nI_0) h)) tm_141 tm_139 tm_140 tm_1 (by decide +kernel) ⟨⟨Nat.le_trans (by decide) hRf, Nat.le_trans (by decide) hRl⟩, rfl, rfl⟩ (wa_pre wa_nil hK hN) rfl hl.1 rfl (Nat.le_of_ble_eq_true rfl) nd_CB_classes_1 hCS ?_
    refine wi_if_ne (tgt := 9) hx hb (by decide) nd_CB_classes_4 rfl (fun _ => ?_) (fun h => absurd h (by decide))
    refine lv_aload_n hx hb nd_CB_classes_9 rfl (lv_at hl 0 rfl) ?_
    refine va_get (D := D) (C := nr_CB) (T := nt_CB) (N := 4) hx hb htg tf_CB hown hK hP 0 rfl rfl 3 (by decide) (htg _ tm_125) (fun _ h => h) rfl nd_CB_classes_10 ?_
    refine lv_iload_n hx hb nd_CB_classes_13 rfl (lv_at hl 1 rfl) ?_
    refine wi_aald (v := (a0.1 0)) hx hb hK hP 2 2 rfl rfl rfl (by omega) (by omega) (hm0) nd_CB_classes_14 ?_
    refine wd_Vv (C := nr_MA) (n := 0) (X := [((q 0), .inr (0, [.int (nI (n)), .int (nI (2 ^ n - 1)), .ref (q 1), .ref (q 2)])), ((q 1), .inl (cI, n, .inl w)), ((q 2), .inl (cM, 2, .inr (.inr (.inr (.inr mr)))))]) (Y := mw_ cI cG a0 n t0) (Z := (mw_ cI cG a1 n t1 ++ [])) hx hb hml hown htg (c_MA_becomeClasses l D cI cG cM a0 n hn t0.1 t0.2.1 t0.2.2.1 t0.2.2.2.1 t0.2.2.2.2.1 t0.2.2.2.2.2 y.2.1 hI0  _) tm_189 tm_186 tm_187 tm_188 tm_2 (by decide +kernel) ⟨⟨Nat.le_trans (by decide) hRf, Nat.le_trans (by decide) hRl⟩, rfl, rfl⟩ hP hD hS hA hK hN (va_recv (q0 := 0) (ci := 1) hK (wm_P (X := [((q 0), .inr (0, [.int (nI (n)), .int (nI (2 ^ n - 1)), .ref (q 1), .ref (q 2)])), ((q 1), .inl (cI, n, .inl w)), ((q 2), .inl (cM, 2, .inr (.inr (.inr (.inr mr)))))]) (Y := mw_ cI cG a0 n t0) (Z := (mw_ cI cG a1 n t1 ++ [])) hP).2.1 rfl rfl) rfl hl.1 rfl (Nat.le_of_ble_eq_true rfl) nd_CB_classes_15 hCS (fun u15 H locs hp15 hP hD hS => ?_)
    have hP : va_P D cl_all ([((q 0), .inr (0, [.int (nI (n)), .int (nI (2 ^ n - 1)), .ref (q 1), .ref (q 2)])), ((q 1), .inl (cI, n, .inl w)), ((q 2), .inl (cM, 2, .inr (.inr (.inr (.inr mr)))))] ++ (mw_ cI cG a0 n u15 ++ (mw_ cI cG a1 n t1 ++ []))) H := hP
    have hD : va_D A ([((q 0), .inr (0, [.int (nI (n)), .int (nI (2 ^ n - 1)), .ref (q 1), .ref (q 2)])), ((q 1), .inl (cI, n, .inl w)), ((q 2), .inl (cM, 2, .inr (.inr (.inr (.inr mr)))))] ++ (mw_ cI cG a0 n u15 ++ (mw_ cI cG a1 n t1 ++ []))) := hD
    refine wi_ic hx hb (a := 1) nd_CB_classes_18 ?_
    have hsp : sp_classes y (nI (0))  = (nI 1, (y.1, (2, y.2.1.2.1, y.2.1.2.2.1, y.2.1.2.2.2.1, (fun _ => 0), (fun _ => 0), y.2.1.2.2.2.2.2.2), y.2.2)) := by unfold sp_classes; simp only [sw_0, tn_0]; simp [cb_m, cb_s]
    exact wb_zret ((w, u15, t1)) hx hb hr hk rfl hAe (by rw [hsp]; exact ⟨rfl, ⟨hI.1, hp15, hI1⟩⟩) hP hD hS nd_CB_classes_19
  · subst hw1
    refine wc_S (n := 1) hx hb hml hown htg (c_CB_isMatroid l D _ (nI 1) (nI 1) (fun _ => rfl) (fun h => absurd (Or.inr rfl) h)) tm_141 tm_139 tm_140 tm_1 (by decide +kernel) ⟨⟨Nat.le_trans (by decide) hRf, Nat.le_trans (by decide) hRl⟩, rfl, rfl⟩ (wa_pre wa_nil hK hN) rfl hl.1 rfl (Nat.le_of_ble_eq_true rfl) nd_CB_classes_1 hCS ?_
    refine wi_if_ne (tgt := 9) hx hb (by decide) nd_CB_classes_4 rfl (fun _ => ?_) (fun h => absurd h (by decide))
    refine lv_aload_n hx hb nd_CB_classes_9 rfl (lv_at hl 0 rfl) ?_
    refine va_get (D := D) (C := nr_CB) (T := nt_CB) (N := 4) hx hb htg tf_CB hown hK hP 0 rfl rfl 3 (by decide) (htg _ tm_125) (fun _ h => h) rfl nd_CB_classes_10 ?_
    refine lv_iload_n hx hb nd_CB_classes_13 rfl (lv_at hl 1 rfl) ?_
    refine wi_aald (v := (a1.1 0)) hx hb hK hP 2 2 rfl rfl rfl (by omega) (by omega) (hm1) nd_CB_classes_14 ?_
    rw [← List.append_assoc] at hP hD
    refine wd_Vv (C := nr_MA) (n := 0) (X := ([((q 0), .inr (0, [.int (nI (n)), .int (nI (2 ^ n - 1)), .ref (q 1), .ref (q 2)])), ((q 1), .inl (cI, n, .inl w)), ((q 2), .inl (cM, 2, .inr (.inr (.inr (.inr mr)))))] ++ mw_ cI cG a0 n t0)) (Y := mw_ cI cG a1 n t1) (Z := []) hx hb hml hown htg (c_MA_becomeClasses l D cI cG cM a1 n hn t1.1 t1.2.1 t1.2.2.1 t1.2.2.2.1 t1.2.2.2.2.1 t1.2.2.2.2.2 y.2.2 hI1  _) tm_189 tm_186 tm_187 tm_188 tm_2 (by decide +kernel) ⟨⟨Nat.le_trans (by decide) hRf, Nat.le_trans (by decide) hRl⟩, rfl, rfl⟩ hP hD hS hA hK hN (va_recv (q0 := 0) (ci := 1) hK (wm_P (X := ([((q 0), .inr (0, [.int (nI (n)), .int (nI (2 ^ n - 1)), .ref (q 1), .ref (q 2)])), ((q 1), .inl (cI, n, .inl w)), ((q 2), .inl (cM, 2, .inr (.inr (.inr (.inr mr)))))] ++ mw_ cI cG a0 n t0)) (Y := mw_ cI cG a1 n t1) (Z := []) hP).2.1 rfl rfl) rfl hl.1 rfl (Nat.le_of_ble_eq_true rfl) nd_CB_classes_15 hCS (fun u15 H locs hp15 hP hD hS => ?_)
    rw [List.append_assoc] at hP hD
    have hP : va_P D cl_all ([((q 0), .inr (0, [.int (nI (n)), .int (nI (2 ^ n - 1)), .ref (q 1), .ref (q 2)])), ((q 1), .inl (cI, n, .inl w)), ((q 2), .inl (cM, 2, .inr (.inr (.inr (.inr mr)))))] ++ (mw_ cI cG a0 n t0 ++ (mw_ cI cG a1 n u15 ++ []))) H := hP
    have hD : va_D A ([((q 0), .inr (0, [.int (nI (n)), .int (nI (2 ^ n - 1)), .ref (q 1), .ref (q 2)])), ((q 1), .inl (cI, n, .inl w)), ((q 2), .inl (cM, 2, .inr (.inr (.inr (.inr mr)))))] ++ (mw_ cI cG a0 n t0 ++ (mw_ cI cG a1 n u15 ++ []))) := hD
    refine wi_ic hx hb (a := 1) nd_CB_classes_18 ?_
    have hsp : sp_classes y (nI (1))  = (nI 1, (y.1, y.2.1, (2, y.2.2.2.1, y.2.2.2.2.1, y.2.2.2.2.2.1, (fun _ => 0), (fun _ => 0), y.2.2.2.2.2.2.2.2))) := by unfold sp_classes; simp only [sw_1, tn_1]; simp [cb_m, cb_s]
    exact wb_zret ((w, t0, u15)) hx hb hr hk rfl hAe (by rw [hsp]; exact ⟨rfl, ⟨hI.1, hI0, hp15⟩⟩) hP hD hS nd_CB_classes_19
  · refine wc_S (n := 1) hx hb hml hown htg (c_CB_isMatroid l D _ wh (nI 0) (fun h => absurd h (fun z => z.elim (fun z => hw1.1 (z.trans nI_0.symm)) hw1.2)) (fun _ => rfl)) tm_141 tm_139 tm_140 tm_1 (by decide +kernel) ⟨⟨Nat.le_trans (by decide) hRf, Nat.le_trans (by decide) hRl⟩, rfl, rfl⟩ (wa_pre wa_nil hK hN) rfl hl.1 rfl (Nat.le_of_ble_eq_true rfl) nd_CB_classes_1 hCS ?_
    refine wi_if_ne (tgt := 9) hx hb (by decide) nd_CB_classes_4 rfl (fun h => absurd h (by decide)) (fun _ => ?_)
    refine wi_ic hx hb (a := 0) nd_CB_classes_7 ?_
    have hsp : sp_classes y wh  = (nI 0, y) := by unfold sp_classes; simp [sw_n hw1]
    exact wb_zret ((w, t0, t1)) hx hb hr hk rfl hAe (by rw [hsp]; exact ⟨rfl, hI⟩) hP hD hS nd_CB_classes_8
theorem nd_CB_linear_0 : decode nc_CB_linear 0 = .ok (.iload_n 1, 1) := by decide +kernel
theorem nd_CB_linear_1 : decode nc_CB_linear 1 = .ok (.invokestatic 29, 3) := by decide +kernel
theorem nd_CB_linear_4 : decode nc_CB_linear 4 = .ok (.ifCond .eq 10, 3) := by decide +kernel
theorem nd_CB_linear_7 : decode nc_CB_linear 7 = .ok (.iload_n 2, 1) := by decide +kernel
theorem nd_CB_linear_8 : decode nc_CB_linear 8 = .ok (.invokestatic 59, 3) := by decide +kernel
theorem nd_CB_linear_11 : decode nc_CB_linear 11 = .ok (.ifCond .ne 5, 3) := by decide +kernel
theorem nd_CB_linear_14 : decode nc_CB_linear 14 = .ok (.iconst 0, 1) := by decide +kernel
theorem nd_CB_linear_15 : decode nc_CB_linear 15 = .ok (.ireturn, 1) := by decide +kernel
theorem nd_CB_linear_16 : decode nc_CB_linear 16 = .ok (.aload_n 0, 1) := by decide +kernel
theorem nd_CB_linear_17 : decode nc_CB_linear 17 = .ok (.getfield 25, 3) := by decide +kernel
theorem nd_CB_linear_20 : decode nc_CB_linear 20 = .ok (.iload_n 1, 1) := by decide +kernel
theorem nd_CB_linear_21 : decode nc_CB_linear 21 = .ok (.aaload, 1) := by decide +kernel
theorem nd_CB_linear_22 : decode nc_CB_linear 22 = .ok (.iload_n 2, 1) := by decide +kernel
theorem nd_CB_linear_23 : decode nc_CB_linear 23 = .ok (.invokevirtual 62, 3) := by decide +kernel
theorem nd_CB_linear_26 : decode nc_CB_linear 26 = .ok (.iconst 1, 1) := by decide +kernel
theorem nd_CB_linear_27 : decode nc_CB_linear 27 = .ok (.ireturn, 1) := by decide +kernel
set_option maxRecDepth 20000 in
theorem c_CB_linear (l : Launch) (D : va_G) (cI cG cM : ClassId)  (q : Nat → Nat) (n : Nat) (hn1 : 1 ≤ n) (hn : n ≤ 10) (mr : Nat → Option Nat) (a0 a1 : ma_A) (hm0 : mr 0 = some (a0.1 0)) (hm1 : mr 1 = some (a1.1 0)) (w : Nat → Int32) (t0 t1 : ma_S) (y : cb_Y) (hI : cb_I n y (w, t0, t1)) (wh p : Int32) (sz : Nat) : wb_Mi l ny_CB_linear nc_CB_linear 3 (some .boolean) ({ frames := 4, cells := 0, slots := 0, locals := 85 }) D (ty_all cI cG cM) (cw_ cI cG cM q n mr a0 a1 (w, t0, t1)) sz [.ref (q 0), .int (wh), .int (p)] (fun (v : Int32) (u : cb_S) => v = (sp_linear y wh p).1 ∧ cb_I n (sp_linear y wh p).2 u) (fun u : cb_S => cw_ cI cG cM q n mr a0 a1 u) := by
  refine wb_start (S := cb_S) (by decide) (Nat.le_of_ble_eq_true rfl) ?_
  intro p0 e0 s0 m below meth c ls A hx hb hr hml htg hown hk hP hK hN hl hAe hsz hD hA
  have hl : lv_has ls 3 [(0, .ref (q 0)), (1, .int (wh)), (2, .int (p))] := hl
  have hP : va_P D cl_all ([((q 0), .inr (0, [.int (nI (n)), .int (nI (2 ^ n - 1)), .ref (q 1), .ref (q 2)])), ((q 1), .inl (cI, n, .inl w)), ((q 2), .inl (cM, 2, .inr (.inr (.inr (.inr mr)))))] ++ (mw_ cI cG a0 n t0 ++ (mw_ cI cG a1 n t1 ++ []))) s0.heap := hP
  have hD : va_D A ([((q 0), .inr (0, [.int (nI (n)), .int (nI (2 ^ n - 1)), .ref (q 1), .ref (q 2)])), ((q 1), .inl (cI, n, .inl w)), ((q 2), .inl (cM, 2, .inr (.inr (.inr (.inr mr)))))] ++ (mw_ cI cG a0 n t0 ++ (mw_ cI cG a1 n t1 ++ []))) := hD
  have hS : va_S A s0.heap s0.heap [] := va_S.rf
  have hRf : 4 ≤ ({ frames := 4, cells := 0, slots := 0, locals := 85 } : Room).frames := Nat.le_refl _
  have hRl : 85 ≤ ({ frames := 4, cells := 0, slots := 0, locals := 85 } : Room).locals := Nat.le_refl _
  have hCS : 0 ≤ ({ frames := 4, cells := 0, slots := 0, locals := 85 } : Room).cells ∧ 0 ≤ ({ frames := 4, cells := 0, slots := 0, locals := 85 } : Room).slots := ⟨Nat.zero_le _, Nat.zero_le _⟩
  have h2n : 2 ^ n ≤ 1024 := Nat.pow_le_pow_right (by omega) hn
  have h2p : 1 ≤ 2 ^ n := Nat.one_le_two_pow
  have hI0 : ma_I n y.2.1 t0 := hI.2.1
  have hI1 : ma_I n y.2.2 t1 := hI.2.2
  refine lv_iload_n hx hb nd_CB_linear_0 rfl (lv_at hl 1 rfl) ?_
  rcases sm_which wh with hw1 | hw1 | hw1
  · subst hw1
    refine wc_S (n := 1) hx hb hml hown htg (c_CB_isMatroid l D _ (nI 0) (nI 1) (fun _ => rfl) (fun h => absurd (Or.inl nI_0) h)) tm_141 tm_139 tm_140 tm_1 (by decide +kernel) ⟨⟨Nat.le_trans (by decide) hRf, Nat.le_trans (by decide) hRl⟩, rfl, rfl⟩ (wa_pre wa_nil hK hN) rfl hl.1 rfl (Nat.le_of_ble_eq_true rfl) nd_CB_linear_1 hCS ?_
    refine wi_if_eq (tgt := 14) hx hb (by decide) nd_CB_linear_4 rfl (fun h => absurd h (by decide)) (fun _ => ?_)
    refine lv_iload_n hx hb nd_CB_linear_7 rfl (lv_at hl 2 rfl) ?_
    by_cases hq8 : p = nI 2 ∨ p = nI 3 ∨ p = nI 5 ∨ p = nI 7
    · obtain ⟨p1, h_p1, rfl⟩ := sm_mod hq8
      refine wc_S (n := 1) hx hb hml hown htg (c_CB_isModulus l D _ (nI p1) (nI 1) (fun _ => rfl) (fun h => absurd hq8 h)) tm_217 tm_215 tm_216 tm_1 (by decide +kernel) ⟨⟨Nat.le_trans (by decide) hRf, Nat.le_trans (by decide) hRl⟩, rfl, rfl⟩ (wa_pre wa_nil hK hN) rfl hl.1 rfl (Nat.le_of_ble_eq_true rfl) nd_CB_linear_8 hCS ?_
      refine wi_if_ne (tgt := 16) hx hb (by decide) nd_CB_linear_11 rfl (fun _ => ?_) (fun h => absurd h (by decide))
      refine lv_aload_n hx hb nd_CB_linear_16 rfl (lv_at hl 0 rfl) ?_
      refine va_get (D := D) (C := nr_CB) (T := nt_CB) (N := 4) hx hb htg tf_CB hown hK hP 0 rfl rfl 3 (by decide) (htg _ tm_125) (fun _ h => h) rfl nd_CB_linear_17 ?_
      refine lv_iload_n hx hb nd_CB_linear_20 rfl (lv_at hl 1 rfl) ?_
      refine wi_aald (v := (a0.1 0)) hx hb hK hP 2 2 rfl rfl rfl (by omega) (by omega) (hm0) nd_CB_linear_21 ?_
      refine lv_iload_n hx hb nd_CB_linear_22 rfl (lv_at hl 2 rfl) ?_
      refine wd_Vv (C := nr_MA) (n := 1) (X := [((q 0), .inr (0, [.int (nI (n)), .int (nI (2 ^ n - 1)), .ref (q 1), .ref (q 2)])), ((q 1), .inl (cI, n, .inl w)), ((q 2), .inl (cM, 2, .inr (.inr (.inr (.inr mr)))))]) (Y := mw_ cI cG a0 n t0) (Z := (mw_ cI cG a1 n t1 ++ [])) hx hb hml hown htg (c_MA_becomeLinear l D cI cG cM a0 n hn t0.1 t0.2.1 t0.2.2.1 t0.2.2.2.1 t0.2.2.2.2.1 t0.2.2.2.2.2 y.2.1 hI0 p1 h_p1 _) tm_221 tm_218 tm_219 tm_220 tm_2 (by decide +kernel) ⟨⟨Nat.le_trans (by decide) hRf, Nat.le_trans (by decide) hRl⟩, rfl, rfl⟩ hP hD hS hA hK hN (va_recv (q0 := 0) (ci := 1) hK (wm_P (X := [((q 0), .inr (0, [.int (nI (n)), .int (nI (2 ^ n - 1)), .ref (q 1), .ref (q 2)])), ((q 1), .inl (cI, n, .inl w)), ((q 2), .inl (cM, 2, .inr (.inr (.inr (.inr mr)))))]) (Y := mw_ cI cG a0 n t0) (Z := (mw_ cI cG a1 n t1 ++ [])) hP).2.1 rfl rfl) rfl hl.1 rfl (Nat.le_of_ble_eq_true rfl) nd_CB_linear_23 hCS (fun u23 H locs hp23 hP hD hS => ?_)
      have hP : va_P D cl_all ([((q 0), .inr (0, [.int (nI (n)), .int (nI (2 ^ n - 1)), .ref (q 1), .ref (q 2)])), ((q 1), .inl (cI, n, .inl w)), ((q 2), .inl (cM, 2, .inr (.inr (.inr (.inr mr)))))] ++ (mw_ cI cG a0 n u23 ++ (mw_ cI cG a1 n t1 ++ []))) H := hP
      have hD : va_D A ([((q 0), .inr (0, [.int (nI (n)), .int (nI (2 ^ n - 1)), .ref (q 1), .ref (q 2)])), ((q 1), .inl (cI, n, .inl w)), ((q 2), .inl (cM, 2, .inr (.inr (.inr (.inr mr)))))] ++ (mw_ cI cG a0 n u23 ++ (mw_ cI cG a1 n t1 ++ []))) := hD
      refine wi_ic hx hb (a := 1) nd_CB_linear_26 ?_
      have hsp : sp_linear y (nI (0)) (nI (p1)) = (nI 1, (y.1, (3, y.2.1.2.1, y.2.1.2.2.1, y.2.1.2.2.2.1, y.2.1.2.2.2.2.1, y.2.1.2.2.2.2.2.1, p1, (fun _ _ => 0)), y.2.2)) := by unfold sp_linear; simp only [sw_0, sp_pt h_p1, tn_nI (show p1 < 2 ^ 31 by omega), tn_0]; simp [cb_m, cb_s]
      exact wb_zret ((w, u23, t1)) hx hb hr hk rfl hAe (by rw [hsp]; exact ⟨rfl, ⟨hI.1, hp23, hI1⟩⟩) hP hD hS nd_CB_linear_27
    · refine wc_S (n := 1) hx hb hml hown htg (c_CB_isModulus l D _ p (nI 0) (fun h => absurd h hq8) (fun _ => rfl)) tm_217 tm_215 tm_216 tm_1 (by decide +kernel) ⟨⟨Nat.le_trans (by decide) hRf, Nat.le_trans (by decide) hRl⟩, rfl, rfl⟩ (wa_pre wa_nil hK hN) rfl hl.1 rfl (Nat.le_of_ble_eq_true rfl) nd_CB_linear_8 hCS ?_
      refine wi_if_ne (tgt := 16) hx hb (by decide) nd_CB_linear_11 rfl (fun h => absurd h (by decide)) (fun _ => ?_)
      refine wi_ic hx hb (a := 0) nd_CB_linear_14 ?_
      have hsp : sp_linear y (nI (0)) p = (nI 0, y) := by unfold sp_linear; simp [sp_pf hq8]
      exact wb_zret ((w, t0, t1)) hx hb hr hk rfl hAe (by rw [hsp]; exact ⟨rfl, hI⟩) hP hD hS nd_CB_linear_15
  · subst hw1
    refine wc_S (n := 1) hx hb hml hown htg (c_CB_isMatroid l D _ (nI 1) (nI 1) (fun _ => rfl) (fun h => absurd (Or.inr rfl) h)) tm_141 tm_139 tm_140 tm_1 (by decide +kernel) ⟨⟨Nat.le_trans (by decide) hRf, Nat.le_trans (by decide) hRl⟩, rfl, rfl⟩ (wa_pre wa_nil hK hN) rfl hl.1 rfl (Nat.le_of_ble_eq_true rfl) nd_CB_linear_1 hCS ?_
    refine wi_if_eq (tgt := 14) hx hb (by decide) nd_CB_linear_4 rfl (fun h => absurd h (by decide)) (fun _ => ?_)
    refine lv_iload_n hx hb nd_CB_linear_7 rfl (lv_at hl 2 rfl) ?_
    by_cases hq8 : p = nI 2 ∨ p = nI 3 ∨ p = nI 5 ∨ p = nI 7
    · obtain ⟨p1, h_p1, rfl⟩ := sm_mod hq8
      refine wc_S (n := 1) hx hb hml hown htg (c_CB_isModulus l D _ (nI p1) (nI 1) (fun _ => rfl) (fun h => absurd hq8 h)) tm_217 tm_215 tm_216 tm_1 (by decide +kernel) ⟨⟨Nat.le_trans (by decide) hRf, Nat.le_trans (by decide) hRl⟩, rfl, rfl⟩ (wa_pre wa_nil hK hN) rfl hl.1 rfl (Nat.le_of_ble_eq_true rfl) nd_CB_linear_8 hCS ?_
      refine wi_if_ne (tgt := 16) hx hb (by decide) nd_CB_linear_11 rfl (fun _ => ?_) (fun h => absurd h (by decide))
      refine lv_aload_n hx hb nd_CB_linear_16 rfl (lv_at hl 0 rfl) ?_
      refine va_get (D := D) (C := nr_CB) (T := nt_CB) (N := 4) hx hb htg tf_CB hown hK hP 0 rfl rfl 3 (by decide) (htg _ tm_125) (fun _ h => h) rfl nd_CB_linear_17 ?_
      refine lv_iload_n hx hb nd_CB_linear_20 rfl (lv_at hl 1 rfl) ?_
      refine wi_aald (v := (a1.1 0)) hx hb hK hP 2 2 rfl rfl rfl (by omega) (by omega) (hm1) nd_CB_linear_21 ?_
      refine lv_iload_n hx hb nd_CB_linear_22 rfl (lv_at hl 2 rfl) ?_
      rw [← List.append_assoc] at hP hD
      refine wd_Vv (C := nr_MA) (n := 1) (X := ([((q 0), .inr (0, [.int (nI (n)), .int (nI (2 ^ n - 1)), .ref (q 1), .ref (q 2)])), ((q 1), .inl (cI, n, .inl w)), ((q 2), .inl (cM, 2, .inr (.inr (.inr (.inr mr)))))] ++ mw_ cI cG a0 n t0)) (Y := mw_ cI cG a1 n t1) (Z := []) hx hb hml hown htg (c_MA_becomeLinear l D cI cG cM a1 n hn t1.1 t1.2.1 t1.2.2.1 t1.2.2.2.1 t1.2.2.2.2.1 t1.2.2.2.2.2 y.2.2 hI1 p1 h_p1 _) tm_221 tm_218 tm_219 tm_220 tm_2 (by decide +kernel) ⟨⟨Nat.le_trans (by decide) hRf, Nat.le_trans (by decide) hRl⟩, rfl, rfl⟩ hP hD hS hA hK hN (va_recv (q0 := 0) (ci := 1) hK (wm_P (X := ([((q 0), .inr (0, [.int (nI (n)), .int (nI (2 ^ n - 1)), .ref (q 1), .ref (q 2)])), ((q 1), .inl (cI, n, .inl w)), ((q 2), .inl (cM, 2, .inr (.inr (.inr (.inr mr)))))] ++ mw_ cI cG a0 n t0)) (Y := mw_ cI cG a1 n t1) (Z := []) hP).2.1 rfl rfl) rfl hl.1 rfl (Nat.le_of_ble_eq_true rfl) nd_CB_linear_23 hCS (fun u23 H locs hp23 hP hD hS => ?_)
      rw [List.append_assoc] at hP hD
      have hP : va_P D cl_all ([((q 0), .inr (0, [.int (nI (n)), .int (nI (2 ^ n - 1)), .ref (q 1), .ref (q 2)])), ((q 1), .inl (cI, n, .inl w)), ((q 2), .inl (cM, 2, .inr (.inr (.inr (.inr mr)))))] ++ (mw_ cI cG a0 n t0 ++ (mw_ cI cG a1 n u23 ++ []))) H := hP
      have hD : va_D A ([((q 0), .inr (0, [.int (nI (n)), .int (nI (2 ^ n - 1)), .ref (q 1), .ref (q 2)])), ((q 1), .inl (cI, n, .inl w)), ((q 2), .inl (cM, 2, .inr (.inr (.inr (.inr mr)))))] ++ (mw_ cI cG a0 n t0 ++ (mw_ cI cG a1 n u23 ++ []))) := hD
      refine wi_ic hx hb (a := 1) nd_CB_linear_26 ?_
      have hsp : sp_linear y (nI (1)) (nI (p1)) = (nI 1, (y.1, y.2.1, (3, y.2.2.2.1, y.2.2.2.2.1, y.2.2.2.2.2.1, y.2.2.2.2.2.2.1, y.2.2.2.2.2.2.2.1, p1, (fun _ _ => 0)))) := by unfold sp_linear; simp only [sw_1, sp_pt h_p1, tn_nI (show p1 < 2 ^ 31 by omega), tn_1]; simp [cb_m, cb_s]
      exact wb_zret ((w, t0, u23)) hx hb hr hk rfl hAe (by rw [hsp]; exact ⟨rfl, ⟨hI.1, hI0, hp23⟩⟩) hP hD hS nd_CB_linear_27
    · refine wc_S (n := 1) hx hb hml hown htg (c_CB_isModulus l D _ p (nI 0) (fun h => absurd h hq8) (fun _ => rfl)) tm_217 tm_215 tm_216 tm_1 (by decide +kernel) ⟨⟨Nat.le_trans (by decide) hRf, Nat.le_trans (by decide) hRl⟩, rfl, rfl⟩ (wa_pre wa_nil hK hN) rfl hl.1 rfl (Nat.le_of_ble_eq_true rfl) nd_CB_linear_8 hCS ?_
      refine wi_if_ne (tgt := 16) hx hb (by decide) nd_CB_linear_11 rfl (fun h => absurd h (by decide)) (fun _ => ?_)
      refine wi_ic hx hb (a := 0) nd_CB_linear_14 ?_
      have hsp : sp_linear y (nI (1)) p = (nI 0, y) := by unfold sp_linear; simp [sp_pf hq8]
      exact wb_zret ((w, t0, t1)) hx hb hr hk rfl hAe (by rw [hsp]; exact ⟨rfl, hI⟩) hP hD hS nd_CB_linear_15
  · refine wc_S (n := 1) hx hb hml hown htg (c_CB_isMatroid l D _ wh (nI 0) (fun h => absurd h (fun z => z.elim (fun z => hw1.1 (z.trans nI_0.symm)) hw1.2)) (fun _ => rfl)) tm_141 tm_139 tm_140 tm_1 (by decide +kernel) ⟨⟨Nat.le_trans (by decide) hRf, Nat.le_trans (by decide) hRl⟩, rfl, rfl⟩ (wa_pre wa_nil hK hN) rfl hl.1 rfl (Nat.le_of_ble_eq_true rfl) nd_CB_linear_1 hCS ?_
    refine wi_if_eq (tgt := 14) hx hb (by decide) nd_CB_linear_4 rfl (fun _ => ?_) (fun h => absurd h (by decide))
    refine wi_ic hx hb (a := 0) nd_CB_linear_14 ?_
    have hsp : sp_linear y wh p = (nI 0, y) := by unfold sp_linear; simp [sw_n hw1]
    exact wb_zret ((w, t0, t1)) hx hb hr hk rfl hAe (by rw [hsp]; exact ⟨rfl, hI⟩) hP hD hS nd_CB_linear_15
theorem nd_CB_edge_0 : decode nc_CB_edge 0 = .ok (.iload_n 1, 1) := by decide +kernel
theorem nd_CB_edge_1 : decode nc_CB_edge 1 = .ok (.invokestatic 29, 3) := by decide +kernel
theorem nd_CB_edge_4 : decode nc_CB_edge 4 = .ok (.ifCond .eq 30, 3) := by decide +kernel
theorem nd_CB_edge_7 : decode nc_CB_edge 7 = .ok (.aload_n 0, 1) := by decide +kernel
theorem nd_CB_edge_8 : decode nc_CB_edge 8 = .ok (.iload_n 2, 1) := by decide +kernel
theorem nd_CB_edge_9 : decode nc_CB_edge 9 = .ok (.invokevirtual 43, 3) := by decide +kernel
theorem nd_CB_edge_12 : decode nc_CB_edge 12 = .ok (.ifCond .eq 22, 3) := by decide +kernel
theorem nd_CB_edge_15 : decode nc_CB_edge 15 = .ok (.iload_n 3, 1) := by decide +kernel
theorem nd_CB_edge_16 : decode nc_CB_edge 16 = .ok (.bipush 7, 2) := by decide +kernel
theorem nd_CB_edge_18 : decode nc_CB_edge 18 = .ok (.invokestatic 33, 3) := by decide +kernel
theorem nd_CB_edge_21 : decode nc_CB_edge 21 = .ok (.ifCond .eq 13, 3) := by decide +kernel
theorem nd_CB_edge_24 : decode nc_CB_edge 24 = .ok (.iload 4, 2) := by decide +kernel
theorem nd_CB_edge_26 : decode nc_CB_edge 26 = .ok (.bipush 7, 2) := by decide +kernel
theorem nd_CB_edge_28 : decode nc_CB_edge 28 = .ok (.invokestatic 33, 3) := by decide +kernel
theorem nd_CB_edge_31 : decode nc_CB_edge 31 = .ok (.ifCond .ne 5, 3) := by decide +kernel
theorem nd_CB_edge_34 : decode nc_CB_edge 34 = .ok (.iconst 0, 1) := by decide +kernel
theorem nd_CB_edge_35 : decode nc_CB_edge 35 = .ok (.ireturn, 1) := by decide +kernel
theorem nd_CB_edge_36 : decode nc_CB_edge 36 = .ok (.aload_n 0, 1) := by decide +kernel
theorem nd_CB_edge_37 : decode nc_CB_edge 37 = .ok (.getfield 25, 3) := by decide +kernel
theorem nd_CB_edge_40 : decode nc_CB_edge 40 = .ok (.iload_n 1, 1) := by decide +kernel
theorem nd_CB_edge_41 : decode nc_CB_edge 41 = .ok (.aaload, 1) := by decide +kernel
theorem nd_CB_edge_42 : decode nc_CB_edge 42 = .ok (.iload_n 2, 1) := by decide +kernel
theorem nd_CB_edge_43 : decode nc_CB_edge 43 = .ok (.iload_n 3, 1) := by decide +kernel
theorem nd_CB_edge_44 : decode nc_CB_edge 44 = .ok (.iload 4, 2) := by decide +kernel
theorem nd_CB_edge_46 : decode nc_CB_edge 46 = .ok (.invokevirtual 46, 3) := by decide +kernel
theorem nd_CB_edge_49 : decode nc_CB_edge 49 = .ok (.ireturn, 1) := by decide +kernel
set_option maxRecDepth 20000 in
theorem c_CB_edge (l : Launch) (D : va_G) (cI cG cM : ClassId)  (q : Nat → Nat) (n : Nat) (hn1 : 1 ≤ n) (hn : n ≤ 10) (mr : Nat → Option Nat) (a0 a1 : ma_A) (hm0 : mr 0 = some (a0.1 0)) (hm1 : mr 1 = some (a1.1 0)) (w : Nat → Int32) (t0 t1 : ma_S) (y : cb_Y) (hI : cb_I n y (w, t0, t1)) (wh el u0 v0 : Int32) (sz : Nat) : wb_Mi l ny_CB_edge nc_CB_edge 5 (some .boolean) ({ frames := 3, cells := 0, slots := 0, locals := 68 }) D (ty_all cI cG cM) (cw_ cI cG cM q n mr a0 a1 (w, t0, t1)) sz [.ref (q 0), .int (wh), .int (el), .int (u0), .int (v0)] (fun (v : Int32) (u : cb_S) => v = (sp_edge n y wh el u0 v0).1 ∧ cb_I n (sp_edge n y wh el u0 v0).2 u) (fun u : cb_S => cw_ cI cG cM q n mr a0 a1 u) := by
  refine wb_start (S := cb_S) (by decide) (Nat.le_of_ble_eq_true rfl) ?_
  intro p e0 s0 m below meth c ls A hx hb hr hml htg hown hk hP hK hN hl hAe hsz hD hA
  have hl : lv_has ls 5 [(0, .ref (q 0)), (1, .int (wh)), (2, .int (el)), (3, .int (u0)), (4, .int (v0))] := hl
  have hP : va_P D cl_all ([((q 0), .inr (0, [.int (nI (n)), .int (nI (2 ^ n - 1)), .ref (q 1), .ref (q 2)])), ((q 1), .inl (cI, n, .inl w)), ((q 2), .inl (cM, 2, .inr (.inr (.inr (.inr mr)))))] ++ (mw_ cI cG a0 n t0 ++ (mw_ cI cG a1 n t1 ++ []))) s0.heap := hP
  have hD : va_D A ([((q 0), .inr (0, [.int (nI (n)), .int (nI (2 ^ n - 1)), .ref (q 1), .ref (q 2)])), ((q 1), .inl (cI, n, .inl w)), ((q 2), .inl (cM, 2, .inr (.inr (.inr (.inr mr)))))] ++ (mw_ cI cG a0 n t0 ++ (mw_ cI cG a1 n t1 ++ []))) := hD
  have hS : va_S A s0.heap s0.heap [] := va_S.rf
  have hRf : 3 ≤ ({ frames := 3, cells := 0, slots := 0, locals := 68 } : Room).frames := Nat.le_refl _
  have hRl : 68 ≤ ({ frames := 3, cells := 0, slots := 0, locals := 68 } : Room).locals := Nat.le_refl _
  have hCS : 0 ≤ ({ frames := 3, cells := 0, slots := 0, locals := 68 } : Room).cells ∧ 0 ≤ ({ frames := 3, cells := 0, slots := 0, locals := 68 } : Room).slots := ⟨Nat.zero_le _, Nat.zero_le _⟩
  have h2n : 2 ^ n ≤ 1024 := Nat.pow_le_pow_right (by omega) hn
  have h2p : 1 ≤ 2 ^ n := Nat.one_le_two_pow
  have hI0 : ma_I n y.2.1 t0 := hI.2.1
  have hI1 : ma_I n y.2.2 t1 := hI.2.2
  refine lv_iload_n hx hb nd_CB_edge_0 rfl (lv_at hl 1 rfl) ?_
  rcases sm_which wh with hw1 | hw1 | hw1
  · subst hw1
    refine wc_S (n := 1) hx hb hml hown htg (c_CB_isMatroid l D _ (nI 0) (nI 1) (fun _ => rfl) (fun h => absurd (Or.inl nI_0) h)) tm_141 tm_139 tm_140 tm_1 (by decide +kernel) ⟨⟨Nat.le_trans (by decide) hRf, Nat.le_trans (by decide) hRl⟩, rfl, rfl⟩ (wa_pre wa_nil hK hN) rfl hl.1 rfl (Nat.le_of_ble_eq_true rfl) nd_CB_edge_1 hCS ?_
    refine wi_if_eq (tgt := 34) hx hb (by decide) nd_CB_edge_4 rfl (fun h => absurd h (by decide)) (fun _ => ?_)
    refine lv_aload_n hx hb nd_CB_edge_7 rfl (lv_at hl 0 rfl) ?_
    refine lv_iload_n hx hb nd_CB_edge_8 rfl (lv_at hl 2 rfl) ?_
    by_cases hq9 : ¬ el < 0 ∧ ¬ nI n ≤ el
    · obtain ⟨el1, h_el1, rfl⟩ := sm_elem (by omega) hq9
      refine wc_V (C := nr_CB) (n := 1) hx hb hml hown htg (c_CB_isElement l D _ (q 0) (q 1) (q 2) n (nI el1) (nI 1) (fun _ => rfl) (fun h => absurd hq9 h)) tm_177 tm_174 tm_176 tp_2 tm_1 (by decide +kernel) ⟨⟨Nat.le_trans (by decide) hRf, Nat.le_trans (by decide) hRl⟩, rfl, rfl⟩ (wa_pre (hP.sub [0] rfl) hK hN) (va_recv (q0 := 0) (ci := 0) hK hP rfl rfl) rfl hl.1 rfl (Nat.le_of_ble_eq_true rfl) nd_CB_edge_9 hCS ?_
      refine wi_if_eq (tgt := 34) hx hb (by decide) nd_CB_edge_12 rfl (fun h => absurd h (by decide)) (fun _ => ?_)
      refine lv_iload_n hx hb nd_CB_edge_15 rfl (lv_at hl 3 rfl) ?_
      refine lv_bipush (v := nI 7) hx hb nd_CB_edge_16 (by decide) ?_
      by_cases hq18 : ¬ u0 < 0 ∧ ¬ nI (7) < u0
      · obtain ⟨u01, h_u01, rfl⟩ := sm_upto (by omega) hq18
        refine wc_S (n := 2) hx hb hml hown htg (c_CB_isUpTo l D _ (nI u01) (nI (7)) (nI 1) (fun _ => rfl) (fun h => absurd hq18 h)) tm_144 tm_142 tm_143 tm_1 (by decide +kernel) ⟨⟨Nat.le_trans (by decide) hRf, Nat.le_trans (by decide) hRl⟩, rfl, rfl⟩ (wa_pre wa_nil hK hN) rfl hl.1 rfl (Nat.le_of_ble_eq_true rfl) nd_CB_edge_18 hCS ?_
        refine wi_if_eq (tgt := 34) hx hb (by decide) nd_CB_edge_21 rfl (fun h => absurd h (by decide)) (fun _ => ?_)
        refine lv_iload hx hb nd_CB_edge_24 (lv_at hl 4 rfl) ?_
        refine lv_bipush (v := nI 7) hx hb nd_CB_edge_26 (by decide) ?_
        by_cases hq28 : ¬ v0 < 0 ∧ ¬ nI (7) < v0
        · obtain ⟨v01, h_v01, rfl⟩ := sm_upto (by omega) hq28
          refine wc_S (n := 2) hx hb hml hown htg (c_CB_isUpTo l D _ (nI v01) (nI (7)) (nI 1) (fun _ => rfl) (fun h => absurd hq28 h)) tm_144 tm_142 tm_143 tm_1 (by decide +kernel) ⟨⟨Nat.le_trans (by decide) hRf, Nat.le_trans (by decide) hRl⟩, rfl, rfl⟩ (wa_pre wa_nil hK hN) rfl hl.1 rfl (Nat.le_of_ble_eq_true rfl) nd_CB_edge_28 hCS ?_
          refine wi_if_ne (tgt := 36) hx hb (by decide) nd_CB_edge_31 rfl (fun _ => ?_) (fun h => absurd h (by decide))
          refine lv_aload_n hx hb nd_CB_edge_36 rfl (lv_at hl 0 rfl) ?_
          refine va_get (D := D) (C := nr_CB) (T := nt_CB) (N := 4) hx hb htg tf_CB hown hK hP 0 rfl rfl 3 (by decide) (htg _ tm_125) (fun _ h => h) rfl nd_CB_edge_37 ?_
          refine lv_iload_n hx hb nd_CB_edge_40 rfl (lv_at hl 1 rfl) ?_
          refine wi_aald (v := (a0.1 0)) hx hb hK hP 2 2 rfl rfl rfl (by omega) (by omega) (hm0) nd_CB_edge_41 ?_
          refine lv_iload_n hx hb nd_CB_edge_42 rfl (lv_at hl 2 rfl) ?_
          refine lv_iload_n hx hb nd_CB_edge_43 rfl (lv_at hl 3 rfl) ?_
          refine lv_iload hx hb nd_CB_edge_44 (lv_at hl 4 rfl) ?_
          refine wd_Vi (C := nr_MA) (n := 3) (X := [((q 0), .inr (0, [.int (nI (n)), .int (nI (2 ^ n - 1)), .ref (q 1), .ref (q 2)])), ((q 1), .inl (cI, n, .inl w)), ((q 2), .inl (cM, 2, .inr (.inr (.inr (.inr mr)))))]) (Y := mw_ cI cG a0 n t0) (Z := (mw_ cI cG a1 n t1 ++ [])) hx hb hml hown htg (c_MA_setEdge l D cI cG cM a0 n hn t0.1 t0.2.1 t0.2.2.1 t0.2.2.2.1 t0.2.2.2.2.1 t0.2.2.2.2.2 y.2.1 hI0 el1 u01 v01 (by omega) (by omega) (by omega) _) tm_181 tm_178 tm_179 tm_180 tm_2 (by decide +kernel) ⟨⟨Nat.le_trans (by decide) hRf, Nat.le_trans (by decide) hRl⟩, rfl, rfl⟩ hP hD hS hA hK hN (va_recv (q0 := 0) (ci := 1) hK (wm_P (X := [((q 0), .inr (0, [.int (nI (n)), .int (nI (2 ^ n - 1)), .ref (q 1), .ref (q 2)])), ((q 1), .inl (cI, n, .inl w)), ((q 2), .inl (cM, 2, .inr (.inr (.inr (.inr mr)))))]) (Y := mw_ cI cG a0 n t0) (Z := (mw_ cI cG a1 n t1 ++ [])) hP).2.1 rfl rfl) rfl hl.1 rfl (Nat.le_of_ble_eq_true rfl) nd_CB_edge_46 hCS (fun v46 u46 H locs hp46 hP hD hS => ?_)
          have hP : va_P D cl_all ([((q 0), .inr (0, [.int (nI (n)), .int (nI (2 ^ n - 1)), .ref (q 1), .ref (q 2)])), ((q 1), .inl (cI, n, .inl w)), ((q 2), .inl (cM, 2, .inr (.inr (.inr (.inr mr)))))] ++ (mw_ cI cG a0 n u46 ++ (mw_ cI cG a1 n t1 ++ []))) H := hP
          have hD : va_D A ([((q 0), .inr (0, [.int (nI (n)), .int (nI (2 ^ n - 1)), .ref (q 1), .ref (q 2)])), ((q 1), .inl (cI, n, .inl w)), ((q 2), .inl (cM, 2, .inr (.inr (.inr (.inr mr)))))] ++ (mw_ cI cG a0 n u46 ++ (mw_ cI cG a1 n t1 ++ []))) := hD
          by_cases hkd : y.2.1.1 = 1
          · refine wi_top (hp46.1 hkd).1 ?_
            have hsp : sp_edge n y (nI (0)) (nI (el1)) (nI (u01)) (nI (v01)) = (nI 1, (y.1, (y.2.1.1, y.2.1.2.1, va_up y.2.1.2.2.1 el1 u01, va_up y.2.1.2.2.2.1 el1 v01, y.2.1.2.2.2.2), y.2.2)) := by unfold sp_edge; simp only [sw_0, sz_t h_el1 (show n < 2 ^ 31 by omega), tn_nI (show el1 < 2 ^ 31 by omega), sr_t h_u01 (show 7 < 2 ^ 31 by omega), tn_nI (show u01 < 2 ^ 31 by omega), sr_t h_v01 (show 7 < 2 ^ 31 by omega), tn_nI (show v01 < 2 ^ 31 by omega), tn_0]; simp [cb_m, cb_s, hkd]
            exact wb_zret ((w, u46, t1)) hx hb hr hk rfl hAe (by rw [hsp]; exact ⟨rfl, ⟨hI.1, (hp46.1 hkd).2, hI1⟩⟩) hP hD hS nd_CB_edge_49
          · refine wi_top (hp46.2 hkd).1 ?_
            have hsp : sp_edge n y (nI (0)) (nI (el1)) (nI (u01)) (nI (v01)) = (nI 0, y) := by unfold sp_edge; simp only [sw_0, sz_t h_el1 (show n < 2 ^ 31 by omega), tn_nI (show el1 < 2 ^ 31 by omega), sr_t h_u01 (show 7 < 2 ^ 31 by omega), tn_nI (show u01 < 2 ^ 31 by omega), sr_t h_v01 (show 7 < 2 ^ 31 by omega), tn_nI (show v01 < 2 ^ 31 by omega), tn_0]; simp [cb_m, hkd]
            exact wb_zret ((w, u46, t1)) hx hb hr hk rfl hAe (by rw [hsp]; exact ⟨rfl, ⟨hI.1, (hp46.2 hkd).2, hI1⟩⟩) hP hD hS nd_CB_edge_49
        · refine wc_S (n := 2) hx hb hml hown htg (c_CB_isUpTo l D _ v0 (nI (7)) (nI 0) (fun h => absurd h hq28) (fun _ => rfl)) tm_144 tm_142 tm_143 tm_1 (by decide +kernel) ⟨⟨Nat.le_trans (by decide) hRf, Nat.le_trans (by decide) hRl⟩, rfl, rfl⟩ (wa_pre wa_nil hK hN) rfl hl.1 rfl (Nat.le_of_ble_eq_true rfl) nd_CB_edge_28 hCS ?_
          refine wi_if_ne (tgt := 36) hx hb (by decide) nd_CB_edge_31 rfl (fun h => absurd h (by decide)) (fun _ => ?_)
          refine wi_ic hx hb (a := 0) nd_CB_edge_34 ?_
          have hsp : sp_edge n y (nI (0)) (nI (el1)) (nI (u01)) v0 = (nI 0, y) := by unfold sp_edge; simp [sr_f hq28]
          exact wb_zret ((w, t0, t1)) hx hb hr hk rfl hAe (by rw [hsp]; exact ⟨rfl, hI⟩) hP hD hS nd_CB_edge_35
      · refine wc_S (n := 2) hx hb hml hown htg (c_CB_isUpTo l D _ u0 (nI (7)) (nI 0) (fun h => absurd h hq18) (fun _ => rfl)) tm_144 tm_142 tm_143 tm_1 (by decide +kernel) ⟨⟨Nat.le_trans (by decide) hRf, Nat.le_trans (by decide) hRl⟩, rfl, rfl⟩ (wa_pre wa_nil hK hN) rfl hl.1 rfl (Nat.le_of_ble_eq_true rfl) nd_CB_edge_18 hCS ?_
        refine wi_if_eq (tgt := 34) hx hb (by decide) nd_CB_edge_21 rfl (fun _ => ?_) (fun h => absurd h (by decide))
        refine wi_ic hx hb (a := 0) nd_CB_edge_34 ?_
        have hsp : sp_edge n y (nI (0)) (nI (el1)) u0 v0 = (nI 0, y) := by unfold sp_edge; simp [sr_f hq18]
        exact wb_zret ((w, t0, t1)) hx hb hr hk rfl hAe (by rw [hsp]; exact ⟨rfl, hI⟩) hP hD hS nd_CB_edge_35
    · refine wc_V (C := nr_CB) (n := 1) hx hb hml hown htg (c_CB_isElement l D _ (q 0) (q 1) (q 2) n el (nI 0) (fun h => absurd h hq9) (fun _ => rfl)) tm_177 tm_174 tm_176 tp_2 tm_1 (by decide +kernel) ⟨⟨Nat.le_trans (by decide) hRf, Nat.le_trans (by decide) hRl⟩, rfl, rfl⟩ (wa_pre (hP.sub [0] rfl) hK hN) (va_recv (q0 := 0) (ci := 0) hK hP rfl rfl) rfl hl.1 rfl (Nat.le_of_ble_eq_true rfl) nd_CB_edge_9 hCS ?_
      refine wi_if_eq (tgt := 34) hx hb (by decide) nd_CB_edge_12 rfl (fun _ => ?_) (fun h => absurd h (by decide))
      refine wi_ic hx hb (a := 0) nd_CB_edge_34 ?_
      have hsp : sp_edge n y (nI (0)) el u0 v0 = (nI 0, y) := by unfold sp_edge; simp [sz_f hn1 (show n < 2 ^ 31 by omega) hq9]
      exact wb_zret ((w, t0, t1)) hx hb hr hk rfl hAe (by rw [hsp]; exact ⟨rfl, hI⟩) hP hD hS nd_CB_edge_35
  · subst hw1
    refine wc_S (n := 1) hx hb hml hown htg (c_CB_isMatroid l D _ (nI 1) (nI 1) (fun _ => rfl) (fun h => absurd (Or.inr rfl) h)) tm_141 tm_139 tm_140 tm_1 (by decide +kernel) ⟨⟨Nat.le_trans (by decide) hRf, Nat.le_trans (by decide) hRl⟩, rfl, rfl⟩ (wa_pre wa_nil hK hN) rfl hl.1 rfl (Nat.le_of_ble_eq_true rfl) nd_CB_edge_1 hCS ?_
    refine wi_if_eq (tgt := 34) hx hb (by decide) nd_CB_edge_4 rfl (fun h => absurd h (by decide)) (fun _ => ?_)
    refine lv_aload_n hx hb nd_CB_edge_7 rfl (lv_at hl 0 rfl) ?_
    refine lv_iload_n hx hb nd_CB_edge_8 rfl (lv_at hl 2 rfl) ?_
    by_cases hq9 : ¬ el < 0 ∧ ¬ nI n ≤ el
    · obtain ⟨el1, h_el1, rfl⟩ := sm_elem (by omega) hq9
      refine wc_V (C := nr_CB) (n := 1) hx hb hml hown htg (c_CB_isElement l D _ (q 0) (q 1) (q 2) n (nI el1) (nI 1) (fun _ => rfl) (fun h => absurd hq9 h)) tm_177 tm_174 tm_176 tp_2 tm_1 (by decide +kernel) ⟨⟨Nat.le_trans (by decide) hRf, Nat.le_trans (by decide) hRl⟩, rfl, rfl⟩ (wa_pre (hP.sub [0] rfl) hK hN) (va_recv (q0 := 0) (ci := 0) hK hP rfl rfl) rfl hl.1 rfl (Nat.le_of_ble_eq_true rfl) nd_CB_edge_9 hCS ?_
      refine wi_if_eq (tgt := 34) hx hb (by decide) nd_CB_edge_12 rfl (fun h => absurd h (by decide)) (fun _ => ?_)
      refine lv_iload_n hx hb nd_CB_edge_15 rfl (lv_at hl 3 rfl) ?_
      refine lv_bipush (v := nI 7) hx hb nd_CB_edge_16 (by decide) ?_
      by_cases hq18 : ¬ u0 < 0 ∧ ¬ nI (7) < u0
      · obtain ⟨u01, h_u01, rfl⟩ := sm_upto (by omega) hq18
        refine wc_S (n := 2) hx hb hml hown htg (c_CB_isUpTo l D _ (nI u01) (nI (7)) (nI 1) (fun _ => rfl) (fun h => absurd hq18 h)) tm_144 tm_142 tm_143 tm_1 (by decide +kernel) ⟨⟨Nat.le_trans (by decide) hRf, Nat.le_trans (by decide) hRl⟩, rfl, rfl⟩ (wa_pre wa_nil hK hN) rfl hl.1 rfl (Nat.le_of_ble_eq_true rfl) nd_CB_edge_18 hCS ?_
        refine wi_if_eq (tgt := 34) hx hb (by decide) nd_CB_edge_21 rfl (fun h => absurd h (by decide)) (fun _ => ?_)
        refine lv_iload hx hb nd_CB_edge_24 (lv_at hl 4 rfl) ?_
        refine lv_bipush (v := nI 7) hx hb nd_CB_edge_26 (by decide) ?_
        by_cases hq28 : ¬ v0 < 0 ∧ ¬ nI (7) < v0
        · obtain ⟨v01, h_v01, rfl⟩ := sm_upto (by omega) hq28
          refine wc_S (n := 2) hx hb hml hown htg (c_CB_isUpTo l D _ (nI v01) (nI (7)) (nI 1) (fun _ => rfl) (fun h => absurd hq28 h)) tm_144 tm_142 tm_143 tm_1 (by decide +kernel) ⟨⟨Nat.le_trans (by decide) hRf, Nat.le_trans (by decide) hRl⟩, rfl, rfl⟩ (wa_pre wa_nil hK hN) rfl hl.1 rfl (Nat.le_of_ble_eq_true rfl) nd_CB_edge_28 hCS ?_
          refine wi_if_ne (tgt := 36) hx hb (by decide) nd_CB_edge_31 rfl (fun _ => ?_) (fun h => absurd h (by decide))
          refine lv_aload_n hx hb nd_CB_edge_36 rfl (lv_at hl 0 rfl) ?_
          refine va_get (D := D) (C := nr_CB) (T := nt_CB) (N := 4) hx hb htg tf_CB hown hK hP 0 rfl rfl 3 (by decide) (htg _ tm_125) (fun _ h => h) rfl nd_CB_edge_37 ?_
          refine lv_iload_n hx hb nd_CB_edge_40 rfl (lv_at hl 1 rfl) ?_
          refine wi_aald (v := (a1.1 0)) hx hb hK hP 2 2 rfl rfl rfl (by omega) (by omega) (hm1) nd_CB_edge_41 ?_
          refine lv_iload_n hx hb nd_CB_edge_42 rfl (lv_at hl 2 rfl) ?_
          refine lv_iload_n hx hb nd_CB_edge_43 rfl (lv_at hl 3 rfl) ?_
          refine lv_iload hx hb nd_CB_edge_44 (lv_at hl 4 rfl) ?_
          rw [← List.append_assoc] at hP hD
          refine wd_Vi (C := nr_MA) (n := 3) (X := ([((q 0), .inr (0, [.int (nI (n)), .int (nI (2 ^ n - 1)), .ref (q 1), .ref (q 2)])), ((q 1), .inl (cI, n, .inl w)), ((q 2), .inl (cM, 2, .inr (.inr (.inr (.inr mr)))))] ++ mw_ cI cG a0 n t0)) (Y := mw_ cI cG a1 n t1) (Z := []) hx hb hml hown htg (c_MA_setEdge l D cI cG cM a1 n hn t1.1 t1.2.1 t1.2.2.1 t1.2.2.2.1 t1.2.2.2.2.1 t1.2.2.2.2.2 y.2.2 hI1 el1 u01 v01 (by omega) (by omega) (by omega) _) tm_181 tm_178 tm_179 tm_180 tm_2 (by decide +kernel) ⟨⟨Nat.le_trans (by decide) hRf, Nat.le_trans (by decide) hRl⟩, rfl, rfl⟩ hP hD hS hA hK hN (va_recv (q0 := 0) (ci := 1) hK (wm_P (X := ([((q 0), .inr (0, [.int (nI (n)), .int (nI (2 ^ n - 1)), .ref (q 1), .ref (q 2)])), ((q 1), .inl (cI, n, .inl w)), ((q 2), .inl (cM, 2, .inr (.inr (.inr (.inr mr)))))] ++ mw_ cI cG a0 n t0)) (Y := mw_ cI cG a1 n t1) (Z := []) hP).2.1 rfl rfl) rfl hl.1 rfl (Nat.le_of_ble_eq_true rfl) nd_CB_edge_46 hCS (fun v46 u46 H locs hp46 hP hD hS => ?_)
          rw [List.append_assoc] at hP hD
          have hP : va_P D cl_all ([((q 0), .inr (0, [.int (nI (n)), .int (nI (2 ^ n - 1)), .ref (q 1), .ref (q 2)])), ((q 1), .inl (cI, n, .inl w)), ((q 2), .inl (cM, 2, .inr (.inr (.inr (.inr mr)))))] ++ (mw_ cI cG a0 n t0 ++ (mw_ cI cG a1 n u46 ++ []))) H := hP
          have hD : va_D A ([((q 0), .inr (0, [.int (nI (n)), .int (nI (2 ^ n - 1)), .ref (q 1), .ref (q 2)])), ((q 1), .inl (cI, n, .inl w)), ((q 2), .inl (cM, 2, .inr (.inr (.inr (.inr mr)))))] ++ (mw_ cI cG a0 n t0 ++ (mw_ cI cG a1 n u46 ++ []))) := hD
          by_cases hkd : y.2.2.1 = 1
          · refine wi_top (hp46.1 hkd).1 ?_
            have hsp : sp_edge n y (nI (1)) (nI (el1)) (nI (u01)) (nI (v01)) = (nI 1, (y.1, y.2.1, (y.2.2.1, y.2.2.2.1, va_up y.2.2.2.2.1 el1 u01, va_up y.2.2.2.2.2.1 el1 v01, y.2.2.2.2.2.2))) := by unfold sp_edge; simp only [sw_1, sz_t h_el1 (show n < 2 ^ 31 by omega), tn_nI (show el1 < 2 ^ 31 by omega), sr_t h_u01 (show 7 < 2 ^ 31 by omega), tn_nI (show u01 < 2 ^ 31 by omega), sr_t h_v01 (show 7 < 2 ^ 31 by omega), tn_nI (show v01 < 2 ^ 31 by omega), tn_1]; simp [cb_m, cb_s, hkd]
            exact wb_zret ((w, t0, u46)) hx hb hr hk rfl hAe (by rw [hsp]; exact ⟨rfl, ⟨hI.1, hI0, (hp46.1 hkd).2⟩⟩) hP hD hS nd_CB_edge_49
          · refine wi_top (hp46.2 hkd).1 ?_
            have hsp : sp_edge n y (nI (1)) (nI (el1)) (nI (u01)) (nI (v01)) = (nI 0, y) := by unfold sp_edge; simp only [sw_1, sz_t h_el1 (show n < 2 ^ 31 by omega), tn_nI (show el1 < 2 ^ 31 by omega), sr_t h_u01 (show 7 < 2 ^ 31 by omega), tn_nI (show u01 < 2 ^ 31 by omega), sr_t h_v01 (show 7 < 2 ^ 31 by omega), tn_nI (show v01 < 2 ^ 31 by omega), tn_1]; simp [cb_m, hkd]
            exact wb_zret ((w, t0, u46)) hx hb hr hk rfl hAe (by rw [hsp]; exact ⟨rfl, ⟨hI.1, hI0, (hp46.2 hkd).2⟩⟩) hP hD hS nd_CB_edge_49
        · refine wc_S (n := 2) hx hb hml hown htg (c_CB_isUpTo l D _ v0 (nI (7)) (nI 0) (fun h => absurd h hq28) (fun _ => rfl)) tm_144 tm_142 tm_143 tm_1 (by decide +kernel) ⟨⟨Nat.le_trans (by decide) hRf, Nat.le_trans (by decide) hRl⟩, rfl, rfl⟩ (wa_pre wa_nil hK hN) rfl hl.1 rfl (Nat.le_of_ble_eq_true rfl) nd_CB_edge_28 hCS ?_
          refine wi_if_ne (tgt := 36) hx hb (by decide) nd_CB_edge_31 rfl (fun h => absurd h (by decide)) (fun _ => ?_)
          refine wi_ic hx hb (a := 0) nd_CB_edge_34 ?_
          have hsp : sp_edge n y (nI (1)) (nI (el1)) (nI (u01)) v0 = (nI 0, y) := by unfold sp_edge; simp [sr_f hq28]
          exact wb_zret ((w, t0, t1)) hx hb hr hk rfl hAe (by rw [hsp]; exact ⟨rfl, hI⟩) hP hD hS nd_CB_edge_35
      · refine wc_S (n := 2) hx hb hml hown htg (c_CB_isUpTo l D _ u0 (nI (7)) (nI 0) (fun h => absurd h hq18) (fun _ => rfl)) tm_144 tm_142 tm_143 tm_1 (by decide +kernel) ⟨⟨Nat.le_trans (by decide) hRf, Nat.le_trans (by decide) hRl⟩, rfl, rfl⟩ (wa_pre wa_nil hK hN) rfl hl.1 rfl (Nat.le_of_ble_eq_true rfl) nd_CB_edge_18 hCS ?_
        refine wi_if_eq (tgt := 34) hx hb (by decide) nd_CB_edge_21 rfl (fun _ => ?_) (fun h => absurd h (by decide))
        refine wi_ic hx hb (a := 0) nd_CB_edge_34 ?_
        have hsp : sp_edge n y (nI (1)) (nI (el1)) u0 v0 = (nI 0, y) := by unfold sp_edge; simp [sr_f hq18]
        exact wb_zret ((w, t0, t1)) hx hb hr hk rfl hAe (by rw [hsp]; exact ⟨rfl, hI⟩) hP hD hS nd_CB_edge_35
    · refine wc_V (C := nr_CB) (n := 1) hx hb hml hown htg (c_CB_isElement l D _ (q 0) (q 1) (q 2) n el (nI 0) (fun h => absurd h hq9) (fun _ => rfl)) tm_177 tm_174 tm_176 tp_2 tm_1 (by decide +kernel) ⟨⟨Nat.le_trans (by decide) hRf, Nat.le_trans (by decide) hRl⟩, rfl, rfl⟩ (wa_pre (hP.sub [0] rfl) hK hN) (va_recv (q0 := 0) (ci := 0) hK hP rfl rfl) rfl hl.1 rfl (Nat.le_of_ble_eq_true rfl) nd_CB_edge_9 hCS ?_
      refine wi_if_eq (tgt := 34) hx hb (by decide) nd_CB_edge_12 rfl (fun _ => ?_) (fun h => absurd h (by decide))
      refine wi_ic hx hb (a := 0) nd_CB_edge_34 ?_
      have hsp : sp_edge n y (nI (1)) el u0 v0 = (nI 0, y) := by unfold sp_edge; simp [sz_f hn1 (show n < 2 ^ 31 by omega) hq9]
      exact wb_zret ((w, t0, t1)) hx hb hr hk rfl hAe (by rw [hsp]; exact ⟨rfl, hI⟩) hP hD hS nd_CB_edge_35
  · refine wc_S (n := 1) hx hb hml hown htg (c_CB_isMatroid l D _ wh (nI 0) (fun h => absurd h (fun z => z.elim (fun z => hw1.1 (z.trans nI_0.symm)) hw1.2)) (fun _ => rfl)) tm_141 tm_139 tm_140 tm_1 (by decide +kernel) ⟨⟨Nat.le_trans (by decide) hRf, Nat.le_trans (by decide) hRl⟩, rfl, rfl⟩ (wa_pre wa_nil hK hN) rfl hl.1 rfl (Nat.le_of_ble_eq_true rfl) nd_CB_edge_1 hCS ?_
    refine wi_if_eq (tgt := 34) hx hb (by decide) nd_CB_edge_4 rfl (fun _ => ?_) (fun h => absurd h (by decide))
    refine wi_ic hx hb (a := 0) nd_CB_edge_34 ?_
    have hsp : sp_edge n y wh el u0 v0 = (nI 0, y) := by unfold sp_edge; simp [sw_n hw1]
    exact wb_zret ((w, t0, t1)) hx hb hr hk rfl hAe (by rw [hsp]; exact ⟨rfl, hI⟩) hP hD hS nd_CB_edge_35
theorem nd_CB_part_0 : decode nc_CB_part 0 = .ok (.iload_n 1, 1) := by decide +kernel
theorem nd_CB_part_1 : decode nc_CB_part 1 = .ok (.invokestatic 29, 3) := by decide +kernel
theorem nd_CB_part_4 : decode nc_CB_part 4 = .ok (.ifCond .eq 19, 3) := by decide +kernel
theorem nd_CB_part_7 : decode nc_CB_part 7 = .ok (.aload_n 0, 1) := by decide +kernel
theorem nd_CB_part_8 : decode nc_CB_part 8 = .ok (.iload_n 2, 1) := by decide +kernel
theorem nd_CB_part_9 : decode nc_CB_part 9 = .ok (.invokevirtual 43, 3) := by decide +kernel
theorem nd_CB_part_12 : decode nc_CB_part 12 = .ok (.ifCond .eq 11, 3) := by decide +kernel
theorem nd_CB_part_15 : decode nc_CB_part 15 = .ok (.iload_n 3, 1) := by decide +kernel
theorem nd_CB_part_16 : decode nc_CB_part 16 = .ok (.iconst 3, 1) := by decide +kernel
theorem nd_CB_part_17 : decode nc_CB_part 17 = .ok (.invokestatic 33, 3) := by decide +kernel
theorem nd_CB_part_20 : decode nc_CB_part 20 = .ok (.ifCond .ne 5, 3) := by decide +kernel
theorem nd_CB_part_23 : decode nc_CB_part 23 = .ok (.iconst 0, 1) := by decide +kernel
theorem nd_CB_part_24 : decode nc_CB_part 24 = .ok (.ireturn, 1) := by decide +kernel
theorem nd_CB_part_25 : decode nc_CB_part 25 = .ok (.aload_n 0, 1) := by decide +kernel
theorem nd_CB_part_26 : decode nc_CB_part 26 = .ok (.getfield 25, 3) := by decide +kernel
theorem nd_CB_part_29 : decode nc_CB_part 29 = .ok (.iload_n 1, 1) := by decide +kernel
theorem nd_CB_part_30 : decode nc_CB_part 30 = .ok (.aaload, 1) := by decide +kernel
theorem nd_CB_part_31 : decode nc_CB_part 31 = .ok (.iload_n 2, 1) := by decide +kernel
theorem nd_CB_part_32 : decode nc_CB_part 32 = .ok (.iload_n 3, 1) := by decide +kernel
theorem nd_CB_part_33 : decode nc_CB_part 33 = .ok (.invokevirtual 53, 3) := by decide +kernel
theorem nd_CB_part_36 : decode nc_CB_part 36 = .ok (.ireturn, 1) := by decide +kernel
set_option maxRecDepth 20000 in
theorem c_CB_part (l : Launch) (D : va_G) (cI cG cM : ClassId)  (q : Nat → Nat) (n : Nat) (hn1 : 1 ≤ n) (hn : n ≤ 10) (mr : Nat → Option Nat) (a0 a1 : ma_A) (hm0 : mr 0 = some (a0.1 0)) (hm1 : mr 1 = some (a1.1 0)) (w : Nat → Int32) (t0 t1 : ma_S) (y : cb_Y) (hI : cb_I n y (w, t0, t1)) (wh el c0 : Int32) (sz : Nat) : wb_Mi l ny_CB_part nc_CB_part 4 (some .boolean) ({ frames := 3, cells := 0, slots := 0, locals := 67 }) D (ty_all cI cG cM) (cw_ cI cG cM q n mr a0 a1 (w, t0, t1)) sz [.ref (q 0), .int (wh), .int (el), .int (c0)] (fun (v : Int32) (u : cb_S) => v = (sp_part n y wh el c0).1 ∧ cb_I n (sp_part n y wh el c0).2 u) (fun u : cb_S => cw_ cI cG cM q n mr a0 a1 u) := by
  refine wb_start (S := cb_S) (by decide) (Nat.le_of_ble_eq_true rfl) ?_
  intro p e0 s0 m below meth c ls A hx hb hr hml htg hown hk hP hK hN hl hAe hsz hD hA
  have hl : lv_has ls 4 [(0, .ref (q 0)), (1, .int (wh)), (2, .int (el)), (3, .int (c0))] := hl
  have hP : va_P D cl_all ([((q 0), .inr (0, [.int (nI (n)), .int (nI (2 ^ n - 1)), .ref (q 1), .ref (q 2)])), ((q 1), .inl (cI, n, .inl w)), ((q 2), .inl (cM, 2, .inr (.inr (.inr (.inr mr)))))] ++ (mw_ cI cG a0 n t0 ++ (mw_ cI cG a1 n t1 ++ []))) s0.heap := hP
  have hD : va_D A ([((q 0), .inr (0, [.int (nI (n)), .int (nI (2 ^ n - 1)), .ref (q 1), .ref (q 2)])), ((q 1), .inl (cI, n, .inl w)), ((q 2), .inl (cM, 2, .inr (.inr (.inr (.inr mr)))))] ++ (mw_ cI cG a0 n t0 ++ (mw_ cI cG a1 n t1 ++ []))) := hD
  have hS : va_S A s0.heap s0.heap [] := va_S.rf
  have hRf : 3 ≤ ({ frames := 3, cells := 0, slots := 0, locals := 67 } : Room).frames := Nat.le_refl _
  have hRl : 67 ≤ ({ frames := 3, cells := 0, slots := 0, locals := 67 } : Room).locals := Nat.le_refl _
  have hCS : 0 ≤ ({ frames := 3, cells := 0, slots := 0, locals := 67 } : Room).cells ∧ 0 ≤ ({ frames := 3, cells := 0, slots := 0, locals := 67 } : Room).slots := ⟨Nat.zero_le _, Nat.zero_le _⟩
  have h2n : 2 ^ n ≤ 1024 := Nat.pow_le_pow_right (by omega) hn
  have h2p : 1 ≤ 2 ^ n := Nat.one_le_two_pow
  have hI0 : ma_I n y.2.1 t0 := hI.2.1
  have hI1 : ma_I n y.2.2 t1 := hI.2.2
  refine lv_iload_n hx hb nd_CB_part_0 rfl (lv_at hl 1 rfl) ?_
  rcases sm_which wh with hw1 | hw1 | hw1
  · subst hw1
    refine wc_S (n := 1) hx hb hml hown htg (c_CB_isMatroid l D _ (nI 0) (nI 1) (fun _ => rfl) (fun h => absurd (Or.inl nI_0) h)) tm_141 tm_139 tm_140 tm_1 (by decide +kernel) ⟨⟨Nat.le_trans (by decide) hRf, Nat.le_trans (by decide) hRl⟩, rfl, rfl⟩ (wa_pre wa_nil hK hN) rfl hl.1 rfl (Nat.le_of_ble_eq_true rfl) nd_CB_part_1 hCS ?_
    refine wi_if_eq (tgt := 23) hx hb (by decide) nd_CB_part_4 rfl (fun h => absurd h (by decide)) (fun _ => ?_)
    refine lv_aload_n hx hb nd_CB_part_7 rfl (lv_at hl 0 rfl) ?_
    refine lv_iload_n hx hb nd_CB_part_8 rfl (lv_at hl 2 rfl) ?_
    by_cases hq9 : ¬ el < 0 ∧ ¬ nI n ≤ el
    · obtain ⟨el1, h_el1, rfl⟩ := sm_elem (by omega) hq9
      refine wc_V (C := nr_CB) (n := 1) hx hb hml hown htg (c_CB_isElement l D _ (q 0) (q 1) (q 2) n (nI el1) (nI 1) (fun _ => rfl) (fun h => absurd hq9 h)) tm_177 tm_174 tm_176 tp_2 tm_1 (by decide +kernel) ⟨⟨Nat.le_trans (by decide) hRf, Nat.le_trans (by decide) hRl⟩, rfl, rfl⟩ (wa_pre (hP.sub [0] rfl) hK hN) (va_recv (q0 := 0) (ci := 0) hK hP rfl rfl) rfl hl.1 rfl (Nat.le_of_ble_eq_true rfl) nd_CB_part_9 hCS ?_
      refine wi_if_eq (tgt := 23) hx hb (by decide) nd_CB_part_12 rfl (fun h => absurd h (by decide)) (fun _ => ?_)
      refine lv_iload_n hx hb nd_CB_part_15 rfl (lv_at hl 3 rfl) ?_
      refine wi_ic hx hb (a := 3) nd_CB_part_16 ?_
      by_cases hq17 : ¬ c0 < 0 ∧ ¬ nI (3) < c0
      · obtain ⟨c01, h_c01, rfl⟩ := sm_upto (by omega) hq17
        refine wc_S (n := 2) hx hb hml hown htg (c_CB_isUpTo l D _ (nI c01) (nI (3)) (nI 1) (fun _ => rfl) (fun h => absurd hq17 h)) tm_144 tm_142 tm_143 tm_1 (by decide +kernel) ⟨⟨Nat.le_trans (by decide) hRf, Nat.le_trans (by decide) hRl⟩, rfl, rfl⟩ (wa_pre wa_nil hK hN) rfl hl.1 rfl (Nat.le_of_ble_eq_true rfl) nd_CB_part_17 hCS ?_
        refine wi_if_ne (tgt := 25) hx hb (by decide) nd_CB_part_20 rfl (fun _ => ?_) (fun h => absurd h (by decide))
        refine lv_aload_n hx hb nd_CB_part_25 rfl (lv_at hl 0 rfl) ?_
        refine va_get (D := D) (C := nr_CB) (T := nt_CB) (N := 4) hx hb htg tf_CB hown hK hP 0 rfl rfl 3 (by decide) (htg _ tm_125) (fun _ h => h) rfl nd_CB_part_26 ?_
        refine lv_iload_n hx hb nd_CB_part_29 rfl (lv_at hl 1 rfl) ?_
        refine wi_aald (v := (a0.1 0)) hx hb hK hP 2 2 rfl rfl rfl (by omega) (by omega) (hm0) nd_CB_part_30 ?_
        refine lv_iload_n hx hb nd_CB_part_31 rfl (lv_at hl 2 rfl) ?_
        refine lv_iload_n hx hb nd_CB_part_32 rfl (lv_at hl 3 rfl) ?_
        refine wd_Vi (C := nr_MA) (n := 2) (X := [((q 0), .inr (0, [.int (nI (n)), .int (nI (2 ^ n - 1)), .ref (q 1), .ref (q 2)])), ((q 1), .inl (cI, n, .inl w)), ((q 2), .inl (cM, 2, .inr (.inr (.inr (.inr mr)))))]) (Y := mw_ cI cG a0 n t0) (Z := (mw_ cI cG a1 n t1 ++ [])) hx hb hml hown htg (c_MA_setClass l D cI cG cM a0 n hn t0.1 t0.2.1 t0.2.2.1 t0.2.2.2.1 t0.2.2.2.2.1 t0.2.2.2.2.2 y.2.1 hI0 el1 c01 (by omega) (by omega) _) tm_202 tm_199 tm_200 tm_201 tm_2 (by decide +kernel) ⟨⟨Nat.le_trans (by decide) hRf, Nat.le_trans (by decide) hRl⟩, rfl, rfl⟩ hP hD hS hA hK hN (va_recv (q0 := 0) (ci := 1) hK (wm_P (X := [((q 0), .inr (0, [.int (nI (n)), .int (nI (2 ^ n - 1)), .ref (q 1), .ref (q 2)])), ((q 1), .inl (cI, n, .inl w)), ((q 2), .inl (cM, 2, .inr (.inr (.inr (.inr mr)))))]) (Y := mw_ cI cG a0 n t0) (Z := (mw_ cI cG a1 n t1 ++ [])) hP).2.1 rfl rfl) rfl hl.1 rfl (Nat.le_of_ble_eq_true rfl) nd_CB_part_33 hCS (fun v33 u33 H locs hp33 hP hD hS => ?_)
        have hP : va_P D cl_all ([((q 0), .inr (0, [.int (nI (n)), .int (nI (2 ^ n - 1)), .ref (q 1), .ref (q 2)])), ((q 1), .inl (cI, n, .inl w)), ((q 2), .inl (cM, 2, .inr (.inr (.inr (.inr mr)))))] ++ (mw_ cI cG a0 n u33 ++ (mw_ cI cG a1 n t1 ++ []))) H := hP
        have hD : va_D A ([((q 0), .inr (0, [.int (nI (n)), .int (nI (2 ^ n - 1)), .ref (q 1), .ref (q 2)])), ((q 1), .inl (cI, n, .inl w)), ((q 2), .inl (cM, 2, .inr (.inr (.inr (.inr mr)))))] ++ (mw_ cI cG a0 n u33 ++ (mw_ cI cG a1 n t1 ++ []))) := hD
        by_cases hkd : y.2.1.1 = 2
        · refine wi_top (hp33.1 hkd).1 ?_
          have hsp : sp_part n y (nI (0)) (nI (el1)) (nI (c01)) = (nI 1, (y.1, (y.2.1.1, y.2.1.2.1, y.2.1.2.2.1, y.2.1.2.2.2.1, va_up y.2.1.2.2.2.2.1 el1 c01, y.2.1.2.2.2.2.2), y.2.2)) := by unfold sp_part; simp only [sw_0, sz_t h_el1 (show n < 2 ^ 31 by omega), tn_nI (show el1 < 2 ^ 31 by omega), sr_t h_c01 (show 3 < 2 ^ 31 by omega), tn_nI (show c01 < 2 ^ 31 by omega), tn_0]; simp [cb_m, cb_s, hkd]
          exact wb_zret ((w, u33, t1)) hx hb hr hk rfl hAe (by rw [hsp]; exact ⟨rfl, ⟨hI.1, (hp33.1 hkd).2, hI1⟩⟩) hP hD hS nd_CB_part_36
        · refine wi_top (hp33.2 hkd).1 ?_
          have hsp : sp_part n y (nI (0)) (nI (el1)) (nI (c01)) = (nI 0, y) := by unfold sp_part; simp only [sw_0, sz_t h_el1 (show n < 2 ^ 31 by omega), tn_nI (show el1 < 2 ^ 31 by omega), sr_t h_c01 (show 3 < 2 ^ 31 by omega), tn_nI (show c01 < 2 ^ 31 by omega), tn_0]; simp [cb_m, hkd]
          exact wb_zret ((w, u33, t1)) hx hb hr hk rfl hAe (by rw [hsp]; exact ⟨rfl, ⟨hI.1, (hp33.2 hkd).2, hI1⟩⟩) hP hD hS nd_CB_part_36
      · refine wc_S (n := 2) hx hb hml hown htg (c_CB_isUpTo l D _ c0 (nI (3)) (nI 0) (fun h => absurd h hq17) (fun _ => rfl)) tm_144 tm_142 tm_143 tm_1 (by decide +kernel) ⟨⟨Nat.le_trans (by decide) hRf, Nat.le_trans (by decide) hRl⟩, rfl, rfl⟩ (wa_pre wa_nil hK hN) rfl hl.1 rfl (Nat.le_of_ble_eq_true rfl) nd_CB_part_17 hCS ?_
        refine wi_if_ne (tgt := 25) hx hb (by decide) nd_CB_part_20 rfl (fun h => absurd h (by decide)) (fun _ => ?_)
        refine wi_ic hx hb (a := 0) nd_CB_part_23 ?_
        have hsp : sp_part n y (nI (0)) (nI (el1)) c0 = (nI 0, y) := by unfold sp_part; simp [sr_f hq17]
        exact wb_zret ((w, t0, t1)) hx hb hr hk rfl hAe (by rw [hsp]; exact ⟨rfl, hI⟩) hP hD hS nd_CB_part_24
    · refine wc_V (C := nr_CB) (n := 1) hx hb hml hown htg (c_CB_isElement l D _ (q 0) (q 1) (q 2) n el (nI 0) (fun h => absurd h hq9) (fun _ => rfl)) tm_177 tm_174 tm_176 tp_2 tm_1 (by decide +kernel) ⟨⟨Nat.le_trans (by decide) hRf, Nat.le_trans (by decide) hRl⟩, rfl, rfl⟩ (wa_pre (hP.sub [0] rfl) hK hN) (va_recv (q0 := 0) (ci := 0) hK hP rfl rfl) rfl hl.1 rfl (Nat.le_of_ble_eq_true rfl) nd_CB_part_9 hCS ?_
      refine wi_if_eq (tgt := 23) hx hb (by decide) nd_CB_part_12 rfl (fun _ => ?_) (fun h => absurd h (by decide))
      refine wi_ic hx hb (a := 0) nd_CB_part_23 ?_
      have hsp : sp_part n y (nI (0)) el c0 = (nI 0, y) := by unfold sp_part; simp [sz_f hn1 (show n < 2 ^ 31 by omega) hq9]
      exact wb_zret ((w, t0, t1)) hx hb hr hk rfl hAe (by rw [hsp]; exact ⟨rfl, hI⟩) hP hD hS nd_CB_part_24
  · subst hw1
    refine wc_S (n := 1) hx hb hml hown htg (c_CB_isMatroid l D _ (nI 1) (nI 1) (fun _ => rfl) (fun h => absurd (Or.inr rfl) h)) tm_141 tm_139 tm_140 tm_1 (by decide +kernel) ⟨⟨Nat.le_trans (by decide) hRf, Nat.le_trans (by decide) hRl⟩, rfl, rfl⟩ (wa_pre wa_nil hK hN) rfl hl.1 rfl (Nat.le_of_ble_eq_true rfl) nd_CB_part_1 hCS ?_
    refine wi_if_eq (tgt := 23) hx hb (by decide) nd_CB_part_4 rfl (fun h => absurd h (by decide)) (fun _ => ?_)
    refine lv_aload_n hx hb nd_CB_part_7 rfl (lv_at hl 0 rfl) ?_
    refine lv_iload_n hx hb nd_CB_part_8 rfl (lv_at hl 2 rfl) ?_
    by_cases hq9 : ¬ el < 0 ∧ ¬ nI n ≤ el
    · obtain ⟨el1, h_el1, rfl⟩ := sm_elem (by omega) hq9
      refine wc_V (C := nr_CB) (n := 1) hx hb hml hown htg (c_CB_isElement l D _ (q 0) (q 1) (q 2) n (nI el1) (nI 1) (fun _ => rfl) (fun h => absurd hq9 h)) tm_177 tm_174 tm_176 tp_2 tm_1 (by decide +kernel) ⟨⟨Nat.le_trans (by decide) hRf, Nat.le_trans (by decide) hRl⟩, rfl, rfl⟩ (wa_pre (hP.sub [0] rfl) hK hN) (va_recv (q0 := 0) (ci := 0) hK hP rfl rfl) rfl hl.1 rfl (Nat.le_of_ble_eq_true rfl) nd_CB_part_9 hCS ?_
      refine wi_if_eq (tgt := 23) hx hb (by decide) nd_CB_part_12 rfl (fun h => absurd h (by decide)) (fun _ => ?_)
      refine lv_iload_n hx hb nd_CB_part_15 rfl (lv_at hl 3 rfl) ?_
      refine wi_ic hx hb (a := 3) nd_CB_part_16 ?_
      by_cases hq17 : ¬ c0 < 0 ∧ ¬ nI (3) < c0
      · obtain ⟨c01, h_c01, rfl⟩ := sm_upto (by omega) hq17
        refine wc_S (n := 2) hx hb hml hown htg (c_CB_isUpTo l D _ (nI c01) (nI (3)) (nI 1) (fun _ => rfl) (fun h => absurd hq17 h)) tm_144 tm_142 tm_143 tm_1 (by decide +kernel) ⟨⟨Nat.le_trans (by decide) hRf, Nat.le_trans (by decide) hRl⟩, rfl, rfl⟩ (wa_pre wa_nil hK hN) rfl hl.1 rfl (Nat.le_of_ble_eq_true rfl) nd_CB_part_17 hCS ?_
        refine wi_if_ne (tgt := 25) hx hb (by decide) nd_CB_part_20 rfl (fun _ => ?_) (fun h => absurd h (by decide))
        refine lv_aload_n hx hb nd_CB_part_25 rfl (lv_at hl 0 rfl) ?_
        refine va_get (D := D) (C := nr_CB) (T := nt_CB) (N := 4) hx hb htg tf_CB hown hK hP 0 rfl rfl 3 (by decide) (htg _ tm_125) (fun _ h => h) rfl nd_CB_part_26 ?_
        refine lv_iload_n hx hb nd_CB_part_29 rfl (lv_at hl 1 rfl) ?_
        refine wi_aald (v := (a1.1 0)) hx hb hK hP 2 2 rfl rfl rfl (by omega) (by omega) (hm1) nd_CB_part_30 ?_
        refine lv_iload_n hx hb nd_CB_part_31 rfl (lv_at hl 2 rfl) ?_
        refine lv_iload_n hx hb nd_CB_part_32 rfl (lv_at hl 3 rfl) ?_
        rw [← List.append_assoc] at hP hD
        refine wd_Vi (C := nr_MA) (n := 2) (X := ([((q 0), .inr (0, [.int (nI (n)), .int (nI (2 ^ n - 1)), .ref (q 1), .ref (q 2)])), ((q 1), .inl (cI, n, .inl w)), ((q 2), .inl (cM, 2, .inr (.inr (.inr (.inr mr)))))] ++ mw_ cI cG a0 n t0)) (Y := mw_ cI cG a1 n t1) (Z := []) hx hb hml hown htg (c_MA_setClass l D cI cG cM a1 n hn t1.1 t1.2.1 t1.2.2.1 t1.2.2.2.1 t1.2.2.2.2.1 t1.2.2.2.2.2 y.2.2 hI1 el1 c01 (by omega) (by omega) _) tm_202 tm_199 tm_200 tm_201 tm_2 (by decide +kernel) ⟨⟨Nat.le_trans (by decide) hRf, Nat.le_trans (by decide) hRl⟩, rfl, rfl⟩ hP hD hS hA hK hN (va_recv (q0 := 0) (ci := 1) hK (wm_P (X := ([((q 0), .inr (0, [.int (nI (n)), .int (nI (2 ^ n - 1)), .ref (q 1), .ref (q 2)])), ((q 1), .inl (cI, n, .inl w)), ((q 2), .inl (cM, 2, .inr (.inr (.inr (.inr mr)))))] ++ mw_ cI cG a0 n t0)) (Y := mw_ cI cG a1 n t1) (Z := []) hP).2.1 rfl rfl) rfl hl.1 rfl (Nat.le_of_ble_eq_true rfl) nd_CB_part_33 hCS (fun v33 u33 H locs hp33 hP hD hS => ?_)
        rw [List.append_assoc] at hP hD
        have hP : va_P D cl_all ([((q 0), .inr (0, [.int (nI (n)), .int (nI (2 ^ n - 1)), .ref (q 1), .ref (q 2)])), ((q 1), .inl (cI, n, .inl w)), ((q 2), .inl (cM, 2, .inr (.inr (.inr (.inr mr)))))] ++ (mw_ cI cG a0 n t0 ++ (mw_ cI cG a1 n u33 ++ []))) H := hP
        have hD : va_D A ([((q 0), .inr (0, [.int (nI (n)), .int (nI (2 ^ n - 1)), .ref (q 1), .ref (q 2)])), ((q 1), .inl (cI, n, .inl w)), ((q 2), .inl (cM, 2, .inr (.inr (.inr (.inr mr)))))] ++ (mw_ cI cG a0 n t0 ++ (mw_ cI cG a1 n u33 ++ []))) := hD
        by_cases hkd : y.2.2.1 = 2
        · refine wi_top (hp33.1 hkd).1 ?_
          have hsp : sp_part n y (nI (1)) (nI (el1)) (nI (c01)) = (nI 1, (y.1, y.2.1, (y.2.2.1, y.2.2.2.1, y.2.2.2.2.1, y.2.2.2.2.2.1, va_up y.2.2.2.2.2.2.1 el1 c01, y.2.2.2.2.2.2.2))) := by unfold sp_part; simp only [sw_1, sz_t h_el1 (show n < 2 ^ 31 by omega), tn_nI (show el1 < 2 ^ 31 by omega), sr_t h_c01 (show 3 < 2 ^ 31 by omega), tn_nI (show c01 < 2 ^ 31 by omega), tn_1]; simp [cb_m, cb_s, hkd]
          exact wb_zret ((w, t0, u33)) hx hb hr hk rfl hAe (by rw [hsp]; exact ⟨rfl, ⟨hI.1, hI0, (hp33.1 hkd).2⟩⟩) hP hD hS nd_CB_part_36
        · refine wi_top (hp33.2 hkd).1 ?_
          have hsp : sp_part n y (nI (1)) (nI (el1)) (nI (c01)) = (nI 0, y) := by unfold sp_part; simp only [sw_1, sz_t h_el1 (show n < 2 ^ 31 by omega), tn_nI (show el1 < 2 ^ 31 by omega), sr_t h_c01 (show 3 < 2 ^ 31 by omega), tn_nI (show c01 < 2 ^ 31 by omega), tn_1]; simp [cb_m, hkd]
          exact wb_zret ((w, t0, u33)) hx hb hr hk rfl hAe (by rw [hsp]; exact ⟨rfl, ⟨hI.1, hI0, (hp33.2 hkd).2⟩⟩) hP hD hS nd_CB_part_36
      · refine wc_S (n := 2) hx hb hml hown htg (c_CB_isUpTo l D _ c0 (nI (3)) (nI 0) (fun h => absurd h hq17) (fun _ => rfl)) tm_144 tm_142 tm_143 tm_1 (by decide +kernel) ⟨⟨Nat.le_trans (by decide) hRf, Nat.le_trans (by decide) hRl⟩, rfl, rfl⟩ (wa_pre wa_nil hK hN) rfl hl.1 rfl (Nat.le_of_ble_eq_true rfl) nd_CB_part_17 hCS ?_
        refine wi_if_ne (tgt := 25) hx hb (by decide) nd_CB_part_20 rfl (fun h => absurd h (by decide)) (fun _ => ?_)
        refine wi_ic hx hb (a := 0) nd_CB_part_23 ?_
        have hsp : sp_part n y (nI (1)) (nI (el1)) c0 = (nI 0, y) := by unfold sp_part; simp [sr_f hq17]
        exact wb_zret ((w, t0, t1)) hx hb hr hk rfl hAe (by rw [hsp]; exact ⟨rfl, hI⟩) hP hD hS nd_CB_part_24
    · refine wc_V (C := nr_CB) (n := 1) hx hb hml hown htg (c_CB_isElement l D _ (q 0) (q 1) (q 2) n el (nI 0) (fun h => absurd h hq9) (fun _ => rfl)) tm_177 tm_174 tm_176 tp_2 tm_1 (by decide +kernel) ⟨⟨Nat.le_trans (by decide) hRf, Nat.le_trans (by decide) hRl⟩, rfl, rfl⟩ (wa_pre (hP.sub [0] rfl) hK hN) (va_recv (q0 := 0) (ci := 0) hK hP rfl rfl) rfl hl.1 rfl (Nat.le_of_ble_eq_true rfl) nd_CB_part_9 hCS ?_
      refine wi_if_eq (tgt := 23) hx hb (by decide) nd_CB_part_12 rfl (fun _ => ?_) (fun h => absurd h (by decide))
      refine wi_ic hx hb (a := 0) nd_CB_part_23 ?_
      have hsp : sp_part n y (nI (1)) el c0 = (nI 0, y) := by unfold sp_part; simp [sz_f hn1 (show n < 2 ^ 31 by omega) hq9]
      exact wb_zret ((w, t0, t1)) hx hb hr hk rfl hAe (by rw [hsp]; exact ⟨rfl, hI⟩) hP hD hS nd_CB_part_24
  · refine wc_S (n := 1) hx hb hml hown htg (c_CB_isMatroid l D _ wh (nI 0) (fun h => absurd h (fun z => z.elim (fun z => hw1.1 (z.trans nI_0.symm)) hw1.2)) (fun _ => rfl)) tm_141 tm_139 tm_140 tm_1 (by decide +kernel) ⟨⟨Nat.le_trans (by decide) hRf, Nat.le_trans (by decide) hRl⟩, rfl, rfl⟩ (wa_pre wa_nil hK hN) rfl hl.1 rfl (Nat.le_of_ble_eq_true rfl) nd_CB_part_1 hCS ?_
    refine wi_if_eq (tgt := 23) hx hb (by decide) nd_CB_part_4 rfl (fun _ => ?_) (fun h => absurd h (by decide))
    refine wi_ic hx hb (a := 0) nd_CB_part_23 ?_
    have hsp : sp_part n y wh el c0 = (nI 0, y) := by unfold sp_part; simp [sw_n hw1]
    exact wb_zret ((w, t0, t1)) hx hb hr hk rfl hAe (by rw [hsp]; exact ⟨rfl, hI⟩) hP hD hS nd_CB_part_24
theorem nd_CB_cap_0 : decode nc_CB_cap 0 = .ok (.iload_n 1, 1) := by decide +kernel
theorem nd_CB_cap_1 : decode nc_CB_cap 1 = .ok (.invokestatic 29, 3) := by decide +kernel
theorem nd_CB_cap_4 : decode nc_CB_cap 4 = .ok (.ifCond .eq 20, 3) := by decide +kernel
theorem nd_CB_cap_7 : decode nc_CB_cap 7 = .ok (.iload_n 2, 1) := by decide +kernel
theorem nd_CB_cap_8 : decode nc_CB_cap 8 = .ok (.iconst 3, 1) := by decide +kernel
theorem nd_CB_cap_9 : decode nc_CB_cap 9 = .ok (.invokestatic 33, 3) := by decide +kernel
theorem nd_CB_cap_12 : decode nc_CB_cap 12 = .ok (.ifCond .eq 12, 3) := by decide +kernel
theorem nd_CB_cap_15 : decode nc_CB_cap 15 = .ok (.iload_n 3, 1) := by decide +kernel
theorem nd_CB_cap_16 : decode nc_CB_cap 16 = .ok (.bipush 10, 2) := by decide +kernel
theorem nd_CB_cap_18 : decode nc_CB_cap 18 = .ok (.invokestatic 33, 3) := by decide +kernel
theorem nd_CB_cap_21 : decode nc_CB_cap 21 = .ok (.ifCond .ne 5, 3) := by decide +kernel
theorem nd_CB_cap_24 : decode nc_CB_cap 24 = .ok (.iconst 0, 1) := by decide +kernel
theorem nd_CB_cap_25 : decode nc_CB_cap 25 = .ok (.ireturn, 1) := by decide +kernel
theorem nd_CB_cap_26 : decode nc_CB_cap 26 = .ok (.aload_n 0, 1) := by decide +kernel
theorem nd_CB_cap_27 : decode nc_CB_cap 27 = .ok (.getfield 25, 3) := by decide +kernel
theorem nd_CB_cap_30 : decode nc_CB_cap 30 = .ok (.iload_n 1, 1) := by decide +kernel
theorem nd_CB_cap_31 : decode nc_CB_cap 31 = .ok (.aaload, 1) := by decide +kernel
theorem nd_CB_cap_32 : decode nc_CB_cap 32 = .ok (.iload_n 2, 1) := by decide +kernel
theorem nd_CB_cap_33 : decode nc_CB_cap 33 = .ok (.iload_n 3, 1) := by decide +kernel
theorem nd_CB_cap_34 : decode nc_CB_cap 34 = .ok (.invokevirtual 56, 3) := by decide +kernel
theorem nd_CB_cap_37 : decode nc_CB_cap 37 = .ok (.ireturn, 1) := by decide +kernel
set_option maxRecDepth 20000 in
theorem c_CB_cap (l : Launch) (D : va_G) (cI cG cM : ClassId)  (q : Nat → Nat) (n : Nat) (hn1 : 1 ≤ n) (hn : n ≤ 10) (mr : Nat → Option Nat) (a0 a1 : ma_A) (hm0 : mr 0 = some (a0.1 0)) (hm1 : mr 1 = some (a1.1 0)) (w : Nat → Int32) (t0 t1 : ma_S) (y : cb_Y) (hI : cb_I n y (w, t0, t1)) (wh c0 k0 : Int32) (sz : Nat) : wb_Mi l ny_CB_cap nc_CB_cap 4 (some .boolean) ({ frames := 3, cells := 0, slots := 0, locals := 67 }) D (ty_all cI cG cM) (cw_ cI cG cM q n mr a0 a1 (w, t0, t1)) sz [.ref (q 0), .int (wh), .int (c0), .int (k0)] (fun (v : Int32) (u : cb_S) => v = (sp_cap y wh c0 k0).1 ∧ cb_I n (sp_cap y wh c0 k0).2 u) (fun u : cb_S => cw_ cI cG cM q n mr a0 a1 u) := by
  refine wb_start (S := cb_S) (by decide) (Nat.le_of_ble_eq_true rfl) ?_
  intro p e0 s0 m below meth c ls A hx hb hr hml htg hown hk hP hK hN hl hAe hsz hD hA
  have hl : lv_has ls 4 [(0, .ref (q 0)), (1, .int (wh)), (2, .int (c0)), (3, .int (k0))] := hl
  have hP : va_P D cl_all ([((q 0), .inr (0, [.int (nI (n)), .int (nI (2 ^ n - 1)), .ref (q 1), .ref (q 2)])), ((q 1), .inl (cI, n, .inl w)), ((q 2), .inl (cM, 2, .inr (.inr (.inr (.inr mr)))))] ++ (mw_ cI cG a0 n t0 ++ (mw_ cI cG a1 n t1 ++ []))) s0.heap := hP
  have hD : va_D A ([((q 0), .inr (0, [.int (nI (n)), .int (nI (2 ^ n - 1)), .ref (q 1), .ref (q 2)])), ((q 1), .inl (cI, n, .inl w)), ((q 2), .inl (cM, 2, .inr (.inr (.inr (.inr mr)))))] ++ (mw_ cI cG a0 n t0 ++ (mw_ cI cG a1 n t1 ++ []))) := hD
  have hS : va_S A s0.heap s0.heap [] := va_S.rf
  have hRf : 3 ≤ ({ frames := 3, cells := 0, slots := 0, locals := 67 } : Room).frames := Nat.le_refl _
  have hRl : 67 ≤ ({ frames := 3, cells := 0, slots := 0, locals := 67 } : Room).locals := Nat.le_refl _
  have hCS : 0 ≤ ({ frames := 3, cells := 0, slots := 0, locals := 67 } : Room).cells ∧ 0 ≤ ({ frames := 3, cells := 0, slots := 0, locals := 67 } : Room).slots := ⟨Nat.zero_le _, Nat.zero_le _⟩
  have h2n : 2 ^ n ≤ 1024 := Nat.pow_le_pow_right (by omega) hn
  have h2p : 1 ≤ 2 ^ n := Nat.one_le_two_pow
  have hI0 : ma_I n y.2.1 t0 := hI.2.1
  have hI1 : ma_I n y.2.2 t1 := hI.2.2
  refine lv_iload_n hx hb nd_CB_cap_0 rfl (lv_at hl 1 rfl) ?_
  rcases sm_which wh with hw1 | hw1 | hw1
  · subst hw1
    refine wc_S (n := 1) hx hb hml hown htg (c_CB_isMatroid l D _ (nI 0) (nI 1) (fun _ => rfl) (fun h => absurd (Or.inl nI_0) h)) tm_141 tm_139 tm_140 tm_1 (by decide +kernel) ⟨⟨Nat.le_trans (by decide) hRf, Nat.le_trans (by decide) hRl⟩, rfl, rfl⟩ (wa_pre wa_nil hK hN) rfl hl.1 rfl (Nat.le_of_ble_eq_true rfl) nd_CB_cap_1 hCS ?_
    refine wi_if_eq (tgt := 24) hx hb (by decide) nd_CB_cap_4 rfl (fun h => absurd h (by decide)) (fun _ => ?_)
    refine lv_iload_n hx hb nd_CB_cap_7 rfl (lv_at hl 2 rfl) ?_
    refine wi_ic hx hb (a := 3) nd_CB_cap_8 ?_
    by_cases hq9 : ¬ c0 < 0 ∧ ¬ nI (3) < c0
    · obtain ⟨c01, h_c01, rfl⟩ := sm_upto (by omega) hq9
      refine wc_S (n := 2) hx hb hml hown htg (c_CB_isUpTo l D _ (nI c01) (nI (3)) (nI 1) (fun _ => rfl) (fun h => absurd hq9 h)) tm_144 tm_142 tm_143 tm_1 (by decide +kernel) ⟨⟨Nat.le_trans (by decide) hRf, Nat.le_trans (by decide) hRl⟩, rfl, rfl⟩ (wa_pre wa_nil hK hN) rfl hl.1 rfl (Nat.le_of_ble_eq_true rfl) nd_CB_cap_9 hCS ?_
      refine wi_if_eq (tgt := 24) hx hb (by decide) nd_CB_cap_12 rfl (fun h => absurd h (by decide)) (fun _ => ?_)
      refine lv_iload_n hx hb nd_CB_cap_15 rfl (lv_at hl 3 rfl) ?_
      refine lv_bipush (v := nI 10) hx hb nd_CB_cap_16 (by decide) ?_
      by_cases hq18 : ¬ k0 < 0 ∧ ¬ nI (10) < k0
      · obtain ⟨k01, h_k01, rfl⟩ := sm_upto (by omega) hq18
        refine wc_S (n := 2) hx hb hml hown htg (c_CB_isUpTo l D _ (nI k01) (nI (10)) (nI 1) (fun _ => rfl) (fun h => absurd hq18 h)) tm_144 tm_142 tm_143 tm_1 (by decide +kernel) ⟨⟨Nat.le_trans (by decide) hRf, Nat.le_trans (by decide) hRl⟩, rfl, rfl⟩ (wa_pre wa_nil hK hN) rfl hl.1 rfl (Nat.le_of_ble_eq_true rfl) nd_CB_cap_18 hCS ?_
        refine wi_if_ne (tgt := 26) hx hb (by decide) nd_CB_cap_21 rfl (fun _ => ?_) (fun h => absurd h (by decide))
        refine lv_aload_n hx hb nd_CB_cap_26 rfl (lv_at hl 0 rfl) ?_
        refine va_get (D := D) (C := nr_CB) (T := nt_CB) (N := 4) hx hb htg tf_CB hown hK hP 0 rfl rfl 3 (by decide) (htg _ tm_125) (fun _ h => h) rfl nd_CB_cap_27 ?_
        refine lv_iload_n hx hb nd_CB_cap_30 rfl (lv_at hl 1 rfl) ?_
        refine wi_aald (v := (a0.1 0)) hx hb hK hP 2 2 rfl rfl rfl (by omega) (by omega) (hm0) nd_CB_cap_31 ?_
        refine lv_iload_n hx hb nd_CB_cap_32 rfl (lv_at hl 2 rfl) ?_
        refine lv_iload_n hx hb nd_CB_cap_33 rfl (lv_at hl 3 rfl) ?_
        refine wd_Vi (C := nr_MA) (n := 2) (X := [((q 0), .inr (0, [.int (nI (n)), .int (nI (2 ^ n - 1)), .ref (q 1), .ref (q 2)])), ((q 1), .inl (cI, n, .inl w)), ((q 2), .inl (cM, 2, .inr (.inr (.inr (.inr mr)))))]) (Y := mw_ cI cG a0 n t0) (Z := (mw_ cI cG a1 n t1 ++ [])) hx hb hml hown htg (c_MA_setCap l D cI cG cM a0 n hn t0.1 t0.2.1 t0.2.2.1 t0.2.2.2.1 t0.2.2.2.2.1 t0.2.2.2.2.2 y.2.1 hI0 c01 k01 (by omega) (by omega) _) tm_210 tm_207 tm_208 tm_209 tm_2 (by decide +kernel) ⟨⟨Nat.le_trans (by decide) hRf, Nat.le_trans (by decide) hRl⟩, rfl, rfl⟩ hP hD hS hA hK hN (va_recv (q0 := 0) (ci := 1) hK (wm_P (X := [((q 0), .inr (0, [.int (nI (n)), .int (nI (2 ^ n - 1)), .ref (q 1), .ref (q 2)])), ((q 1), .inl (cI, n, .inl w)), ((q 2), .inl (cM, 2, .inr (.inr (.inr (.inr mr)))))]) (Y := mw_ cI cG a0 n t0) (Z := (mw_ cI cG a1 n t1 ++ [])) hP).2.1 rfl rfl) rfl hl.1 rfl (Nat.le_of_ble_eq_true rfl) nd_CB_cap_34 hCS (fun v34 u34 H locs hp34 hP hD hS => ?_)
        have hP : va_P D cl_all ([((q 0), .inr (0, [.int (nI (n)), .int (nI (2 ^ n - 1)), .ref (q 1), .ref (q 2)])), ((q 1), .inl (cI, n, .inl w)), ((q 2), .inl (cM, 2, .inr (.inr (.inr (.inr mr)))))] ++ (mw_ cI cG a0 n u34 ++ (mw_ cI cG a1 n t1 ++ []))) H := hP
        have hD : va_D A ([((q 0), .inr (0, [.int (nI (n)), .int (nI (2 ^ n - 1)), .ref (q 1), .ref (q 2)])), ((q 1), .inl (cI, n, .inl w)), ((q 2), .inl (cM, 2, .inr (.inr (.inr (.inr mr)))))] ++ (mw_ cI cG a0 n u34 ++ (mw_ cI cG a1 n t1 ++ []))) := hD
        by_cases hkd : y.2.1.1 = 2
        · refine wi_top (hp34.1 hkd).1 ?_
          have hsp : sp_cap y (nI (0)) (nI (c01)) (nI (k01)) = (nI 1, (y.1, (y.2.1.1, y.2.1.2.1, y.2.1.2.2.1, y.2.1.2.2.2.1, y.2.1.2.2.2.2.1, va_up y.2.1.2.2.2.2.2.1 c01 k01, y.2.1.2.2.2.2.2.2), y.2.2)) := by unfold sp_cap; simp only [sw_0, sr_t h_c01 (show 3 < 2 ^ 31 by omega), tn_nI (show c01 < 2 ^ 31 by omega), sr_t h_k01 (show 10 < 2 ^ 31 by omega), tn_nI (show k01 < 2 ^ 31 by omega), tn_0]; simp [cb_m, cb_s, hkd]
          exact wb_zret ((w, u34, t1)) hx hb hr hk rfl hAe (by rw [hsp]; exact ⟨rfl, ⟨hI.1, (hp34.1 hkd).2, hI1⟩⟩) hP hD hS nd_CB_cap_37
        · refine wi_top (hp34.2 hkd).1 ?_
          have hsp : sp_cap y (nI (0)) (nI (c01)) (nI (k01)) = (nI 0, y) := by unfold sp_cap; simp only [sw_0, sr_t h_c01 (show 3 < 2 ^ 31 by omega), tn_nI (show c01 < 2 ^ 31 by omega), sr_t h_k01 (show 10 < 2 ^ 31 by omega), tn_nI (show k01 < 2 ^ 31 by omega), tn_0]; simp [cb_m, hkd]
          exact wb_zret ((w, u34, t1)) hx hb hr hk rfl hAe (by rw [hsp]; exact ⟨rfl, ⟨hI.1, (hp34.2 hkd).2, hI1⟩⟩) hP hD hS nd_CB_cap_37
      · refine wc_S (n := 2) hx hb hml hown htg (c_CB_isUpTo l D _ k0 (nI (10)) (nI 0) (fun h => absurd h hq18) (fun _ => rfl)) tm_144 tm_142 tm_143 tm_1 (by decide +kernel) ⟨⟨Nat.le_trans (by decide) hRf, Nat.le_trans (by decide) hRl⟩, rfl, rfl⟩ (wa_pre wa_nil hK hN) rfl hl.1 rfl (Nat.le_of_ble_eq_true rfl) nd_CB_cap_18 hCS ?_
        refine wi_if_ne (tgt := 26) hx hb (by decide) nd_CB_cap_21 rfl (fun h => absurd h (by decide)) (fun _ => ?_)
        refine wi_ic hx hb (a := 0) nd_CB_cap_24 ?_
        have hsp : sp_cap y (nI (0)) (nI (c01)) k0 = (nI 0, y) := by unfold sp_cap; simp [sr_f hq18]
        exact wb_zret ((w, t0, t1)) hx hb hr hk rfl hAe (by rw [hsp]; exact ⟨rfl, hI⟩) hP hD hS nd_CB_cap_25
    · refine wc_S (n := 2) hx hb hml hown htg (c_CB_isUpTo l D _ c0 (nI (3)) (nI 0) (fun h => absurd h hq9) (fun _ => rfl)) tm_144 tm_142 tm_143 tm_1 (by decide +kernel) ⟨⟨Nat.le_trans (by decide) hRf, Nat.le_trans (by decide) hRl⟩, rfl, rfl⟩ (wa_pre wa_nil hK hN) rfl hl.1 rfl (Nat.le_of_ble_eq_true rfl) nd_CB_cap_9 hCS ?_
      refine wi_if_eq (tgt := 24) hx hb (by decide) nd_CB_cap_12 rfl (fun _ => ?_) (fun h => absurd h (by decide))
      refine wi_ic hx hb (a := 0) nd_CB_cap_24 ?_
      have hsp : sp_cap y (nI (0)) c0 k0 = (nI 0, y) := by unfold sp_cap; simp [sr_f hq9]
      exact wb_zret ((w, t0, t1)) hx hb hr hk rfl hAe (by rw [hsp]; exact ⟨rfl, hI⟩) hP hD hS nd_CB_cap_25
  · subst hw1
    refine wc_S (n := 1) hx hb hml hown htg (c_CB_isMatroid l D _ (nI 1) (nI 1) (fun _ => rfl) (fun h => absurd (Or.inr rfl) h)) tm_141 tm_139 tm_140 tm_1 (by decide +kernel) ⟨⟨Nat.le_trans (by decide) hRf, Nat.le_trans (by decide) hRl⟩, rfl, rfl⟩ (wa_pre wa_nil hK hN) rfl hl.1 rfl (Nat.le_of_ble_eq_true rfl) nd_CB_cap_1 hCS ?_
    refine wi_if_eq (tgt := 24) hx hb (by decide) nd_CB_cap_4 rfl (fun h => absurd h (by decide)) (fun _ => ?_)
    refine lv_iload_n hx hb nd_CB_cap_7 rfl (lv_at hl 2 rfl) ?_
    refine wi_ic hx hb (a := 3) nd_CB_cap_8 ?_
    by_cases hq9 : ¬ c0 < 0 ∧ ¬ nI (3) < c0
    · obtain ⟨c01, h_c01, rfl⟩ := sm_upto (by omega) hq9
      refine wc_S (n := 2) hx hb hml hown htg (c_CB_isUpTo l D _ (nI c01) (nI (3)) (nI 1) (fun _ => rfl) (fun h => absurd hq9 h)) tm_144 tm_142 tm_143 tm_1 (by decide +kernel) ⟨⟨Nat.le_trans (by decide) hRf, Nat.le_trans (by decide) hRl⟩, rfl, rfl⟩ (wa_pre wa_nil hK hN) rfl hl.1 rfl (Nat.le_of_ble_eq_true rfl) nd_CB_cap_9 hCS ?_
      refine wi_if_eq (tgt := 24) hx hb (by decide) nd_CB_cap_12 rfl (fun h => absurd h (by decide)) (fun _ => ?_)
      refine lv_iload_n hx hb nd_CB_cap_15 rfl (lv_at hl 3 rfl) ?_
      refine lv_bipush (v := nI 10) hx hb nd_CB_cap_16 (by decide) ?_
      by_cases hq18 : ¬ k0 < 0 ∧ ¬ nI (10) < k0
      · obtain ⟨k01, h_k01, rfl⟩ := sm_upto (by omega) hq18
        refine wc_S (n := 2) hx hb hml hown htg (c_CB_isUpTo l D _ (nI k01) (nI (10)) (nI 1) (fun _ => rfl) (fun h => absurd hq18 h)) tm_144 tm_142 tm_143 tm_1 (by decide +kernel) ⟨⟨Nat.le_trans (by decide) hRf, Nat.le_trans (by decide) hRl⟩, rfl, rfl⟩ (wa_pre wa_nil hK hN) rfl hl.1 rfl (Nat.le_of_ble_eq_true rfl) nd_CB_cap_18 hCS ?_
        refine wi_if_ne (tgt := 26) hx hb (by decide) nd_CB_cap_21 rfl (fun _ => ?_) (fun h => absurd h (by decide))
        refine lv_aload_n hx hb nd_CB_cap_26 rfl (lv_at hl 0 rfl) ?_
        refine va_get (D := D) (C := nr_CB) (T := nt_CB) (N := 4) hx hb htg tf_CB hown hK hP 0 rfl rfl 3 (by decide) (htg _ tm_125) (fun _ h => h) rfl nd_CB_cap_27 ?_
        refine lv_iload_n hx hb nd_CB_cap_30 rfl (lv_at hl 1 rfl) ?_
        refine wi_aald (v := (a1.1 0)) hx hb hK hP 2 2 rfl rfl rfl (by omega) (by omega) (hm1) nd_CB_cap_31 ?_
        refine lv_iload_n hx hb nd_CB_cap_32 rfl (lv_at hl 2 rfl) ?_
        refine lv_iload_n hx hb nd_CB_cap_33 rfl (lv_at hl 3 rfl) ?_
        rw [← List.append_assoc] at hP hD
        refine wd_Vi (C := nr_MA) (n := 2) (X := ([((q 0), .inr (0, [.int (nI (n)), .int (nI (2 ^ n - 1)), .ref (q 1), .ref (q 2)])), ((q 1), .inl (cI, n, .inl w)), ((q 2), .inl (cM, 2, .inr (.inr (.inr (.inr mr)))))] ++ mw_ cI cG a0 n t0)) (Y := mw_ cI cG a1 n t1) (Z := []) hx hb hml hown htg (c_MA_setCap l D cI cG cM a1 n hn t1.1 t1.2.1 t1.2.2.1 t1.2.2.2.1 t1.2.2.2.2.1 t1.2.2.2.2.2 y.2.2 hI1 c01 k01 (by omega) (by omega) _) tm_210 tm_207 tm_208 tm_209 tm_2 (by decide +kernel) ⟨⟨Nat.le_trans (by decide) hRf, Nat.le_trans (by decide) hRl⟩, rfl, rfl⟩ hP hD hS hA hK hN (va_recv (q0 := 0) (ci := 1) hK (wm_P (X := ([((q 0), .inr (0, [.int (nI (n)), .int (nI (2 ^ n - 1)), .ref (q 1), .ref (q 2)])), ((q 1), .inl (cI, n, .inl w)), ((q 2), .inl (cM, 2, .inr (.inr (.inr (.inr mr)))))] ++ mw_ cI cG a0 n t0)) (Y := mw_ cI cG a1 n t1) (Z := []) hP).2.1 rfl rfl) rfl hl.1 rfl (Nat.le_of_ble_eq_true rfl) nd_CB_cap_34 hCS (fun v34 u34 H locs hp34 hP hD hS => ?_)
        rw [List.append_assoc] at hP hD
        have hP : va_P D cl_all ([((q 0), .inr (0, [.int (nI (n)), .int (nI (2 ^ n - 1)), .ref (q 1), .ref (q 2)])), ((q 1), .inl (cI, n, .inl w)), ((q 2), .inl (cM, 2, .inr (.inr (.inr (.inr mr)))))] ++ (mw_ cI cG a0 n t0 ++ (mw_ cI cG a1 n u34 ++ []))) H := hP
        have hD : va_D A ([((q 0), .inr (0, [.int (nI (n)), .int (nI (2 ^ n - 1)), .ref (q 1), .ref (q 2)])), ((q 1), .inl (cI, n, .inl w)), ((q 2), .inl (cM, 2, .inr (.inr (.inr (.inr mr)))))] ++ (mw_ cI cG a0 n t0 ++ (mw_ cI cG a1 n u34 ++ []))) := hD
        by_cases hkd : y.2.2.1 = 2
        · refine wi_top (hp34.1 hkd).1 ?_
          have hsp : sp_cap y (nI (1)) (nI (c01)) (nI (k01)) = (nI 1, (y.1, y.2.1, (y.2.2.1, y.2.2.2.1, y.2.2.2.2.1, y.2.2.2.2.2.1, y.2.2.2.2.2.2.1, va_up y.2.2.2.2.2.2.2.1 c01 k01, y.2.2.2.2.2.2.2.2))) := by unfold sp_cap; simp only [sw_1, sr_t h_c01 (show 3 < 2 ^ 31 by omega), tn_nI (show c01 < 2 ^ 31 by omega), sr_t h_k01 (show 10 < 2 ^ 31 by omega), tn_nI (show k01 < 2 ^ 31 by omega), tn_1]; simp [cb_m, cb_s, hkd]
          exact wb_zret ((w, t0, u34)) hx hb hr hk rfl hAe (by rw [hsp]; exact ⟨rfl, ⟨hI.1, hI0, (hp34.1 hkd).2⟩⟩) hP hD hS nd_CB_cap_37
        · refine wi_top (hp34.2 hkd).1 ?_
          have hsp : sp_cap y (nI (1)) (nI (c01)) (nI (k01)) = (nI 0, y) := by unfold sp_cap; simp only [sw_1, sr_t h_c01 (show 3 < 2 ^ 31 by omega), tn_nI (show c01 < 2 ^ 31 by omega), sr_t h_k01 (show 10 < 2 ^ 31 by omega), tn_nI (show k01 < 2 ^ 31 by omega), tn_1]; simp [cb_m, hkd]
          exact wb_zret ((w, t0, u34)) hx hb hr hk rfl hAe (by rw [hsp]; exact ⟨rfl, ⟨hI.1, hI0, (hp34.2 hkd).2⟩⟩) hP hD hS nd_CB_cap_37
      · refine wc_S (n := 2) hx hb hml hown htg (c_CB_isUpTo l D _ k0 (nI (10)) (nI 0) (fun h => absurd h hq18) (fun _ => rfl)) tm_144 tm_142 tm_143 tm_1 (by decide +kernel) ⟨⟨Nat.le_trans (by decide) hRf, Nat.le_trans (by decide) hRl⟩, rfl, rfl⟩ (wa_pre wa_nil hK hN) rfl hl.1 rfl (Nat.le_of_ble_eq_true rfl) nd_CB_cap_18 hCS ?_
        refine wi_if_ne (tgt := 26) hx hb (by decide) nd_CB_cap_21 rfl (fun h => absurd h (by decide)) (fun _ => ?_)
        refine wi_ic hx hb (a := 0) nd_CB_cap_24 ?_
        have hsp : sp_cap y (nI (1)) (nI (c01)) k0 = (nI 0, y) := by unfold sp_cap; simp [sr_f hq18]
        exact wb_zret ((w, t0, t1)) hx hb hr hk rfl hAe (by rw [hsp]; exact ⟨rfl, hI⟩) hP hD hS nd_CB_cap_25
    · refine wc_S (n := 2) hx hb hml hown htg (c_CB_isUpTo l D _ c0 (nI (3)) (nI 0) (fun h => absurd h hq9) (fun _ => rfl)) tm_144 tm_142 tm_143 tm_1 (by decide +kernel) ⟨⟨Nat.le_trans (by decide) hRf, Nat.le_trans (by decide) hRl⟩, rfl, rfl⟩ (wa_pre wa_nil hK hN) rfl hl.1 rfl (Nat.le_of_ble_eq_true rfl) nd_CB_cap_9 hCS ?_
      refine wi_if_eq (tgt := 24) hx hb (by decide) nd_CB_cap_12 rfl (fun _ => ?_) (fun h => absurd h (by decide))
      refine wi_ic hx hb (a := 0) nd_CB_cap_24 ?_
      have hsp : sp_cap y (nI (1)) c0 k0 = (nI 0, y) := by unfold sp_cap; simp [sr_f hq9]
      exact wb_zret ((w, t0, t1)) hx hb hr hk rfl hAe (by rw [hsp]; exact ⟨rfl, hI⟩) hP hD hS nd_CB_cap_25
  · refine wc_S (n := 1) hx hb hml hown htg (c_CB_isMatroid l D _ wh (nI 0) (fun h => absurd h (fun z => z.elim (fun z => hw1.1 (z.trans nI_0.symm)) hw1.2)) (fun _ => rfl)) tm_141 tm_139 tm_140 tm_1 (by decide +kernel) ⟨⟨Nat.le_trans (by decide) hRf, Nat.le_trans (by decide) hRl⟩, rfl, rfl⟩ (wa_pre wa_nil hK hN) rfl hl.1 rfl (Nat.le_of_ble_eq_true rfl) nd_CB_cap_1 hCS ?_
    refine wi_if_eq (tgt := 24) hx hb (by decide) nd_CB_cap_4 rfl (fun _ => ?_) (fun h => absurd h (by decide))
    refine wi_ic hx hb (a := 0) nd_CB_cap_24 ?_
    have hsp : sp_cap y wh c0 k0 = (nI 0, y) := by unfold sp_cap; simp [sw_n hw1]
    exact wb_zret ((w, t0, t1)) hx hb hr hk rfl hAe (by rw [hsp]; exact ⟨rfl, hI⟩) hP hD hS nd_CB_cap_25
theorem nd_CB_entry_0 : decode nc_CB_entry 0 = .ok (.iload_n 1, 1) := by decide +kernel
theorem nd_CB_entry_1 : decode nc_CB_entry 1 = .ok (.invokestatic 29, 3) := by decide +kernel
theorem nd_CB_entry_4 : decode nc_CB_entry 4 = .ok (.ifCond .eq 19, 3) := by decide +kernel
theorem nd_CB_entry_7 : decode nc_CB_entry 7 = .ok (.aload_n 0, 1) := by decide +kernel
theorem nd_CB_entry_8 : decode nc_CB_entry 8 = .ok (.iload_n 2, 1) := by decide +kernel
theorem nd_CB_entry_9 : decode nc_CB_entry 9 = .ok (.invokevirtual 43, 3) := by decide +kernel
theorem nd_CB_entry_12 : decode nc_CB_entry 12 = .ok (.ifCond .eq 11, 3) := by decide +kernel
theorem nd_CB_entry_15 : decode nc_CB_entry 15 = .ok (.iload_n 3, 1) := by decide +kernel
theorem nd_CB_entry_16 : decode nc_CB_entry 16 = .ok (.iconst 3, 1) := by decide +kernel
theorem nd_CB_entry_17 : decode nc_CB_entry 17 = .ok (.invokestatic 33, 3) := by decide +kernel
theorem nd_CB_entry_20 : decode nc_CB_entry 20 = .ok (.ifCond .ne 5, 3) := by decide +kernel
theorem nd_CB_entry_23 : decode nc_CB_entry 23 = .ok (.iconst 0, 1) := by decide +kernel
theorem nd_CB_entry_24 : decode nc_CB_entry 24 = .ok (.ireturn, 1) := by decide +kernel
theorem nd_CB_entry_25 : decode nc_CB_entry 25 = .ok (.aload_n 0, 1) := by decide +kernel
theorem nd_CB_entry_26 : decode nc_CB_entry 26 = .ok (.getfield 25, 3) := by decide +kernel
theorem nd_CB_entry_29 : decode nc_CB_entry 29 = .ok (.iload_n 1, 1) := by decide +kernel
theorem nd_CB_entry_30 : decode nc_CB_entry 30 = .ok (.aaload, 1) := by decide +kernel
theorem nd_CB_entry_31 : decode nc_CB_entry 31 = .ok (.iload_n 2, 1) := by decide +kernel
theorem nd_CB_entry_32 : decode nc_CB_entry 32 = .ok (.iload_n 3, 1) := by decide +kernel
theorem nd_CB_entry_33 : decode nc_CB_entry 33 = .ok (.iload 4, 2) := by decide +kernel
theorem nd_CB_entry_35 : decode nc_CB_entry 35 = .ok (.invokevirtual 65, 3) := by decide +kernel
theorem nd_CB_entry_38 : decode nc_CB_entry 38 = .ok (.ireturn, 1) := by decide +kernel
set_option maxRecDepth 20000 in
theorem c_CB_entry (l : Launch) (D : va_G) (cI cG cM : ClassId)  (q : Nat → Nat) (n : Nat) (hn1 : 1 ≤ n) (hn : n ≤ 10) (mr : Nat → Option Nat) (a0 a1 : ma_A) (hm0 : mr 0 = some (a0.1 0)) (hm1 : mr 1 = some (a1.1 0)) (w : Nat → Int32) (t0 t1 : ma_S) (y : cb_Y) (hI : cb_I n y (w, t0, t1)) (wh el r0 v0 : Int32) (sz : Nat) : wb_Mi l ny_CB_entry nc_CB_entry 5 (some .boolean) ({ frames := 3, cells := 0, slots := 0, locals := 70 }) D (ty_all cI cG cM) (cw_ cI cG cM q n mr a0 a1 (w, t0, t1)) sz [.ref (q 0), .int (wh), .int (el), .int (r0), .int (v0)] (fun (v : Int32) (u : cb_S) => v = (sp_entry n y wh el r0 v0).1 ∧ cb_I n (sp_entry n y wh el r0 v0).2 u) (fun u : cb_S => cw_ cI cG cM q n mr a0 a1 u) := by
  refine wb_start (S := cb_S) (by decide) (Nat.le_of_ble_eq_true rfl) ?_
  intro p e0 s0 m below meth c ls A hx hb hr hml htg hown hk hP hK hN hl hAe hsz hD hA
  have hl : lv_has ls 5 [(0, .ref (q 0)), (1, .int (wh)), (2, .int (el)), (3, .int (r0)), (4, .int (v0))] := hl
  have hP : va_P D cl_all ([((q 0), .inr (0, [.int (nI (n)), .int (nI (2 ^ n - 1)), .ref (q 1), .ref (q 2)])), ((q 1), .inl (cI, n, .inl w)), ((q 2), .inl (cM, 2, .inr (.inr (.inr (.inr mr)))))] ++ (mw_ cI cG a0 n t0 ++ (mw_ cI cG a1 n t1 ++ []))) s0.heap := hP
  have hD : va_D A ([((q 0), .inr (0, [.int (nI (n)), .int (nI (2 ^ n - 1)), .ref (q 1), .ref (q 2)])), ((q 1), .inl (cI, n, .inl w)), ((q 2), .inl (cM, 2, .inr (.inr (.inr (.inr mr)))))] ++ (mw_ cI cG a0 n t0 ++ (mw_ cI cG a1 n t1 ++ []))) := hD
  have hS : va_S A s0.heap s0.heap [] := va_S.rf
  have hRf : 3 ≤ ({ frames := 3, cells := 0, slots := 0, locals := 70 } : Room).frames := Nat.le_refl _
  have hRl : 70 ≤ ({ frames := 3, cells := 0, slots := 0, locals := 70 } : Room).locals := Nat.le_refl _
  have hCS : 0 ≤ ({ frames := 3, cells := 0, slots := 0, locals := 70 } : Room).cells ∧ 0 ≤ ({ frames := 3, cells := 0, slots := 0, locals := 70 } : Room).slots := ⟨Nat.zero_le _, Nat.zero_le _⟩
  have h2n : 2 ^ n ≤ 1024 := Nat.pow_le_pow_right (by omega) hn
  have h2p : 1 ≤ 2 ^ n := Nat.one_le_two_pow
  have hI0 : ma_I n y.2.1 t0 := hI.2.1
  have hI1 : ma_I n y.2.2 t1 := hI.2.2
  refine lv_iload_n hx hb nd_CB_entry_0 rfl (lv_at hl 1 rfl) ?_
  rcases sm_which wh with hw1 | hw1 | hw1
  · subst hw1
    refine wc_S (n := 1) hx hb hml hown htg (c_CB_isMatroid l D _ (nI 0) (nI 1) (fun _ => rfl) (fun h => absurd (Or.inl nI_0) h)) tm_141 tm_139 tm_140 tm_1 (by decide +kernel) ⟨⟨Nat.le_trans (by decide) hRf, Nat.le_trans (by decide) hRl⟩, rfl, rfl⟩ (wa_pre wa_nil hK hN) rfl hl.1 rfl (Nat.le_of_ble_eq_true rfl) nd_CB_entry_1 hCS ?_
    refine wi_if_eq (tgt := 23) hx hb (by decide) nd_CB_entry_4 rfl (fun h => absurd h (by decide)) (fun _ => ?_)
    refine lv_aload_n hx hb nd_CB_entry_7 rfl (lv_at hl 0 rfl) ?_
    refine lv_iload_n hx hb nd_CB_entry_8 rfl (lv_at hl 2 rfl) ?_
    by_cases hq9 : ¬ el < 0 ∧ ¬ nI n ≤ el
    · obtain ⟨el1, h_el1, rfl⟩ := sm_elem (by omega) hq9
      refine wc_V (C := nr_CB) (n := 1) hx hb hml hown htg (c_CB_isElement l D _ (q 0) (q 1) (q 2) n (nI el1) (nI 1) (fun _ => rfl) (fun h => absurd hq9 h)) tm_177 tm_174 tm_176 tp_2 tm_1 (by decide +kernel) ⟨⟨Nat.le_trans (by decide) hRf, Nat.le_trans (by decide) hRl⟩, rfl, rfl⟩ (wa_pre (hP.sub [0] rfl) hK hN) (va_recv (q0 := 0) (ci := 0) hK hP rfl rfl) rfl hl.1 rfl (Nat.le_of_ble_eq_true rfl) nd_CB_entry_9 hCS ?_
      refine wi_if_eq (tgt := 23) hx hb (by decide) nd_CB_entry_12 rfl (fun h => absurd h (by decide)) (fun _ => ?_)
      refine lv_iload_n hx hb nd_CB_entry_15 rfl (lv_at hl 3 rfl) ?_
      refine wi_ic hx hb (a := 3) nd_CB_entry_16 ?_
      by_cases hq17 : ¬ r0 < 0 ∧ ¬ nI (3) < r0
      · obtain ⟨r01, h_r01, rfl⟩ := sm_upto (by omega) hq17
        refine wc_S (n := 2) hx hb hml hown htg (c_CB_isUpTo l D _ (nI r01) (nI (3)) (nI 1) (fun _ => rfl) (fun h => absurd hq17 h)) tm_144 tm_142 tm_143 tm_1 (by decide +kernel) ⟨⟨Nat.le_trans (by decide) hRf, Nat.le_trans (by decide) hRl⟩, rfl, rfl⟩ (wa_pre wa_nil hK hN) rfl hl.1 rfl (Nat.le_of_ble_eq_true rfl) nd_CB_entry_17 hCS ?_
        refine wi_if_ne (tgt := 25) hx hb (by decide) nd_CB_entry_20 rfl (fun _ => ?_) (fun h => absurd h (by decide))
        refine lv_aload_n hx hb nd_CB_entry_25 rfl (lv_at hl 0 rfl) ?_
        refine va_get (D := D) (C := nr_CB) (T := nt_CB) (N := 4) hx hb htg tf_CB hown hK hP 0 rfl rfl 3 (by decide) (htg _ tm_125) (fun _ h => h) rfl nd_CB_entry_26 ?_
        refine lv_iload_n hx hb nd_CB_entry_29 rfl (lv_at hl 1 rfl) ?_
        refine wi_aald (v := (a0.1 0)) hx hb hK hP 2 2 rfl rfl rfl (by omega) (by omega) (hm0) nd_CB_entry_30 ?_
        refine lv_iload_n hx hb nd_CB_entry_31 rfl (lv_at hl 2 rfl) ?_
        refine lv_iload_n hx hb nd_CB_entry_32 rfl (lv_at hl 3 rfl) ?_
        refine lv_iload hx hb nd_CB_entry_33 (lv_at hl 4 rfl) ?_
        refine wd_Vi (C := nr_MA) (n := 3) (X := [((q 0), .inr (0, [.int (nI (n)), .int (nI (2 ^ n - 1)), .ref (q 1), .ref (q 2)])), ((q 1), .inl (cI, n, .inl w)), ((q 2), .inl (cM, 2, .inr (.inr (.inr (.inr mr)))))]) (Y := mw_ cI cG a0 n t0) (Z := (mw_ cI cG a1 n t1 ++ [])) hx hb hml hown htg (c_MA_setEntry l D cI cG cM a0 n hn t0.1 t0.2.1 t0.2.2.1 t0.2.2.2.1 t0.2.2.2.2.1 t0.2.2.2.2.2 y.2.1 hI0 el1 r01 (by omega) (by omega) v0 _) tm_234 tm_231 tm_232 tm_233 tm_2 (by decide +kernel) ⟨⟨Nat.le_trans (by decide) hRf, Nat.le_trans (by decide) hRl⟩, rfl, rfl⟩ hP hD hS hA hK hN (va_recv (q0 := 0) (ci := 1) hK (wm_P (X := [((q 0), .inr (0, [.int (nI (n)), .int (nI (2 ^ n - 1)), .ref (q 1), .ref (q 2)])), ((q 1), .inl (cI, n, .inl w)), ((q 2), .inl (cM, 2, .inr (.inr (.inr (.inr mr)))))]) (Y := mw_ cI cG a0 n t0) (Z := (mw_ cI cG a1 n t1 ++ [])) hP).2.1 rfl rfl) rfl hl.1 rfl (Nat.le_of_ble_eq_true rfl) nd_CB_entry_35 hCS (fun v35 u35 H locs hp35 hP hD hS => ?_)
        have hP : va_P D cl_all ([((q 0), .inr (0, [.int (nI (n)), .int (nI (2 ^ n - 1)), .ref (q 1), .ref (q 2)])), ((q 1), .inl (cI, n, .inl w)), ((q 2), .inl (cM, 2, .inr (.inr (.inr (.inr mr)))))] ++ (mw_ cI cG a0 n u35 ++ (mw_ cI cG a1 n t1 ++ []))) H := hP
        have hD : va_D A ([((q 0), .inr (0, [.int (nI (n)), .int (nI (2 ^ n - 1)), .ref (q 1), .ref (q 2)])), ((q 1), .inl (cI, n, .inl w)), ((q 2), .inl (cM, 2, .inr (.inr (.inr (.inr mr)))))] ++ (mw_ cI cG a0 n u35 ++ (mw_ cI cG a1 n t1 ++ []))) := hD
        by_cases hkd : y.2.1.1 = 3
        · refine wi_top (hp35.1 hkd).1 ?_
          have hsp : sp_entry n y (nI (0)) (nI (el1)) (nI (r01)) v0 = (nI 1, (y.1, (y.2.1.1, y.2.1.2.1, y.2.1.2.2.1, y.2.1.2.2.2.1, y.2.1.2.2.2.2.1, y.2.1.2.2.2.2.2.1, y.2.1.2.2.2.2.2.2.1, va_up y.2.1.2.2.2.2.2.2.2 el1 (va_up (y.2.1.2.2.2.2.2.2.2 el1) r01 (fm_ v0 y.2.1.2.2.2.2.2.2.1))), y.2.2)) := by unfold sp_entry; simp only [sw_0, sz_t h_el1 (show n < 2 ^ 31 by omega), tn_nI (show el1 < 2 ^ 31 by omega), sr_t h_r01 (show 3 < 2 ^ 31 by omega), tn_nI (show r01 < 2 ^ 31 by omega), tn_0]; simp [cb_m, cb_s, hkd]
          exact wb_zret ((w, u35, t1)) hx hb hr hk rfl hAe (by rw [hsp]; exact ⟨rfl, ⟨hI.1, (hp35.1 hkd).2, hI1⟩⟩) hP hD hS nd_CB_entry_38
        · refine wi_top (hp35.2 hkd).1 ?_
          have hsp : sp_entry n y (nI (0)) (nI (el1)) (nI (r01)) v0 = (nI 0, y) := by unfold sp_entry; simp only [sw_0, sz_t h_el1 (show n < 2 ^ 31 by omega), tn_nI (show el1 < 2 ^ 31 by omega), sr_t h_r01 (show 3 < 2 ^ 31 by omega), tn_nI (show r01 < 2 ^ 31 by omega), tn_0]; simp [cb_m, hkd]
          exact wb_zret ((w, u35, t1)) hx hb hr hk rfl hAe (by rw [hsp]; exact ⟨rfl, ⟨hI.1, (hp35.2 hkd).2, hI1⟩⟩) hP hD hS nd_CB_entry_38
      · refine wc_S (n := 2) hx hb hml hown htg (c_CB_isUpTo l D _ r0 (nI (3)) (nI 0) (fun h => absurd h hq17) (fun _ => rfl)) tm_144 tm_142 tm_143 tm_1 (by decide +kernel) ⟨⟨Nat.le_trans (by decide) hRf, Nat.le_trans (by decide) hRl⟩, rfl, rfl⟩ (wa_pre wa_nil hK hN) rfl hl.1 rfl (Nat.le_of_ble_eq_true rfl) nd_CB_entry_17 hCS ?_
        refine wi_if_ne (tgt := 25) hx hb (by decide) nd_CB_entry_20 rfl (fun h => absurd h (by decide)) (fun _ => ?_)
        refine wi_ic hx hb (a := 0) nd_CB_entry_23 ?_
        have hsp : sp_entry n y (nI (0)) (nI (el1)) r0 v0 = (nI 0, y) := by unfold sp_entry; simp [sr_f hq17]
        exact wb_zret ((w, t0, t1)) hx hb hr hk rfl hAe (by rw [hsp]; exact ⟨rfl, hI⟩) hP hD hS nd_CB_entry_24
    · refine wc_V (C := nr_CB) (n := 1) hx hb hml hown htg (c_CB_isElement l D _ (q 0) (q 1) (q 2) n el (nI 0) (fun h => absurd h hq9) (fun _ => rfl)) tm_177 tm_174 tm_176 tp_2 tm_1 (by decide +kernel) ⟨⟨Nat.le_trans (by decide) hRf, Nat.le_trans (by decide) hRl⟩, rfl, rfl⟩ (wa_pre (hP.sub [0] rfl) hK hN) (va_recv (q0 := 0) (ci := 0) hK hP rfl rfl) rfl hl.1 rfl (Nat.le_of_ble_eq_true rfl) nd_CB_entry_9 hCS ?_
      refine wi_if_eq (tgt := 23) hx hb (by decide) nd_CB_entry_12 rfl (fun _ => ?_) (fun h => absurd h (by decide))
      refine wi_ic hx hb (a := 0) nd_CB_entry_23 ?_
      have hsp : sp_entry n y (nI (0)) el r0 v0 = (nI 0, y) := by unfold sp_entry; simp [sz_f hn1 (show n < 2 ^ 31 by omega) hq9]
      exact wb_zret ((w, t0, t1)) hx hb hr hk rfl hAe (by rw [hsp]; exact ⟨rfl, hI⟩) hP hD hS nd_CB_entry_24
  · subst hw1
    refine wc_S (n := 1) hx hb hml hown htg (c_CB_isMatroid l D _ (nI 1) (nI 1) (fun _ => rfl) (fun h => absurd (Or.inr rfl) h)) tm_141 tm_139 tm_140 tm_1 (by decide +kernel) ⟨⟨Nat.le_trans (by decide) hRf, Nat.le_trans (by decide) hRl⟩, rfl, rfl⟩ (wa_pre wa_nil hK hN) rfl hl.1 rfl (Nat.le_of_ble_eq_true rfl) nd_CB_entry_1 hCS ?_
    refine wi_if_eq (tgt := 23) hx hb (by decide) nd_CB_entry_4 rfl (fun h => absurd h (by decide)) (fun _ => ?_)
    refine lv_aload_n hx hb nd_CB_entry_7 rfl (lv_at hl 0 rfl) ?_
    refine lv_iload_n hx hb nd_CB_entry_8 rfl (lv_at hl 2 rfl) ?_
    by_cases hq9 : ¬ el < 0 ∧ ¬ nI n ≤ el
    · obtain ⟨el1, h_el1, rfl⟩ := sm_elem (by omega) hq9
      refine wc_V (C := nr_CB) (n := 1) hx hb hml hown htg (c_CB_isElement l D _ (q 0) (q 1) (q 2) n (nI el1) (nI 1) (fun _ => rfl) (fun h => absurd hq9 h)) tm_177 tm_174 tm_176 tp_2 tm_1 (by decide +kernel) ⟨⟨Nat.le_trans (by decide) hRf, Nat.le_trans (by decide) hRl⟩, rfl, rfl⟩ (wa_pre (hP.sub [0] rfl) hK hN) (va_recv (q0 := 0) (ci := 0) hK hP rfl rfl) rfl hl.1 rfl (Nat.le_of_ble_eq_true rfl) nd_CB_entry_9 hCS ?_
      refine wi_if_eq (tgt := 23) hx hb (by decide) nd_CB_entry_12 rfl (fun h => absurd h (by decide)) (fun _ => ?_)
      refine lv_iload_n hx hb nd_CB_entry_15 rfl (lv_at hl 3 rfl) ?_
      refine wi_ic hx hb (a := 3) nd_CB_entry_16 ?_
      by_cases hq17 : ¬ r0 < 0 ∧ ¬ nI (3) < r0
      · obtain ⟨r01, h_r01, rfl⟩ := sm_upto (by omega) hq17
        refine wc_S (n := 2) hx hb hml hown htg (c_CB_isUpTo l D _ (nI r01) (nI (3)) (nI 1) (fun _ => rfl) (fun h => absurd hq17 h)) tm_144 tm_142 tm_143 tm_1 (by decide +kernel) ⟨⟨Nat.le_trans (by decide) hRf, Nat.le_trans (by decide) hRl⟩, rfl, rfl⟩ (wa_pre wa_nil hK hN) rfl hl.1 rfl (Nat.le_of_ble_eq_true rfl) nd_CB_entry_17 hCS ?_
        refine wi_if_ne (tgt := 25) hx hb (by decide) nd_CB_entry_20 rfl (fun _ => ?_) (fun h => absurd h (by decide))
        refine lv_aload_n hx hb nd_CB_entry_25 rfl (lv_at hl 0 rfl) ?_
        refine va_get (D := D) (C := nr_CB) (T := nt_CB) (N := 4) hx hb htg tf_CB hown hK hP 0 rfl rfl 3 (by decide) (htg _ tm_125) (fun _ h => h) rfl nd_CB_entry_26 ?_
        refine lv_iload_n hx hb nd_CB_entry_29 rfl (lv_at hl 1 rfl) ?_
        refine wi_aald (v := (a1.1 0)) hx hb hK hP 2 2 rfl rfl rfl (by omega) (by omega) (hm1) nd_CB_entry_30 ?_
        refine lv_iload_n hx hb nd_CB_entry_31 rfl (lv_at hl 2 rfl) ?_
        refine lv_iload_n hx hb nd_CB_entry_32 rfl (lv_at hl 3 rfl) ?_
        refine lv_iload hx hb nd_CB_entry_33 (lv_at hl 4 rfl) ?_
        rw [← List.append_assoc] at hP hD
        refine wd_Vi (C := nr_MA) (n := 3) (X := ([((q 0), .inr (0, [.int (nI (n)), .int (nI (2 ^ n - 1)), .ref (q 1), .ref (q 2)])), ((q 1), .inl (cI, n, .inl w)), ((q 2), .inl (cM, 2, .inr (.inr (.inr (.inr mr)))))] ++ mw_ cI cG a0 n t0)) (Y := mw_ cI cG a1 n t1) (Z := []) hx hb hml hown htg (c_MA_setEntry l D cI cG cM a1 n hn t1.1 t1.2.1 t1.2.2.1 t1.2.2.2.1 t1.2.2.2.2.1 t1.2.2.2.2.2 y.2.2 hI1 el1 r01 (by omega) (by omega) v0 _) tm_234 tm_231 tm_232 tm_233 tm_2 (by decide +kernel) ⟨⟨Nat.le_trans (by decide) hRf, Nat.le_trans (by decide) hRl⟩, rfl, rfl⟩ hP hD hS hA hK hN (va_recv (q0 := 0) (ci := 1) hK (wm_P (X := ([((q 0), .inr (0, [.int (nI (n)), .int (nI (2 ^ n - 1)), .ref (q 1), .ref (q 2)])), ((q 1), .inl (cI, n, .inl w)), ((q 2), .inl (cM, 2, .inr (.inr (.inr (.inr mr)))))] ++ mw_ cI cG a0 n t0)) (Y := mw_ cI cG a1 n t1) (Z := []) hP).2.1 rfl rfl) rfl hl.1 rfl (Nat.le_of_ble_eq_true rfl) nd_CB_entry_35 hCS (fun v35 u35 H locs hp35 hP hD hS => ?_)
        rw [List.append_assoc] at hP hD
        have hP : va_P D cl_all ([((q 0), .inr (0, [.int (nI (n)), .int (nI (2 ^ n - 1)), .ref (q 1), .ref (q 2)])), ((q 1), .inl (cI, n, .inl w)), ((q 2), .inl (cM, 2, .inr (.inr (.inr (.inr mr)))))] ++ (mw_ cI cG a0 n t0 ++ (mw_ cI cG a1 n u35 ++ []))) H := hP
        have hD : va_D A ([((q 0), .inr (0, [.int (nI (n)), .int (nI (2 ^ n - 1)), .ref (q 1), .ref (q 2)])), ((q 1), .inl (cI, n, .inl w)), ((q 2), .inl (cM, 2, .inr (.inr (.inr (.inr mr)))))] ++ (mw_ cI cG a0 n t0 ++ (mw_ cI cG a1 n u35 ++ []))) := hD
        by_cases hkd : y.2.2.1 = 3
        · refine wi_top (hp35.1 hkd).1 ?_
          have hsp : sp_entry n y (nI (1)) (nI (el1)) (nI (r01)) v0 = (nI 1, (y.1, y.2.1, (y.2.2.1, y.2.2.2.1, y.2.2.2.2.1, y.2.2.2.2.2.1, y.2.2.2.2.2.2.1, y.2.2.2.2.2.2.2.1, y.2.2.2.2.2.2.2.2.1, va_up y.2.2.2.2.2.2.2.2.2 el1 (va_up (y.2.2.2.2.2.2.2.2.2 el1) r01 (fm_ v0 y.2.2.2.2.2.2.2.2.1))))) := by unfold sp_entry; simp only [sw_1, sz_t h_el1 (show n < 2 ^ 31 by omega), tn_nI (show el1 < 2 ^ 31 by omega), sr_t h_r01 (show 3 < 2 ^ 31 by omega), tn_nI (show r01 < 2 ^ 31 by omega), tn_1]; simp [cb_m, cb_s, hkd]
          exact wb_zret ((w, t0, u35)) hx hb hr hk rfl hAe (by rw [hsp]; exact ⟨rfl, ⟨hI.1, hI0, (hp35.1 hkd).2⟩⟩) hP hD hS nd_CB_entry_38
        · refine wi_top (hp35.2 hkd).1 ?_
          have hsp : sp_entry n y (nI (1)) (nI (el1)) (nI (r01)) v0 = (nI 0, y) := by unfold sp_entry; simp only [sw_1, sz_t h_el1 (show n < 2 ^ 31 by omega), tn_nI (show el1 < 2 ^ 31 by omega), sr_t h_r01 (show 3 < 2 ^ 31 by omega), tn_nI (show r01 < 2 ^ 31 by omega), tn_1]; simp [cb_m, hkd]
          exact wb_zret ((w, t0, u35)) hx hb hr hk rfl hAe (by rw [hsp]; exact ⟨rfl, ⟨hI.1, hI0, (hp35.2 hkd).2⟩⟩) hP hD hS nd_CB_entry_38
      · refine wc_S (n := 2) hx hb hml hown htg (c_CB_isUpTo l D _ r0 (nI (3)) (nI 0) (fun h => absurd h hq17) (fun _ => rfl)) tm_144 tm_142 tm_143 tm_1 (by decide +kernel) ⟨⟨Nat.le_trans (by decide) hRf, Nat.le_trans (by decide) hRl⟩, rfl, rfl⟩ (wa_pre wa_nil hK hN) rfl hl.1 rfl (Nat.le_of_ble_eq_true rfl) nd_CB_entry_17 hCS ?_
        refine wi_if_ne (tgt := 25) hx hb (by decide) nd_CB_entry_20 rfl (fun h => absurd h (by decide)) (fun _ => ?_)
        refine wi_ic hx hb (a := 0) nd_CB_entry_23 ?_
        have hsp : sp_entry n y (nI (1)) (nI (el1)) r0 v0 = (nI 0, y) := by unfold sp_entry; simp [sr_f hq17]
        exact wb_zret ((w, t0, t1)) hx hb hr hk rfl hAe (by rw [hsp]; exact ⟨rfl, hI⟩) hP hD hS nd_CB_entry_24
    · refine wc_V (C := nr_CB) (n := 1) hx hb hml hown htg (c_CB_isElement l D _ (q 0) (q 1) (q 2) n el (nI 0) (fun h => absurd h hq9) (fun _ => rfl)) tm_177 tm_174 tm_176 tp_2 tm_1 (by decide +kernel) ⟨⟨Nat.le_trans (by decide) hRf, Nat.le_trans (by decide) hRl⟩, rfl, rfl⟩ (wa_pre (hP.sub [0] rfl) hK hN) (va_recv (q0 := 0) (ci := 0) hK hP rfl rfl) rfl hl.1 rfl (Nat.le_of_ble_eq_true rfl) nd_CB_entry_9 hCS ?_
      refine wi_if_eq (tgt := 23) hx hb (by decide) nd_CB_entry_12 rfl (fun _ => ?_) (fun h => absurd h (by decide))
      refine wi_ic hx hb (a := 0) nd_CB_entry_23 ?_
      have hsp : sp_entry n y (nI (1)) el r0 v0 = (nI 0, y) := by unfold sp_entry; simp [sz_f hn1 (show n < 2 ^ 31 by omega) hq9]
      exact wb_zret ((w, t0, t1)) hx hb hr hk rfl hAe (by rw [hsp]; exact ⟨rfl, hI⟩) hP hD hS nd_CB_entry_24
  · refine wc_S (n := 1) hx hb hml hown htg (c_CB_isMatroid l D _ wh (nI 0) (fun h => absurd h (fun z => z.elim (fun z => hw1.1 (z.trans nI_0.symm)) hw1.2)) (fun _ => rfl)) tm_141 tm_139 tm_140 tm_1 (by decide +kernel) ⟨⟨Nat.le_trans (by decide) hRf, Nat.le_trans (by decide) hRl⟩, rfl, rfl⟩ (wa_pre wa_nil hK hN) rfl hl.1 rfl (Nat.le_of_ble_eq_true rfl) nd_CB_entry_1 hCS ?_
    refine wi_if_eq (tgt := 23) hx hb (by decide) nd_CB_entry_4 rfl (fun _ => ?_) (fun h => absurd h (by decide))
    refine wi_ic hx hb (a := 0) nd_CB_entry_23 ?_
    have hsp : sp_entry n y wh el r0 v0 = (nI 0, y) := by unfold sp_entry; simp [sw_n hw1]
    exact wb_zret ((w, t0, t1)) hx hb hr hk rfl hAe (by rw [hsp]; exact ⟨rfl, hI⟩) hP hD hS nd_CB_entry_24
theorem nd_CB_weight_0 : decode nc_CB_weight 0 = .ok (.aload_n 0, 1) := by decide +kernel
theorem nd_CB_weight_1 : decode nc_CB_weight 1 = .ok (.iload_n 1, 1) := by decide +kernel
theorem nd_CB_weight_2 : decode nc_CB_weight 2 = .ok (.invokevirtual 43, 3) := by decide +kernel
theorem nd_CB_weight_5 : decode nc_CB_weight 5 = .ok (.ifCond .eq 15, 3) := by decide +kernel
theorem nd_CB_weight_8 : decode nc_CB_weight 8 = .ok (.iload_n 2, 1) := by decide +kernel
theorem nd_CB_weight_9 : decode nc_CB_weight 9 = .ok (.ldc 68, 2) := by decide +kernel
theorem nd_CB_weight_11 : decode nc_CB_weight 11 = .ok (.if_icmp .lt 9, 3) := by decide +kernel
theorem nd_CB_weight_14 : decode nc_CB_weight 14 = .ok (.iload_n 2, 1) := by decide +kernel
theorem nd_CB_weight_15 : decode nc_CB_weight 15 = .ok (.ldc 69, 2) := by decide +kernel
theorem nd_CB_weight_17 : decode nc_CB_weight 17 = .ok (.if_icmp .le 5, 3) := by decide +kernel
theorem nd_CB_weight_20 : decode nc_CB_weight 20 = .ok (.iconst 0, 1) := by decide +kernel
theorem nd_CB_weight_21 : decode nc_CB_weight 21 = .ok (.ireturn, 1) := by decide +kernel
theorem nd_CB_weight_22 : decode nc_CB_weight 22 = .ok (.aload_n 0, 1) := by decide +kernel
theorem nd_CB_weight_23 : decode nc_CB_weight 23 = .ok (.getfield 16, 3) := by decide +kernel
theorem nd_CB_weight_26 : decode nc_CB_weight 26 = .ok (.iload_n 1, 1) := by decide +kernel
theorem nd_CB_weight_27 : decode nc_CB_weight 27 = .ok (.iload_n 2, 1) := by decide +kernel
theorem nd_CB_weight_28 : decode nc_CB_weight 28 = .ok (.iastore, 1) := by decide +kernel
theorem nd_CB_weight_29 : decode nc_CB_weight 29 = .ok (.iconst 1, 1) := by decide +kernel
theorem nd_CB_weight_30 : decode nc_CB_weight 30 = .ok (.ireturn, 1) := by decide +kernel
set_option maxRecDepth 20000 in
theorem c_CB_weight (l : Launch) (D : va_G) (cI cG cM : ClassId)  (q : Nat → Nat) (n : Nat) (hn1 : 1 ≤ n) (hn : n ≤ 10) (mr : Nat → Option Nat) (a0 a1 : ma_A) (hm0 : mr 0 = some (a0.1 0)) (hm1 : mr 1 = some (a1.1 0)) (w : Nat → Int32) (t0 t1 : ma_S) (y : cb_Y) (hI : cb_I n y (w, t0, t1)) (el ww : Int32) (sz : Nat) : wb_Mi l ny_CB_weight nc_CB_weight 3 (some .boolean) ({ frames := 1, cells := 0, slots := 0, locals := 21 }) D (ty_all cI cG cM) (cw_ cI cG cM q n mr a0 a1 (w, t0, t1)) sz [.ref (q 0), .int (el), .int (ww)] (fun (v : Int32) (u : cb_S) => v = (sp_weight n y el ww).1 ∧ cb_I n (sp_weight n y el ww).2 u) (fun u : cb_S => cw_ cI cG cM q n mr a0 a1 u) := by
  refine wb_start (S := cb_S) (by decide) (Nat.le_of_ble_eq_true rfl) ?_
  intro p e0 s0 m below meth c ls A hx hb hr hml htg hown hk hP hK hN hl hAe hsz hD hA
  have hl : lv_has ls 3 [(0, .ref (q 0)), (1, .int (el)), (2, .int (ww))] := hl
  have hP : va_P D cl_all ([((q 0), .inr (0, [.int (nI (n)), .int (nI (2 ^ n - 1)), .ref (q 1), .ref (q 2)])), ((q 1), .inl (cI, n, .inl w)), ((q 2), .inl (cM, 2, .inr (.inr (.inr (.inr mr)))))] ++ (mw_ cI cG a0 n t0 ++ (mw_ cI cG a1 n t1 ++ []))) s0.heap := hP
  have hD : va_D A ([((q 0), .inr (0, [.int (nI (n)), .int (nI (2 ^ n - 1)), .ref (q 1), .ref (q 2)])), ((q 1), .inl (cI, n, .inl w)), ((q 2), .inl (cM, 2, .inr (.inr (.inr (.inr mr)))))] ++ (mw_ cI cG a0 n t0 ++ (mw_ cI cG a1 n t1 ++ []))) := hD
  have hS : va_S A s0.heap s0.heap [] := va_S.rf
  have hRf : 1 ≤ ({ frames := 1, cells := 0, slots := 0, locals := 21 } : Room).frames := Nat.le_refl _
  have hRl : 21 ≤ ({ frames := 1, cells := 0, slots := 0, locals := 21 } : Room).locals := Nat.le_refl _
  have hCS : 0 ≤ ({ frames := 1, cells := 0, slots := 0, locals := 21 } : Room).cells ∧ 0 ≤ ({ frames := 1, cells := 0, slots := 0, locals := 21 } : Room).slots := ⟨Nat.zero_le _, Nat.zero_le _⟩
  have h2n : 2 ^ n ≤ 1024 := Nat.pow_le_pow_right (by omega) hn
  have h2p : 1 ≤ 2 ^ n := Nat.one_le_two_pow
  have hI0 : ma_I n y.2.1 t0 := hI.2.1
  have hI1 : ma_I n y.2.2 t1 := hI.2.2
  refine lv_aload_n hx hb nd_CB_weight_0 rfl (lv_at hl 0 rfl) ?_
  refine lv_iload_n hx hb nd_CB_weight_1 rfl (lv_at hl 1 rfl) ?_
  by_cases hq2 : ¬ el < 0 ∧ ¬ nI n ≤ el
  · obtain ⟨el1, h_el1, rfl⟩ := sm_elem (by omega) hq2
    refine wc_V (C := nr_CB) (n := 1) hx hb hml hown htg (c_CB_isElement l D _ (q 0) (q 1) (q 2) n (nI el1) (nI 1) (fun _ => rfl) (fun h => absurd hq2 h)) tm_177 tm_174 tm_176 tp_2 tm_1 (by decide +kernel) ⟨⟨Nat.le_trans (by decide) hRf, Nat.le_trans (by decide) hRl⟩, rfl, rfl⟩ (wa_pre (hP.sub [0] rfl) hK hN) (va_recv (q0 := 0) (ci := 0) hK hP rfl rfl) rfl hl.1 rfl (Nat.le_of_ble_eq_true rfl) nd_CB_weight_2 hCS ?_
    refine wi_if_eq (tgt := 20) hx hb (by decide) nd_CB_weight_5 rfl (fun h => absurd h (by decide)) (fun _ => ?_)
    refine lv_iload_n hx hb nd_CB_weight_8 rfl (lv_at hl 2 rfl) ?_
    refine lv_ldc hx hb hown (htg _ tm_246) nd_CB_weight_9 ?_
    refine lv_icmp_lt (tgt := 20) hx hb nd_CB_weight_11 rfl (fun hc11 => ?_) (fun hc11 => ?_)
    · refine wi_ic hx hb (a := 0) nd_CB_weight_20 ?_
      have hsp : sp_weight n y (nI (el1)) ww = (nI 0, y) := by unfold sp_weight; simp [hc11]
      exact wb_zret (w, t0, t1) hx hb hr hk rfl hAe (by rw [hsp]; exact ⟨rfl, hI⟩) hP hD hS nd_CB_weight_21
    · refine lv_iload_n hx hb nd_CB_weight_14 rfl (lv_at hl 2 rfl) ?_
      refine lv_ldc hx hb hown (htg _ tm_247) nd_CB_weight_15 ?_
      refine lv_icmp_le (tgt := 22) hx hb nd_CB_weight_17 rfl (fun hc17 => ?_) (fun hc17 => ?_)
      · refine lv_aload_n hx hb nd_CB_weight_22 rfl (lv_at hl 0 rfl) ?_
        refine va_get (D := D) (C := nr_CB) (T := nt_CB) (N := 4) hx hb htg tf_CB hown hK hP 0 rfl rfl 2 (by decide) (htg _ tm_124) (fun _ h => h) rfl nd_CB_weight_23 ?_
        refine lv_iload_n hx hb nd_CB_weight_26 rfl (lv_at hl 1 rfl) ?_
        refine lv_iload_n hx hb nd_CB_weight_27 rfl (lv_at hl 2 rfl) ?_
        refine wi_iast hx hb hK hP hD hS 1 0 rfl rfl (by omega) (by omega) nd_CB_weight_28 (fun H locs hP hD hS => ?_)
        have hP : va_P D cl_all ([((q 0), .inr (0, [.int (nI (n)), .int (nI (2 ^ n - 1)), .ref (q 1), .ref (q 2)])), ((q 1), .inl (cI, n, .inl (upd w el1 ww))), ((q 2), .inl (cM, 2, .inr (.inr (.inr (.inr mr)))))] ++ (mw_ cI cG a0 n t0 ++ (mw_ cI cG a1 n t1 ++ []))) H := hP
        have hD : va_D A ([((q 0), .inr (0, [.int (nI (n)), .int (nI (2 ^ n - 1)), .ref (q 1), .ref (q 2)])), ((q 1), .inl (cI, n, .inl (upd w el1 ww))), ((q 2), .inl (cM, 2, .inr (.inr (.inr (.inr mr)))))] ++ (mw_ cI cG a0 n t0 ++ (mw_ cI cG a1 n t1 ++ []))) := hD
        refine wi_ic hx hb (a := 1) nd_CB_weight_29 ?_
        have hsp : sp_weight n y (nI el1) ww = (nI 1, (upd y.1 el1 ww, y.2)) := by unfold sp_weight; rw [sz_t h_el1 (show n < 2 ^ 31 by omega), tn_nI (show el1 < 2 ^ 31 by omega)]; simp [hc11, hc17]
        have b1 : -1000000 ≤ ww.toInt := by have := Int32.le_iff_toInt_le.mp (Int32.not_lt.mp hc11); simpa using this
        have b2 : ww.toInt ≤ 1000000 := by have := Int32.le_iff_toInt_le.mp hc17; simpa using this
        exact wb_zret (upd w el1 ww, t0, t1) hx hb hr hk rfl hAe (by rw [hsp]; exact ⟨rfl, fun e he => if q : e = el1 then by simp [upd, q]; exact ⟨b1, b2⟩ else by simp [upd, q]; exact hI.1 e he, hI.2⟩) hP hD hS nd_CB_weight_30
      · refine wi_ic hx hb (a := 0) nd_CB_weight_20 ?_
        have hsp : sp_weight n y (nI (el1)) ww = (nI 0, y) := by unfold sp_weight; simp [hc17]
        exact wb_zret (w, t0, t1) hx hb hr hk rfl hAe (by rw [hsp]; exact ⟨rfl, hI⟩) hP hD hS nd_CB_weight_21
  · refine wc_V (C := nr_CB) (n := 1) hx hb hml hown htg (c_CB_isElement l D _ (q 0) (q 1) (q 2) n el (nI 0) (fun h => absurd h hq2) (fun _ => rfl)) tm_177 tm_174 tm_176 tp_2 tm_1 (by decide +kernel) ⟨⟨Nat.le_trans (by decide) hRf, Nat.le_trans (by decide) hRl⟩, rfl, rfl⟩ (wa_pre (hP.sub [0] rfl) hK hN) (va_recv (q0 := 0) (ci := 0) hK hP rfl rfl) rfl hl.1 rfl (Nat.le_of_ble_eq_true rfl) nd_CB_weight_2 hCS ?_
    refine wi_if_eq (tgt := 20) hx hb (by decide) nd_CB_weight_5 rfl (fun _ => ?_) (fun h => absurd h (by decide))
    refine wi_ic hx hb (a := 0) nd_CB_weight_20 ?_
    have hsp : sp_weight n y el ww = (nI 0, y) := by unfold sp_weight; simp [sz_f hn1 (show n < 2 ^ 31 by omega) hq2]
    exact wb_zret (w, t0, t1) hx hb hr hk rfl hAe (by rw [hsp]; exact ⟨rfl, hI⟩) hP hD hS nd_CB_weight_21
noncomputable def sp_rank (n : Nat) (y : cb_Y) (wh s : Int32) : Int32 := if sw_ wh && sr_ s (nI (2 ^ n - 1)) then nI (ma_r n (cb_m y (tn_ wh)) (tn_ s)) else -1
noncomputable def sp_indep (n : Nat) (y : cb_Y) (wh s : Int32) : Int32 := if sw_ wh && sr_ s (nI (2 ^ n - 1)) then (if ma_r n (cb_m y (tn_ wh)) (tn_ s) = mt_cd n (tn_ s) then nI 1 else nI 0) else -1
def sp_weightOf (n : Nat) (y : cb_Y) (s : Int32) : Int32 := if sr_ s (nI (2 ^ n - 1)) then ms_W y.1 n (tn_ s) else 0
theorem ms_W_eq {v w : Nat → Int32} {n s : Nat} (h : ∀ e, e < n → v e = w e) : ms_W v n s = ms_W w n s := by
  induction n with
  | zero => rfl
  | succ k ih => simp only [ms_W]; rw [ih (fun e he => h e (by omega)), h k (by omega)]
theorem nd_CB_rank_0 : decode nc_CB_rank 0 = .ok (.iload_n 1, 1) := by decide +kernel
theorem nd_CB_rank_1 : decode nc_CB_rank 1 = .ok (.invokestatic 29, 3) := by decide +kernel
theorem nd_CB_rank_4 : decode nc_CB_rank 4 = .ok (.ifCond .eq 11, 3) := by decide +kernel
theorem nd_CB_rank_7 : decode nc_CB_rank 7 = .ok (.aload_n 0, 1) := by decide +kernel
theorem nd_CB_rank_8 : decode nc_CB_rank 8 = .ok (.iload_n 2, 1) := by decide +kernel
theorem nd_CB_rank_9 : decode nc_CB_rank 9 = .ok (.invokevirtual 70, 3) := by decide +kernel
theorem nd_CB_rank_12 : decode nc_CB_rank 12 = .ok (.ifCond .ne 5, 3) := by decide +kernel
theorem nd_CB_rank_15 : decode nc_CB_rank 15 = .ok (.iconst (-1), 1) := by decide +kernel
theorem nd_CB_rank_16 : decode nc_CB_rank 16 = .ok (.ireturn, 1) := by decide +kernel
theorem nd_CB_rank_17 : decode nc_CB_rank 17 = .ok (.aload_n 0, 1) := by decide +kernel
theorem nd_CB_rank_18 : decode nc_CB_rank 18 = .ok (.getfield 25, 3) := by decide +kernel
theorem nd_CB_rank_21 : decode nc_CB_rank 21 = .ok (.iload_n 1, 1) := by decide +kernel
theorem nd_CB_rank_22 : decode nc_CB_rank 22 = .ok (.aaload, 1) := by decide +kernel
theorem nd_CB_rank_23 : decode nc_CB_rank 23 = .ok (.iload_n 2, 1) := by decide +kernel
theorem nd_CB_rank_24 : decode nc_CB_rank 24 = .ok (.invokevirtual 76, 3) := by decide +kernel
theorem nd_CB_rank_27 : decode nc_CB_rank 27 = .ok (.ireturn, 1) := by decide +kernel
set_option maxRecDepth 20000 in
theorem c_CB_rank (l : Launch) (D : va_G) (cI cG cM : ClassId)  (q : Nat → Nat) (n : Nat) (hn1 : 1 ≤ n) (hn : n ≤ 10) (mr : Nat → Option Nat) (a0 a1 : ma_A) (hm0 : mr 0 = some (a0.1 0)) (hm1 : mr 1 = some (a1.1 0)) (w : Nat → Int32) (t0 t1 : ma_S) (y : cb_Y) (hI : cb_I n y (w, t0, t1)) (wh s : Int32) (sz : Nat) : wb_Mi l ny_CB_rank nc_CB_rank 3 (some .int) ({ frames := 5, cells := 0, slots := 0, locals := 112 }) D (ty_all cI cG cM) (cw_ cI cG cM q n mr a0 a1 (w, t0, t1)) sz [.ref (q 0), .int (wh), .int (s)] (fun (v : Int32) (u : cb_S) => v = sp_rank n y wh s ∧ cb_I n y u) (fun u : cb_S => cw_ cI cG cM q n mr a0 a1 u) := by
  refine wb_start (S := cb_S) (by decide) (Nat.le_of_ble_eq_true rfl) ?_
  intro p e0 s0 m below meth c ls A hx hb hr hml htg hown hk hP hK hN hl hAe hsz hD hA
  have hl : lv_has ls 3 [(0, .ref (q 0)), (1, .int (wh)), (2, .int (s))] := hl
  have hP : va_P D cl_all ([((q 0), .inr (0, [.int (nI (n)), .int (nI (2 ^ n - 1)), .ref (q 1), .ref (q 2)])), ((q 1), .inl (cI, n, .inl w)), ((q 2), .inl (cM, 2, .inr (.inr (.inr (.inr mr)))))] ++ (mw_ cI cG a0 n t0 ++ (mw_ cI cG a1 n t1 ++ []))) s0.heap := hP
  have hD : va_D A ([((q 0), .inr (0, [.int (nI (n)), .int (nI (2 ^ n - 1)), .ref (q 1), .ref (q 2)])), ((q 1), .inl (cI, n, .inl w)), ((q 2), .inl (cM, 2, .inr (.inr (.inr (.inr mr)))))] ++ (mw_ cI cG a0 n t0 ++ (mw_ cI cG a1 n t1 ++ []))) := hD
  have hS : va_S A s0.heap s0.heap [] := va_S.rf
  have hRf : 5 ≤ ({ frames := 5, cells := 0, slots := 0, locals := 112 } : Room).frames := Nat.le_refl _
  have hRl : 112 ≤ ({ frames := 5, cells := 0, slots := 0, locals := 112 } : Room).locals := Nat.le_refl _
  have hCS : 0 ≤ ({ frames := 5, cells := 0, slots := 0, locals := 112 } : Room).cells ∧ 0 ≤ ({ frames := 5, cells := 0, slots := 0, locals := 112 } : Room).slots := ⟨Nat.zero_le _, Nat.zero_le _⟩
  have h2n : 2 ^ n ≤ 1024 := Nat.pow_le_pow_right (by omega) hn
  have h2p : 1 ≤ 2 ^ n := Nat.one_le_two_pow
  have hI0 : ma_I n y.2.1 t0 := hI.2.1
  have hI1 : ma_I n y.2.2 t1 := hI.2.2
  refine lv_iload_n hx hb nd_CB_rank_0 rfl (lv_at hl 1 rfl) ?_
  rcases sm_which wh with hw1 | hw1 | hw1
  · subst hw1
    refine wc_S (n := 1) hx hb hml hown htg (c_CB_isMatroid l D _ (nI 0) (nI 1) (fun _ => rfl) (fun h => absurd (Or.inl nI_0) h)) tm_141 tm_139 tm_140 tm_1 (by decide +kernel) ⟨⟨Nat.le_trans (by decide) hRf, Nat.le_trans (by decide) hRl⟩, rfl, rfl⟩ (wa_pre wa_nil hK hN) rfl hl.1 rfl (Nat.le_of_ble_eq_true rfl) nd_CB_rank_1 hCS ?_
    refine wi_if_eq (tgt := 15) hx hb (by decide) nd_CB_rank_4 rfl (fun h => absurd h (by decide)) (fun _ => ?_)
    refine lv_aload_n hx hb nd_CB_rank_7 rfl (lv_at hl 0 rfl) ?_
    refine lv_iload_n hx hb nd_CB_rank_8 rfl (lv_at hl 2 rfl) ?_
    by_cases hq9 : ¬ s < 0 ∧ ¬ nI (2 ^ n - 1) < s
    · obtain ⟨s1, h_s1, rfl⟩ := sm_upto (by omega) hq9
      refine wc_V (C := nr_CB) (n := 1) hx hb hml hown htg (c_CB_isSet l D _ (q 0) (q 1) (q 2) n (nI s1) (nI 1) (fun _ => rfl) (fun h => absurd hq9 h)) tm_255 tm_252 tm_254 tp_3 tm_1 (by decide +kernel) ⟨⟨Nat.le_trans (by decide) hRf, Nat.le_trans (by decide) hRl⟩, rfl, rfl⟩ (wa_pre (hP.sub [0] rfl) hK hN) (va_recv (q0 := 0) (ci := 0) hK hP rfl rfl) rfl hl.1 rfl (Nat.le_of_ble_eq_true rfl) nd_CB_rank_9 hCS ?_
      refine wi_if_ne (tgt := 17) hx hb (by decide) nd_CB_rank_12 rfl (fun _ => ?_) (fun h => absurd h (by decide))
      refine lv_aload_n hx hb nd_CB_rank_17 rfl (lv_at hl 0 rfl) ?_
      refine va_get (D := D) (C := nr_CB) (T := nt_CB) (N := 4) hx hb htg tf_CB hown hK hP 0 rfl rfl 3 (by decide) (htg _ tm_125) (fun _ h => h) rfl nd_CB_rank_18 ?_
      refine lv_iload_n hx hb nd_CB_rank_21 rfl (lv_at hl 1 rfl) ?_
      refine wi_aald (v := (a0.1 0)) hx hb hK hP 2 2 rfl rfl rfl (by omega) (by omega) (hm0) nd_CB_rank_22 ?_
      refine lv_iload_n hx hb nd_CB_rank_23 rfl (lv_at hl 2 rfl) ?_
      refine wd_Vi (C := nr_MA) (n := 1) (X := [((q 0), .inr (0, [.int (nI (n)), .int (nI (2 ^ n - 1)), .ref (q 1), .ref (q 2)])), ((q 1), .inl (cI, n, .inl w)), ((q 2), .inl (cM, 2, .inr (.inr (.inr (.inr mr)))))]) (Y := mw_ cI cG a0 n t0) (Z := (mw_ cI cG a1 n t1 ++ [])) hx hb hml hown htg (c_MA_rankOf l D cI cG cM a0 n hn t0.1 t0.2.1 t0.2.2.1 t0.2.2.2.1 t0.2.2.2.2.1 t0.2.2.2.2.2 y.2.1 hI0 s1 (by omega) _) tm_263 tm_314 tm_261 tm_262 tm_2 (by decide +kernel) ⟨⟨Nat.le_trans (by decide) hRf, Nat.le_trans (by decide) hRl⟩, rfl, rfl⟩ hP hD hS hA hK hN (va_recv (q0 := 0) (ci := 1) hK (wm_P (X := [((q 0), .inr (0, [.int (nI (n)), .int (nI (2 ^ n - 1)), .ref (q 1), .ref (q 2)])), ((q 1), .inl (cI, n, .inl w)), ((q 2), .inl (cM, 2, .inr (.inr (.inr (.inr mr)))))]) (Y := mw_ cI cG a0 n t0) (Z := (mw_ cI cG a1 n t1 ++ [])) hP).2.1 rfl rfl) rfl hl.1 rfl (Nat.le_of_ble_eq_true rfl) nd_CB_rank_24 hCS (fun v24 u24 H locs hp24 hP hD hS => ?_)
      have hP : va_P D cl_all ([((q 0), .inr (0, [.int (nI (n)), .int (nI (2 ^ n - 1)), .ref (q 1), .ref (q 2)])), ((q 1), .inl (cI, n, .inl w)), ((q 2), .inl (cM, 2, .inr (.inr (.inr (.inr mr)))))] ++ (mw_ cI cG a0 n u24 ++ (mw_ cI cG a1 n t1 ++ []))) H := hP
      have hD : va_D A ([((q 0), .inr (0, [.int (nI (n)), .int (nI (2 ^ n - 1)), .ref (q 1), .ref (q 2)])), ((q 1), .inl (cI, n, .inl w)), ((q 2), .inl (cM, 2, .inr (.inr (.inr (.inr mr)))))] ++ (mw_ cI cG a0 n u24 ++ (mw_ cI cG a1 n t1 ++ []))) := hD
      refine wi_top hp24.1 ?_
      have hsp : sp_rank n y (nI (0)) (nI (s1)) = nI (ma_r n y.2.1 s1) := by unfold sp_rank; simp only [sw_0, sr_t h_s1 (show 2 ^ n - 1 < 2 ^ 31 by omega), tn_0, tn_nI (show s1 < 2 ^ 31 by omega)]; simp [cb_m]
      exact wb_iret ((w, u24, t1)) hx hb hr hk hAe (by rw [hsp]; exact ⟨rfl, ⟨hI.1, hp24.2, hI1⟩⟩) hP hD hS nd_CB_rank_27
    · refine wc_V (C := nr_CB) (n := 1) hx hb hml hown htg (c_CB_isSet l D _ (q 0) (q 1) (q 2) n s (nI 0) (fun h => absurd h hq9) (fun _ => rfl)) tm_255 tm_252 tm_254 tp_3 tm_1 (by decide +kernel) ⟨⟨Nat.le_trans (by decide) hRf, Nat.le_trans (by decide) hRl⟩, rfl, rfl⟩ (wa_pre (hP.sub [0] rfl) hK hN) (va_recv (q0 := 0) (ci := 0) hK hP rfl rfl) rfl hl.1 rfl (Nat.le_of_ble_eq_true rfl) nd_CB_rank_9 hCS ?_
      refine wi_if_ne (tgt := 17) hx hb (by decide) nd_CB_rank_12 rfl (fun h => absurd h (by decide)) (fun _ => ?_)
      refine lv_iconst (v := -1) hx hb nd_CB_rank_15 (by decide) ?_
      have hsp : sp_rank n y (nI (0)) s = -1 := by unfold sp_rank; simp [sr_f hq9]
      exact wb_iret ((w, t0, t1)) hx hb hr hk hAe (by rw [hsp]; exact ⟨rfl, hI⟩) hP hD hS nd_CB_rank_16
  · subst hw1
    refine wc_S (n := 1) hx hb hml hown htg (c_CB_isMatroid l D _ (nI 1) (nI 1) (fun _ => rfl) (fun h => absurd (Or.inr rfl) h)) tm_141 tm_139 tm_140 tm_1 (by decide +kernel) ⟨⟨Nat.le_trans (by decide) hRf, Nat.le_trans (by decide) hRl⟩, rfl, rfl⟩ (wa_pre wa_nil hK hN) rfl hl.1 rfl (Nat.le_of_ble_eq_true rfl) nd_CB_rank_1 hCS ?_
    refine wi_if_eq (tgt := 15) hx hb (by decide) nd_CB_rank_4 rfl (fun h => absurd h (by decide)) (fun _ => ?_)
    refine lv_aload_n hx hb nd_CB_rank_7 rfl (lv_at hl 0 rfl) ?_
    refine lv_iload_n hx hb nd_CB_rank_8 rfl (lv_at hl 2 rfl) ?_
    by_cases hq9 : ¬ s < 0 ∧ ¬ nI (2 ^ n - 1) < s
    · obtain ⟨s1, h_s1, rfl⟩ := sm_upto (by omega) hq9
      refine wc_V (C := nr_CB) (n := 1) hx hb hml hown htg (c_CB_isSet l D _ (q 0) (q 1) (q 2) n (nI s1) (nI 1) (fun _ => rfl) (fun h => absurd hq9 h)) tm_255 tm_252 tm_254 tp_3 tm_1 (by decide +kernel) ⟨⟨Nat.le_trans (by decide) hRf, Nat.le_trans (by decide) hRl⟩, rfl, rfl⟩ (wa_pre (hP.sub [0] rfl) hK hN) (va_recv (q0 := 0) (ci := 0) hK hP rfl rfl) rfl hl.1 rfl (Nat.le_of_ble_eq_true rfl) nd_CB_rank_9 hCS ?_
      refine wi_if_ne (tgt := 17) hx hb (by decide) nd_CB_rank_12 rfl (fun _ => ?_) (fun h => absurd h (by decide))
      refine lv_aload_n hx hb nd_CB_rank_17 rfl (lv_at hl 0 rfl) ?_
      refine va_get (D := D) (C := nr_CB) (T := nt_CB) (N := 4) hx hb htg tf_CB hown hK hP 0 rfl rfl 3 (by decide) (htg _ tm_125) (fun _ h => h) rfl nd_CB_rank_18 ?_
      refine lv_iload_n hx hb nd_CB_rank_21 rfl (lv_at hl 1 rfl) ?_
      refine wi_aald (v := (a1.1 0)) hx hb hK hP 2 2 rfl rfl rfl (by omega) (by omega) (hm1) nd_CB_rank_22 ?_
      refine lv_iload_n hx hb nd_CB_rank_23 rfl (lv_at hl 2 rfl) ?_
      rw [← List.append_assoc] at hP hD
      refine wd_Vi (C := nr_MA) (n := 1) (X := ([((q 0), .inr (0, [.int (nI (n)), .int (nI (2 ^ n - 1)), .ref (q 1), .ref (q 2)])), ((q 1), .inl (cI, n, .inl w)), ((q 2), .inl (cM, 2, .inr (.inr (.inr (.inr mr)))))] ++ mw_ cI cG a0 n t0)) (Y := mw_ cI cG a1 n t1) (Z := []) hx hb hml hown htg (c_MA_rankOf l D cI cG cM a1 n hn t1.1 t1.2.1 t1.2.2.1 t1.2.2.2.1 t1.2.2.2.2.1 t1.2.2.2.2.2 y.2.2 hI1 s1 (by omega) _) tm_263 tm_314 tm_261 tm_262 tm_2 (by decide +kernel) ⟨⟨Nat.le_trans (by decide) hRf, Nat.le_trans (by decide) hRl⟩, rfl, rfl⟩ hP hD hS hA hK hN (va_recv (q0 := 0) (ci := 1) hK (wm_P (X := ([((q 0), .inr (0, [.int (nI (n)), .int (nI (2 ^ n - 1)), .ref (q 1), .ref (q 2)])), ((q 1), .inl (cI, n, .inl w)), ((q 2), .inl (cM, 2, .inr (.inr (.inr (.inr mr)))))] ++ mw_ cI cG a0 n t0)) (Y := mw_ cI cG a1 n t1) (Z := []) hP).2.1 rfl rfl) rfl hl.1 rfl (Nat.le_of_ble_eq_true rfl) nd_CB_rank_24 hCS (fun v24 u24 H locs hp24 hP hD hS => ?_)
      rw [List.append_assoc] at hP hD
      have hP : va_P D cl_all ([((q 0), .inr (0, [.int (nI (n)), .int (nI (2 ^ n - 1)), .ref (q 1), .ref (q 2)])), ((q 1), .inl (cI, n, .inl w)), ((q 2), .inl (cM, 2, .inr (.inr (.inr (.inr mr)))))] ++ (mw_ cI cG a0 n t0 ++ (mw_ cI cG a1 n u24 ++ []))) H := hP
      have hD : va_D A ([((q 0), .inr (0, [.int (nI (n)), .int (nI (2 ^ n - 1)), .ref (q 1), .ref (q 2)])), ((q 1), .inl (cI, n, .inl w)), ((q 2), .inl (cM, 2, .inr (.inr (.inr (.inr mr)))))] ++ (mw_ cI cG a0 n t0 ++ (mw_ cI cG a1 n u24 ++ []))) := hD
      refine wi_top hp24.1 ?_
      have hsp : sp_rank n y (nI (1)) (nI (s1)) = nI (ma_r n y.2.2 s1) := by unfold sp_rank; simp only [sw_1, sr_t h_s1 (show 2 ^ n - 1 < 2 ^ 31 by omega), tn_1, tn_nI (show s1 < 2 ^ 31 by omega)]; simp [cb_m]
      exact wb_iret ((w, t0, u24)) hx hb hr hk hAe (by rw [hsp]; exact ⟨rfl, ⟨hI.1, hI0, hp24.2⟩⟩) hP hD hS nd_CB_rank_27
    · refine wc_V (C := nr_CB) (n := 1) hx hb hml hown htg (c_CB_isSet l D _ (q 0) (q 1) (q 2) n s (nI 0) (fun h => absurd h hq9) (fun _ => rfl)) tm_255 tm_252 tm_254 tp_3 tm_1 (by decide +kernel) ⟨⟨Nat.le_trans (by decide) hRf, Nat.le_trans (by decide) hRl⟩, rfl, rfl⟩ (wa_pre (hP.sub [0] rfl) hK hN) (va_recv (q0 := 0) (ci := 0) hK hP rfl rfl) rfl hl.1 rfl (Nat.le_of_ble_eq_true rfl) nd_CB_rank_9 hCS ?_
      refine wi_if_ne (tgt := 17) hx hb (by decide) nd_CB_rank_12 rfl (fun h => absurd h (by decide)) (fun _ => ?_)
      refine lv_iconst (v := -1) hx hb nd_CB_rank_15 (by decide) ?_
      have hsp : sp_rank n y (nI (1)) s = -1 := by unfold sp_rank; simp [sr_f hq9]
      exact wb_iret ((w, t0, t1)) hx hb hr hk hAe (by rw [hsp]; exact ⟨rfl, hI⟩) hP hD hS nd_CB_rank_16
  · refine wc_S (n := 1) hx hb hml hown htg (c_CB_isMatroid l D _ wh (nI 0) (fun h => absurd h (fun z => z.elim (fun z => hw1.1 (z.trans nI_0.symm)) hw1.2)) (fun _ => rfl)) tm_141 tm_139 tm_140 tm_1 (by decide +kernel) ⟨⟨Nat.le_trans (by decide) hRf, Nat.le_trans (by decide) hRl⟩, rfl, rfl⟩ (wa_pre wa_nil hK hN) rfl hl.1 rfl (Nat.le_of_ble_eq_true rfl) nd_CB_rank_1 hCS ?_
    refine wi_if_eq (tgt := 15) hx hb (by decide) nd_CB_rank_4 rfl (fun _ => ?_) (fun h => absurd h (by decide))
    refine lv_iconst (v := -1) hx hb nd_CB_rank_15 (by decide) ?_
    have hsp : sp_rank n y wh s = -1 := by unfold sp_rank; simp [sw_n hw1]
    exact wb_iret ((w, t0, t1)) hx hb hr hk hAe (by rw [hsp]; exact ⟨rfl, hI⟩) hP hD hS nd_CB_rank_16
theorem nd_CB_independent_0 : decode nc_CB_independent 0 = .ok (.iload_n 1, 1) := by decide +kernel
theorem nd_CB_independent_1 : decode nc_CB_independent 1 = .ok (.invokestatic 29, 3) := by decide +kernel
theorem nd_CB_independent_4 : decode nc_CB_independent 4 = .ok (.ifCond .eq 11, 3) := by decide +kernel
theorem nd_CB_independent_7 : decode nc_CB_independent 7 = .ok (.aload_n 0, 1) := by decide +kernel
theorem nd_CB_independent_8 : decode nc_CB_independent 8 = .ok (.iload_n 2, 1) := by decide +kernel
theorem nd_CB_independent_9 : decode nc_CB_independent 9 = .ok (.invokevirtual 70, 3) := by decide +kernel
theorem nd_CB_independent_12 : decode nc_CB_independent 12 = .ok (.ifCond .ne 5, 3) := by decide +kernel
theorem nd_CB_independent_15 : decode nc_CB_independent 15 = .ok (.iconst (-1), 1) := by decide +kernel
theorem nd_CB_independent_16 : decode nc_CB_independent 16 = .ok (.ireturn, 1) := by decide +kernel
theorem nd_CB_independent_17 : decode nc_CB_independent 17 = .ok (.aload_n 0, 1) := by decide +kernel
theorem nd_CB_independent_18 : decode nc_CB_independent 18 = .ok (.getfield 25, 3) := by decide +kernel
theorem nd_CB_independent_21 : decode nc_CB_independent 21 = .ok (.iload_n 1, 1) := by decide +kernel
theorem nd_CB_independent_22 : decode nc_CB_independent 22 = .ok (.aaload, 1) := by decide +kernel
theorem nd_CB_independent_23 : decode nc_CB_independent 23 = .ok (.iload_n 2, 1) := by decide +kernel
theorem nd_CB_independent_24 : decode nc_CB_independent 24 = .ok (.invokevirtual 73, 3) := by decide +kernel
theorem nd_CB_independent_27 : decode nc_CB_independent 27 = .ok (.ifCond .eq 7, 3) := by decide +kernel
theorem nd_CB_independent_30 : decode nc_CB_independent 30 = .ok (.iconst 1, 1) := by decide +kernel
theorem nd_CB_independent_31 : decode nc_CB_independent 31 = .ok (.goto 4, 3) := by decide +kernel
theorem nd_CB_independent_34 : decode nc_CB_independent 34 = .ok (.iconst 0, 1) := by decide +kernel
theorem nd_CB_independent_35 : decode nc_CB_independent 35 = .ok (.ireturn, 1) := by decide +kernel
set_option maxRecDepth 20000 in
theorem c_CB_independent (l : Launch) (D : va_G) (cI cG cM : ClassId)  (q : Nat → Nat) (n : Nat) (hn1 : 1 ≤ n) (hn : n ≤ 10) (mr : Nat → Option Nat) (a0 a1 : ma_A) (hm0 : mr 0 = some (a0.1 0)) (hm1 : mr 1 = some (a1.1 0)) (w : Nat → Int32) (t0 t1 : ma_S) (y : cb_Y) (hI : cb_I n y (w, t0, t1)) (wh s : Int32) (sz : Nat) : wb_Mi l ny_CB_independent nc_CB_independent 3 (some .int) ({ frames := 6, cells := 0, slots := 0, locals := 133 }) D (ty_all cI cG cM) (cw_ cI cG cM q n mr a0 a1 (w, t0, t1)) sz [.ref (q 0), .int (wh), .int (s)] (fun (v : Int32) (u : cb_S) => v = sp_indep n y wh s ∧ cb_I n y u) (fun u : cb_S => cw_ cI cG cM q n mr a0 a1 u) := by
  refine wb_start (S := cb_S) (by decide) (Nat.le_of_ble_eq_true rfl) ?_
  intro p e0 s0 m below meth c ls A hx hb hr hml htg hown hk hP hK hN hl hAe hsz hD hA
  have hl : lv_has ls 3 [(0, .ref (q 0)), (1, .int (wh)), (2, .int (s))] := hl
  have hP : va_P D cl_all ([((q 0), .inr (0, [.int (nI (n)), .int (nI (2 ^ n - 1)), .ref (q 1), .ref (q 2)])), ((q 1), .inl (cI, n, .inl w)), ((q 2), .inl (cM, 2, .inr (.inr (.inr (.inr mr)))))] ++ (mw_ cI cG a0 n t0 ++ (mw_ cI cG a1 n t1 ++ []))) s0.heap := hP
  have hD : va_D A ([((q 0), .inr (0, [.int (nI (n)), .int (nI (2 ^ n - 1)), .ref (q 1), .ref (q 2)])), ((q 1), .inl (cI, n, .inl w)), ((q 2), .inl (cM, 2, .inr (.inr (.inr (.inr mr)))))] ++ (mw_ cI cG a0 n t0 ++ (mw_ cI cG a1 n t1 ++ []))) := hD
  have hS : va_S A s0.heap s0.heap [] := va_S.rf
  have hRf : 6 ≤ ({ frames := 6, cells := 0, slots := 0, locals := 133 } : Room).frames := Nat.le_refl _
  have hRl : 133 ≤ ({ frames := 6, cells := 0, slots := 0, locals := 133 } : Room).locals := Nat.le_refl _
  have hCS : 0 ≤ ({ frames := 6, cells := 0, slots := 0, locals := 133 } : Room).cells ∧ 0 ≤ ({ frames := 6, cells := 0, slots := 0, locals := 133 } : Room).slots := ⟨Nat.zero_le _, Nat.zero_le _⟩
  have h2n : 2 ^ n ≤ 1024 := Nat.pow_le_pow_right (by omega) hn
  have h2p : 1 ≤ 2 ^ n := Nat.one_le_two_pow
  have hI0 : ma_I n y.2.1 t0 := hI.2.1
  have hI1 : ma_I n y.2.2 t1 := hI.2.2
  refine lv_iload_n hx hb nd_CB_independent_0 rfl (lv_at hl 1 rfl) ?_
  rcases sm_which wh with hw1 | hw1 | hw1
  · subst hw1
    refine wc_S (n := 1) hx hb hml hown htg (c_CB_isMatroid l D _ (nI 0) (nI 1) (fun _ => rfl) (fun h => absurd (Or.inl nI_0) h)) tm_141 tm_139 tm_140 tm_1 (by decide +kernel) ⟨⟨Nat.le_trans (by decide) hRf, Nat.le_trans (by decide) hRl⟩, rfl, rfl⟩ (wa_pre wa_nil hK hN) rfl hl.1 rfl (Nat.le_of_ble_eq_true rfl) nd_CB_independent_1 hCS ?_
    refine wi_if_eq (tgt := 15) hx hb (by decide) nd_CB_independent_4 rfl (fun h => absurd h (by decide)) (fun _ => ?_)
    refine lv_aload_n hx hb nd_CB_independent_7 rfl (lv_at hl 0 rfl) ?_
    refine lv_iload_n hx hb nd_CB_independent_8 rfl (lv_at hl 2 rfl) ?_
    by_cases hq9 : ¬ s < 0 ∧ ¬ nI (2 ^ n - 1) < s
    · obtain ⟨s1, h_s1, rfl⟩ := sm_upto (by omega) hq9
      refine wc_V (C := nr_CB) (n := 1) hx hb hml hown htg (c_CB_isSet l D _ (q 0) (q 1) (q 2) n (nI s1) (nI 1) (fun _ => rfl) (fun h => absurd hq9 h)) tm_255 tm_252 tm_254 tp_3 tm_1 (by decide +kernel) ⟨⟨Nat.le_trans (by decide) hRf, Nat.le_trans (by decide) hRl⟩, rfl, rfl⟩ (wa_pre (hP.sub [0] rfl) hK hN) (va_recv (q0 := 0) (ci := 0) hK hP rfl rfl) rfl hl.1 rfl (Nat.le_of_ble_eq_true rfl) nd_CB_independent_9 hCS ?_
      refine wi_if_ne (tgt := 17) hx hb (by decide) nd_CB_independent_12 rfl (fun _ => ?_) (fun h => absurd h (by decide))
      refine lv_aload_n hx hb nd_CB_independent_17 rfl (lv_at hl 0 rfl) ?_
      refine va_get (D := D) (C := nr_CB) (T := nt_CB) (N := 4) hx hb htg tf_CB hown hK hP 0 rfl rfl 3 (by decide) (htg _ tm_125) (fun _ h => h) rfl nd_CB_independent_18 ?_
      refine lv_iload_n hx hb nd_CB_independent_21 rfl (lv_at hl 1 rfl) ?_
      refine wi_aald (v := (a0.1 0)) hx hb hK hP 2 2 rfl rfl rfl (by omega) (by omega) (hm0) nd_CB_independent_22 ?_
      refine lv_iload_n hx hb nd_CB_independent_23 rfl (lv_at hl 2 rfl) ?_
      refine wd_Vi (C := nr_MA) (n := 1) (X := [((q 0), .inr (0, [.int (nI (n)), .int (nI (2 ^ n - 1)), .ref (q 1), .ref (q 2)])), ((q 1), .inl (cI, n, .inl w)), ((q 2), .inl (cM, 2, .inr (.inr (.inr (.inr mr)))))]) (Y := mw_ cI cG a0 n t0) (Z := (mw_ cI cG a1 n t1 ++ [])) hx hb hml hown htg (c_MA_isIndependent l D cI cG cM a0 n hn t0.1 t0.2.1 t0.2.2.1 t0.2.2.2.1 t0.2.2.2.2.1 t0.2.2.2.2.2 y.2.1 hI0 s1 (by omega) _) tm_259 tm_256 tm_257 tm_258 tm_2 (by decide +kernel) ⟨⟨Nat.le_trans (by decide) hRf, Nat.le_trans (by decide) hRl⟩, rfl, rfl⟩ hP hD hS hA hK hN (va_recv (q0 := 0) (ci := 1) hK (wm_P (X := [((q 0), .inr (0, [.int (nI (n)), .int (nI (2 ^ n - 1)), .ref (q 1), .ref (q 2)])), ((q 1), .inl (cI, n, .inl w)), ((q 2), .inl (cM, 2, .inr (.inr (.inr (.inr mr)))))]) (Y := mw_ cI cG a0 n t0) (Z := (mw_ cI cG a1 n t1 ++ [])) hP).2.1 rfl rfl) rfl hl.1 rfl (Nat.le_of_ble_eq_true rfl) nd_CB_independent_24 hCS (fun v24 u24 H locs hp24 hP hD hS => ?_)
      have hP : va_P D cl_all ([((q 0), .inr (0, [.int (nI (n)), .int (nI (2 ^ n - 1)), .ref (q 1), .ref (q 2)])), ((q 1), .inl (cI, n, .inl w)), ((q 2), .inl (cM, 2, .inr (.inr (.inr (.inr mr)))))] ++ (mw_ cI cG a0 n u24 ++ (mw_ cI cG a1 n t1 ++ []))) H := hP
      have hD : va_D A ([((q 0), .inr (0, [.int (nI (n)), .int (nI (2 ^ n - 1)), .ref (q 1), .ref (q 2)])), ((q 1), .inl (cI, n, .inl w)), ((q 2), .inl (cM, 2, .inr (.inr (.inr (.inr mr)))))] ++ (mw_ cI cG a0 n u24 ++ (mw_ cI cG a1 n t1 ++ []))) := hD
      refine lv_if_eq (tgt := 34) hx hb nd_CB_independent_27 rfl (fun hc27 => ?_) (fun hc27 => ?_)
      · refine wi_ic hx hb (a := 0) nd_CB_independent_34 ?_
        have hin : ¬ ma_r n y.2.1 s1 = mt_cd n s1 := fun q => nI_ne0 (n := 1) (by omega) (by omega) ((hp24.1 q).symm.trans hc27)
        have hsp : sp_indep n y (nI (0)) (nI (s1)) = nI 0 := by unfold sp_indep; simp only [sw_0, sr_t h_s1 (show 2 ^ n - 1 < 2 ^ 31 by omega), tn_0, tn_nI (show s1 < 2 ^ 31 by omega)]; simp [cb_m, hin]
        exact wb_iret ((w, u24, t1)) hx hb hr hk hAe (by rw [hsp]; exact ⟨rfl, ⟨hI.1, hp24.2.2, hI1⟩⟩) hP hD hS nd_CB_independent_35
      · refine wi_ic hx hb (a := 1) nd_CB_independent_30 ?_
        refine lv_goto (tgt := 35) hx hb nd_CB_independent_31 rfl ?_
        have hin : ma_r n y.2.1 s1 = mt_cd n s1 := Classical.byContradiction fun q => hc27 ((hp24.2.1 q).trans nI_0)
        have hsp : sp_indep n y (nI (0)) (nI (s1)) = nI 1 := by unfold sp_indep; simp only [sw_0, sr_t h_s1 (show 2 ^ n - 1 < 2 ^ 31 by omega), tn_0, tn_nI (show s1 < 2 ^ 31 by omega)]; simp [cb_m, hin]
        exact wb_iret ((w, u24, t1)) hx hb hr hk hAe (by rw [hsp]; exact ⟨rfl, ⟨hI.1, hp24.2.2, hI1⟩⟩) hP hD hS nd_CB_independent_35
    · refine wc_V (C := nr_CB) (n := 1) hx hb hml hown htg (c_CB_isSet l D _ (q 0) (q 1) (q 2) n s (nI 0) (fun h => absurd h hq9) (fun _ => rfl)) tm_255 tm_252 tm_254 tp_3 tm_1 (by decide +kernel) ⟨⟨Nat.le_trans (by decide) hRf, Nat.le_trans (by decide) hRl⟩, rfl, rfl⟩ (wa_pre (hP.sub [0] rfl) hK hN) (va_recv (q0 := 0) (ci := 0) hK hP rfl rfl) rfl hl.1 rfl (Nat.le_of_ble_eq_true rfl) nd_CB_independent_9 hCS ?_
      refine wi_if_ne (tgt := 17) hx hb (by decide) nd_CB_independent_12 rfl (fun h => absurd h (by decide)) (fun _ => ?_)
      refine lv_iconst (v := -1) hx hb nd_CB_independent_15 (by decide) ?_
      have hsp : sp_indep n y (nI (0)) s = -1 := by unfold sp_indep; simp [sr_f hq9]
      exact wb_iret ((w, t0, t1)) hx hb hr hk hAe (by rw [hsp]; exact ⟨rfl, hI⟩) hP hD hS nd_CB_independent_16
  · subst hw1
    refine wc_S (n := 1) hx hb hml hown htg (c_CB_isMatroid l D _ (nI 1) (nI 1) (fun _ => rfl) (fun h => absurd (Or.inr rfl) h)) tm_141 tm_139 tm_140 tm_1 (by decide +kernel) ⟨⟨Nat.le_trans (by decide) hRf, Nat.le_trans (by decide) hRl⟩, rfl, rfl⟩ (wa_pre wa_nil hK hN) rfl hl.1 rfl (Nat.le_of_ble_eq_true rfl) nd_CB_independent_1 hCS ?_
    refine wi_if_eq (tgt := 15) hx hb (by decide) nd_CB_independent_4 rfl (fun h => absurd h (by decide)) (fun _ => ?_)
    refine lv_aload_n hx hb nd_CB_independent_7 rfl (lv_at hl 0 rfl) ?_
    refine lv_iload_n hx hb nd_CB_independent_8 rfl (lv_at hl 2 rfl) ?_
    by_cases hq9 : ¬ s < 0 ∧ ¬ nI (2 ^ n - 1) < s
    · obtain ⟨s1, h_s1, rfl⟩ := sm_upto (by omega) hq9
      refine wc_V (C := nr_CB) (n := 1) hx hb hml hown htg (c_CB_isSet l D _ (q 0) (q 1) (q 2) n (nI s1) (nI 1) (fun _ => rfl) (fun h => absurd hq9 h)) tm_255 tm_252 tm_254 tp_3 tm_1 (by decide +kernel) ⟨⟨Nat.le_trans (by decide) hRf, Nat.le_trans (by decide) hRl⟩, rfl, rfl⟩ (wa_pre (hP.sub [0] rfl) hK hN) (va_recv (q0 := 0) (ci := 0) hK hP rfl rfl) rfl hl.1 rfl (Nat.le_of_ble_eq_true rfl) nd_CB_independent_9 hCS ?_
      refine wi_if_ne (tgt := 17) hx hb (by decide) nd_CB_independent_12 rfl (fun _ => ?_) (fun h => absurd h (by decide))
      refine lv_aload_n hx hb nd_CB_independent_17 rfl (lv_at hl 0 rfl) ?_
      refine va_get (D := D) (C := nr_CB) (T := nt_CB) (N := 4) hx hb htg tf_CB hown hK hP 0 rfl rfl 3 (by decide) (htg _ tm_125) (fun _ h => h) rfl nd_CB_independent_18 ?_
      refine lv_iload_n hx hb nd_CB_independent_21 rfl (lv_at hl 1 rfl) ?_
      refine wi_aald (v := (a1.1 0)) hx hb hK hP 2 2 rfl rfl rfl (by omega) (by omega) (hm1) nd_CB_independent_22 ?_
      refine lv_iload_n hx hb nd_CB_independent_23 rfl (lv_at hl 2 rfl) ?_
      rw [← List.append_assoc] at hP hD
      refine wd_Vi (C := nr_MA) (n := 1) (X := ([((q 0), .inr (0, [.int (nI (n)), .int (nI (2 ^ n - 1)), .ref (q 1), .ref (q 2)])), ((q 1), .inl (cI, n, .inl w)), ((q 2), .inl (cM, 2, .inr (.inr (.inr (.inr mr)))))] ++ mw_ cI cG a0 n t0)) (Y := mw_ cI cG a1 n t1) (Z := []) hx hb hml hown htg (c_MA_isIndependent l D cI cG cM a1 n hn t1.1 t1.2.1 t1.2.2.1 t1.2.2.2.1 t1.2.2.2.2.1 t1.2.2.2.2.2 y.2.2 hI1 s1 (by omega) _) tm_259 tm_256 tm_257 tm_258 tm_2 (by decide +kernel) ⟨⟨Nat.le_trans (by decide) hRf, Nat.le_trans (by decide) hRl⟩, rfl, rfl⟩ hP hD hS hA hK hN (va_recv (q0 := 0) (ci := 1) hK (wm_P (X := ([((q 0), .inr (0, [.int (nI (n)), .int (nI (2 ^ n - 1)), .ref (q 1), .ref (q 2)])), ((q 1), .inl (cI, n, .inl w)), ((q 2), .inl (cM, 2, .inr (.inr (.inr (.inr mr)))))] ++ mw_ cI cG a0 n t0)) (Y := mw_ cI cG a1 n t1) (Z := []) hP).2.1 rfl rfl) rfl hl.1 rfl (Nat.le_of_ble_eq_true rfl) nd_CB_independent_24 hCS (fun v24 u24 H locs hp24 hP hD hS => ?_)
      rw [List.append_assoc] at hP hD
      have hP : va_P D cl_all ([((q 0), .inr (0, [.int (nI (n)), .int (nI (2 ^ n - 1)), .ref (q 1), .ref (q 2)])), ((q 1), .inl (cI, n, .inl w)), ((q 2), .inl (cM, 2, .inr (.inr (.inr (.inr mr)))))] ++ (mw_ cI cG a0 n t0 ++ (mw_ cI cG a1 n u24 ++ []))) H := hP
      have hD : va_D A ([((q 0), .inr (0, [.int (nI (n)), .int (nI (2 ^ n - 1)), .ref (q 1), .ref (q 2)])), ((q 1), .inl (cI, n, .inl w)), ((q 2), .inl (cM, 2, .inr (.inr (.inr (.inr mr)))))] ++ (mw_ cI cG a0 n t0 ++ (mw_ cI cG a1 n u24 ++ []))) := hD
      refine lv_if_eq (tgt := 34) hx hb nd_CB_independent_27 rfl (fun hc27 => ?_) (fun hc27 => ?_)
      · refine wi_ic hx hb (a := 0) nd_CB_independent_34 ?_
        have hin : ¬ ma_r n y.2.2 s1 = mt_cd n s1 := fun q => nI_ne0 (n := 1) (by omega) (by omega) ((hp24.1 q).symm.trans hc27)
        have hsp : sp_indep n y (nI (1)) (nI (s1)) = nI 0 := by unfold sp_indep; simp only [sw_1, sr_t h_s1 (show 2 ^ n - 1 < 2 ^ 31 by omega), tn_1, tn_nI (show s1 < 2 ^ 31 by omega)]; simp [cb_m, hin]
        exact wb_iret ((w, t0, u24)) hx hb hr hk hAe (by rw [hsp]; exact ⟨rfl, ⟨hI.1, hI0, hp24.2.2⟩⟩) hP hD hS nd_CB_independent_35
      · refine wi_ic hx hb (a := 1) nd_CB_independent_30 ?_
        refine lv_goto (tgt := 35) hx hb nd_CB_independent_31 rfl ?_
        have hin : ma_r n y.2.2 s1 = mt_cd n s1 := Classical.byContradiction fun q => hc27 ((hp24.2.1 q).trans nI_0)
        have hsp : sp_indep n y (nI (1)) (nI (s1)) = nI 1 := by unfold sp_indep; simp only [sw_1, sr_t h_s1 (show 2 ^ n - 1 < 2 ^ 31 by omega), tn_1, tn_nI (show s1 < 2 ^ 31 by omega)]; simp [cb_m, hin]
        exact wb_iret ((w, t0, u24)) hx hb hr hk hAe (by rw [hsp]; exact ⟨rfl, ⟨hI.1, hI0, hp24.2.2⟩⟩) hP hD hS nd_CB_independent_35
    · refine wc_V (C := nr_CB) (n := 1) hx hb hml hown htg (c_CB_isSet l D _ (q 0) (q 1) (q 2) n s (nI 0) (fun h => absurd h hq9) (fun _ => rfl)) tm_255 tm_252 tm_254 tp_3 tm_1 (by decide +kernel) ⟨⟨Nat.le_trans (by decide) hRf, Nat.le_trans (by decide) hRl⟩, rfl, rfl⟩ (wa_pre (hP.sub [0] rfl) hK hN) (va_recv (q0 := 0) (ci := 0) hK hP rfl rfl) rfl hl.1 rfl (Nat.le_of_ble_eq_true rfl) nd_CB_independent_9 hCS ?_
      refine wi_if_ne (tgt := 17) hx hb (by decide) nd_CB_independent_12 rfl (fun h => absurd h (by decide)) (fun _ => ?_)
      refine lv_iconst (v := -1) hx hb nd_CB_independent_15 (by decide) ?_
      have hsp : sp_indep n y (nI (1)) s = -1 := by unfold sp_indep; simp [sr_f hq9]
      exact wb_iret ((w, t0, t1)) hx hb hr hk hAe (by rw [hsp]; exact ⟨rfl, hI⟩) hP hD hS nd_CB_independent_16
  · refine wc_S (n := 1) hx hb hml hown htg (c_CB_isMatroid l D _ wh (nI 0) (fun h => absurd h (fun z => z.elim (fun z => hw1.1 (z.trans nI_0.symm)) hw1.2)) (fun _ => rfl)) tm_141 tm_139 tm_140 tm_1 (by decide +kernel) ⟨⟨Nat.le_trans (by decide) hRf, Nat.le_trans (by decide) hRl⟩, rfl, rfl⟩ (wa_pre wa_nil hK hN) rfl hl.1 rfl (Nat.le_of_ble_eq_true rfl) nd_CB_independent_1 hCS ?_
    refine wi_if_eq (tgt := 15) hx hb (by decide) nd_CB_independent_4 rfl (fun _ => ?_) (fun h => absurd h (by decide))
    refine lv_iconst (v := -1) hx hb nd_CB_independent_15 (by decide) ?_
    have hsp : sp_indep n y wh s = -1 := by unfold sp_indep; simp [sw_n hw1]
    exact wb_iret ((w, t0, t1)) hx hb hr hk hAe (by rw [hsp]; exact ⟨rfl, hI⟩) hP hD hS nd_CB_independent_16
theorem nd_CB_weightOf_0 : decode nc_CB_weightOf 0 = .ok (.aload_n 0, 1) := by decide +kernel
theorem nd_CB_weightOf_1 : decode nc_CB_weightOf 1 = .ok (.iload_n 1, 1) := by decide +kernel
theorem nd_CB_weightOf_2 : decode nc_CB_weightOf 2 = .ok (.invokevirtual 70, 3) := by decide +kernel
theorem nd_CB_weightOf_5 : decode nc_CB_weightOf 5 = .ok (.ifCond .eq 11, 3) := by decide +kernel
theorem nd_CB_weightOf_8 : decode nc_CB_weightOf 8 = .ok (.aload_n 0, 1) := by decide +kernel
theorem nd_CB_weightOf_9 : decode nc_CB_weightOf 9 = .ok (.iload_n 1, 1) := by decide +kernel
theorem nd_CB_weightOf_10 : decode nc_CB_weightOf 10 = .ok (.invokevirtual 94, 3) := by decide +kernel
theorem nd_CB_weightOf_13 : decode nc_CB_weightOf 13 = .ok (.goto 4, 3) := by decide +kernel
theorem nd_CB_weightOf_16 : decode nc_CB_weightOf 16 = .ok (.iconst 0, 1) := by decide +kernel
theorem nd_CB_weightOf_17 : decode nc_CB_weightOf 17 = .ok (.ireturn, 1) := by decide +kernel
set_option maxRecDepth 20000 in
theorem c_CB_weightOf (l : Launch) (D : va_G) (cI cG cM : ClassId)  (q : Nat → Nat) (n : Nat) (hn1 : 1 ≤ n) (hn : n ≤ 10) (mr : Nat → Option Nat) (a0 a1 : ma_A) (hm0 : mr 0 = some (a0.1 0)) (hm1 : mr 1 = some (a1.1 0)) (w : Nat → Int32) (t0 t1 : ma_S) (y : cb_Y) (hI : cb_I n y (w, t0, t1)) (s : Int32) (sz : Nat) : wb_Mi l ny_CB_weightOf nc_CB_weightOf 2 (some .int) ({ frames := 2, cells := 0, slots := 0, locals := 44 }) D (ty_all cI cG cM) (cw_ cI cG cM q n mr a0 a1 (w, t0, t1)) sz [.ref (q 0), .int (s)] (fun (v : Int32) (u : cb_S) => v = sp_weightOf n y s ∧ cb_I n y u) (fun u : cb_S => cw_ cI cG cM q n mr a0 a1 u) := by
  refine wb_start (S := cb_S) (by decide) (Nat.le_of_ble_eq_true rfl) ?_
  intro p e0 s0 m below meth c ls A hx hb hr hml htg hown hk hP hK hN hl hAe hsz hD hA
  have hl : lv_has ls 2 [(0, .ref (q 0)), (1, .int (s))] := hl
  have hP : va_P D cl_all ([((q 0), .inr (0, [.int (nI (n)), .int (nI (2 ^ n - 1)), .ref (q 1), .ref (q 2)])), ((q 1), .inl (cI, n, .inl w)), ((q 2), .inl (cM, 2, .inr (.inr (.inr (.inr mr)))))] ++ (mw_ cI cG a0 n t0 ++ (mw_ cI cG a1 n t1 ++ []))) s0.heap := hP
  have hD : va_D A ([((q 0), .inr (0, [.int (nI (n)), .int (nI (2 ^ n - 1)), .ref (q 1), .ref (q 2)])), ((q 1), .inl (cI, n, .inl w)), ((q 2), .inl (cM, 2, .inr (.inr (.inr (.inr mr)))))] ++ (mw_ cI cG a0 n t0 ++ (mw_ cI cG a1 n t1 ++ []))) := hD
  have hS : va_S A s0.heap s0.heap [] := va_S.rf
  have hRf : 2 ≤ ({ frames := 2, cells := 0, slots := 0, locals := 44 } : Room).frames := Nat.le_refl _
  have hRl : 44 ≤ ({ frames := 2, cells := 0, slots := 0, locals := 44 } : Room).locals := Nat.le_refl _
  have hCS : 0 ≤ ({ frames := 2, cells := 0, slots := 0, locals := 44 } : Room).cells ∧ 0 ≤ ({ frames := 2, cells := 0, slots := 0, locals := 44 } : Room).slots := ⟨Nat.zero_le _, Nat.zero_le _⟩
  have h2n : 2 ^ n ≤ 1024 := Nat.pow_le_pow_right (by omega) hn
  have h2p : 1 ≤ 2 ^ n := Nat.one_le_two_pow
  have hI0 : ma_I n y.2.1 t0 := hI.2.1
  have hI1 : ma_I n y.2.2 t1 := hI.2.2
  refine lv_aload_n hx hb nd_CB_weightOf_0 rfl (lv_at hl 0 rfl) ?_
  refine lv_iload_n hx hb nd_CB_weightOf_1 rfl (lv_at hl 1 rfl) ?_
  by_cases hq2 : ¬ s < 0 ∧ ¬ nI (2 ^ n - 1) < s
  · obtain ⟨s1, h_s1, rfl⟩ := sm_upto (by omega) hq2
    refine wc_V (C := nr_CB) (n := 1) hx hb hml hown htg (c_CB_isSet l D _ (q 0) (q 1) (q 2) n (nI s1) (nI 1) (fun _ => rfl) (fun h => absurd hq2 h)) tm_255 tm_252 tm_254 tp_3 tm_1 (by decide +kernel) ⟨⟨Nat.le_trans (by decide) hRf, Nat.le_trans (by decide) hRl⟩, rfl, rfl⟩ (wa_pre (hP.sub [0] rfl) hK hN) (va_recv (q0 := 0) (ci := 0) hK hP rfl rfl) rfl hl.1 rfl (Nat.le_of_ble_eq_true rfl) nd_CB_weightOf_2 hCS ?_
    refine wi_if_eq (tgt := 16) hx hb (by decide) nd_CB_weightOf_5 rfl (fun h => absurd h (by decide)) (fun _ => ?_)
    refine lv_aload_n hx hb nd_CB_weightOf_8 rfl (lv_at hl 0 rfl) ?_
    refine lv_iload_n hx hb nd_CB_weightOf_9 rfl (lv_at hl 1 rfl) ?_
    refine wc_V (C := nr_CB) (n := 1) hx hb hml hown htg (c_CB_sumOfWeights l D cI cG cM (q 0) (q 1) (q 2) n hn w s1 (by omega)) tm_344 tm_341 tm_343 tp_9 tm_1 (by decide +kernel) ⟨⟨Nat.le_trans (by decide) hRf, Nat.le_trans (by decide) hRl⟩, rfl, rfl⟩ (wa_pre (hP.sub [0, 1] rfl) hK hN) (va_recv (q0 := 0) (ci := 0) hK hP rfl rfl) rfl hl.1 rfl (Nat.le_of_ble_eq_true rfl) nd_CB_weightOf_10 hCS ?_
    refine lv_goto (tgt := 17) hx hb nd_CB_weightOf_13 rfl ?_
    have hsp : sp_weightOf n y (nI s1) = ms_W w n s1 := by unfold sp_weightOf; rw [sr_t h_s1 (show 2 ^ n - 1 < 2 ^ 31 by omega), tn_nI (show s1 < 2 ^ 31 by omega), ms_W_eq (fun e he => (hI.1 e he).1)]; rfl
    exact wb_iret (w, t0, t1) hx hb hr hk hAe (by rw [hsp]; exact ⟨rfl, hI⟩) hP hD hS nd_CB_weightOf_17
  · refine wc_V (C := nr_CB) (n := 1) hx hb hml hown htg (c_CB_isSet l D _ (q 0) (q 1) (q 2) n s (nI 0) (fun h => absurd h hq2) (fun _ => rfl)) tm_255 tm_252 tm_254 tp_3 tm_1 (by decide +kernel) ⟨⟨Nat.le_trans (by decide) hRf, Nat.le_trans (by decide) hRl⟩, rfl, rfl⟩ (wa_pre (hP.sub [0] rfl) hK hN) (va_recv (q0 := 0) (ci := 0) hK hP rfl rfl) rfl hl.1 rfl (Nat.le_of_ble_eq_true rfl) nd_CB_weightOf_2 hCS ?_
    refine wi_if_eq (tgt := 16) hx hb (by decide) nd_CB_weightOf_5 rfl (fun _ => ?_) (fun h => absurd h (by decide))
    refine wi_ic hx hb (a := 0) nd_CB_weightOf_16 ?_
    have hsp : sp_weightOf n y s = 0 := by unfold sp_weightOf; simp [sr_f hq2]
    exact wb_iret (w, t0, t1) hx hb hr hk hAe (by rw [hsp]; exact ⟨nI_0, hI⟩) hP hD hS nd_CB_weightOf_17
theorem nd_CB_isCommon_0 : decode nc_CB_isCommon 0 = .ok (.aload_n 0, 1) := by decide +kernel
theorem nd_CB_isCommon_1 : decode nc_CB_isCommon 1 = .ok (.getfield 25, 3) := by decide +kernel
theorem nd_CB_isCommon_4 : decode nc_CB_isCommon 4 = .ok (.iconst 0, 1) := by decide +kernel
theorem nd_CB_isCommon_5 : decode nc_CB_isCommon 5 = .ok (.aaload, 1) := by decide +kernel
theorem nd_CB_isCommon_6 : decode nc_CB_isCommon 6 = .ok (.iload_n 1, 1) := by decide +kernel
theorem nd_CB_isCommon_7 : decode nc_CB_isCommon 7 = .ok (.invokevirtual 73, 3) := by decide +kernel
theorem nd_CB_isCommon_10 : decode nc_CB_isCommon 10 = .ok (.ifCond .eq 20, 3) := by decide +kernel
theorem nd_CB_isCommon_13 : decode nc_CB_isCommon 13 = .ok (.aload_n 0, 1) := by decide +kernel
theorem nd_CB_isCommon_14 : decode nc_CB_isCommon 14 = .ok (.getfield 25, 3) := by decide +kernel
theorem nd_CB_isCommon_17 : decode nc_CB_isCommon 17 = .ok (.iconst 1, 1) := by decide +kernel
theorem nd_CB_isCommon_18 : decode nc_CB_isCommon 18 = .ok (.aaload, 1) := by decide +kernel
theorem nd_CB_isCommon_19 : decode nc_CB_isCommon 19 = .ok (.iload_n 1, 1) := by decide +kernel
theorem nd_CB_isCommon_20 : decode nc_CB_isCommon 20 = .ok (.invokevirtual 73, 3) := by decide +kernel
theorem nd_CB_isCommon_23 : decode nc_CB_isCommon 23 = .ok (.ifCond .eq 7, 3) := by decide +kernel
theorem nd_CB_isCommon_26 : decode nc_CB_isCommon 26 = .ok (.iconst 1, 1) := by decide +kernel
theorem nd_CB_isCommon_27 : decode nc_CB_isCommon 27 = .ok (.goto 4, 3) := by decide +kernel
theorem nd_CB_isCommon_30 : decode nc_CB_isCommon 30 = .ok (.iconst 0, 1) := by decide +kernel
theorem nd_CB_isCommon_31 : decode nc_CB_isCommon 31 = .ok (.ireturn, 1) := by decide +kernel
set_option maxRecDepth 20000 in
theorem c_CB_isCommon (l : Launch) (D : va_G) (cI cG cM : ClassId)  (q : Nat → Nat) (n : Nat) (hn1 : 1 ≤ n) (hn : n ≤ 10) (mr : Nat → Option Nat) (a0 a1 : ma_A) (hm0 : mr 0 = some (a0.1 0)) (hm1 : mr 1 = some (a1.1 0)) (w : Nat → Int32) (t0 t1 : ma_S) (y : cb_Y) (hI : cb_I n y (w, t0, t1)) (s : Nat) (hs : s < 2 ^ n) (sz : Nat) : wb_Mi l ny_CB_isCommon nc_CB_isCommon 2 (some .boolean) ({ frames := 6, cells := 0, slots := 0, locals := 133 }) D (ty_all cI cG cM) (cw_ cI cG cM q n mr a0 a1 (w, t0, t1)) sz [.ref (q 0), .int (nI (s))] (fun (v : Int32) (u : cb_S) => ((ma_r n y.2.1 s = mt_cd n s ∧ ma_r n y.2.2 s = mt_cd n s) → v = nI 1) ∧ (¬ (ma_r n y.2.1 s = mt_cd n s ∧ ma_r n y.2.2 s = mt_cd n s) → v = nI 0) ∧ cb_I n y u) (fun u : cb_S => cw_ cI cG cM q n mr a0 a1 u) := by
  refine wb_start (S := cb_S) (by decide) (Nat.le_of_ble_eq_true rfl) ?_
  intro p e0 s0 m below meth c ls A hx hb hr hml htg hown hk hP hK hN hl hAe hsz hD hA
  have hl : lv_has ls 2 [(0, .ref (q 0)), (1, .int (nI (s)))] := hl
  have hP : va_P D cl_all ([((q 0), .inr (0, [.int (nI (n)), .int (nI (2 ^ n - 1)), .ref (q 1), .ref (q 2)])), ((q 1), .inl (cI, n, .inl w)), ((q 2), .inl (cM, 2, .inr (.inr (.inr (.inr mr)))))] ++ (mw_ cI cG a0 n t0 ++ (mw_ cI cG a1 n t1 ++ []))) s0.heap := hP
  have hD : va_D A ([((q 0), .inr (0, [.int (nI (n)), .int (nI (2 ^ n - 1)), .ref (q 1), .ref (q 2)])), ((q 1), .inl (cI, n, .inl w)), ((q 2), .inl (cM, 2, .inr (.inr (.inr (.inr mr)))))] ++ (mw_ cI cG a0 n t0 ++ (mw_ cI cG a1 n t1 ++ []))) := hD
  have hS : va_S A s0.heap s0.heap [] := va_S.rf
  have hRf : 6 ≤ ({ frames := 6, cells := 0, slots := 0, locals := 133 } : Room).frames := Nat.le_refl _
  have hRl : 133 ≤ ({ frames := 6, cells := 0, slots := 0, locals := 133 } : Room).locals := Nat.le_refl _
  have hCS : 0 ≤ ({ frames := 6, cells := 0, slots := 0, locals := 133 } : Room).cells ∧ 0 ≤ ({ frames := 6, cells := 0, slots := 0, locals := 133 } : Room).slots := ⟨Nat.zero_le _, Nat.zero_le _⟩
  have h2n : 2 ^ n ≤ 1024 := Nat.pow_le_pow_right (by omega) hn
  have h2p : 1 ≤ 2 ^ n := Nat.one_le_two_pow
  have hI0 : ma_I n y.2.1 t0 := hI.2.1
  have hI1 : ma_I n y.2.2 t1 := hI.2.2
  refine lv_aload_n hx hb nd_CB_isCommon_0 rfl (lv_at hl 0 rfl) ?_
  refine va_get (D := D) (C := nr_CB) (T := nt_CB) (N := 4) hx hb htg tf_CB hown hK hP 0 rfl rfl 3 (by decide) (htg _ tm_125) (fun _ h => h) rfl nd_CB_isCommon_1 ?_
  refine wi_ic hx hb (a := 0) nd_CB_isCommon_4 ?_
  refine wi_aald (v := (a0.1 0)) hx hb hK hP 2 2 rfl rfl rfl (by omega) (by omega) (hm0) nd_CB_isCommon_5 ?_
  refine lv_iload_n hx hb nd_CB_isCommon_6 rfl (lv_at hl 1 rfl) ?_
  refine wd_Vi (C := nr_MA) (n := 1) (X := [((q 0), .inr (0, [.int (nI (n)), .int (nI (2 ^ n - 1)), .ref (q 1), .ref (q 2)])), ((q 1), .inl (cI, n, .inl w)), ((q 2), .inl (cM, 2, .inr (.inr (.inr (.inr mr)))))]) (Y := mw_ cI cG a0 n t0) (Z := (mw_ cI cG a1 n t1 ++ [])) hx hb hml hown htg (c_MA_isIndependent l D cI cG cM a0 n hn t0.1 t0.2.1 t0.2.2.1 t0.2.2.2.1 t0.2.2.2.2.1 t0.2.2.2.2.2 y.2.1 hI0 s (hs) _) tm_259 tm_256 tm_257 tm_258 tm_2 (by decide +kernel) ⟨⟨Nat.le_trans (by decide) hRf, Nat.le_trans (by decide) hRl⟩, rfl, rfl⟩ hP hD hS hA hK hN (va_recv (q0 := 0) (ci := 1) hK (wm_P (X := [((q 0), .inr (0, [.int (nI (n)), .int (nI (2 ^ n - 1)), .ref (q 1), .ref (q 2)])), ((q 1), .inl (cI, n, .inl w)), ((q 2), .inl (cM, 2, .inr (.inr (.inr (.inr mr)))))]) (Y := mw_ cI cG a0 n t0) (Z := (mw_ cI cG a1 n t1 ++ [])) hP).2.1 rfl rfl) rfl hl.1 rfl (Nat.le_of_ble_eq_true rfl) nd_CB_isCommon_7 hCS (fun v7 u7 H locs hp7 hP hD hS => ?_)
  have hP : va_P D cl_all ([((q 0), .inr (0, [.int (nI (n)), .int (nI (2 ^ n - 1)), .ref (q 1), .ref (q 2)])), ((q 1), .inl (cI, n, .inl w)), ((q 2), .inl (cM, 2, .inr (.inr (.inr (.inr mr)))))] ++ (mw_ cI cG a0 n u7 ++ (mw_ cI cG a1 n t1 ++ []))) H := hP
  have hD : va_D A ([((q 0), .inr (0, [.int (nI (n)), .int (nI (2 ^ n - 1)), .ref (q 1), .ref (q 2)])), ((q 1), .inl (cI, n, .inl w)), ((q 2), .inl (cM, 2, .inr (.inr (.inr (.inr mr)))))] ++ (mw_ cI cG a0 n u7 ++ (mw_ cI cG a1 n t1 ++ []))) := hD
  refine lv_if_eq (tgt := 30) hx hb nd_CB_isCommon_10 rfl (fun hc10 => ?_) (fun hc10 => ?_)
  · refine wi_ic hx hb (a := 0) nd_CB_isCommon_30 ?_
    have h0 : ¬ ma_r n y.2.1 s = mt_cd n s := fun q => nI_ne0 (n := 1) (by omega) (by omega) ((hp7.1 q).symm.trans hc10)
    exact wb_zret ((w, u7, t1)) hx hb hr hk rfl hAe (⟨fun q => absurd q.1 h0, fun _ => rfl, ⟨hI.1, hp7.2.2, hI1⟩⟩) hP hD hS nd_CB_isCommon_31
  · refine lv_aload_n hx hb nd_CB_isCommon_13 rfl (lv_at hl 0 rfl) ?_
    refine va_get (D := D) (C := nr_CB) (T := nt_CB) (N := 4) hx hb htg tf_CB hown hK hP 0 rfl rfl 3 (by decide) (htg _ tm_125) (fun _ h => h) rfl nd_CB_isCommon_14 ?_
    refine wi_ic hx hb (a := 1) nd_CB_isCommon_17 ?_
    refine wi_aald (v := (a1.1 0)) hx hb hK hP 2 2 rfl rfl rfl (by omega) (by omega) (hm1) nd_CB_isCommon_18 ?_
    refine lv_iload_n hx hb nd_CB_isCommon_19 rfl (lv_at hl 1 rfl) ?_
    rw [← List.append_assoc] at hP hD
    refine wd_Vi (C := nr_MA) (n := 1) (X := ([((q 0), .inr (0, [.int (nI (n)), .int (nI (2 ^ n - 1)), .ref (q 1), .ref (q 2)])), ((q 1), .inl (cI, n, .inl w)), ((q 2), .inl (cM, 2, .inr (.inr (.inr (.inr mr)))))] ++ mw_ cI cG a0 n u7)) (Y := mw_ cI cG a1 n t1) (Z := []) hx hb hml hown htg (c_MA_isIndependent l D cI cG cM a1 n hn t1.1 t1.2.1 t1.2.2.1 t1.2.2.2.1 t1.2.2.2.2.1 t1.2.2.2.2.2 y.2.2 hI1 s (hs) _) tm_259 tm_256 tm_257 tm_258 tm_2 (by decide +kernel) ⟨⟨Nat.le_trans (by decide) hRf, Nat.le_trans (by decide) hRl⟩, rfl, rfl⟩ hP hD hS hA hK hN (va_recv (q0 := 0) (ci := 1) hK (wm_P (X := ([((q 0), .inr (0, [.int (nI (n)), .int (nI (2 ^ n - 1)), .ref (q 1), .ref (q 2)])), ((q 1), .inl (cI, n, .inl w)), ((q 2), .inl (cM, 2, .inr (.inr (.inr (.inr mr)))))] ++ mw_ cI cG a0 n u7)) (Y := mw_ cI cG a1 n t1) (Z := []) hP).2.1 rfl rfl) rfl hl.1 rfl (Nat.le_of_ble_eq_true rfl) nd_CB_isCommon_20 hCS (fun v20 u20 H locs hp20 hP hD hS => ?_)
    rw [List.append_assoc] at hP hD
    have hP : va_P D cl_all ([((q 0), .inr (0, [.int (nI (n)), .int (nI (2 ^ n - 1)), .ref (q 1), .ref (q 2)])), ((q 1), .inl (cI, n, .inl w)), ((q 2), .inl (cM, 2, .inr (.inr (.inr (.inr mr)))))] ++ (mw_ cI cG a0 n u7 ++ (mw_ cI cG a1 n u20 ++ []))) H := hP
    have hD : va_D A ([((q 0), .inr (0, [.int (nI (n)), .int (nI (2 ^ n - 1)), .ref (q 1), .ref (q 2)])), ((q 1), .inl (cI, n, .inl w)), ((q 2), .inl (cM, 2, .inr (.inr (.inr (.inr mr)))))] ++ (mw_ cI cG a0 n u7 ++ (mw_ cI cG a1 n u20 ++ []))) := hD
    refine lv_if_eq (tgt := 30) hx hb nd_CB_isCommon_23 rfl (fun hc23 => ?_) (fun hc23 => ?_)
    · refine wi_ic hx hb (a := 0) nd_CB_isCommon_30 ?_
      have h0 : ma_r n y.2.1 s = mt_cd n s := Classical.byContradiction fun q => hc10 ((hp7.2.1 q).trans nI_0)
      have h1 : ¬ ma_r n y.2.2 s = mt_cd n s := fun q => nI_ne0 (n := 1) (by omega) (by omega) ((hp20.1 q).symm.trans hc23)
      exact wb_zret ((w, u7, u20)) hx hb hr hk rfl hAe (⟨fun q => absurd q.2 h1, fun _ => rfl, ⟨hI.1, hp7.2.2, hp20.2.2⟩⟩) hP hD hS nd_CB_isCommon_31
    · refine wi_ic hx hb (a := 1) nd_CB_isCommon_26 ?_
      refine lv_goto (tgt := 31) hx hb nd_CB_isCommon_27 rfl ?_
      have h0 : ma_r n y.2.1 s = mt_cd n s := Classical.byContradiction fun q => hc10 ((hp7.2.1 q).trans nI_0)
      have h1 : ma_r n y.2.2 s = mt_cd n s := Classical.byContradiction fun q => hc23 ((hp20.2.1 q).trans nI_0)
      exact wb_zret ((w, u7, u20)) hx hb hr hk rfl hAe (⟨fun _ => rfl, fun q => absurd ⟨h0, h1⟩ q, ⟨hI.1, hp7.2.2, hp20.2.2⟩⟩) hP hD hS nd_CB_isCommon_31
theorem nd_CB_commonBound_0 : decode nc_CB_commonBound 0 = .ok (.aload_n 0, 1) := by decide +kernel
theorem nd_CB_commonBound_1 : decode nc_CB_commonBound 1 = .ok (.getfield 25, 3) := by decide +kernel
theorem nd_CB_commonBound_4 : decode nc_CB_commonBound 4 = .ok (.iconst 0, 1) := by decide +kernel
theorem nd_CB_commonBound_5 : decode nc_CB_commonBound 5 = .ok (.aaload, 1) := by decide +kernel
theorem nd_CB_commonBound_6 : decode nc_CB_commonBound 6 = .ok (.iload_n 1, 1) := by decide +kernel
theorem nd_CB_commonBound_7 : decode nc_CB_commonBound 7 = .ok (.invokevirtual 76, 3) := by decide +kernel
theorem nd_CB_commonBound_10 : decode nc_CB_commonBound 10 = .ok (.aload_n 0, 1) := by decide +kernel
theorem nd_CB_commonBound_11 : decode nc_CB_commonBound 11 = .ok (.getfield 25, 3) := by decide +kernel
theorem nd_CB_commonBound_14 : decode nc_CB_commonBound 14 = .ok (.iconst 1, 1) := by decide +kernel
theorem nd_CB_commonBound_15 : decode nc_CB_commonBound 15 = .ok (.aaload, 1) := by decide +kernel
theorem nd_CB_commonBound_16 : decode nc_CB_commonBound 16 = .ok (.aload_n 0, 1) := by decide +kernel
theorem nd_CB_commonBound_17 : decode nc_CB_commonBound 17 = .ok (.getfield 13, 3) := by decide +kernel
theorem nd_CB_commonBound_20 : decode nc_CB_commonBound 20 = .ok (.iload_n 1, 1) := by decide +kernel
theorem nd_CB_commonBound_21 : decode nc_CB_commonBound 21 = .ok (.iconst (-1), 1) := by decide +kernel
theorem nd_CB_commonBound_22 : decode nc_CB_commonBound 22 = .ok (.ixor, 1) := by decide +kernel
theorem nd_CB_commonBound_23 : decode nc_CB_commonBound 23 = .ok (.iand, 1) := by decide +kernel
theorem nd_CB_commonBound_24 : decode nc_CB_commonBound 24 = .ok (.invokevirtual 76, 3) := by decide +kernel
theorem nd_CB_commonBound_27 : decode nc_CB_commonBound 27 = .ok (.iadd, 1) := by decide +kernel
theorem nd_CB_commonBound_28 : decode nc_CB_commonBound 28 = .ok (.ireturn, 1) := by decide +kernel
set_option maxRecDepth 20000 in
theorem c_CB_commonBound (l : Launch) (D : va_G) (cI cG cM : ClassId)  (q : Nat → Nat) (n : Nat) (hn1 : 1 ≤ n) (hn : n ≤ 10) (mr : Nat → Option Nat) (a0 a1 : ma_A) (hm0 : mr 0 = some (a0.1 0)) (hm1 : mr 1 = some (a1.1 0)) (w : Nat → Int32) (t0 t1 : ma_S) (y : cb_Y) (hI : cb_I n y (w, t0, t1)) (s : Nat) (hs : s < 2 ^ n) (sz : Nat) : wb_Mi l ny_CB_commonBound nc_CB_commonBound 2 (some .int) ({ frames := 5, cells := 0, slots := 0, locals := 112 }) D (ty_all cI cG cM) (cw_ cI cG cM q n mr a0 a1 (w, t0, t1)) sz [.ref (q 0), .int (nI (s))] (fun (v : Int32) (u : cb_S) => v = nI (ma_r n y.2.1 s + ma_r n y.2.2 (mt_co n s)) ∧ cb_I n y u) (fun u : cb_S => cw_ cI cG cM q n mr a0 a1 u) := by
  refine wb_start (S := cb_S) (by decide) (Nat.le_of_ble_eq_true rfl) ?_
  intro p e0 s0 m below meth c ls A hx hb hr hml htg hown hk hP hK hN hl hAe hsz hD hA
  have hl : lv_has ls 2 [(0, .ref (q 0)), (1, .int (nI (s)))] := hl
  have hP : va_P D cl_all ([((q 0), .inr (0, [.int (nI (n)), .int (nI (2 ^ n - 1)), .ref (q 1), .ref (q 2)])), ((q 1), .inl (cI, n, .inl w)), ((q 2), .inl (cM, 2, .inr (.inr (.inr (.inr mr)))))] ++ (mw_ cI cG a0 n t0 ++ (mw_ cI cG a1 n t1 ++ []))) s0.heap := hP
  have hD : va_D A ([((q 0), .inr (0, [.int (nI (n)), .int (nI (2 ^ n - 1)), .ref (q 1), .ref (q 2)])), ((q 1), .inl (cI, n, .inl w)), ((q 2), .inl (cM, 2, .inr (.inr (.inr (.inr mr)))))] ++ (mw_ cI cG a0 n t0 ++ (mw_ cI cG a1 n t1 ++ []))) := hD
  have hS : va_S A s0.heap s0.heap [] := va_S.rf
  have hRf : 5 ≤ ({ frames := 5, cells := 0, slots := 0, locals := 112 } : Room).frames := Nat.le_refl _
  have hRl : 112 ≤ ({ frames := 5, cells := 0, slots := 0, locals := 112 } : Room).locals := Nat.le_refl _
  have hCS : 0 ≤ ({ frames := 5, cells := 0, slots := 0, locals := 112 } : Room).cells ∧ 0 ≤ ({ frames := 5, cells := 0, slots := 0, locals := 112 } : Room).slots := ⟨Nat.zero_le _, Nat.zero_le _⟩
  have h2n : 2 ^ n ≤ 1024 := Nat.pow_le_pow_right (by omega) hn
  have h2p : 1 ≤ 2 ^ n := Nat.one_le_two_pow
  have hI0 : ma_I n y.2.1 t0 := hI.2.1
  have hI1 : ma_I n y.2.2 t1 := hI.2.2
  refine lv_aload_n hx hb nd_CB_commonBound_0 rfl (lv_at hl 0 rfl) ?_
  refine va_get (D := D) (C := nr_CB) (T := nt_CB) (N := 4) hx hb htg tf_CB hown hK hP 0 rfl rfl 3 (by decide) (htg _ tm_125) (fun _ h => h) rfl nd_CB_commonBound_1 ?_
  refine wi_ic hx hb (a := 0) nd_CB_commonBound_4 ?_
  refine wi_aald (v := (a0.1 0)) hx hb hK hP 2 2 rfl rfl rfl (by omega) (by omega) (hm0) nd_CB_commonBound_5 ?_
  refine lv_iload_n hx hb nd_CB_commonBound_6 rfl (lv_at hl 1 rfl) ?_
  refine wd_Vi (C := nr_MA) (n := 1) (X := [((q 0), .inr (0, [.int (nI (n)), .int (nI (2 ^ n - 1)), .ref (q 1), .ref (q 2)])), ((q 1), .inl (cI, n, .inl w)), ((q 2), .inl (cM, 2, .inr (.inr (.inr (.inr mr)))))]) (Y := mw_ cI cG a0 n t0) (Z := (mw_ cI cG a1 n t1 ++ [])) hx hb hml hown htg (c_MA_rankOf l D cI cG cM a0 n hn t0.1 t0.2.1 t0.2.2.1 t0.2.2.2.1 t0.2.2.2.2.1 t0.2.2.2.2.2 y.2.1 hI0 s (hs) _) tm_263 tm_314 tm_261 tm_262 tm_2 (by decide +kernel) ⟨⟨Nat.le_trans (by decide) hRf, Nat.le_trans (by decide) hRl⟩, rfl, rfl⟩ hP hD hS hA hK hN (va_recv (q0 := 0) (ci := 1) hK (wm_P (X := [((q 0), .inr (0, [.int (nI (n)), .int (nI (2 ^ n - 1)), .ref (q 1), .ref (q 2)])), ((q 1), .inl (cI, n, .inl w)), ((q 2), .inl (cM, 2, .inr (.inr (.inr (.inr mr)))))]) (Y := mw_ cI cG a0 n t0) (Z := (mw_ cI cG a1 n t1 ++ [])) hP).2.1 rfl rfl) rfl hl.1 rfl (Nat.le_of_ble_eq_true rfl) nd_CB_commonBound_7 hCS (fun v7 u7 H locs hp7 hP hD hS => ?_)
  have hP : va_P D cl_all ([((q 0), .inr (0, [.int (nI (n)), .int (nI (2 ^ n - 1)), .ref (q 1), .ref (q 2)])), ((q 1), .inl (cI, n, .inl w)), ((q 2), .inl (cM, 2, .inr (.inr (.inr (.inr mr)))))] ++ (mw_ cI cG a0 n u7 ++ (mw_ cI cG a1 n t1 ++ []))) H := hP
  have hD : va_D A ([((q 0), .inr (0, [.int (nI (n)), .int (nI (2 ^ n - 1)), .ref (q 1), .ref (q 2)])), ((q 1), .inl (cI, n, .inl w)), ((q 2), .inl (cM, 2, .inr (.inr (.inr (.inr mr)))))] ++ (mw_ cI cG a0 n u7 ++ (mw_ cI cG a1 n t1 ++ []))) := hD
  refine wi_top hp7.1 ?_
  refine lv_aload_n hx hb nd_CB_commonBound_10 rfl (lv_at hl 0 rfl) ?_
  refine va_get (D := D) (C := nr_CB) (T := nt_CB) (N := 4) hx hb htg tf_CB hown hK hP 0 rfl rfl 3 (by decide) (htg _ tm_125) (fun _ h => h) rfl nd_CB_commonBound_11 ?_
  refine wi_ic hx hb (a := 1) nd_CB_commonBound_14 ?_
  refine wi_aald (v := (a1.1 0)) hx hb hK hP 2 2 rfl rfl rfl (by omega) (by omega) (hm1) nd_CB_commonBound_15 ?_
  refine lv_aload_n hx hb nd_CB_commonBound_16 rfl (lv_at hl 0 rfl) ?_
  refine va_get (D := D) (C := nr_CB) (T := nt_CB) (N := 4) hx hb htg tf_CB hown hK hP 0 rfl rfl 1 (by decide) (htg _ tm_123) (fun _ h => h) rfl nd_CB_commonBound_17 ?_
  refine lv_iload_n hx hb nd_CB_commonBound_20 rfl (lv_at hl 1 rfl) ?_
  refine lv_iconst (v := -1) hx hb nd_CB_commonBound_21 (by decide) ?_
  refine lv_ixor hx hb nd_CB_commonBound_22 ?_
  refine lv_iand hx hb nd_CB_commonBound_23 ?_
  refine wi_top (bs_co hs (by omega)) ?_
  rw [← List.append_assoc] at hP hD
  refine wd_Vi (C := nr_MA) (n := 1) (X := ([((q 0), .inr (0, [.int (nI (n)), .int (nI (2 ^ n - 1)), .ref (q 1), .ref (q 2)])), ((q 1), .inl (cI, n, .inl w)), ((q 2), .inl (cM, 2, .inr (.inr (.inr (.inr mr)))))] ++ mw_ cI cG a0 n u7)) (Y := mw_ cI cG a1 n t1) (Z := []) hx hb hml hown htg (c_MA_rankOf l D cI cG cM a1 n hn t1.1 t1.2.1 t1.2.2.1 t1.2.2.2.1 t1.2.2.2.2.1 t1.2.2.2.2.2 y.2.2 hI1 (mt_co n s) (mt_colt hs) _) tm_263 tm_314 tm_261 tm_262 tm_2 (by decide +kernel) ⟨⟨Nat.le_trans (by decide) hRf, Nat.le_trans (by decide) hRl⟩, rfl, rfl⟩ hP hD hS hA hK hN (va_recv (q0 := 0) (ci := 1) hK (wm_P (X := ([((q 0), .inr (0, [.int (nI (n)), .int (nI (2 ^ n - 1)), .ref (q 1), .ref (q 2)])), ((q 1), .inl (cI, n, .inl w)), ((q 2), .inl (cM, 2, .inr (.inr (.inr (.inr mr)))))] ++ mw_ cI cG a0 n u7)) (Y := mw_ cI cG a1 n t1) (Z := []) hP).2.1 rfl rfl) rfl hl.1 rfl (Nat.le_of_ble_eq_true rfl) nd_CB_commonBound_24 hCS (fun v24 u24 H locs hp24 hP hD hS => ?_)
  rw [List.append_assoc] at hP hD
  have hP : va_P D cl_all ([((q 0), .inr (0, [.int (nI (n)), .int (nI (2 ^ n - 1)), .ref (q 1), .ref (q 2)])), ((q 1), .inl (cI, n, .inl w)), ((q 2), .inl (cM, 2, .inr (.inr (.inr (.inr mr)))))] ++ (mw_ cI cG a0 n u7 ++ (mw_ cI cG a1 n u24 ++ []))) H := hP
  have hD : va_D A ([((q 0), .inr (0, [.int (nI (n)), .int (nI (2 ^ n - 1)), .ref (q 1), .ref (q 2)])), ((q 1), .inl (cI, n, .inl w)), ((q 2), .inl (cM, 2, .inr (.inr (.inr (.inr mr)))))] ++ (mw_ cI cG a0 n u7 ++ (mw_ cI cG a1 n u24 ++ []))) := hD
  refine wi_top hp24.1 ?_
  refine wi_iadd hx hb nd_CB_commonBound_27 ?_
  exact wb_iret ((w, u7, u24)) hx hb hr hk hAe (⟨rfl, ⟨hI.1, hp7.2, hp24.2⟩⟩) hP hD hS nd_CB_commonBound_28
theorem nd_CB_jointBound_0 : decode nc_CB_jointBound 0 = .ok (.aload_n 0, 1) := by decide +kernel
theorem nd_CB_jointBound_1 : decode nc_CB_jointBound 1 = .ok (.getfield 25, 3) := by decide +kernel
theorem nd_CB_jointBound_4 : decode nc_CB_jointBound 4 = .ok (.iconst 0, 1) := by decide +kernel
theorem nd_CB_jointBound_5 : decode nc_CB_jointBound 5 = .ok (.aaload, 1) := by decide +kernel
theorem nd_CB_jointBound_6 : decode nc_CB_jointBound 6 = .ok (.iload_n 1, 1) := by decide +kernel
theorem nd_CB_jointBound_7 : decode nc_CB_jointBound 7 = .ok (.invokevirtual 76, 3) := by decide +kernel
theorem nd_CB_jointBound_10 : decode nc_CB_jointBound 10 = .ok (.aload_n 0, 1) := by decide +kernel
theorem nd_CB_jointBound_11 : decode nc_CB_jointBound 11 = .ok (.getfield 25, 3) := by decide +kernel
theorem nd_CB_jointBound_14 : decode nc_CB_jointBound 14 = .ok (.iconst 1, 1) := by decide +kernel
theorem nd_CB_jointBound_15 : decode nc_CB_jointBound 15 = .ok (.aaload, 1) := by decide +kernel
theorem nd_CB_jointBound_16 : decode nc_CB_jointBound 16 = .ok (.iload_n 1, 1) := by decide +kernel
theorem nd_CB_jointBound_17 : decode nc_CB_jointBound 17 = .ok (.invokevirtual 76, 3) := by decide +kernel
theorem nd_CB_jointBound_20 : decode nc_CB_jointBound 20 = .ok (.iadd, 1) := by decide +kernel
theorem nd_CB_jointBound_21 : decode nc_CB_jointBound 21 = .ok (.aload_n 0, 1) := by decide +kernel
theorem nd_CB_jointBound_22 : decode nc_CB_jointBound 22 = .ok (.getfield 9, 3) := by decide +kernel
theorem nd_CB_jointBound_25 : decode nc_CB_jointBound 25 = .ok (.iadd, 1) := by decide +kernel
theorem nd_CB_jointBound_26 : decode nc_CB_jointBound 26 = .ok (.iload_n 1, 1) := by decide +kernel
theorem nd_CB_jointBound_27 : decode nc_CB_jointBound 27 = .ok (.invokestatic 86, 3) := by decide +kernel
theorem nd_CB_jointBound_30 : decode nc_CB_jointBound 30 = .ok (.isub, 1) := by decide +kernel
theorem nd_CB_jointBound_31 : decode nc_CB_jointBound 31 = .ok (.ireturn, 1) := by decide +kernel
set_option maxRecDepth 20000 in
theorem c_CB_jointBound (l : Launch) (D : va_G) (cI cG cM : ClassId)  (q : Nat → Nat) (n : Nat) (hn1 : 1 ≤ n) (hn : n ≤ 10) (mr : Nat → Option Nat) (a0 a1 : ma_A) (hm0 : mr 0 = some (a0.1 0)) (hm1 : mr 1 = some (a1.1 0)) (w : Nat → Int32) (t0 t1 : ma_S) (y : cb_Y) (hI : cb_I n y (w, t0, t1)) (s : Nat) (hs : s < 2 ^ n) (sz : Nat) : wb_Mi l ny_CB_jointBound nc_CB_jointBound 2 (some .int) ({ frames := 5, cells := 0, slots := 0, locals := 112 }) D (ty_all cI cG cM) (cw_ cI cG cM q n mr a0 a1 (w, t0, t1)) sz [.ref (q 0), .int (nI (s))] (fun (v : Int32) (u : cb_S) => v = nI (ma_r n y.2.1 s + ma_r n y.2.2 s + (n - mt_cd n s)) ∧ cb_I n y u) (fun u : cb_S => cw_ cI cG cM q n mr a0 a1 u) := by
  refine wb_start (S := cb_S) (by decide) (Nat.le_of_ble_eq_true rfl) ?_
  intro p e0 s0 m below meth c ls A hx hb hr hml htg hown hk hP hK hN hl hAe hsz hD hA
  have hl : lv_has ls 2 [(0, .ref (q 0)), (1, .int (nI (s)))] := hl
  have hP : va_P D cl_all ([((q 0), .inr (0, [.int (nI (n)), .int (nI (2 ^ n - 1)), .ref (q 1), .ref (q 2)])), ((q 1), .inl (cI, n, .inl w)), ((q 2), .inl (cM, 2, .inr (.inr (.inr (.inr mr)))))] ++ (mw_ cI cG a0 n t0 ++ (mw_ cI cG a1 n t1 ++ []))) s0.heap := hP
  have hD : va_D A ([((q 0), .inr (0, [.int (nI (n)), .int (nI (2 ^ n - 1)), .ref (q 1), .ref (q 2)])), ((q 1), .inl (cI, n, .inl w)), ((q 2), .inl (cM, 2, .inr (.inr (.inr (.inr mr)))))] ++ (mw_ cI cG a0 n t0 ++ (mw_ cI cG a1 n t1 ++ []))) := hD
  have hS : va_S A s0.heap s0.heap [] := va_S.rf
  have hRf : 5 ≤ ({ frames := 5, cells := 0, slots := 0, locals := 112 } : Room).frames := Nat.le_refl _
  have hRl : 112 ≤ ({ frames := 5, cells := 0, slots := 0, locals := 112 } : Room).locals := Nat.le_refl _
  have hCS : 0 ≤ ({ frames := 5, cells := 0, slots := 0, locals := 112 } : Room).cells ∧ 0 ≤ ({ frames := 5, cells := 0, slots := 0, locals := 112 } : Room).slots := ⟨Nat.zero_le _, Nat.zero_le _⟩
  have h2n : 2 ^ n ≤ 1024 := Nat.pow_le_pow_right (by omega) hn
  have h2p : 1 ≤ 2 ^ n := Nat.one_le_two_pow
  have hI0 : ma_I n y.2.1 t0 := hI.2.1
  have hI1 : ma_I n y.2.2 t1 := hI.2.2
  refine lv_aload_n hx hb nd_CB_jointBound_0 rfl (lv_at hl 0 rfl) ?_
  refine va_get (D := D) (C := nr_CB) (T := nt_CB) (N := 4) hx hb htg tf_CB hown hK hP 0 rfl rfl 3 (by decide) (htg _ tm_125) (fun _ h => h) rfl nd_CB_jointBound_1 ?_
  refine wi_ic hx hb (a := 0) nd_CB_jointBound_4 ?_
  refine wi_aald (v := (a0.1 0)) hx hb hK hP 2 2 rfl rfl rfl (by omega) (by omega) (hm0) nd_CB_jointBound_5 ?_
  refine lv_iload_n hx hb nd_CB_jointBound_6 rfl (lv_at hl 1 rfl) ?_
  refine wd_Vi (C := nr_MA) (n := 1) (X := [((q 0), .inr (0, [.int (nI (n)), .int (nI (2 ^ n - 1)), .ref (q 1), .ref (q 2)])), ((q 1), .inl (cI, n, .inl w)), ((q 2), .inl (cM, 2, .inr (.inr (.inr (.inr mr)))))]) (Y := mw_ cI cG a0 n t0) (Z := (mw_ cI cG a1 n t1 ++ [])) hx hb hml hown htg (c_MA_rankOf l D cI cG cM a0 n hn t0.1 t0.2.1 t0.2.2.1 t0.2.2.2.1 t0.2.2.2.2.1 t0.2.2.2.2.2 y.2.1 hI0 s (hs) _) tm_263 tm_314 tm_261 tm_262 tm_2 (by decide +kernel) ⟨⟨Nat.le_trans (by decide) hRf, Nat.le_trans (by decide) hRl⟩, rfl, rfl⟩ hP hD hS hA hK hN (va_recv (q0 := 0) (ci := 1) hK (wm_P (X := [((q 0), .inr (0, [.int (nI (n)), .int (nI (2 ^ n - 1)), .ref (q 1), .ref (q 2)])), ((q 1), .inl (cI, n, .inl w)), ((q 2), .inl (cM, 2, .inr (.inr (.inr (.inr mr)))))]) (Y := mw_ cI cG a0 n t0) (Z := (mw_ cI cG a1 n t1 ++ [])) hP).2.1 rfl rfl) rfl hl.1 rfl (Nat.le_of_ble_eq_true rfl) nd_CB_jointBound_7 hCS (fun v7 u7 H locs hp7 hP hD hS => ?_)
  have hP : va_P D cl_all ([((q 0), .inr (0, [.int (nI (n)), .int (nI (2 ^ n - 1)), .ref (q 1), .ref (q 2)])), ((q 1), .inl (cI, n, .inl w)), ((q 2), .inl (cM, 2, .inr (.inr (.inr (.inr mr)))))] ++ (mw_ cI cG a0 n u7 ++ (mw_ cI cG a1 n t1 ++ []))) H := hP
  have hD : va_D A ([((q 0), .inr (0, [.int (nI (n)), .int (nI (2 ^ n - 1)), .ref (q 1), .ref (q 2)])), ((q 1), .inl (cI, n, .inl w)), ((q 2), .inl (cM, 2, .inr (.inr (.inr (.inr mr)))))] ++ (mw_ cI cG a0 n u7 ++ (mw_ cI cG a1 n t1 ++ []))) := hD
  refine wi_top hp7.1 ?_
  refine lv_aload_n hx hb nd_CB_jointBound_10 rfl (lv_at hl 0 rfl) ?_
  refine va_get (D := D) (C := nr_CB) (T := nt_CB) (N := 4) hx hb htg tf_CB hown hK hP 0 rfl rfl 3 (by decide) (htg _ tm_125) (fun _ h => h) rfl nd_CB_jointBound_11 ?_
  refine wi_ic hx hb (a := 1) nd_CB_jointBound_14 ?_
  refine wi_aald (v := (a1.1 0)) hx hb hK hP 2 2 rfl rfl rfl (by omega) (by omega) (hm1) nd_CB_jointBound_15 ?_
  refine lv_iload_n hx hb nd_CB_jointBound_16 rfl (lv_at hl 1 rfl) ?_
  rw [← List.append_assoc] at hP hD
  refine wd_Vi (C := nr_MA) (n := 1) (X := ([((q 0), .inr (0, [.int (nI (n)), .int (nI (2 ^ n - 1)), .ref (q 1), .ref (q 2)])), ((q 1), .inl (cI, n, .inl w)), ((q 2), .inl (cM, 2, .inr (.inr (.inr (.inr mr)))))] ++ mw_ cI cG a0 n u7)) (Y := mw_ cI cG a1 n t1) (Z := []) hx hb hml hown htg (c_MA_rankOf l D cI cG cM a1 n hn t1.1 t1.2.1 t1.2.2.1 t1.2.2.2.1 t1.2.2.2.2.1 t1.2.2.2.2.2 y.2.2 hI1 s (hs) _) tm_263 tm_314 tm_261 tm_262 tm_2 (by decide +kernel) ⟨⟨Nat.le_trans (by decide) hRf, Nat.le_trans (by decide) hRl⟩, rfl, rfl⟩ hP hD hS hA hK hN (va_recv (q0 := 0) (ci := 1) hK (wm_P (X := ([((q 0), .inr (0, [.int (nI (n)), .int (nI (2 ^ n - 1)), .ref (q 1), .ref (q 2)])), ((q 1), .inl (cI, n, .inl w)), ((q 2), .inl (cM, 2, .inr (.inr (.inr (.inr mr)))))] ++ mw_ cI cG a0 n u7)) (Y := mw_ cI cG a1 n t1) (Z := []) hP).2.1 rfl rfl) rfl hl.1 rfl (Nat.le_of_ble_eq_true rfl) nd_CB_jointBound_17 hCS (fun v17 u17 H locs hp17 hP hD hS => ?_)
  rw [List.append_assoc] at hP hD
  have hP : va_P D cl_all ([((q 0), .inr (0, [.int (nI (n)), .int (nI (2 ^ n - 1)), .ref (q 1), .ref (q 2)])), ((q 1), .inl (cI, n, .inl w)), ((q 2), .inl (cM, 2, .inr (.inr (.inr (.inr mr)))))] ++ (mw_ cI cG a0 n u7 ++ (mw_ cI cG a1 n u17 ++ []))) H := hP
  have hD : va_D A ([((q 0), .inr (0, [.int (nI (n)), .int (nI (2 ^ n - 1)), .ref (q 1), .ref (q 2)])), ((q 1), .inl (cI, n, .inl w)), ((q 2), .inl (cM, 2, .inr (.inr (.inr (.inr mr)))))] ++ (mw_ cI cG a0 n u7 ++ (mw_ cI cG a1 n u17 ++ []))) := hD
  refine wi_top hp17.1 ?_
  refine wi_iadd hx hb nd_CB_jointBound_20 ?_
  refine lv_aload_n hx hb nd_CB_jointBound_21 rfl (lv_at hl 0 rfl) ?_
  refine va_get (D := D) (C := nr_CB) (T := nt_CB) (N := 4) hx hb htg tf_CB hown hK hP 0 rfl rfl 0 (by decide) (htg _ tm_122) (fun _ h => h) rfl nd_CB_jointBound_22 ?_
  refine wi_iadd hx hb nd_CB_jointBound_25 ?_
  refine lv_iload_n hx hb nd_CB_jointBound_26 rfl (lv_at hl 1 rfl) ?_
  refine wc_S (n := 1) hx hb hml hown htg (c_IN_bitCount l D _ s (by omega)) tm_304 tm_336 tm_303 tm_12 (by decide +kernel) ⟨⟨Nat.le_trans (by decide) hRf, Nat.le_trans (by decide) hRl⟩, rfl, rfl⟩ (wa_pre wa_nil hK hN) rfl hl.1 rfl (Nat.le_of_ble_eq_true rfl) nd_CB_jointBound_27 hCS ?_
  have hcd27 := mt_cd_le 10 s
  have hcl := mt_cd_le n s
  rw [bs_cd10 hn hs] at hcd27
  refine wi_top (congrArg (fun z => nI z) (bs_cd10 hn hs)) ?_
  refine wi_isub hx hb (by omega) nd_CB_jointBound_30 ?_
  refine wi_top (congrArg nI (show ma_r n y.2.1 s + ma_r n y.2.2 s + n - mt_cd n s = ma_r n y.2.1 s + ma_r n y.2.2 s + (n - mt_cd n s) by omega)) ?_
  exact wb_iret ((w, u7, u17)) hx hb hr hk hAe (⟨rfl, ⟨hI.1, hp7.2, hp17.2⟩⟩) hP hD hS nd_CB_jointBound_31
