/-! The constructors of a matroid and of the class. -/
def x0_ : ma_T := (0, 0, (fun _ => 0), (fun _ => 0), (fun _ => 0), (fun _ => 0), 0, (fun _ _ => 0))
def y0_ : cb_Y := ((fun _ => nI 0), x0_, x0_)
theorem rf_0 (n : Nat) : rf_I n y0_ (fun _ _ => nI 0) := by
  refine ⟨fun e _ => ⟨rfl, (show -1000000 ≤ (nI 0).toInt by decide), (show (nI 0).toInt ≤ 1000000 by decide)⟩, fun j hj => ?_⟩
  have h : cb_m y0_ j = x0_ := by unfold cb_m; split <;> rfl
  rw [h]
  exact ⟨Or.inl ⟨rfl, (by decide : 0 ≤ 10)⟩, rfl, Or.inl ⟨rfl, rfl⟩⟩
theorem cb_asc (A B C : va_W) : (A ++ (B ++ [])) ++ (C ++ []) = A ++ (B ++ (C ++ [])) := by simp
theorem nd_MA_init_0 : decode nc_MA_init 0 = .ok (.aload_n 0, 1) := by decide +kernel
theorem nd_MA_init_1 : decode nc_MA_init 1 = .ok (.invokespecial 3, 3) := by decide +kernel
theorem nd_MA_init_4 : decode nc_MA_init 4 = .ok (.aload_n 0, 1) := by decide +kernel
theorem nd_MA_init_5 : decode nc_MA_init 5 = .ok (.new 9, 3) := by decide +kernel
theorem nd_MA_init_8 : decode nc_MA_init 8 = .ok (.dup, 1) := by decide +kernel
theorem nd_MA_init_9 : decode nc_MA_init 9 = .ok (.invokespecial 11, 3) := by decide +kernel
theorem nd_MA_init_12 : decode nc_MA_init 12 = .ok (.putfield 12, 3) := by decide +kernel
theorem nd_MA_init_15 : decode nc_MA_init 15 = .ok (.aload_n 0, 1) := by decide +kernel
theorem nd_MA_init_16 : decode nc_MA_init 16 = .ok (.new 18, 3) := by decide +kernel
theorem nd_MA_init_19 : decode nc_MA_init 19 = .ok (.dup, 1) := by decide +kernel
theorem nd_MA_init_20 : decode nc_MA_init 20 = .ok (.iload_n 1, 1) := by decide +kernel
theorem nd_MA_init_21 : decode nc_MA_init 21 = .ok (.invokespecial 20, 3) := by decide +kernel
theorem nd_MA_init_24 : decode nc_MA_init 24 = .ok (.putfield 23, 3) := by decide +kernel
theorem nd_MA_init_27 : decode nc_MA_init 27 = .ok (.aload_n 0, 1) := by decide +kernel
theorem nd_MA_init_28 : decode nc_MA_init 28 = .ok (.new 27, 3) := by decide +kernel
theorem nd_MA_init_31 : decode nc_MA_init 31 = .ok (.dup, 1) := by decide +kernel
theorem nd_MA_init_32 : decode nc_MA_init 32 = .ok (.iload_n 1, 1) := by decide +kernel
theorem nd_MA_init_33 : decode nc_MA_init 33 = .ok (.invokespecial 29, 3) := by decide +kernel
theorem nd_MA_init_36 : decode nc_MA_init 36 = .ok (.putfield 30, 3) := by decide +kernel
theorem nd_MA_init_39 : decode nc_MA_init 39 = .ok (.aload_n 0, 1) := by decide +kernel
theorem nd_MA_init_40 : decode nc_MA_init 40 = .ok (.new 34, 3) := by decide +kernel
theorem nd_MA_init_43 : decode nc_MA_init 43 = .ok (.dup, 1) := by decide +kernel
theorem nd_MA_init_44 : decode nc_MA_init 44 = .ok (.iload_n 1, 1) := by decide +kernel
theorem nd_MA_init_45 : decode nc_MA_init 45 = .ok (.invokespecial 36, 3) := by decide +kernel
theorem nd_MA_init_48 : decode nc_MA_init 48 = .ok (.putfield 37, 3) := by decide +kernel
theorem nd_MA_init_51 : decode nc_MA_init 51 = .ok (.aload_n 0, 1) := by decide +kernel
theorem nd_MA_init_52 : decode nc_MA_init 52 = .ok (.iconst 1, 1) := by decide +kernel
theorem nd_MA_init_53 : decode nc_MA_init 53 = .ok (.iload_n 1, 1) := by decide +kernel
theorem nd_MA_init_54 : decode nc_MA_init 54 = .ok (.ishl, 1) := by decide +kernel
theorem nd_MA_init_55 : decode nc_MA_init 55 = .ok (.newarray .int, 2) := by decide +kernel
theorem nd_MA_init_57 : decode nc_MA_init 57 = .ok (.putfield 41, 3) := by decide +kernel
theorem nd_MA_init_60 : decode nc_MA_init 60 = .ok (.aload_n 0, 1) := by decide +kernel
theorem nd_MA_init_61 : decode nc_MA_init 61 = .ok (.getfield 41, 3) := by decide +kernel
theorem nd_MA_init_64 : decode nc_MA_init 64 = .ok (.iconst (-1), 1) := by decide +kernel
theorem nd_MA_init_65 : decode nc_MA_init 65 = .ok (.invokestatic 45, 3) := by decide +kernel
theorem nd_MA_init_68 : decode nc_MA_init 68 = .ok (.aload_n 0, 1) := by decide +kernel
theorem nd_MA_init_69 : decode nc_MA_init 69 = .ok (.aload_n 0, 1) := by decide +kernel
theorem nd_MA_init_70 : decode nc_MA_init 70 = .ok (.getfield 12, 3) := by decide +kernel
theorem nd_MA_init_73 : decode nc_MA_init 73 = .ok (.putfield 51, 3) := by decide +kernel
theorem nd_MA_init_76 : decode nc_MA_init 76 = .ok (.return_, 1) := by decide +kernel
set_option maxRecDepth 20000 in
theorem c_MA_init (l : Launch) (D : va_G) (cI cG cM : ClassId)  (a : Nat) (n : Nat) (hn1 : 1 ≤ n) (hn : n ≤ 10) (sz : Nat) : wz_M l ny_MA_init nc_MA_init 2 ({ frames := 3, cells := 37, slots := 1164, locals := 53 }) D (ty_all cI cG cM) ([(a, .inr (1, [.null, .null, .null, .null, .null, .int (nI (0)), .null]))]) sz [.ref a, .int (nI (n))] 37 1164 (fun u : ma_A × ma_S => u.1.1 0 = a ∧ ma_I n x0_ u.2) (fun u : ma_A × ma_S => mw_ cI cG u.1 n u.2) := by
  refine wz_start (by decide) (Nat.le_of_ble_eq_true rfl) ?_
  intro p e0 s0 m below meth c ls A hx hb hr hml htg hown hk hP hK hN hl hAe hsz hD hA hin h5 h6
  have hl : lv_has ls 2 [(0, .ref a), (1, .int (nI (n)))] := hl
  have hS : va_S A s0.heap s0.heap [] := va_S.rf
  have hRf : 3 ≤ ({ frames := 3, cells := 37, slots := 1164, locals := 53 } : Room).frames := Nat.le_refl _
  have hRl : 53 ≤ ({ frames := 3, cells := 37, slots := 1164, locals := 53 } : Room).locals := Nat.le_refl _
  have hCS : 0 ≤ ({ frames := 3, cells := 37, slots := 1164, locals := 53 } : Room).cells ∧ 0 ≤ ({ frames := 3, cells := 37, slots := 1164, locals := 53 } : Room).slots := ⟨Nat.zero_le _, Nat.zero_le _⟩
  have h2n : 2 ^ n ≤ 1024 := Nat.pow_le_pow_right (by omega) hn
  have h2p : 1 ≤ 2 ^ n := Nat.one_le_two_pow
  refine lv_aload_n hx hb nd_MA_init_0 rfl (lv_at hl 0 rfl) ?_
  refine W.objInit hx hb hown (htg _ tm_27) (htg _ tm_19) (htg _ tm_20) rfl (by rw [hml]; exact hl.1) rfl nd_MA_init_1 (Nat.le_of_ble_eq_true rfl) (Nat.le_of_ble_eq_true rfl) ?_
  refine W.eq (g2 := F0 m 4 ls []) rfl ?_
  refine lv_aload_n hx hb nd_MA_init_4 rfl (lv_at hl 0 rfl) ?_
  refine va_new (ci := 2) (fs := [.int (nI (0))]) (C := nr_UK) (T := nt_UK) (N := 1) hx hb htg tf_UK nu_UK no_UK hown (htg _ tm_28) (htg _ tm_29) (htg _ tm_4) hK hP hD hS hA rfl (fun j hj => by rcases (show j = 0 by omega) with rfl <;> rfl) (show 0 + 1 ≤ 37 by decide) (show 0 + 1 ≤ 1164 by decide) nd_MA_init_5 (fun q5 H hP hD hS => ?_)
  refine W.widen (k := 1) (n := 1) (by omega) (by omega) ?_
  have hCS : 1 ≤ ({ frames := 3, cells := 37, slots := 1164, locals := 53 } : Room).cells ∧ 1 ≤ ({ frames := 3, cells := 37, slots := 1164, locals := 53 } : Room).slots := ⟨by decide, by decide⟩
  have hP : va_P D cl_all ([(a, .inr (1, [.null, .null, .null, .null, .null, .int (nI (0)), .null])), (q5, .inr (2, [.int (nI (0))]))]) H := hP
  have hD : va_D A ([(a, .inr (1, [.null, .null, .null, .null, .null, .int (nI (0)), .null])), (q5, .inr (2, [.int (nI (0))]))]) := hD
  refine lv_dup hx hb nd_MA_init_8 rfl ?_
  refine wz_IN (n := 0) (X := [(a, .inr (1, [.null, .null, .null, .null, .null, .int (nI (0)), .null]))]) (Y := [(q5, .inr (2, [.int (nI (0))]))]) (Z := []) hx hb hml hown htg (c_UK_init l D cI cG cM q5 _) tm_32 (tn_30 hN) tm_31 tm_4 rfl (by decide +kernel) ⟨⟨by decide, by decide⟩, rfl, rfl⟩ hP hD hS hA hK hN h5 h6 rfl hl.1 rfl (Nat.le_of_ble_eq_true rfl) nd_MA_init_9 ⟨(show 1 + 0 ≤ 37 by decide), (show 1 + 0 ≤ 1164 by decide)⟩ (fun u9 H locs hp9 hP hD hS => ?_)
  refine W.widen (k := 1) (n := 1) (by omega) (by omega) ?_
  have hCS : 1 ≤ ({ frames := 3, cells := 37, slots := 1164, locals := 53 } : Room).cells ∧ 1 ≤ ({ frames := 3, cells := 37, slots := 1164, locals := 53 } : Room).slots := ⟨by decide, by decide⟩
  have hP : va_P D cl_all ([(a, .inr (1, [.null, .null, .null, .null, .null, .int (nI (0)), .null])), (q5, .inr (2, [.int (nI (0))]))]) H := hP
  have hD : va_D A ([(a, .inr (1, [.null, .null, .null, .null, .null, .int (nI (0)), .null])), (q5, .inr (2, [.int (nI (0))]))]) := hD
  refine va_putF (D := D) (C := nr_MA) (T := nt_MA) (N := 7) hx hb htg tf_MA nu_MA no_MA nn_MA hown hK hP hD hS 0 rfl rfl 0 (by decide) (htg _ tm_100) (fun _ h => h) rfl hin rfl rfl rfl rfl (Nat.le_of_ble_eq_true rfl) nd_MA_init_12 (fun H locs hP hD hS => ?_)
  have hP : va_P D cl_all ([(a, .inr (1, [.ref q5, .null, .null, .null, .null, .int (nI (0)), .null])), (q5, .inr (2, [.int (nI (0))]))]) H := hP
  have hD : va_D A ([(a, .inr (1, [.ref q5, .null, .null, .null, .null, .int (nI (0)), .null])), (q5, .inr (2, [.int (nI (0))]))]) := hD
  refine lv_aload_n hx hb nd_MA_init_15 rfl (lv_at hl 0 rfl) ?_
  refine va_new (ci := 3) (fs := [.null, .null]) (C := nr_GK) (T := nt_GK) (N := 2) hx hb htg tf_GK nu_GK no_GK hown (htg _ tm_43) (htg _ tm_44) (htg _ tm_5) hK hP hD hS hA rfl (fun j hj => by rcases (show j = 0 ∨ j = 1 by omega) with rfl | rfl <;> rfl) (show 1 + 1 ≤ 37 by decide) (show 1 + 2 ≤ 1164 by decide) nd_MA_init_16 (fun q16 H hP hD hS => ?_)
  refine W.widen (k := 2) (n := 3) (by omega) (by omega) ?_
  have hCS : 2 ≤ ({ frames := 3, cells := 37, slots := 1164, locals := 53 } : Room).cells ∧ 3 ≤ ({ frames := 3, cells := 37, slots := 1164, locals := 53 } : Room).slots := ⟨by decide, by decide⟩
  have hP : va_P D cl_all ([(a, .inr (1, [.ref q5, .null, .null, .null, .null, .int (nI (0)), .null])), (q5, .inr (2, [.int (nI (0))])), (q16, .inr (3, [.null, .null]))]) H := hP
  have hD : va_D A ([(a, .inr (1, [.ref q5, .null, .null, .null, .null, .int (nI (0)), .null])), (q5, .inr (2, [.int (nI (0))])), (q16, .inr (3, [.null, .null]))]) := hD
  refine lv_dup hx hb nd_MA_init_19 rfl ?_
  refine lv_iload_n hx hb nd_MA_init_20 rfl (lv_at hl 1 rfl) ?_
  refine wz_I (n := 1) (X := [(a, .inr (1, [.ref q5, .null, .null, .null, .null, .int (nI (0)), .null])), (q5, .inr (2, [.int (nI (0))]))]) (Y := [(q16, .inr (3, [.null, .null]))]) (Z := []) hx hb hml hown htg (c_GK_init l D cI cG cM q16 n hn1 hn _) tm_47 tm_45 tm_46 tm_5 rfl (by decide +kernel) ⟨⟨by decide, by decide⟩, rfl, rfl⟩ hP hD hS hA hK hN h5 h6 rfl hl.1 rfl (Nat.le_of_ble_eq_true rfl) nd_MA_init_21 ⟨(show 2 + 12 ≤ 37 by decide), (show 3 + 38 ≤ 1164 by decide)⟩ (fun u21 H locs hp21 hP hD hS => ?_)
  refine W.widen (k := 14) (n := 41) (by omega) (by omega) ?_
  have hCS : 14 ≤ ({ frames := 3, cells := 37, slots := 1164, locals := 53 } : Room).cells ∧ 41 ≤ ({ frames := 3, cells := 37, slots := 1164, locals := 53 } : Room).slots := ⟨by decide, by decide⟩
  have hP : va_P D cl_all ([(a, .inr (1, [.ref q5, .null, .null, .null, .null, .int (nI (0)), .null])), (q5, .inr (2, [.int (nI (0))]))] ++ (([(q16, .inr (3, [.ref u21.2.1, .ref u21.1])), (u21.1, .inl (cI, 8, .inl (fun _ => nI 0))), (u21.2.1, .inl (cG, n, .inr (.inr (.inr (.inr (fun i => if i < n then some (u21.2.2 i) else none))))))] ++ (rw_R cI 2 u21.2.2 (fun _ _ => nI 0) n ++ [])) ++ [])) H := hP
  have hD : va_D A ([(a, .inr (1, [.ref q5, .null, .null, .null, .null, .int (nI (0)), .null])), (q5, .inr (2, [.int (nI (0))]))] ++ (([(q16, .inr (3, [.ref u21.2.1, .ref u21.1])), (u21.1, .inl (cI, 8, .inl (fun _ => nI 0))), (u21.2.1, .inl (cG, n, .inr (.inr (.inr (.inr (fun i => if i < n then some (u21.2.2 i) else none))))))] ++ (rw_R cI 2 u21.2.2 (fun _ _ => nI 0) n ++ [])) ++ [])) := hD
  refine va_putF (D := D) (C := nr_MA) (T := nt_MA) (N := 7) hx hb htg tf_MA nu_MA no_MA nn_MA hown hK hP hD hS 0 rfl rfl 1 (by decide) (htg _ tm_101) (fun _ h => h) rfl hin rfl rfl rfl rfl (Nat.le_of_ble_eq_true rfl) nd_MA_init_24 (fun H locs hP hD hS => ?_)
  have hP : va_P D cl_all ([(a, .inr (1, [.ref q5, .ref q16, .null, .null, .null, .int (nI (0)), .null])), (q5, .inr (2, [.int (nI (0))]))] ++ (([(q16, .inr (3, [.ref u21.2.1, .ref u21.1])), (u21.1, .inl (cI, 8, .inl (fun _ => nI 0))), (u21.2.1, .inl (cG, n, .inr (.inr (.inr (.inr (fun i => if i < n then some (u21.2.2 i) else none))))))] ++ (rw_R cI 2 u21.2.2 (fun _ _ => nI 0) n ++ [])) ++ [])) H := hP
  have hD : va_D A ([(a, .inr (1, [.ref q5, .ref q16, .null, .null, .null, .int (nI (0)), .null])), (q5, .inr (2, [.int (nI (0))]))] ++ (([(q16, .inr (3, [.ref u21.2.1, .ref u21.1])), (u21.1, .inl (cI, 8, .inl (fun _ => nI 0))), (u21.2.1, .inl (cG, n, .inr (.inr (.inr (.inr (fun i => if i < n then some (u21.2.2 i) else none))))))] ++ (rw_R cI 2 u21.2.2 (fun _ _ => nI 0) n ++ [])) ++ [])) := hD
  refine lv_aload_n hx hb nd_MA_init_27 rfl (lv_at hl 0 rfl) ?_
  refine va_new (ci := 4) (fs := [.null, .null, .null]) (C := nr_CK) (T := nt_CK) (N := 3) hx hb htg tf_CK nu_CK no_CK hown (htg _ tm_59) (htg _ tm_60) (htg _ tm_6) hK hP hD hS hA rfl (fun j hj => by rcases (show j = 0 ∨ j = 1 ∨ j = 2 by omega) with rfl | rfl | rfl <;> rfl) (show 14 + 1 ≤ 37 by decide) (show 41 + 3 ≤ 1164 by decide) nd_MA_init_28 (fun q28 H hP hD hS => ?_)
  refine W.widen (k := 15) (n := 44) (by omega) (by omega) ?_
  have hCS : 15 ≤ ({ frames := 3, cells := 37, slots := 1164, locals := 53 } : Room).cells ∧ 44 ≤ ({ frames := 3, cells := 37, slots := 1164, locals := 53 } : Room).slots := ⟨by decide, by decide⟩
  have hP : va_P D cl_all ([(a, .inr (1, [.ref q5, .ref q16, .null, .null, .null, .int (nI (0)), .null])), (q5, .inr (2, [.int (nI (0))]))] ++ (([(q16, .inr (3, [.ref u21.2.1, .ref u21.1])), (u21.1, .inl (cI, 8, .inl (fun _ => nI 0))), (u21.2.1, .inl (cG, n, .inr (.inr (.inr (.inr (fun i => if i < n then some (u21.2.2 i) else none))))))] ++ (rw_R cI 2 u21.2.2 (fun _ _ => nI 0) n ++ [])) ++ []) ++ [(q28, .inr (4, [.null, .null, .null]))]) H := hP
  have hD : va_D A ([(a, .inr (1, [.ref q5, .ref q16, .null, .null, .null, .int (nI (0)), .null])), (q5, .inr (2, [.int (nI (0))]))] ++ (([(q16, .inr (3, [.ref u21.2.1, .ref u21.1])), (u21.1, .inl (cI, 8, .inl (fun _ => nI 0))), (u21.2.1, .inl (cG, n, .inr (.inr (.inr (.inr (fun i => if i < n then some (u21.2.2 i) else none))))))] ++ (rw_R cI 2 u21.2.2 (fun _ _ => nI 0) n ++ [])) ++ []) ++ [(q28, .inr (4, [.null, .null, .null]))]) := hD
  refine lv_dup hx hb nd_MA_init_31 rfl ?_
  refine lv_iload_n hx hb nd_MA_init_32 rfl (lv_at hl 1 rfl) ?_
  refine wz_I (n := 1) (X := [(a, .inr (1, [.ref q5, .ref q16, .null, .null, .null, .int (nI (0)), .null])), (q5, .inr (2, [.int (nI (0))]))] ++ (([(q16, .inr (3, [.ref u21.2.1, .ref u21.1])), (u21.1, .inl (cI, 8, .inl (fun _ => nI 0))), (u21.2.1, .inl (cG, n, .inr (.inr (.inr (.inr (fun i => if i < n then some (u21.2.2 i) else none))))))] ++ (rw_R cI 2 u21.2.2 (fun _ _ => nI 0) n ++ [])) ++ [])) (Y := [(q28, .inr (4, [.null, .null, .null]))]) (Z := []) hx hb hml hown htg (c_CK_init l D cI cG cM q28 n hn1 hn _) tm_63 tm_61 tm_62 tm_6 rfl (by decide +kernel) ⟨⟨by decide, by decide⟩, rfl, rfl⟩ hP hD hS hA hK hN h5 h6 rfl hl.1 rfl (Nat.le_of_ble_eq_true rfl) nd_MA_init_33 ⟨(show 15 + 3 ≤ 37 by decide), (show 44 + 18 ≤ 1164 by decide)⟩ (fun u33 H locs hp33 hP hD hS => ?_)
  refine W.widen (k := 18) (n := 62) (by omega) (by omega) ?_
  have hCS : 18 ≤ ({ frames := 3, cells := 37, slots := 1164, locals := 53 } : Room).cells ∧ 62 ≤ ({ frames := 3, cells := 37, slots := 1164, locals := 53 } : Room).slots := ⟨by decide, by decide⟩
  have hP : va_P D cl_all ([(a, .inr (1, [.ref q5, .ref q16, .null, .null, .null, .int (nI (0)), .null])), (q5, .inr (2, [.int (nI (0))]))] ++ (([(q16, .inr (3, [.ref u21.2.1, .ref u21.1])), (u21.1, .inl (cI, 8, .inl (fun _ => nI 0))), (u21.2.1, .inl (cG, n, .inr (.inr (.inr (.inr (fun i => if i < n then some (u21.2.2 i) else none))))))] ++ (rw_R cI 2 u21.2.2 (fun _ _ => nI 0) n ++ [])) ++ []) ++ ([(q28, .inr (4, [.ref u33.2.2, .ref u33.1, .ref u33.2.1])), (u33.1, .inl (cI, 4, .inl (fun _ => nI 0))), (u33.2.1, .inl (cI, 4, .inl (fun _ => nI 0))), (u33.2.2, .inl (cI, n, .inl (fun _ => nI 0)))] ++ [])) H := hP
  have hD : va_D A ([(a, .inr (1, [.ref q5, .ref q16, .null, .null, .null, .int (nI (0)), .null])), (q5, .inr (2, [.int (nI (0))]))] ++ (([(q16, .inr (3, [.ref u21.2.1, .ref u21.1])), (u21.1, .inl (cI, 8, .inl (fun _ => nI 0))), (u21.2.1, .inl (cG, n, .inr (.inr (.inr (.inr (fun i => if i < n then some (u21.2.2 i) else none))))))] ++ (rw_R cI 2 u21.2.2 (fun _ _ => nI 0) n ++ [])) ++ []) ++ ([(q28, .inr (4, [.ref u33.2.2, .ref u33.1, .ref u33.2.1])), (u33.1, .inl (cI, 4, .inl (fun _ => nI 0))), (u33.2.1, .inl (cI, 4, .inl (fun _ => nI 0))), (u33.2.2, .inl (cI, n, .inl (fun _ => nI 0)))] ++ [])) := hD
  refine va_putF (D := D) (C := nr_MA) (T := nt_MA) (N := 7) hx hb htg tf_MA nu_MA no_MA nn_MA hown hK hP hD hS 0 rfl rfl 2 (by decide) (htg _ tm_102) (fun _ h => h) rfl hin rfl rfl rfl rfl (Nat.le_of_ble_eq_true rfl) nd_MA_init_36 (fun H locs hP hD hS => ?_)
  have hP : va_P D cl_all ([(a, .inr (1, [.ref q5, .ref q16, .ref q28, .null, .null, .int (nI (0)), .null])), (q5, .inr (2, [.int (nI (0))]))] ++ (([(q16, .inr (3, [.ref u21.2.1, .ref u21.1])), (u21.1, .inl (cI, 8, .inl (fun _ => nI 0))), (u21.2.1, .inl (cG, n, .inr (.inr (.inr (.inr (fun i => if i < n then some (u21.2.2 i) else none))))))] ++ (rw_R cI 2 u21.2.2 (fun _ _ => nI 0) n ++ [])) ++ []) ++ ([(q28, .inr (4, [.ref u33.2.2, .ref u33.1, .ref u33.2.1])), (u33.1, .inl (cI, 4, .inl (fun _ => nI 0))), (u33.2.1, .inl (cI, 4, .inl (fun _ => nI 0))), (u33.2.2, .inl (cI, n, .inl (fun _ => nI 0)))] ++ [])) H := hP
  have hD : va_D A ([(a, .inr (1, [.ref q5, .ref q16, .ref q28, .null, .null, .int (nI (0)), .null])), (q5, .inr (2, [.int (nI (0))]))] ++ (([(q16, .inr (3, [.ref u21.2.1, .ref u21.1])), (u21.1, .inl (cI, 8, .inl (fun _ => nI 0))), (u21.2.1, .inl (cG, n, .inr (.inr (.inr (.inr (fun i => if i < n then some (u21.2.2 i) else none))))))] ++ (rw_R cI 2 u21.2.2 (fun _ _ => nI 0) n ++ [])) ++ []) ++ ([(q28, .inr (4, [.ref u33.2.2, .ref u33.1, .ref u33.2.1])), (u33.1, .inl (cI, 4, .inl (fun _ => nI 0))), (u33.2.1, .inl (cI, 4, .inl (fun _ => nI 0))), (u33.2.2, .inl (cI, n, .inl (fun _ => nI 0)))] ++ [])) := hD
  refine lv_aload_n hx hb nd_MA_init_39 rfl (lv_at hl 0 rfl) ?_
  refine va_new (ci := 5) (fs := [.null, .null, .null, .int (nI (0))]) (C := nr_LK) (T := nt_LK) (N := 4) hx hb htg tf_LK nu_LK no_LK hown (htg _ tm_77) (htg _ tm_78) (htg _ tm_7) hK hP hD hS hA rfl (fun j hj => by rcases (show j = 0 ∨ j = 1 ∨ j = 2 ∨ j = 3 by omega) with rfl | rfl | rfl | rfl <;> rfl) (show 18 + 1 ≤ 37 by decide) (show 62 + 4 ≤ 1164 by decide) nd_MA_init_40 (fun q40 H hP hD hS => ?_)
  refine W.widen (k := 19) (n := 66) (by omega) (by omega) ?_
  have hCS : 19 ≤ ({ frames := 3, cells := 37, slots := 1164, locals := 53 } : Room).cells ∧ 66 ≤ ({ frames := 3, cells := 37, slots := 1164, locals := 53 } : Room).slots := ⟨by decide, by decide⟩
  have hP : va_P D cl_all ([(a, .inr (1, [.ref q5, .ref q16, .ref q28, .null, .null, .int (nI (0)), .null])), (q5, .inr (2, [.int (nI (0))]))] ++ (([(q16, .inr (3, [.ref u21.2.1, .ref u21.1])), (u21.1, .inl (cI, 8, .inl (fun _ => nI 0))), (u21.2.1, .inl (cG, n, .inr (.inr (.inr (.inr (fun i => if i < n then some (u21.2.2 i) else none))))))] ++ (rw_R cI 2 u21.2.2 (fun _ _ => nI 0) n ++ [])) ++ []) ++ ([(q28, .inr (4, [.ref u33.2.2, .ref u33.1, .ref u33.2.1])), (u33.1, .inl (cI, 4, .inl (fun _ => nI 0))), (u33.2.1, .inl (cI, 4, .inl (fun _ => nI 0))), (u33.2.2, .inl (cI, n, .inl (fun _ => nI 0)))] ++ []) ++ [(q40, .inr (5, [.null, .null, .null, .int (nI (0))]))]) H := hP
  have hD : va_D A ([(a, .inr (1, [.ref q5, .ref q16, .ref q28, .null, .null, .int (nI (0)), .null])), (q5, .inr (2, [.int (nI (0))]))] ++ (([(q16, .inr (3, [.ref u21.2.1, .ref u21.1])), (u21.1, .inl (cI, 8, .inl (fun _ => nI 0))), (u21.2.1, .inl (cG, n, .inr (.inr (.inr (.inr (fun i => if i < n then some (u21.2.2 i) else none))))))] ++ (rw_R cI 2 u21.2.2 (fun _ _ => nI 0) n ++ [])) ++ []) ++ ([(q28, .inr (4, [.ref u33.2.2, .ref u33.1, .ref u33.2.1])), (u33.1, .inl (cI, 4, .inl (fun _ => nI 0))), (u33.2.1, .inl (cI, 4, .inl (fun _ => nI 0))), (u33.2.2, .inl (cI, n, .inl (fun _ => nI 0)))] ++ []) ++ [(q40, .inr (5, [.null, .null, .null, .int (nI (0))]))]) := hD
  refine lv_dup hx hb nd_MA_init_43 rfl ?_
  refine lv_iload_n hx hb nd_MA_init_44 rfl (lv_at hl 1 rfl) ?_
  refine wz_I (n := 1) (X := [(a, .inr (1, [.ref q5, .ref q16, .ref q28, .null, .null, .int (nI (0)), .null])), (q5, .inr (2, [.int (nI (0))]))] ++ (([(q16, .inr (3, [.ref u21.2.1, .ref u21.1])), (u21.1, .inl (cI, 8, .inl (fun _ => nI 0))), (u21.2.1, .inl (cG, n, .inr (.inr (.inr (.inr (fun i => if i < n then some (u21.2.2 i) else none))))))] ++ (rw_R cI 2 u21.2.2 (fun _ _ => nI 0) n ++ [])) ++ []) ++ ([(q28, .inr (4, [.ref u33.2.2, .ref u33.1, .ref u33.2.1])), (u33.1, .inl (cI, 4, .inl (fun _ => nI 0))), (u33.2.1, .inl (cI, 4, .inl (fun _ => nI 0))), (u33.2.2, .inl (cI, n, .inl (fun _ => nI 0)))] ++ [])) (Y := [(q40, .inr (5, [.null, .null, .null, .int (nI (0))]))]) (Z := []) hx hb hml hown htg (c_LK_init l D cI cG cM q40 n hn1 hn _) tm_81 tm_79 tm_80 tm_7 rfl (by decide +kernel) ⟨⟨by decide, by decide⟩, rfl, rfl⟩ hP hD hS hA hK hN h5 h6 rfl hl.1 rfl (Nat.le_of_ble_eq_true rfl) nd_MA_init_45 ⟨(show 19 + 17 ≤ 37 by decide), (show 66 + 74 ≤ 1164 by decide)⟩ (fun u45 H locs hp45 hP hD hS => ?_)
  refine W.widen (k := 36) (n := 140) (by omega) (by omega) ?_
  have hCS : 36 ≤ ({ frames := 3, cells := 37, slots := 1164, locals := 53 } : Room).cells ∧ 140 ≤ ({ frames := 3, cells := 37, slots := 1164, locals := 53 } : Room).slots := ⟨by decide, by decide⟩
  have hP : va_P D cl_all ([(a, .inr (1, [.ref q5, .ref q16, .ref q28, .null, .null, .int (nI (0)), .null])), (q5, .inr (2, [.int (nI (0))]))] ++ (([(q16, .inr (3, [.ref u21.2.1, .ref u21.1])), (u21.1, .inl (cI, 8, .inl (fun _ => nI 0))), (u21.2.1, .inl (cG, n, .inr (.inr (.inr (.inr (fun i => if i < n then some (u21.2.2 i) else none))))))] ++ (rw_R cI 2 u21.2.2 (fun _ _ => nI 0) n ++ [])) ++ []) ++ ([(q28, .inr (4, [.ref u33.2.2, .ref u33.1, .ref u33.2.1])), (u33.1, .inl (cI, 4, .inl (fun _ => nI 0))), (u33.2.1, .inl (cI, 4, .inl (fun _ => nI 0))), (u33.2.2, .inl (cI, n, .inl (fun _ => nI 0)))] ++ []) ++ (([(q40, .inr (5, [.ref u45.2.2.1, .ref u45.1, .ref u45.2.1, .int (nI 2)])), (u45.1, .inl (cG, 4, .inr (.inr (.inr (.inr (fun i => if i < 4 then some (u45.2.2.2.1 i) else none)))))), (u45.2.1, .inl (cI, 4, .inl (fun _ => nI 0))), (u45.2.2.1, .inl (cG, n, .inr (.inr (.inr (.inr (fun i => if i < n then some (u45.2.2.2.2 i) else none))))))] ++ (rw_R cI 4 u45.2.2.2.1 (fun _ _ => nI 0) 4 ++ (rw_R cI 4 u45.2.2.2.2 (fun _ _ => nI 0) n ++ []))) ++ [])) H := hP
  have hD : va_D A ([(a, .inr (1, [.ref q5, .ref q16, .ref q28, .null, .null, .int (nI (0)), .null])), (q5, .inr (2, [.int (nI (0))]))] ++ (([(q16, .inr (3, [.ref u21.2.1, .ref u21.1])), (u21.1, .inl (cI, 8, .inl (fun _ => nI 0))), (u21.2.1, .inl (cG, n, .inr (.inr (.inr (.inr (fun i => if i < n then some (u21.2.2 i) else none))))))] ++ (rw_R cI 2 u21.2.2 (fun _ _ => nI 0) n ++ [])) ++ []) ++ ([(q28, .inr (4, [.ref u33.2.2, .ref u33.1, .ref u33.2.1])), (u33.1, .inl (cI, 4, .inl (fun _ => nI 0))), (u33.2.1, .inl (cI, 4, .inl (fun _ => nI 0))), (u33.2.2, .inl (cI, n, .inl (fun _ => nI 0)))] ++ []) ++ (([(q40, .inr (5, [.ref u45.2.2.1, .ref u45.1, .ref u45.2.1, .int (nI 2)])), (u45.1, .inl (cG, 4, .inr (.inr (.inr (.inr (fun i => if i < 4 then some (u45.2.2.2.1 i) else none)))))), (u45.2.1, .inl (cI, 4, .inl (fun _ => nI 0))), (u45.2.2.1, .inl (cG, n, .inr (.inr (.inr (.inr (fun i => if i < n then some (u45.2.2.2.2 i) else none))))))] ++ (rw_R cI 4 u45.2.2.2.1 (fun _ _ => nI 0) 4 ++ (rw_R cI 4 u45.2.2.2.2 (fun _ _ => nI 0) n ++ []))) ++ [])) := hD
  refine va_putF (D := D) (C := nr_MA) (T := nt_MA) (N := 7) hx hb htg tf_MA nu_MA no_MA nn_MA hown hK hP hD hS 0 rfl rfl 3 (by decide) (htg _ tm_103) (fun _ h => h) rfl hin rfl rfl rfl rfl (Nat.le_of_ble_eq_true rfl) nd_MA_init_48 (fun H locs hP hD hS => ?_)
  have hP : va_P D cl_all ([(a, .inr (1, [.ref q5, .ref q16, .ref q28, .ref q40, .null, .int (nI (0)), .null])), (q5, .inr (2, [.int (nI (0))]))] ++ (([(q16, .inr (3, [.ref u21.2.1, .ref u21.1])), (u21.1, .inl (cI, 8, .inl (fun _ => nI 0))), (u21.2.1, .inl (cG, n, .inr (.inr (.inr (.inr (fun i => if i < n then some (u21.2.2 i) else none))))))] ++ (rw_R cI 2 u21.2.2 (fun _ _ => nI 0) n ++ [])) ++ []) ++ ([(q28, .inr (4, [.ref u33.2.2, .ref u33.1, .ref u33.2.1])), (u33.1, .inl (cI, 4, .inl (fun _ => nI 0))), (u33.2.1, .inl (cI, 4, .inl (fun _ => nI 0))), (u33.2.2, .inl (cI, n, .inl (fun _ => nI 0)))] ++ []) ++ (([(q40, .inr (5, [.ref u45.2.2.1, .ref u45.1, .ref u45.2.1, .int (nI 2)])), (u45.1, .inl (cG, 4, .inr (.inr (.inr (.inr (fun i => if i < 4 then some (u45.2.2.2.1 i) else none)))))), (u45.2.1, .inl (cI, 4, .inl (fun _ => nI 0))), (u45.2.2.1, .inl (cG, n, .inr (.inr (.inr (.inr (fun i => if i < n then some (u45.2.2.2.2 i) else none))))))] ++ (rw_R cI 4 u45.2.2.2.1 (fun _ _ => nI 0) 4 ++ (rw_R cI 4 u45.2.2.2.2 (fun _ _ => nI 0) n ++ []))) ++ [])) H := hP
  have hD : va_D A ([(a, .inr (1, [.ref q5, .ref q16, .ref q28, .ref q40, .null, .int (nI (0)), .null])), (q5, .inr (2, [.int (nI (0))]))] ++ (([(q16, .inr (3, [.ref u21.2.1, .ref u21.1])), (u21.1, .inl (cI, 8, .inl (fun _ => nI 0))), (u21.2.1, .inl (cG, n, .inr (.inr (.inr (.inr (fun i => if i < n then some (u21.2.2 i) else none))))))] ++ (rw_R cI 2 u21.2.2 (fun _ _ => nI 0) n ++ [])) ++ []) ++ ([(q28, .inr (4, [.ref u33.2.2, .ref u33.1, .ref u33.2.1])), (u33.1, .inl (cI, 4, .inl (fun _ => nI 0))), (u33.2.1, .inl (cI, 4, .inl (fun _ => nI 0))), (u33.2.2, .inl (cI, n, .inl (fun _ => nI 0)))] ++ []) ++ (([(q40, .inr (5, [.ref u45.2.2.1, .ref u45.1, .ref u45.2.1, .int (nI 2)])), (u45.1, .inl (cG, 4, .inr (.inr (.inr (.inr (fun i => if i < 4 then some (u45.2.2.2.1 i) else none)))))), (u45.2.1, .inl (cI, 4, .inl (fun _ => nI 0))), (u45.2.2.1, .inl (cG, n, .inr (.inr (.inr (.inr (fun i => if i < n then some (u45.2.2.2.2 i) else none))))))] ++ (rw_R cI 4 u45.2.2.2.1 (fun _ _ => nI 0) 4 ++ (rw_R cI 4 u45.2.2.2.2 (fun _ _ => nI 0) n ++ []))) ++ [])) := hD
  refine lv_aload_n hx hb nd_MA_init_51 rfl (lv_at hl 0 rfl) ?_
  refine wi_ic hx hb (a := 1) nd_MA_init_52 ?_
  refine lv_iload_n hx hb nd_MA_init_53 rfl (lv_at hl 1 rfl) ?_
  refine wi_ishl1 hx hb (by omega) nd_MA_init_54 ?_
  refine wn_newa hx hb htg hK hP hD hS hA (N' := 2 ^ n) (by omega) (show 36 + 1 ≤ 37 by decide) (show 140 + 2 ^ n ≤ 1164 by omega) nd_MA_init_55 (fun q55 H hP hD hS => ?_)
  refine W.widen (k := 37) (n := 1164) (by omega) (by omega) ?_
  have hCS : 37 ≤ ({ frames := 3, cells := 37, slots := 1164, locals := 53 } : Room).cells ∧ 1164 ≤ ({ frames := 3, cells := 37, slots := 1164, locals := 53 } : Room).slots := ⟨by decide, by decide⟩
  have hP : va_P D cl_all ([(a, .inr (1, [.ref q5, .ref q16, .ref q28, .ref q40, .null, .int (nI (0)), .null])), (q5, .inr (2, [.int (nI (0))]))] ++ (([(q16, .inr (3, [.ref u21.2.1, .ref u21.1])), (u21.1, .inl (cI, 8, .inl (fun _ => nI 0))), (u21.2.1, .inl (cG, n, .inr (.inr (.inr (.inr (fun i => if i < n then some (u21.2.2 i) else none))))))] ++ (rw_R cI 2 u21.2.2 (fun _ _ => nI 0) n ++ [])) ++ []) ++ ([(q28, .inr (4, [.ref u33.2.2, .ref u33.1, .ref u33.2.1])), (u33.1, .inl (cI, 4, .inl (fun _ => nI 0))), (u33.2.1, .inl (cI, 4, .inl (fun _ => nI 0))), (u33.2.2, .inl (cI, n, .inl (fun _ => nI 0)))] ++ []) ++ (([(q40, .inr (5, [.ref u45.2.2.1, .ref u45.1, .ref u45.2.1, .int (nI 2)])), (u45.1, .inl (cG, 4, .inr (.inr (.inr (.inr (fun i => if i < 4 then some (u45.2.2.2.1 i) else none)))))), (u45.2.1, .inl (cI, 4, .inl (fun _ => nI 0))), (u45.2.2.1, .inl (cG, n, .inr (.inr (.inr (.inr (fun i => if i < n then some (u45.2.2.2.2 i) else none))))))] ++ (rw_R cI 4 u45.2.2.2.1 (fun _ _ => nI 0) 4 ++ (rw_R cI 4 u45.2.2.2.2 (fun _ _ => nI 0) n ++ []))) ++ []) ++ [(q55, .inl (cI, 2 ^ n, .inl (fun _ => nI 0)))]) H := hP
  have hD : va_D A ([(a, .inr (1, [.ref q5, .ref q16, .ref q28, .ref q40, .null, .int (nI (0)), .null])), (q5, .inr (2, [.int (nI (0))]))] ++ (([(q16, .inr (3, [.ref u21.2.1, .ref u21.1])), (u21.1, .inl (cI, 8, .inl (fun _ => nI 0))), (u21.2.1, .inl (cG, n, .inr (.inr (.inr (.inr (fun i => if i < n then some (u21.2.2 i) else none))))))] ++ (rw_R cI 2 u21.2.2 (fun _ _ => nI 0) n ++ [])) ++ []) ++ ([(q28, .inr (4, [.ref u33.2.2, .ref u33.1, .ref u33.2.1])), (u33.1, .inl (cI, 4, .inl (fun _ => nI 0))), (u33.2.1, .inl (cI, 4, .inl (fun _ => nI 0))), (u33.2.2, .inl (cI, n, .inl (fun _ => nI 0)))] ++ []) ++ (([(q40, .inr (5, [.ref u45.2.2.1, .ref u45.1, .ref u45.2.1, .int (nI 2)])), (u45.1, .inl (cG, 4, .inr (.inr (.inr (.inr (fun i => if i < 4 then some (u45.2.2.2.1 i) else none)))))), (u45.2.1, .inl (cI, 4, .inl (fun _ => nI 0))), (u45.2.2.1, .inl (cG, n, .inr (.inr (.inr (.inr (fun i => if i < n then some (u45.2.2.2.2 i) else none))))))] ++ (rw_R cI 4 u45.2.2.2.1 (fun _ _ => nI 0) 4 ++ (rw_R cI 4 u45.2.2.2.2 (fun _ _ => nI 0) n ++ []))) ++ []) ++ [(q55, .inl (cI, 2 ^ n, .inl (fun _ => nI 0)))]) := hD
  refine va_putF (D := D) (C := nr_MA) (T := nt_MA) (N := 7) hx hb htg tf_MA nu_MA no_MA nn_MA hown hK hP hD hS 0 rfl rfl 4 (by decide) (htg _ tm_104) (fun _ h => h) rfl hin rfl rfl rfl rfl (Nat.le_of_ble_eq_true rfl) nd_MA_init_57 (fun H locs hP hD hS => ?_)
  have hP : va_P D cl_all ([(a, .inr (1, [.ref q5, .ref q16, .ref q28, .ref q40, .ref q55, .int (nI (0)), .null])), (q5, .inr (2, [.int (nI (0))]))] ++ (([(q16, .inr (3, [.ref u21.2.1, .ref u21.1])), (u21.1, .inl (cI, 8, .inl (fun _ => nI 0))), (u21.2.1, .inl (cG, n, .inr (.inr (.inr (.inr (fun i => if i < n then some (u21.2.2 i) else none))))))] ++ (rw_R cI 2 u21.2.2 (fun _ _ => nI 0) n ++ [])) ++ []) ++ ([(q28, .inr (4, [.ref u33.2.2, .ref u33.1, .ref u33.2.1])), (u33.1, .inl (cI, 4, .inl (fun _ => nI 0))), (u33.2.1, .inl (cI, 4, .inl (fun _ => nI 0))), (u33.2.2, .inl (cI, n, .inl (fun _ => nI 0)))] ++ []) ++ (([(q40, .inr (5, [.ref u45.2.2.1, .ref u45.1, .ref u45.2.1, .int (nI 2)])), (u45.1, .inl (cG, 4, .inr (.inr (.inr (.inr (fun i => if i < 4 then some (u45.2.2.2.1 i) else none)))))), (u45.2.1, .inl (cI, 4, .inl (fun _ => nI 0))), (u45.2.2.1, .inl (cG, n, .inr (.inr (.inr (.inr (fun i => if i < n then some (u45.2.2.2.2 i) else none))))))] ++ (rw_R cI 4 u45.2.2.2.1 (fun _ _ => nI 0) 4 ++ (rw_R cI 4 u45.2.2.2.2 (fun _ _ => nI 0) n ++ []))) ++ []) ++ [(q55, .inl (cI, 2 ^ n, .inl (fun _ => nI 0)))]) H := hP
  have hD : va_D A ([(a, .inr (1, [.ref q5, .ref q16, .ref q28, .ref q40, .ref q55, .int (nI (0)), .null])), (q5, .inr (2, [.int (nI (0))]))] ++ (([(q16, .inr (3, [.ref u21.2.1, .ref u21.1])), (u21.1, .inl (cI, 8, .inl (fun _ => nI 0))), (u21.2.1, .inl (cG, n, .inr (.inr (.inr (.inr (fun i => if i < n then some (u21.2.2 i) else none))))))] ++ (rw_R cI 2 u21.2.2 (fun _ _ => nI 0) n ++ [])) ++ []) ++ ([(q28, .inr (4, [.ref u33.2.2, .ref u33.1, .ref u33.2.1])), (u33.1, .inl (cI, 4, .inl (fun _ => nI 0))), (u33.2.1, .inl (cI, 4, .inl (fun _ => nI 0))), (u33.2.2, .inl (cI, n, .inl (fun _ => nI 0)))] ++ []) ++ (([(q40, .inr (5, [.ref u45.2.2.1, .ref u45.1, .ref u45.2.1, .int (nI 2)])), (u45.1, .inl (cG, 4, .inr (.inr (.inr (.inr (fun i => if i < 4 then some (u45.2.2.2.1 i) else none)))))), (u45.2.1, .inl (cI, 4, .inl (fun _ => nI 0))), (u45.2.2.1, .inl (cG, n, .inr (.inr (.inr (.inr (fun i => if i < n then some (u45.2.2.2.2 i) else none))))))] ++ (rw_R cI 4 u45.2.2.2.1 (fun _ _ => nI 0) 4 ++ (rw_R cI 4 u45.2.2.2.2 (fun _ _ => nI 0) n ++ []))) ++ []) ++ [(q55, .inl (cI, 2 ^ n, .inl (fun _ => nI 0)))]) := hD
  refine lv_aload_n hx hb nd_MA_init_60 rfl (lv_at hl 0 rfl) ?_
  refine va_get (D := D) (C := nr_MA) (T := nt_MA) (N := 7) hx hb htg tf_MA hown hK hP 0 rfl rfl 4 (by decide) (htg _ tm_104) (fun _ h => h) rfl nd_MA_init_61 ?_
  refine lv_iconst (v := -1) hx hb nd_MA_init_64 (by decide) ?_
  refine wd_Sv (n := 2) (X := [(a, .inr (1, [.ref q5, .ref q16, .ref q28, .ref q40, .ref q55, .int (nI (0)), .null])), (q5, .inr (2, [.int (nI (0))]))] ++ (([(q16, .inr (3, [.ref u21.2.1, .ref u21.1])), (u21.1, .inl (cI, 8, .inl (fun _ => nI 0))), (u21.2.1, .inl (cG, n, .inr (.inr (.inr (.inr (fun i => if i < n then some (u21.2.2 i) else none))))))] ++ (rw_R cI 2 u21.2.2 (fun _ _ => nI 0) n ++ [])) ++ []) ++ ([(q28, .inr (4, [.ref u33.2.2, .ref u33.1, .ref u33.2.1])), (u33.1, .inl (cI, 4, .inl (fun _ => nI 0))), (u33.2.1, .inl (cI, 4, .inl (fun _ => nI 0))), (u33.2.2, .inl (cI, n, .inl (fun _ => nI 0)))] ++ []) ++ (([(q40, .inr (5, [.ref u45.2.2.1, .ref u45.1, .ref u45.2.1, .int (nI 2)])), (u45.1, .inl (cG, 4, .inr (.inr (.inr (.inr (fun i => if i < 4 then some (u45.2.2.2.1 i) else none)))))), (u45.2.1, .inl (cI, 4, .inl (fun _ => nI 0))), (u45.2.2.1, .inl (cG, n, .inr (.inr (.inr (.inr (fun i => if i < n then some (u45.2.2.2.2 i) else none))))))] ++ (rw_R cI 4 u45.2.2.2.1 (fun _ _ => nI 0) 4 ++ (rw_R cI 4 u45.2.2.2.2 (fun _ _ => nI 0) n ++ []))) ++ [])) (Y := [(q55, .inl (cI, 2 ^ n, .inl (fun _ => nI 0)))]) (Z := []) hx hb hml hown htg (c_AR_fill l D cI cG cM q55 (2 ^ n) (by omega) (fun _ => nI 0) (-1) _) tm_99 tm_97 tm_98 tm_8 (by decide +kernel) ⟨⟨Nat.le_trans (by decide) hRf, Nat.le_trans (by decide) hRl⟩, rfl, rfl⟩ hP hD hS hA hK hN rfl hl.1 rfl (Nat.le_of_ble_eq_true rfl) nd_MA_init_65 hCS (fun u65 H locs hp65 hP hD hS => ?_)
  have hP : va_P D cl_all ([(a, .inr (1, [.ref q5, .ref q16, .ref q28, .ref q40, .ref q55, .int (nI (0)), .null])), (q5, .inr (2, [.int (nI (0))]))] ++ (([(q16, .inr (3, [.ref u21.2.1, .ref u21.1])), (u21.1, .inl (cI, 8, .inl (fun _ => nI 0))), (u21.2.1, .inl (cG, n, .inr (.inr (.inr (.inr (fun i => if i < n then some (u21.2.2 i) else none))))))] ++ (rw_R cI 2 u21.2.2 (fun _ _ => nI 0) n ++ [])) ++ []) ++ ([(q28, .inr (4, [.ref u33.2.2, .ref u33.1, .ref u33.2.1])), (u33.1, .inl (cI, 4, .inl (fun _ => nI 0))), (u33.2.1, .inl (cI, 4, .inl (fun _ => nI 0))), (u33.2.2, .inl (cI, n, .inl (fun _ => nI 0)))] ++ []) ++ (([(q40, .inr (5, [.ref u45.2.2.1, .ref u45.1, .ref u45.2.1, .int (nI 2)])), (u45.1, .inl (cG, 4, .inr (.inr (.inr (.inr (fun i => if i < 4 then some (u45.2.2.2.1 i) else none)))))), (u45.2.1, .inl (cI, 4, .inl (fun _ => nI 0))), (u45.2.2.1, .inl (cG, n, .inr (.inr (.inr (.inr (fun i => if i < n then some (u45.2.2.2.2 i) else none))))))] ++ (rw_R cI 4 u45.2.2.2.1 (fun _ _ => nI 0) 4 ++ (rw_R cI 4 u45.2.2.2.2 (fun _ _ => nI 0) n ++ []))) ++ []) ++ [(q55, .inl (cI, 2 ^ n, .inl u65))]) H := hP
  have hD : va_D A ([(a, .inr (1, [.ref q5, .ref q16, .ref q28, .ref q40, .ref q55, .int (nI (0)), .null])), (q5, .inr (2, [.int (nI (0))]))] ++ (([(q16, .inr (3, [.ref u21.2.1, .ref u21.1])), (u21.1, .inl (cI, 8, .inl (fun _ => nI 0))), (u21.2.1, .inl (cG, n, .inr (.inr (.inr (.inr (fun i => if i < n then some (u21.2.2 i) else none))))))] ++ (rw_R cI 2 u21.2.2 (fun _ _ => nI 0) n ++ [])) ++ []) ++ ([(q28, .inr (4, [.ref u33.2.2, .ref u33.1, .ref u33.2.1])), (u33.1, .inl (cI, 4, .inl (fun _ => nI 0))), (u33.2.1, .inl (cI, 4, .inl (fun _ => nI 0))), (u33.2.2, .inl (cI, n, .inl (fun _ => nI 0)))] ++ []) ++ (([(q40, .inr (5, [.ref u45.2.2.1, .ref u45.1, .ref u45.2.1, .int (nI 2)])), (u45.1, .inl (cG, 4, .inr (.inr (.inr (.inr (fun i => if i < 4 then some (u45.2.2.2.1 i) else none)))))), (u45.2.1, .inl (cI, 4, .inl (fun _ => nI 0))), (u45.2.2.1, .inl (cG, n, .inr (.inr (.inr (.inr (fun i => if i < n then some (u45.2.2.2.2 i) else none))))))] ++ (rw_R cI 4 u45.2.2.2.1 (fun _ _ => nI 0) 4 ++ (rw_R cI 4 u45.2.2.2.2 (fun _ _ => nI 0) n ++ []))) ++ []) ++ [(q55, .inl (cI, 2 ^ n, .inl u65))]) := hD
  refine lv_aload_n hx hb nd_MA_init_68 rfl (lv_at hl 0 rfl) ?_
  refine lv_aload_n hx hb nd_MA_init_69 rfl (lv_at hl 0 rfl) ?_
  refine va_get (D := D) (C := nr_MA) (T := nt_MA) (N := 7) hx hb htg tf_MA hown hK hP 0 rfl rfl 0 (by decide) (htg _ tm_100) (fun _ h => h) rfl nd_MA_init_70 ?_
  refine va_put (D := D) (C := nr_MA) (T := nt_MA) (N := 7) hx hb htg tf_MA nu_MA no_MA nn_MA hown hK hP hD hS 0 rfl rfl 6 (by decide) (htg _ tm_106) (fun _ h => h) rfl rfl rfl rfl (Nat.le_of_ble_eq_true rfl) nd_MA_init_73 (fun H locs hP hD hS => ?_)
  have hP : va_P D cl_all ([(a, .inr (1, [.ref q5, .ref q16, .ref q28, .ref q40, .ref q55, .int (nI (0)), .ref q5])), (q5, .inr (2, [.int (nI (0))]))] ++ (([(q16, .inr (3, [.ref u21.2.1, .ref u21.1])), (u21.1, .inl (cI, 8, .inl (fun _ => nI 0))), (u21.2.1, .inl (cG, n, .inr (.inr (.inr (.inr (fun i => if i < n then some (u21.2.2 i) else none))))))] ++ (rw_R cI 2 u21.2.2 (fun _ _ => nI 0) n ++ [])) ++ []) ++ ([(q28, .inr (4, [.ref u33.2.2, .ref u33.1, .ref u33.2.1])), (u33.1, .inl (cI, 4, .inl (fun _ => nI 0))), (u33.2.1, .inl (cI, 4, .inl (fun _ => nI 0))), (u33.2.2, .inl (cI, n, .inl (fun _ => nI 0)))] ++ []) ++ (([(q40, .inr (5, [.ref u45.2.2.1, .ref u45.1, .ref u45.2.1, .int (nI 2)])), (u45.1, .inl (cG, 4, .inr (.inr (.inr (.inr (fun i => if i < 4 then some (u45.2.2.2.1 i) else none)))))), (u45.2.1, .inl (cI, 4, .inl (fun _ => nI 0))), (u45.2.2.1, .inl (cG, n, .inr (.inr (.inr (.inr (fun i => if i < n then some (u45.2.2.2.2 i) else none))))))] ++ (rw_R cI 4 u45.2.2.2.1 (fun _ _ => nI 0) 4 ++ (rw_R cI 4 u45.2.2.2.2 (fun _ _ => nI 0) n ++ []))) ++ []) ++ [(q55, .inl (cI, 2 ^ n, .inl u65))]) H := hP
  have hD : va_D A ([(a, .inr (1, [.ref q5, .ref q16, .ref q28, .ref q40, .ref q55, .int (nI (0)), .ref q5])), (q5, .inr (2, [.int (nI (0))]))] ++ (([(q16, .inr (3, [.ref u21.2.1, .ref u21.1])), (u21.1, .inl (cI, 8, .inl (fun _ => nI 0))), (u21.2.1, .inl (cG, n, .inr (.inr (.inr (.inr (fun i => if i < n then some (u21.2.2 i) else none))))))] ++ (rw_R cI 2 u21.2.2 (fun _ _ => nI 0) n ++ [])) ++ []) ++ ([(q28, .inr (4, [.ref u33.2.2, .ref u33.1, .ref u33.2.1])), (u33.1, .inl (cI, 4, .inl (fun _ => nI 0))), (u33.2.1, .inl (cI, 4, .inl (fun _ => nI 0))), (u33.2.2, .inl (cI, n, .inl (fun _ => nI 0)))] ++ []) ++ (([(q40, .inr (5, [.ref u45.2.2.1, .ref u45.1, .ref u45.2.1, .int (nI 2)])), (u45.1, .inl (cG, 4, .inr (.inr (.inr (.inr (fun i => if i < 4 then some (u45.2.2.2.1 i) else none)))))), (u45.2.1, .inl (cI, 4, .inl (fun _ => nI 0))), (u45.2.2.1, .inl (cG, n, .inr (.inr (.inr (.inr (fun i => if i < n then some (u45.2.2.2.2 i) else none))))))] ++ (rw_R cI 4 u45.2.2.2.1 (fun _ _ => nI 0) 4 ++ (rw_R cI 4 u45.2.2.2.2 (fun _ _ => nI 0) n ++ []))) ++ []) ++ [(q55, .inl (cI, 2 ^ n, .inl u65))]) := hD
  have hP : va_P D cl_all (mw_ cI cG ((fun i => if i = 0 then a else if i = 1 then q55 else if i = 2 then q5 else if i = 3 then q28 else if i = 4 then u33.1 else if i = 5 then u33.2.1 else if i = 6 then u33.2.2 else if i = 7 then q16 else if i = 8 then u21.1 else if i = 9 then u21.2.1 else if i = 10 then q40 else if i = 11 then u45.1 else if i = 12 then u45.2.1 else u45.2.2.1), u21.2.2, u45.2.2.2.1, u45.2.2.2.2) n (2, (fun i => if i = 2 then nI 2 else nI 0), (fun i => if i = 0 then u65 else fun _ => nI 0), (fun _ _ => nI 0), (fun _ _ => nI 0), (fun _ _ => nI 0))) H := va_Pp (ma_perm _ _ _ _ _ _) hP
  have hD : va_D A (mw_ cI cG ((fun i => if i = 0 then a else if i = 1 then q55 else if i = 2 then q5 else if i = 3 then q28 else if i = 4 then u33.1 else if i = 5 then u33.2.1 else if i = 6 then u33.2.2 else if i = 7 then q16 else if i = 8 then u21.1 else if i = 9 then u21.2.1 else if i = 10 then q40 else if i = 11 then u45.1 else if i = 12 then u45.2.1 else u45.2.2.1), u21.2.2, u45.2.2.2.1, u45.2.2.2.2) n (2, (fun i => if i = 2 then nI 2 else nI 0), (fun i => if i = 0 then u65 else fun _ => nI 0), (fun _ _ => nI 0), (fun _ _ => nI 0), (fun _ _ => nI 0))) := va_Dp (ma_perm _ _ _ _ _ _) hD
  refine W.widen (k := 37) (n := 1164) (by decide) (by decide) ?_
  exact wb_vret (((fun i => if i = 0 then a else if i = 1 then q55 else if i = 2 then q5 else if i = 3 then q28 else if i = 4 then u33.1 else if i = 5 then u33.2.1 else if i = 6 then u33.2.2 else if i = 7 then q16 else if i = 8 then u21.1 else if i = 9 then u21.2.1 else if i = 10 then q40 else if i = 11 then u45.1 else if i = 12 then u45.2.1 else u45.2.2.1), u21.2.2, u45.2.2.2.1, u45.2.2.2.2), (2, (fun i => if i = 2 then nI 2 else nI 0), (fun i => if i = 0 then u65 else fun _ => nI 0), (fun _ _ => nI 0), (fun _ _ => nI 0), (fun _ _ => nI 0))) hx hb hr hk hAe ⟨rfl, Or.inl ⟨rfl, (by decide : 0 ≤ 10)⟩, Or.inl ⟨rfl, rfl, rfl⟩, ⟨fun s hs => Or.inl (hp65 s hs), fun _ s hs => hp65 s hs⟩⟩ hP hD hS nd_MA_init_76
theorem nd_CB_init_0 : decode nc_CB_init 0 = .ok (.aload_n 0, 1) := by decide +kernel
theorem nd_CB_init_1 : decode nc_CB_init 1 = .ok (.invokespecial 1, 3) := by decide +kernel
theorem nd_CB_init_4 : decode nc_CB_init 4 = .ok (.aload_n 0, 1) := by decide +kernel
theorem nd_CB_init_5 : decode nc_CB_init 5 = .ok (.iload_n 1, 1) := by decide +kernel
theorem nd_CB_init_6 : decode nc_CB_init 6 = .ok (.iconst 1, 1) := by decide +kernel
theorem nd_CB_init_7 : decode nc_CB_init 7 = .ok (.if_icmp .lt 13, 3) := by decide +kernel
theorem nd_CB_init_10 : decode nc_CB_init 10 = .ok (.iload_n 1, 1) := by decide +kernel
theorem nd_CB_init_11 : decode nc_CB_init 11 = .ok (.bipush 10, 2) := by decide +kernel
theorem nd_CB_init_13 : decode nc_CB_init 13 = .ok (.if_icmp .gt 7, 3) := by decide +kernel
theorem nd_CB_init_16 : decode nc_CB_init 16 = .ok (.iload_n 1, 1) := by decide +kernel
theorem nd_CB_init_17 : decode nc_CB_init 17 = .ok (.goto 5, 3) := by decide +kernel
theorem nd_CB_init_20 : decode nc_CB_init 20 = .ok (.bipush 8, 2) := by decide +kernel
theorem nd_CB_init_22 : decode nc_CB_init 22 = .ok (.putfield 9, 3) := by decide +kernel
theorem nd_CB_init_25 : decode nc_CB_init 25 = .ok (.aload_n 0, 1) := by decide +kernel
theorem nd_CB_init_26 : decode nc_CB_init 26 = .ok (.iconst 1, 1) := by decide +kernel
theorem nd_CB_init_27 : decode nc_CB_init 27 = .ok (.aload_n 0, 1) := by decide +kernel
theorem nd_CB_init_28 : decode nc_CB_init 28 = .ok (.getfield 9, 3) := by decide +kernel
theorem nd_CB_init_31 : decode nc_CB_init 31 = .ok (.ishl, 1) := by decide +kernel
theorem nd_CB_init_32 : decode nc_CB_init 32 = .ok (.iconst 1, 1) := by decide +kernel
theorem nd_CB_init_33 : decode nc_CB_init 33 = .ok (.isub, 1) := by decide +kernel
theorem nd_CB_init_34 : decode nc_CB_init 34 = .ok (.putfield 13, 3) := by decide +kernel
theorem nd_CB_init_37 : decode nc_CB_init 37 = .ok (.aload_n 0, 1) := by decide +kernel
theorem nd_CB_init_38 : decode nc_CB_init 38 = .ok (.aload_n 0, 1) := by decide +kernel
theorem nd_CB_init_39 : decode nc_CB_init 39 = .ok (.getfield 9, 3) := by decide +kernel
theorem nd_CB_init_42 : decode nc_CB_init 42 = .ok (.newarray .int, 2) := by decide +kernel
theorem nd_CB_init_44 : decode nc_CB_init 44 = .ok (.putfield 16, 3) := by decide +kernel
theorem nd_CB_init_47 : decode nc_CB_init 47 = .ok (.aload_n 0, 1) := by decide +kernel
theorem nd_CB_init_48 : decode nc_CB_init 48 = .ok (.iconst 2, 1) := by decide +kernel
theorem nd_CB_init_49 : decode nc_CB_init 49 = .ok (.anewarray 20, 3) := by decide +kernel
theorem nd_CB_init_52 : decode nc_CB_init 52 = .ok (.dup, 1) := by decide +kernel
theorem nd_CB_init_53 : decode nc_CB_init 53 = .ok (.iconst 0, 1) := by decide +kernel
theorem nd_CB_init_54 : decode nc_CB_init 54 = .ok (.new 20, 3) := by decide +kernel
theorem nd_CB_init_57 : decode nc_CB_init 57 = .ok (.dup, 1) := by decide +kernel
theorem nd_CB_init_58 : decode nc_CB_init 58 = .ok (.aload_n 0, 1) := by decide +kernel
theorem nd_CB_init_59 : decode nc_CB_init 59 = .ok (.getfield 9, 3) := by decide +kernel
theorem nd_CB_init_62 : decode nc_CB_init 62 = .ok (.invokespecial 22, 3) := by decide +kernel
theorem nd_CB_init_65 : decode nc_CB_init 65 = .ok (.aastore, 1) := by decide +kernel
theorem nd_CB_init_66 : decode nc_CB_init 66 = .ok (.dup, 1) := by decide +kernel
theorem nd_CB_init_67 : decode nc_CB_init 67 = .ok (.iconst 1, 1) := by decide +kernel
theorem nd_CB_init_68 : decode nc_CB_init 68 = .ok (.new 20, 3) := by decide +kernel
theorem nd_CB_init_71 : decode nc_CB_init 71 = .ok (.dup, 1) := by decide +kernel
theorem nd_CB_init_72 : decode nc_CB_init 72 = .ok (.aload_n 0, 1) := by decide +kernel
theorem nd_CB_init_73 : decode nc_CB_init 73 = .ok (.getfield 9, 3) := by decide +kernel
theorem nd_CB_init_76 : decode nc_CB_init 76 = .ok (.invokespecial 22, 3) := by decide +kernel
theorem nd_CB_init_79 : decode nc_CB_init 79 = .ok (.aastore, 1) := by decide +kernel
theorem nd_CB_init_80 : decode nc_CB_init 80 = .ok (.putfield 25, 3) := by decide +kernel
theorem nd_CB_init_83 : decode nc_CB_init 83 = .ok (.return_, 1) := by decide +kernel
set_option maxRecDepth 20000 in
theorem c_CB_init (l : Launch) (D : va_G) (cI cG cM : ClassId)  (a : Nat) (x : Int32) (n : Nat) (hnx : nn_ x = n) (sz : Nat) : wz_M l ny_CB_init nc_CB_init 2 ({ frames := 4, cells := 78, slots := 2354, locals := 74 }) D (ty_all cI cG cM) ([(a, .inr (0, [.int (nI (0)), .int (nI (0)), .null, .null]))]) sz [.ref a, .int (x)] 78 2354 (fun u : (Nat → Nat) × (Nat → Option Nat) × ma_A × ma_A × cb_S => u.1 0 = a ∧ u.2.1 0 = some (u.2.2.1.1 0) ∧ u.2.1 1 = some (u.2.2.2.1.1 0) ∧ cb_I n y0_ u.2.2.2.2) (fun u : (Nat → Nat) × (Nat → Option Nat) × ma_A × ma_A × cb_S => cw_ cI cG cM u.1 n u.2.1 u.2.2.1 u.2.2.2.1 u.2.2.2.2) := by
  refine wz_start (by decide) (Nat.le_of_ble_eq_true rfl) ?_
  intro p e0 s0 m below meth c ls A hx hb hr hml htg hown hk hP hK hN hl hAe hsz hD hA hin h5 h6
  have hl : lv_has ls 2 [(0, .ref a), (1, .int (x))] := hl
  have hS : va_S A s0.heap s0.heap [] := va_S.rf
  have hRf : 4 ≤ ({ frames := 4, cells := 78, slots := 2354, locals := 74 } : Room).frames := Nat.le_refl _
  have hRl : 74 ≤ ({ frames := 4, cells := 78, slots := 2354, locals := 74 } : Room).locals := Nat.le_refl _
  have hCS : 0 ≤ ({ frames := 4, cells := 78, slots := 2354, locals := 74 } : Room).cells ∧ 0 ≤ ({ frames := 4, cells := 78, slots := 2354, locals := 74 } : Room).slots := ⟨Nat.zero_le _, Nat.zero_le _⟩
  have hn1 : 1 ≤ n := hnx ▸ (nn_ok x).1
  have hn : n ≤ 10 := hnx ▸ (nn_ok x).2
  have h2n : 2 ^ n ≤ 1024 := Nat.pow_le_pow_right (by omega) hn
  have h2p : 1 ≤ 2 ^ n := Nat.one_le_two_pow
  refine lv_aload_n hx hb nd_CB_init_0 rfl (lv_at hl 0 rfl) ?_
  refine W.objInit hx hb hown (htg _ tm_18) (htg _ tm_19) (htg _ tm_20) rfl (by rw [hml]; exact hl.1) rfl nd_CB_init_1 (Nat.le_of_ble_eq_true rfl) (Nat.le_of_ble_eq_true rfl) ?_
  refine W.eq (g2 := F0 m 4 ls []) rfl ?_
  refine lv_aload_n hx hb nd_CB_init_4 rfl (lv_at hl 0 rfl) ?_
  refine lv_iload_n hx hb nd_CB_init_5 rfl (lv_at hl 1 rfl) ?_
  refine wi_ic hx hb (a := 1) nd_CB_init_6 ?_
  refine lv_icmp_lt (tgt := 20) hx hb nd_CB_init_7 rfl (fun hc7 => ?_) (fun hc7 => ?_)
  · refine lv_bipush (v := nI 8) hx hb nd_CB_init_20 (by decide) ?_
    refine wi_top (show nI 8 = nI n from congrArg nI ((nn_bad (Or.inl hc7)).symm.trans hnx)) ?_
    refine va_putF (D := D) (C := nr_CB) (T := nt_CB) (N := 4) hx hb htg tf_CB nu_CB no_CB nn_CB hown hK hP hD hS 0 rfl rfl 0 (by decide) (htg _ tm_122) (fun _ h => h) rfl hin rfl rfl rfl rfl (Nat.le_of_ble_eq_true rfl) nd_CB_init_22 (fun H locs hP hD hS => ?_)
    have hP : va_P D cl_all ([(a, .inr (0, [.int (nI (n)), .int (nI (0)), .null, .null]))]) H := hP
    have hD : va_D A ([(a, .inr (0, [.int (nI (n)), .int (nI (0)), .null, .null]))]) := hD
    refine lv_aload_n hx hb nd_CB_init_25 rfl (lv_at hl 0 rfl) ?_
    refine wi_ic hx hb (a := 1) nd_CB_init_26 ?_
    refine lv_aload_n hx hb nd_CB_init_27 rfl (lv_at hl 0 rfl) ?_
    refine va_get (D := D) (C := nr_CB) (T := nt_CB) (N := 4) hx hb htg tf_CB hown hK hP 0 rfl rfl 0 (by decide) (htg _ tm_122) (fun _ h => h) rfl nd_CB_init_28 ?_
    refine wi_ishl1 hx hb (by omega) nd_CB_init_31 ?_
    refine wi_ic hx hb (a := 1) nd_CB_init_32 ?_
    refine wi_isub hx hb (by omega) nd_CB_init_33 ?_
    refine va_putF (D := D) (C := nr_CB) (T := nt_CB) (N := 4) hx hb htg tf_CB nu_CB no_CB nn_CB hown hK hP hD hS 0 rfl rfl 1 (by decide) (htg _ tm_123) (fun _ h => h) rfl hin rfl rfl rfl rfl (Nat.le_of_ble_eq_true rfl) nd_CB_init_34 (fun H locs hP hD hS => ?_)
    have hP : va_P D cl_all ([(a, .inr (0, [.int (nI (n)), .int (nI ((2 ^ n) - 1)), .null, .null]))]) H := hP
    have hD : va_D A ([(a, .inr (0, [.int (nI (n)), .int (nI ((2 ^ n) - 1)), .null, .null]))]) := hD
    refine lv_aload_n hx hb nd_CB_init_37 rfl (lv_at hl 0 rfl) ?_
    refine lv_aload_n hx hb nd_CB_init_38 rfl (lv_at hl 0 rfl) ?_
    refine va_get (D := D) (C := nr_CB) (T := nt_CB) (N := 4) hx hb htg tf_CB hown hK hP 0 rfl rfl 0 (by decide) (htg _ tm_122) (fun _ h => h) rfl nd_CB_init_39 ?_
    refine wn_newa hx hb htg hK hP hD hS hA (N' := n) (by omega) (show 0 + 1 ≤ 78 by decide) (show 0 + n ≤ 2354 by omega) nd_CB_init_42 (fun q42 H hP hD hS => ?_)
    refine W.widen (k := 1) (n := 10) (by omega) (by omega) ?_
    have hCS : 1 ≤ ({ frames := 4, cells := 78, slots := 2354, locals := 74 } : Room).cells ∧ 10 ≤ ({ frames := 4, cells := 78, slots := 2354, locals := 74 } : Room).slots := ⟨by decide, by decide⟩
    have hP : va_P D cl_all ([(a, .inr (0, [.int (nI (n)), .int (nI ((2 ^ n) - 1)), .null, .null])), (q42, .inl (cI, n, .inl (fun _ => nI 0)))]) H := hP
    have hD : va_D A ([(a, .inr (0, [.int (nI (n)), .int (nI ((2 ^ n) - 1)), .null, .null])), (q42, .inl (cI, n, .inl (fun _ => nI 0)))]) := hD
    refine va_putF (D := D) (C := nr_CB) (T := nt_CB) (N := 4) hx hb htg tf_CB nu_CB no_CB nn_CB hown hK hP hD hS 0 rfl rfl 2 (by decide) (htg _ tm_124) (fun _ h => h) rfl hin rfl rfl rfl rfl (Nat.le_of_ble_eq_true rfl) nd_CB_init_44 (fun H locs hP hD hS => ?_)
    have hP : va_P D cl_all ([(a, .inr (0, [.int (nI (n)), .int (nI ((2 ^ n) - 1)), .ref q42, .null])), (q42, .inl (cI, n, .inl (fun _ => nI 0)))]) H := hP
    have hD : va_D A ([(a, .inr (0, [.int (nI (n)), .int (nI ((2 ^ n) - 1)), .ref q42, .null])), (q42, .inl (cI, n, .inl (fun _ => nI 0)))]) := hD
    refine lv_aload_n hx hb nd_CB_init_47 rfl (lv_at hl 0 rfl) ?_
    refine wi_ic hx hb (a := 2) nd_CB_init_48 ?_
    refine va_newq (C := "CommonBases$Matroid") hx hb hown (htg _ tm_21) h5 hK hP hD hS hA (N' := 2) (nI_pos (by omega)) (nI_clamp (by omega)) (by decide) (show 1 + 1 ≤ 78 by decide) (show 10 + 2 ≤ 2354 by decide) nd_CB_init_49 (fun q49 cA H hK1 hP hD hS => ?_)
    have ec : cM = cA := Option.some.inj ((hK.2 2 _ rfl).2.choose_spec.choose_spec.2.2.2.symm.trans (hK1.2 3 _ rfl).2.choose_spec.choose_spec.2.2.2)
    subst ec
    refine W.widen (k := 2) (n := 12) (by omega) (by omega) ?_
    have hCS : 2 ≤ ({ frames := 4, cells := 78, slots := 2354, locals := 74 } : Room).cells ∧ 12 ≤ ({ frames := 4, cells := 78, slots := 2354, locals := 74 } : Room).slots := ⟨by decide, by decide⟩
    have hP : va_P D cl_all ([(a, .inr (0, [.int (nI (n)), .int (nI ((2 ^ n) - 1)), .ref q42, .null])), (q42, .inl (cI, n, .inl (fun _ => nI 0))), (q49, .inl (cM, 2, .inr (.inr (.inr (.inr (fun _ => none))))))]) H := hP
    have hD : va_D A ([(a, .inr (0, [.int (nI (n)), .int (nI ((2 ^ n) - 1)), .ref q42, .null])), (q42, .inl (cI, n, .inl (fun _ => nI 0))), (q49, .inl (cM, 2, .inr (.inr (.inr (.inr (fun _ => none))))))]) := hD
    refine lv_dup hx hb nd_CB_init_52 rfl ?_
    refine wi_ic hx hb (a := 0) nd_CB_init_53 ?_
    refine va_new (ci := 1) (fs := [.null, .null, .null, .null, .null, .int (nI (0)), .null]) (C := nr_MA) (T := nt_MA) (N := 7) hx hb htg tf_MA nu_MA no_MA hown (htg _ tm_21) (htg _ tm_23) (htg _ tm_2) hK hP hD hS hA rfl (fun j hj => by rcases (show j = 0 ∨ j = 1 ∨ j = 2 ∨ j = 3 ∨ j = 4 ∨ j = 5 ∨ j = 6 by omega) with rfl | rfl | rfl | rfl | rfl | rfl | rfl <;> rfl) (show 2 + 1 ≤ 78 by decide) (show 12 + 7 ≤ 2354 by decide) nd_CB_init_54 (fun q54 H hP hD hS => ?_)
    refine W.widen (k := 3) (n := 19) (by omega) (by omega) ?_
    have hCS : 3 ≤ ({ frames := 4, cells := 78, slots := 2354, locals := 74 } : Room).cells ∧ 19 ≤ ({ frames := 4, cells := 78, slots := 2354, locals := 74 } : Room).slots := ⟨by decide, by decide⟩
    have hP : va_P D cl_all ([(a, .inr (0, [.int (nI (n)), .int (nI ((2 ^ n) - 1)), .ref q42, .null])), (q42, .inl (cI, n, .inl (fun _ => nI 0))), (q49, .inl (cM, 2, .inr (.inr (.inr (.inr (fun _ => none)))))), (q54, .inr (1, [.null, .null, .null, .null, .null, .int (nI (0)), .null]))]) H := hP
    have hD : va_D A ([(a, .inr (0, [.int (nI (n)), .int (nI ((2 ^ n) - 1)), .ref q42, .null])), (q42, .inl (cI, n, .inl (fun _ => nI 0))), (q49, .inl (cM, 2, .inr (.inr (.inr (.inr (fun _ => none)))))), (q54, .inr (1, [.null, .null, .null, .null, .null, .int (nI (0)), .null]))]) := hD
    refine lv_dup hx hb nd_CB_init_57 rfl ?_
    refine lv_aload_n hx hb nd_CB_init_58 rfl (lv_at hl 0 rfl) ?_
    refine va_get (D := D) (C := nr_CB) (T := nt_CB) (N := 4) hx hb htg tf_CB hown hK hP 0 rfl rfl 0 (by decide) (htg _ tm_122) (fun _ h => h) rfl nd_CB_init_59 ?_
    refine wz_I (n := 1) (X := [(a, .inr (0, [.int (nI (n)), .int (nI ((2 ^ n) - 1)), .ref q42, .null])), (q42, .inl (cI, n, .inl (fun _ => nI 0))), (q49, .inl (cM, 2, .inr (.inr (.inr (.inr (fun _ => none))))))]) (Y := [(q54, .inr (1, [.null, .null, .null, .null, .null, .int (nI (0)), .null]))]) (Z := []) hx hb hml hown htg (c_MA_init l D cI cG cM q54 n hn1 hn _) tm_26 tm_24 tm_25 tm_2 rfl (by decide +kernel) ⟨⟨by decide, by decide⟩, rfl, rfl⟩ hP hD hS hA hK hN h5 h6 rfl hl.1 rfl (Nat.le_of_ble_eq_true rfl) nd_CB_init_62 ⟨(show 3 + 37 ≤ 78 by decide), (show 19 + 1164 ≤ 2354 by decide)⟩ (fun u62 H locs hp62 hP hD hS => ?_)
    refine W.widen (k := 40) (n := 1183) (by omega) (by omega) ?_
    have hCS : 40 ≤ ({ frames := 4, cells := 78, slots := 2354, locals := 74 } : Room).cells ∧ 1183 ≤ ({ frames := 4, cells := 78, slots := 2354, locals := 74 } : Room).slots := ⟨by decide, by decide⟩
    have hP : va_P D cl_all ([(a, .inr (0, [.int (nI (n)), .int (nI ((2 ^ n) - 1)), .ref q42, .null])), (q42, .inl (cI, n, .inl (fun _ => nI 0))), (q49, .inl (cM, 2, .inr (.inr (.inr (.inr (fun _ => none))))))] ++ (mw_ cI cG u62.1 n u62.2 ++ [])) H := hP
    have hD : va_D A ([(a, .inr (0, [.int (nI (n)), .int (nI ((2 ^ n) - 1)), .ref q42, .null])), (q42, .inl (cI, n, .inl (fun _ => nI 0))), (q49, .inl (cM, 2, .inr (.inr (.inr (.inr (fun _ => none))))))] ++ (mw_ cI cG u62.1 n u62.2 ++ [])) := hD
    have hv9 : ([(a, .inr (0, [.int (nI (n)), .int (nI ((2 ^ n) - 1)), .ref q42, .null])), (q42, .inl (cI, n, .inl (fun _ => nI 0))), (q49, .inl (cM, 2, .inr (.inr (.inr (.inr (fun _ => none))))))] ++ (mw_ cI cG u62.1 n u62.2 ++ []))[3]? = some (q54, .inr (1, [.ref (u62.1.1 2), .ref (u62.1.1 7), .ref (u62.1.1 3), .ref (u62.1.1 10), .ref (u62.1.1 1), .int (u62.2.2.1 0), .ref (u62.1.1 u62.2.1)])) := by rw [← hp62.1]; rfl
    refine va_astq (r := (nr_MA, nt_MA, 7)) hx hb hK hP hD hS 2 2 3 1 rfl rfl hv9 rfl (i := nI 0) (vp_in_nI (by omega) (by omega)) nd_CB_init_65 (fun H locs hP hD hS => ?_)
    have hP : va_P D cl_all ([(a, .inr (0, [.int (nI (n)), .int (nI ((2 ^ n) - 1)), .ref q42, .null])), (q42, .inl (cI, n, .inl (fun _ => nI 0))), (q49, .inl (cM, 2, .inr (.inr (.inr (.inr (va_up (fun _ => none) 0 (some q54)))))))] ++ (mw_ cI cG u62.1 n u62.2 ++ [])) H := hP
    have hD : va_D A ([(a, .inr (0, [.int (nI (n)), .int (nI ((2 ^ n) - 1)), .ref q42, .null])), (q42, .inl (cI, n, .inl (fun _ => nI 0))), (q49, .inl (cM, 2, .inr (.inr (.inr (.inr (va_up (fun _ => none) 0 (some q54)))))))] ++ (mw_ cI cG u62.1 n u62.2 ++ [])) := hD
    refine lv_dup hx hb nd_CB_init_66 rfl ?_
    refine wi_ic hx hb (a := 1) nd_CB_init_67 ?_
    refine va_new (ci := 1) (fs := [.null, .null, .null, .null, .null, .int (nI (0)), .null]) (C := nr_MA) (T := nt_MA) (N := 7) hx hb htg tf_MA nu_MA no_MA hown (htg _ tm_21) (htg _ tm_23) (htg _ tm_2) hK hP hD hS hA rfl (fun j hj => by rcases (show j = 0 ∨ j = 1 ∨ j = 2 ∨ j = 3 ∨ j = 4 ∨ j = 5 ∨ j = 6 by omega) with rfl | rfl | rfl | rfl | rfl | rfl | rfl <;> rfl) (show 40 + 1 ≤ 78 by decide) (show 1183 + 7 ≤ 2354 by decide) nd_CB_init_68 (fun q68 H hP hD hS => ?_)
    refine W.widen (k := 41) (n := 1190) (by omega) (by omega) ?_
    have hCS : 41 ≤ ({ frames := 4, cells := 78, slots := 2354, locals := 74 } : Room).cells ∧ 1190 ≤ ({ frames := 4, cells := 78, slots := 2354, locals := 74 } : Room).slots := ⟨by decide, by decide⟩
    have hP : va_P D cl_all ([(a, .inr (0, [.int (nI (n)), .int (nI ((2 ^ n) - 1)), .ref q42, .null])), (q42, .inl (cI, n, .inl (fun _ => nI 0))), (q49, .inl (cM, 2, .inr (.inr (.inr (.inr (va_up (fun _ => none) 0 (some q54)))))))] ++ (mw_ cI cG u62.1 n u62.2 ++ []) ++ [(q68, .inr (1, [.null, .null, .null, .null, .null, .int (nI (0)), .null]))]) H := hP
    have hD : va_D A ([(a, .inr (0, [.int (nI (n)), .int (nI ((2 ^ n) - 1)), .ref q42, .null])), (q42, .inl (cI, n, .inl (fun _ => nI 0))), (q49, .inl (cM, 2, .inr (.inr (.inr (.inr (va_up (fun _ => none) 0 (some q54)))))))] ++ (mw_ cI cG u62.1 n u62.2 ++ []) ++ [(q68, .inr (1, [.null, .null, .null, .null, .null, .int (nI (0)), .null]))]) := hD
    refine lv_dup hx hb nd_CB_init_71 rfl ?_
    refine lv_aload_n hx hb nd_CB_init_72 rfl (lv_at hl 0 rfl) ?_
    refine va_get (D := D) (C := nr_CB) (T := nt_CB) (N := 4) hx hb htg tf_CB hown hK hP 0 rfl rfl 0 (by decide) (htg _ tm_122) (fun _ h => h) rfl nd_CB_init_73 ?_
    refine wz_I (n := 1) (X := [(a, .inr (0, [.int (nI (n)), .int (nI ((2 ^ n) - 1)), .ref q42, .null])), (q42, .inl (cI, n, .inl (fun _ => nI 0))), (q49, .inl (cM, 2, .inr (.inr (.inr (.inr (va_up (fun _ => none) 0 (some q54)))))))] ++ (mw_ cI cG u62.1 n u62.2 ++ [])) (Y := [(q68, .inr (1, [.null, .null, .null, .null, .null, .int (nI (0)), .null]))]) (Z := []) hx hb hml hown htg (c_MA_init l D cI cG cM q68 n hn1 hn _) tm_26 tm_24 tm_25 tm_2 rfl (by decide +kernel) ⟨⟨by decide, by decide⟩, rfl, rfl⟩ hP hD hS hA hK hN h5 h6 rfl hl.1 rfl (Nat.le_of_ble_eq_true rfl) nd_CB_init_76 ⟨(show 41 + 37 ≤ 78 by decide), (show 1190 + 1164 ≤ 2354 by decide)⟩ (fun u76 H locs hp76 hP hD hS => ?_)
    refine W.widen (k := 78) (n := 2354) (by omega) (by omega) ?_
    have hCS : 78 ≤ ({ frames := 4, cells := 78, slots := 2354, locals := 74 } : Room).cells ∧ 2354 ≤ ({ frames := 4, cells := 78, slots := 2354, locals := 74 } : Room).slots := ⟨by decide, by decide⟩
    have hP : va_P D cl_all ([(a, .inr (0, [.int (nI (n)), .int (nI ((2 ^ n) - 1)), .ref q42, .null])), (q42, .inl (cI, n, .inl (fun _ => nI 0))), (q49, .inl (cM, 2, .inr (.inr (.inr (.inr (va_up (fun _ => none) 0 (some q54)))))))] ++ (mw_ cI cG u62.1 n u62.2 ++ []) ++ (mw_ cI cG u76.1 n u76.2 ++ [])) H := hP
    have hD : va_D A ([(a, .inr (0, [.int (nI (n)), .int (nI ((2 ^ n) - 1)), .ref q42, .null])), (q42, .inl (cI, n, .inl (fun _ => nI 0))), (q49, .inl (cM, 2, .inr (.inr (.inr (.inr (va_up (fun _ => none) 0 (some q54)))))))] ++ (mw_ cI cG u62.1 n u62.2 ++ []) ++ (mw_ cI cG u76.1 n u76.2 ++ [])) := hD
    obtain ⟨qk, hv9⟩ := List.getElem?_of_mem (show (q68, .inr (1, [.ref (u76.1.1 2), .ref (u76.1.1 7), .ref (u76.1.1 3), .ref (u76.1.1 10), .ref (u76.1.1 1), .int (u76.2.2.1 0), .ref (u76.1.1 u76.2.1)])) ∈ ([(a, .inr (0, [.int (nI (n)), .int (nI ((2 ^ n) - 1)), .ref q42, .null])), (q42, .inl (cI, n, .inl (fun _ => nI 0))), (q49, .inl (cM, 2, .inr (.inr (.inr (.inr (va_up (fun _ => none) 0 (some q54)))))))] ++ (mw_ cI cG u62.1 n u62.2 ++ []) ++ (mw_ cI cG u76.1 n u76.2 ++ [])) by rw [← hp76.1]; exact List.mem_append_right _ (List.mem_append_left _ (List.mem_append_left _ List.mem_cons_self)))
    refine va_astq (r := (nr_MA, nt_MA, 7)) hx hb hK hP hD hS 2 2 qk 1 rfl rfl hv9 rfl (i := nI 1) (vp_in_nI (by omega) (by omega)) nd_CB_init_79 (fun H locs hP hD hS => ?_)
    have hP : va_P D cl_all ([(a, .inr (0, [.int (nI (n)), .int (nI ((2 ^ n) - 1)), .ref q42, .null])), (q42, .inl (cI, n, .inl (fun _ => nI 0))), (q49, .inl (cM, 2, .inr (.inr (.inr (.inr (va_up (va_up (fun _ => none) 0 (some q54)) 1 (some q68)))))))] ++ (mw_ cI cG u62.1 n u62.2 ++ []) ++ (mw_ cI cG u76.1 n u76.2 ++ [])) H := hP
    have hD : va_D A ([(a, .inr (0, [.int (nI (n)), .int (nI ((2 ^ n) - 1)), .ref q42, .null])), (q42, .inl (cI, n, .inl (fun _ => nI 0))), (q49, .inl (cM, 2, .inr (.inr (.inr (.inr (va_up (va_up (fun _ => none) 0 (some q54)) 1 (some q68)))))))] ++ (mw_ cI cG u62.1 n u62.2 ++ []) ++ (mw_ cI cG u76.1 n u76.2 ++ [])) := hD
    refine va_putF (D := D) (C := nr_CB) (T := nt_CB) (N := 4) hx hb htg tf_CB nu_CB no_CB nn_CB hown hK hP hD hS 0 rfl rfl 3 (by decide) (htg _ tm_125) (fun _ h => h) rfl hin rfl rfl rfl rfl (Nat.le_of_ble_eq_true rfl) nd_CB_init_80 (fun H locs hP hD hS => ?_)
    have hP : va_P D cl_all ([(a, .inr (0, [.int (nI (n)), .int (nI ((2 ^ n) - 1)), .ref q42, .ref q49])), (q42, .inl (cI, n, .inl (fun _ => nI 0))), (q49, .inl (cM, 2, .inr (.inr (.inr (.inr (va_up (va_up (fun _ => none) 0 (some q54)) 1 (some q68)))))))] ++ (mw_ cI cG u62.1 n u62.2 ++ []) ++ (mw_ cI cG u76.1 n u76.2 ++ [])) H := hP
    have hD : va_D A ([(a, .inr (0, [.int (nI (n)), .int (nI ((2 ^ n) - 1)), .ref q42, .ref q49])), (q42, .inl (cI, n, .inl (fun _ => nI 0))), (q49, .inl (cM, 2, .inr (.inr (.inr (.inr (va_up (va_up (fun _ => none) 0 (some q54)) 1 (some q68)))))))] ++ (mw_ cI cG u62.1 n u62.2 ++ []) ++ (mw_ cI cG u76.1 n u76.2 ++ [])) := hD
    rw [cb_asc] at hP hD
    have hP : va_P D cl_all (cw_ cI cG cM (fun i => if i = 0 then a else if i = 1 then q42 else q49) n (va_up (va_up (fun _ => none) 0 (some q54)) 1 (some q68)) u62.1 u76.1 ((fun _ => nI 0), u62.2, u76.2)) H := hP
    have hD : va_D A (cw_ cI cG cM (fun i => if i = 0 then a else if i = 1 then q42 else q49) n (va_up (va_up (fun _ => none) 0 (some q54)) 1 (some q68)) u62.1 u76.1 ((fun _ => nI 0), u62.2, u76.2)) := hD
    refine W.widen (k := 78) (n := 2354) (by decide) (by decide) ?_
    exact wb_vret ((fun i => if i = 0 then a else if i = 1 then q42 else q49), (va_up (va_up (fun _ => none) 0 (some q54)) 1 (some q68)), u62.1, u76.1, ((fun _ => nI 0), u62.2, u76.2)) hx hb hr hk hAe ⟨rfl, congrArg some hp62.1.symm, congrArg some hp76.1.symm, fun e _ => ⟨rfl, (by decide : -1000000 ≤ (nI 0).toInt), (by decide : (nI 0).toInt ≤ 1000000)⟩, hp62.2, hp76.2⟩ hP hD hS nd_CB_init_83
  · refine lv_iload_n hx hb nd_CB_init_10 rfl (lv_at hl 1 rfl) ?_
    refine lv_bipush (v := nI 10) hx hb nd_CB_init_11 (by decide) ?_
    refine lv_icmp_gt (tgt := 20) hx hb nd_CB_init_13 rfl (fun hc13 => ?_) (fun hc13 => ?_)
    · refine lv_bipush (v := nI 8) hx hb nd_CB_init_20 (by decide) ?_
      refine wi_top (show nI 8 = nI n from congrArg nI ((nn_bad (Or.inr hc13)).symm.trans hnx)) ?_
      refine va_putF (D := D) (C := nr_CB) (T := nt_CB) (N := 4) hx hb htg tf_CB nu_CB no_CB nn_CB hown hK hP hD hS 0 rfl rfl 0 (by decide) (htg _ tm_122) (fun _ h => h) rfl hin rfl rfl rfl rfl (Nat.le_of_ble_eq_true rfl) nd_CB_init_22 (fun H locs hP hD hS => ?_)
      have hP : va_P D cl_all ([(a, .inr (0, [.int (nI (n)), .int (nI (0)), .null, .null]))]) H := hP
      have hD : va_D A ([(a, .inr (0, [.int (nI (n)), .int (nI (0)), .null, .null]))]) := hD
      refine lv_aload_n hx hb nd_CB_init_25 rfl (lv_at hl 0 rfl) ?_
      refine wi_ic hx hb (a := 1) nd_CB_init_26 ?_
      refine lv_aload_n hx hb nd_CB_init_27 rfl (lv_at hl 0 rfl) ?_
      refine va_get (D := D) (C := nr_CB) (T := nt_CB) (N := 4) hx hb htg tf_CB hown hK hP 0 rfl rfl 0 (by decide) (htg _ tm_122) (fun _ h => h) rfl nd_CB_init_28 ?_
      refine wi_ishl1 hx hb (by omega) nd_CB_init_31 ?_
      refine wi_ic hx hb (a := 1) nd_CB_init_32 ?_
      refine wi_isub hx hb (by omega) nd_CB_init_33 ?_
      refine va_putF (D := D) (C := nr_CB) (T := nt_CB) (N := 4) hx hb htg tf_CB nu_CB no_CB nn_CB hown hK hP hD hS 0 rfl rfl 1 (by decide) (htg _ tm_123) (fun _ h => h) rfl hin rfl rfl rfl rfl (Nat.le_of_ble_eq_true rfl) nd_CB_init_34 (fun H locs hP hD hS => ?_)
      have hP : va_P D cl_all ([(a, .inr (0, [.int (nI (n)), .int (nI ((2 ^ n) - 1)), .null, .null]))]) H := hP
      have hD : va_D A ([(a, .inr (0, [.int (nI (n)), .int (nI ((2 ^ n) - 1)), .null, .null]))]) := hD
      refine lv_aload_n hx hb nd_CB_init_37 rfl (lv_at hl 0 rfl) ?_
      refine lv_aload_n hx hb nd_CB_init_38 rfl (lv_at hl 0 rfl) ?_
      refine va_get (D := D) (C := nr_CB) (T := nt_CB) (N := 4) hx hb htg tf_CB hown hK hP 0 rfl rfl 0 (by decide) (htg _ tm_122) (fun _ h => h) rfl nd_CB_init_39 ?_
      refine wn_newa hx hb htg hK hP hD hS hA (N' := n) (by omega) (show 0 + 1 ≤ 78 by decide) (show 0 + n ≤ 2354 by omega) nd_CB_init_42 (fun q42 H hP hD hS => ?_)
      refine W.widen (k := 1) (n := 10) (by omega) (by omega) ?_
      have hCS : 1 ≤ ({ frames := 4, cells := 78, slots := 2354, locals := 74 } : Room).cells ∧ 10 ≤ ({ frames := 4, cells := 78, slots := 2354, locals := 74 } : Room).slots := ⟨by decide, by decide⟩
      have hP : va_P D cl_all ([(a, .inr (0, [.int (nI (n)), .int (nI ((2 ^ n) - 1)), .null, .null])), (q42, .inl (cI, n, .inl (fun _ => nI 0)))]) H := hP
      have hD : va_D A ([(a, .inr (0, [.int (nI (n)), .int (nI ((2 ^ n) - 1)), .null, .null])), (q42, .inl (cI, n, .inl (fun _ => nI 0)))]) := hD
      refine va_putF (D := D) (C := nr_CB) (T := nt_CB) (N := 4) hx hb htg tf_CB nu_CB no_CB nn_CB hown hK hP hD hS 0 rfl rfl 2 (by decide) (htg _ tm_124) (fun _ h => h) rfl hin rfl rfl rfl rfl (Nat.le_of_ble_eq_true rfl) nd_CB_init_44 (fun H locs hP hD hS => ?_)
      have hP : va_P D cl_all ([(a, .inr (0, [.int (nI (n)), .int (nI ((2 ^ n) - 1)), .ref q42, .null])), (q42, .inl (cI, n, .inl (fun _ => nI 0)))]) H := hP
      have hD : va_D A ([(a, .inr (0, [.int (nI (n)), .int (nI ((2 ^ n) - 1)), .ref q42, .null])), (q42, .inl (cI, n, .inl (fun _ => nI 0)))]) := hD
      refine lv_aload_n hx hb nd_CB_init_47 rfl (lv_at hl 0 rfl) ?_
      refine wi_ic hx hb (a := 2) nd_CB_init_48 ?_
      refine va_newq (C := "CommonBases$Matroid") hx hb hown (htg _ tm_21) h5 hK hP hD hS hA (N' := 2) (nI_pos (by omega)) (nI_clamp (by omega)) (by decide) (show 1 + 1 ≤ 78 by decide) (show 10 + 2 ≤ 2354 by decide) nd_CB_init_49 (fun q49 cA H hK1 hP hD hS => ?_)
      have ec : cM = cA := Option.some.inj ((hK.2 2 _ rfl).2.choose_spec.choose_spec.2.2.2.symm.trans (hK1.2 3 _ rfl).2.choose_spec.choose_spec.2.2.2)
      subst ec
      refine W.widen (k := 2) (n := 12) (by omega) (by omega) ?_
      have hCS : 2 ≤ ({ frames := 4, cells := 78, slots := 2354, locals := 74 } : Room).cells ∧ 12 ≤ ({ frames := 4, cells := 78, slots := 2354, locals := 74 } : Room).slots := ⟨by decide, by decide⟩
      have hP : va_P D cl_all ([(a, .inr (0, [.int (nI (n)), .int (nI ((2 ^ n) - 1)), .ref q42, .null])), (q42, .inl (cI, n, .inl (fun _ => nI 0))), (q49, .inl (cM, 2, .inr (.inr (.inr (.inr (fun _ => none))))))]) H := hP
      have hD : va_D A ([(a, .inr (0, [.int (nI (n)), .int (nI ((2 ^ n) - 1)), .ref q42, .null])), (q42, .inl (cI, n, .inl (fun _ => nI 0))), (q49, .inl (cM, 2, .inr (.inr (.inr (.inr (fun _ => none))))))]) := hD
      refine lv_dup hx hb nd_CB_init_52 rfl ?_
      refine wi_ic hx hb (a := 0) nd_CB_init_53 ?_
      refine va_new (ci := 1) (fs := [.null, .null, .null, .null, .null, .int (nI (0)), .null]) (C := nr_MA) (T := nt_MA) (N := 7) hx hb htg tf_MA nu_MA no_MA hown (htg _ tm_21) (htg _ tm_23) (htg _ tm_2) hK hP hD hS hA rfl (fun j hj => by rcases (show j = 0 ∨ j = 1 ∨ j = 2 ∨ j = 3 ∨ j = 4 ∨ j = 5 ∨ j = 6 by omega) with rfl | rfl | rfl | rfl | rfl | rfl | rfl <;> rfl) (show 2 + 1 ≤ 78 by decide) (show 12 + 7 ≤ 2354 by decide) nd_CB_init_54 (fun q54 H hP hD hS => ?_)
      refine W.widen (k := 3) (n := 19) (by omega) (by omega) ?_
      have hCS : 3 ≤ ({ frames := 4, cells := 78, slots := 2354, locals := 74 } : Room).cells ∧ 19 ≤ ({ frames := 4, cells := 78, slots := 2354, locals := 74 } : Room).slots := ⟨by decide, by decide⟩
      have hP : va_P D cl_all ([(a, .inr (0, [.int (nI (n)), .int (nI ((2 ^ n) - 1)), .ref q42, .null])), (q42, .inl (cI, n, .inl (fun _ => nI 0))), (q49, .inl (cM, 2, .inr (.inr (.inr (.inr (fun _ => none)))))), (q54, .inr (1, [.null, .null, .null, .null, .null, .int (nI (0)), .null]))]) H := hP
      have hD : va_D A ([(a, .inr (0, [.int (nI (n)), .int (nI ((2 ^ n) - 1)), .ref q42, .null])), (q42, .inl (cI, n, .inl (fun _ => nI 0))), (q49, .inl (cM, 2, .inr (.inr (.inr (.inr (fun _ => none)))))), (q54, .inr (1, [.null, .null, .null, .null, .null, .int (nI (0)), .null]))]) := hD
      refine lv_dup hx hb nd_CB_init_57 rfl ?_
      refine lv_aload_n hx hb nd_CB_init_58 rfl (lv_at hl 0 rfl) ?_
      refine va_get (D := D) (C := nr_CB) (T := nt_CB) (N := 4) hx hb htg tf_CB hown hK hP 0 rfl rfl 0 (by decide) (htg _ tm_122) (fun _ h => h) rfl nd_CB_init_59 ?_
      refine wz_I (n := 1) (X := [(a, .inr (0, [.int (nI (n)), .int (nI ((2 ^ n) - 1)), .ref q42, .null])), (q42, .inl (cI, n, .inl (fun _ => nI 0))), (q49, .inl (cM, 2, .inr (.inr (.inr (.inr (fun _ => none))))))]) (Y := [(q54, .inr (1, [.null, .null, .null, .null, .null, .int (nI (0)), .null]))]) (Z := []) hx hb hml hown htg (c_MA_init l D cI cG cM q54 n hn1 hn _) tm_26 tm_24 tm_25 tm_2 rfl (by decide +kernel) ⟨⟨by decide, by decide⟩, rfl, rfl⟩ hP hD hS hA hK hN h5 h6 rfl hl.1 rfl (Nat.le_of_ble_eq_true rfl) nd_CB_init_62 ⟨(show 3 + 37 ≤ 78 by decide), (show 19 + 1164 ≤ 2354 by decide)⟩ (fun u62 H locs hp62 hP hD hS => ?_)
      refine W.widen (k := 40) (n := 1183) (by omega) (by omega) ?_
      have hCS : 40 ≤ ({ frames := 4, cells := 78, slots := 2354, locals := 74 } : Room).cells ∧ 1183 ≤ ({ frames := 4, cells := 78, slots := 2354, locals := 74 } : Room).slots := ⟨by decide, by decide⟩
      have hP : va_P D cl_all ([(a, .inr (0, [.int (nI (n)), .int (nI ((2 ^ n) - 1)), .ref q42, .null])), (q42, .inl (cI, n, .inl (fun _ => nI 0))), (q49, .inl (cM, 2, .inr (.inr (.inr (.inr (fun _ => none))))))] ++ (mw_ cI cG u62.1 n u62.2 ++ [])) H := hP
      have hD : va_D A ([(a, .inr (0, [.int (nI (n)), .int (nI ((2 ^ n) - 1)), .ref q42, .null])), (q42, .inl (cI, n, .inl (fun _ => nI 0))), (q49, .inl (cM, 2, .inr (.inr (.inr (.inr (fun _ => none))))))] ++ (mw_ cI cG u62.1 n u62.2 ++ [])) := hD
      have hv9 : ([(a, .inr (0, [.int (nI (n)), .int (nI ((2 ^ n) - 1)), .ref q42, .null])), (q42, .inl (cI, n, .inl (fun _ => nI 0))), (q49, .inl (cM, 2, .inr (.inr (.inr (.inr (fun _ => none))))))] ++ (mw_ cI cG u62.1 n u62.2 ++ []))[3]? = some (q54, .inr (1, [.ref (u62.1.1 2), .ref (u62.1.1 7), .ref (u62.1.1 3), .ref (u62.1.1 10), .ref (u62.1.1 1), .int (u62.2.2.1 0), .ref (u62.1.1 u62.2.1)])) := by rw [← hp62.1]; rfl
      refine va_astq (r := (nr_MA, nt_MA, 7)) hx hb hK hP hD hS 2 2 3 1 rfl rfl hv9 rfl (i := nI 0) (vp_in_nI (by omega) (by omega)) nd_CB_init_65 (fun H locs hP hD hS => ?_)
      have hP : va_P D cl_all ([(a, .inr (0, [.int (nI (n)), .int (nI ((2 ^ n) - 1)), .ref q42, .null])), (q42, .inl (cI, n, .inl (fun _ => nI 0))), (q49, .inl (cM, 2, .inr (.inr (.inr (.inr (va_up (fun _ => none) 0 (some q54)))))))] ++ (mw_ cI cG u62.1 n u62.2 ++ [])) H := hP
      have hD : va_D A ([(a, .inr (0, [.int (nI (n)), .int (nI ((2 ^ n) - 1)), .ref q42, .null])), (q42, .inl (cI, n, .inl (fun _ => nI 0))), (q49, .inl (cM, 2, .inr (.inr (.inr (.inr (va_up (fun _ => none) 0 (some q54)))))))] ++ (mw_ cI cG u62.1 n u62.2 ++ [])) := hD
      refine lv_dup hx hb nd_CB_init_66 rfl ?_
      refine wi_ic hx hb (a := 1) nd_CB_init_67 ?_
      refine va_new (ci := 1) (fs := [.null, .null, .null, .null, .null, .int (nI (0)), .null]) (C := nr_MA) (T := nt_MA) (N := 7) hx hb htg tf_MA nu_MA no_MA hown (htg _ tm_21) (htg _ tm_23) (htg _ tm_2) hK hP hD hS hA rfl (fun j hj => by rcases (show j = 0 ∨ j = 1 ∨ j = 2 ∨ j = 3 ∨ j = 4 ∨ j = 5 ∨ j = 6 by omega) with rfl | rfl | rfl | rfl | rfl | rfl | rfl <;> rfl) (show 40 + 1 ≤ 78 by decide) (show 1183 + 7 ≤ 2354 by decide) nd_CB_init_68 (fun q68 H hP hD hS => ?_)
      refine W.widen (k := 41) (n := 1190) (by omega) (by omega) ?_
      have hCS : 41 ≤ ({ frames := 4, cells := 78, slots := 2354, locals := 74 } : Room).cells ∧ 1190 ≤ ({ frames := 4, cells := 78, slots := 2354, locals := 74 } : Room).slots := ⟨by decide, by decide⟩
      have hP : va_P D cl_all ([(a, .inr (0, [.int (nI (n)), .int (nI ((2 ^ n) - 1)), .ref q42, .null])), (q42, .inl (cI, n, .inl (fun _ => nI 0))), (q49, .inl (cM, 2, .inr (.inr (.inr (.inr (va_up (fun _ => none) 0 (some q54)))))))] ++ (mw_ cI cG u62.1 n u62.2 ++ []) ++ [(q68, .inr (1, [.null, .null, .null, .null, .null, .int (nI (0)), .null]))]) H := hP
      have hD : va_D A ([(a, .inr (0, [.int (nI (n)), .int (nI ((2 ^ n) - 1)), .ref q42, .null])), (q42, .inl (cI, n, .inl (fun _ => nI 0))), (q49, .inl (cM, 2, .inr (.inr (.inr (.inr (va_up (fun _ => none) 0 (some q54)))))))] ++ (mw_ cI cG u62.1 n u62.2 ++ []) ++ [(q68, .inr (1, [.null, .null, .null, .null, .null, .int (nI (0)), .null]))]) := hD
      refine lv_dup hx hb nd_CB_init_71 rfl ?_
      refine lv_aload_n hx hb nd_CB_init_72 rfl (lv_at hl 0 rfl) ?_
      refine va_get (D := D) (C := nr_CB) (T := nt_CB) (N := 4) hx hb htg tf_CB hown hK hP 0 rfl rfl 0 (by decide) (htg _ tm_122) (fun _ h => h) rfl nd_CB_init_73 ?_
      refine wz_I (n := 1) (X := [(a, .inr (0, [.int (nI (n)), .int (nI ((2 ^ n) - 1)), .ref q42, .null])), (q42, .inl (cI, n, .inl (fun _ => nI 0))), (q49, .inl (cM, 2, .inr (.inr (.inr (.inr (va_up (fun _ => none) 0 (some q54)))))))] ++ (mw_ cI cG u62.1 n u62.2 ++ [])) (Y := [(q68, .inr (1, [.null, .null, .null, .null, .null, .int (nI (0)), .null]))]) (Z := []) hx hb hml hown htg (c_MA_init l D cI cG cM q68 n hn1 hn _) tm_26 tm_24 tm_25 tm_2 rfl (by decide +kernel) ⟨⟨by decide, by decide⟩, rfl, rfl⟩ hP hD hS hA hK hN h5 h6 rfl hl.1 rfl (Nat.le_of_ble_eq_true rfl) nd_CB_init_76 ⟨(show 41 + 37 ≤ 78 by decide), (show 1190 + 1164 ≤ 2354 by decide)⟩ (fun u76 H locs hp76 hP hD hS => ?_)
      refine W.widen (k := 78) (n := 2354) (by omega) (by omega) ?_
      have hCS : 78 ≤ ({ frames := 4, cells := 78, slots := 2354, locals := 74 } : Room).cells ∧ 2354 ≤ ({ frames := 4, cells := 78, slots := 2354, locals := 74 } : Room).slots := ⟨by decide, by decide⟩
      have hP : va_P D cl_all ([(a, .inr (0, [.int (nI (n)), .int (nI ((2 ^ n) - 1)), .ref q42, .null])), (q42, .inl (cI, n, .inl (fun _ => nI 0))), (q49, .inl (cM, 2, .inr (.inr (.inr (.inr (va_up (fun _ => none) 0 (some q54)))))))] ++ (mw_ cI cG u62.1 n u62.2 ++ []) ++ (mw_ cI cG u76.1 n u76.2 ++ [])) H := hP
      have hD : va_D A ([(a, .inr (0, [.int (nI (n)), .int (nI ((2 ^ n) - 1)), .ref q42, .null])), (q42, .inl (cI, n, .inl (fun _ => nI 0))), (q49, .inl (cM, 2, .inr (.inr (.inr (.inr (va_up (fun _ => none) 0 (some q54)))))))] ++ (mw_ cI cG u62.1 n u62.2 ++ []) ++ (mw_ cI cG u76.1 n u76.2 ++ [])) := hD
      obtain ⟨qk, hv9⟩ := List.getElem?_of_mem (show (q68, .inr (1, [.ref (u76.1.1 2), .ref (u76.1.1 7), .ref (u76.1.1 3), .ref (u76.1.1 10), .ref (u76.1.1 1), .int (u76.2.2.1 0), .ref (u76.1.1 u76.2.1)])) ∈ ([(a, .inr (0, [.int (nI (n)), .int (nI ((2 ^ n) - 1)), .ref q42, .null])), (q42, .inl (cI, n, .inl (fun _ => nI 0))), (q49, .inl (cM, 2, .inr (.inr (.inr (.inr (va_up (fun _ => none) 0 (some q54)))))))] ++ (mw_ cI cG u62.1 n u62.2 ++ []) ++ (mw_ cI cG u76.1 n u76.2 ++ [])) by rw [← hp76.1]; exact List.mem_append_right _ (List.mem_append_left _ (List.mem_append_left _ List.mem_cons_self)))
      refine va_astq (r := (nr_MA, nt_MA, 7)) hx hb hK hP hD hS 2 2 qk 1 rfl rfl hv9 rfl (i := nI 1) (vp_in_nI (by omega) (by omega)) nd_CB_init_79 (fun H locs hP hD hS => ?_)
      have hP : va_P D cl_all ([(a, .inr (0, [.int (nI (n)), .int (nI ((2 ^ n) - 1)), .ref q42, .null])), (q42, .inl (cI, n, .inl (fun _ => nI 0))), (q49, .inl (cM, 2, .inr (.inr (.inr (.inr (va_up (va_up (fun _ => none) 0 (some q54)) 1 (some q68)))))))] ++ (mw_ cI cG u62.1 n u62.2 ++ []) ++ (mw_ cI cG u76.1 n u76.2 ++ [])) H := hP
      have hD : va_D A ([(a, .inr (0, [.int (nI (n)), .int (nI ((2 ^ n) - 1)), .ref q42, .null])), (q42, .inl (cI, n, .inl (fun _ => nI 0))), (q49, .inl (cM, 2, .inr (.inr (.inr (.inr (va_up (va_up (fun _ => none) 0 (some q54)) 1 (some q68)))))))] ++ (mw_ cI cG u62.1 n u62.2 ++ []) ++ (mw_ cI cG u76.1 n u76.2 ++ [])) := hD
      refine va_putF (D := D) (C := nr_CB) (T := nt_CB) (N := 4) hx hb htg tf_CB nu_CB no_CB nn_CB hown hK hP hD hS 0 rfl rfl 3 (by decide) (htg _ tm_125) (fun _ h => h) rfl hin rfl rfl rfl rfl (Nat.le_of_ble_eq_true rfl) nd_CB_init_80 (fun H locs hP hD hS => ?_)
      have hP : va_P D cl_all ([(a, .inr (0, [.int (nI (n)), .int (nI ((2 ^ n) - 1)), .ref q42, .ref q49])), (q42, .inl (cI, n, .inl (fun _ => nI 0))), (q49, .inl (cM, 2, .inr (.inr (.inr (.inr (va_up (va_up (fun _ => none) 0 (some q54)) 1 (some q68)))))))] ++ (mw_ cI cG u62.1 n u62.2 ++ []) ++ (mw_ cI cG u76.1 n u76.2 ++ [])) H := hP
      have hD : va_D A ([(a, .inr (0, [.int (nI (n)), .int (nI ((2 ^ n) - 1)), .ref q42, .ref q49])), (q42, .inl (cI, n, .inl (fun _ => nI 0))), (q49, .inl (cM, 2, .inr (.inr (.inr (.inr (va_up (va_up (fun _ => none) 0 (some q54)) 1 (some q68)))))))] ++ (mw_ cI cG u62.1 n u62.2 ++ []) ++ (mw_ cI cG u76.1 n u76.2 ++ [])) := hD
      rw [cb_asc] at hP hD
      have hP : va_P D cl_all (cw_ cI cG cM (fun i => if i = 0 then a else if i = 1 then q42 else q49) n (va_up (va_up (fun _ => none) 0 (some q54)) 1 (some q68)) u62.1 u76.1 ((fun _ => nI 0), u62.2, u76.2)) H := hP
      have hD : va_D A (cw_ cI cG cM (fun i => if i = 0 then a else if i = 1 then q42 else q49) n (va_up (va_up (fun _ => none) 0 (some q54)) 1 (some q68)) u62.1 u76.1 ((fun _ => nI 0), u62.2, u76.2)) := hD
      refine W.widen (k := 78) (n := 2354) (by decide) (by decide) ?_
      exact wb_vret ((fun i => if i = 0 then a else if i = 1 then q42 else q49), (va_up (va_up (fun _ => none) 0 (some q54)) 1 (some q68)), u62.1, u76.1, ((fun _ => nI 0), u62.2, u76.2)) hx hb hr hk hAe ⟨rfl, congrArg some hp62.1.symm, congrArg some hp76.1.symm, fun e _ => ⟨rfl, (by decide : -1000000 ≤ (nI 0).toInt), (by decide : (nI 0).toInt ≤ 1000000)⟩, hp62.2, hp76.2⟩ hP hD hS nd_CB_init_83
    · refine lv_iload_n hx hb nd_CB_init_16 rfl (lv_at hl 1 rfl) ?_
      refine lv_goto (tgt := 22) hx hb nd_CB_init_17 rfl ?_
      refine wi_top ((nn_good hc7 hc13).symm.trans (congrArg nI hnx)) ?_
      refine va_putF (D := D) (C := nr_CB) (T := nt_CB) (N := 4) hx hb htg tf_CB nu_CB no_CB nn_CB hown hK hP hD hS 0 rfl rfl 0 (by decide) (htg _ tm_122) (fun _ h => h) rfl hin rfl rfl rfl rfl (Nat.le_of_ble_eq_true rfl) nd_CB_init_22 (fun H locs hP hD hS => ?_)
      have hP : va_P D cl_all ([(a, .inr (0, [.int (nI (n)), .int (nI (0)), .null, .null]))]) H := hP
      have hD : va_D A ([(a, .inr (0, [.int (nI (n)), .int (nI (0)), .null, .null]))]) := hD
      refine lv_aload_n hx hb nd_CB_init_25 rfl (lv_at hl 0 rfl) ?_
      refine wi_ic hx hb (a := 1) nd_CB_init_26 ?_
      refine lv_aload_n hx hb nd_CB_init_27 rfl (lv_at hl 0 rfl) ?_
      refine va_get (D := D) (C := nr_CB) (T := nt_CB) (N := 4) hx hb htg tf_CB hown hK hP 0 rfl rfl 0 (by decide) (htg _ tm_122) (fun _ h => h) rfl nd_CB_init_28 ?_
      refine wi_ishl1 hx hb (by omega) nd_CB_init_31 ?_
      refine wi_ic hx hb (a := 1) nd_CB_init_32 ?_
      refine wi_isub hx hb (by omega) nd_CB_init_33 ?_
      refine va_putF (D := D) (C := nr_CB) (T := nt_CB) (N := 4) hx hb htg tf_CB nu_CB no_CB nn_CB hown hK hP hD hS 0 rfl rfl 1 (by decide) (htg _ tm_123) (fun _ h => h) rfl hin rfl rfl rfl rfl (Nat.le_of_ble_eq_true rfl) nd_CB_init_34 (fun H locs hP hD hS => ?_)
      have hP : va_P D cl_all ([(a, .inr (0, [.int (nI (n)), .int (nI ((2 ^ n) - 1)), .null, .null]))]) H := hP
      have hD : va_D A ([(a, .inr (0, [.int (nI (n)), .int (nI ((2 ^ n) - 1)), .null, .null]))]) := hD
      refine lv_aload_n hx hb nd_CB_init_37 rfl (lv_at hl 0 rfl) ?_
      refine lv_aload_n hx hb nd_CB_init_38 rfl (lv_at hl 0 rfl) ?_
      refine va_get (D := D) (C := nr_CB) (T := nt_CB) (N := 4) hx hb htg tf_CB hown hK hP 0 rfl rfl 0 (by decide) (htg _ tm_122) (fun _ h => h) rfl nd_CB_init_39 ?_
      refine wn_newa hx hb htg hK hP hD hS hA (N' := n) (by omega) (show 0 + 1 ≤ 78 by decide) (show 0 + n ≤ 2354 by omega) nd_CB_init_42 (fun q42 H hP hD hS => ?_)
      refine W.widen (k := 1) (n := 10) (by omega) (by omega) ?_
      have hCS : 1 ≤ ({ frames := 4, cells := 78, slots := 2354, locals := 74 } : Room).cells ∧ 10 ≤ ({ frames := 4, cells := 78, slots := 2354, locals := 74 } : Room).slots := ⟨by decide, by decide⟩
      have hP : va_P D cl_all ([(a, .inr (0, [.int (nI (n)), .int (nI ((2 ^ n) - 1)), .null, .null])), (q42, .inl (cI, n, .inl (fun _ => nI 0)))]) H := hP
      have hD : va_D A ([(a, .inr (0, [.int (nI (n)), .int (nI ((2 ^ n) - 1)), .null, .null])), (q42, .inl (cI, n, .inl (fun _ => nI 0)))]) := hD
      refine va_putF (D := D) (C := nr_CB) (T := nt_CB) (N := 4) hx hb htg tf_CB nu_CB no_CB nn_CB hown hK hP hD hS 0 rfl rfl 2 (by decide) (htg _ tm_124) (fun _ h => h) rfl hin rfl rfl rfl rfl (Nat.le_of_ble_eq_true rfl) nd_CB_init_44 (fun H locs hP hD hS => ?_)
      have hP : va_P D cl_all ([(a, .inr (0, [.int (nI (n)), .int (nI ((2 ^ n) - 1)), .ref q42, .null])), (q42, .inl (cI, n, .inl (fun _ => nI 0)))]) H := hP
      have hD : va_D A ([(a, .inr (0, [.int (nI (n)), .int (nI ((2 ^ n) - 1)), .ref q42, .null])), (q42, .inl (cI, n, .inl (fun _ => nI 0)))]) := hD
      refine lv_aload_n hx hb nd_CB_init_47 rfl (lv_at hl 0 rfl) ?_
      refine wi_ic hx hb (a := 2) nd_CB_init_48 ?_
      refine va_newq (C := "CommonBases$Matroid") hx hb hown (htg _ tm_21) h5 hK hP hD hS hA (N' := 2) (nI_pos (by omega)) (nI_clamp (by omega)) (by decide) (show 1 + 1 ≤ 78 by decide) (show 10 + 2 ≤ 2354 by decide) nd_CB_init_49 (fun q49 cA H hK1 hP hD hS => ?_)
      have ec : cM = cA := Option.some.inj ((hK.2 2 _ rfl).2.choose_spec.choose_spec.2.2.2.symm.trans (hK1.2 3 _ rfl).2.choose_spec.choose_spec.2.2.2)
      subst ec
      refine W.widen (k := 2) (n := 12) (by omega) (by omega) ?_
      have hCS : 2 ≤ ({ frames := 4, cells := 78, slots := 2354, locals := 74 } : Room).cells ∧ 12 ≤ ({ frames := 4, cells := 78, slots := 2354, locals := 74 } : Room).slots := ⟨by decide, by decide⟩
      have hP : va_P D cl_all ([(a, .inr (0, [.int (nI (n)), .int (nI ((2 ^ n) - 1)), .ref q42, .null])), (q42, .inl (cI, n, .inl (fun _ => nI 0))), (q49, .inl (cM, 2, .inr (.inr (.inr (.inr (fun _ => none))))))]) H := hP
      have hD : va_D A ([(a, .inr (0, [.int (nI (n)), .int (nI ((2 ^ n) - 1)), .ref q42, .null])), (q42, .inl (cI, n, .inl (fun _ => nI 0))), (q49, .inl (cM, 2, .inr (.inr (.inr (.inr (fun _ => none))))))]) := hD
      refine lv_dup hx hb nd_CB_init_52 rfl ?_
      refine wi_ic hx hb (a := 0) nd_CB_init_53 ?_
      refine va_new (ci := 1) (fs := [.null, .null, .null, .null, .null, .int (nI (0)), .null]) (C := nr_MA) (T := nt_MA) (N := 7) hx hb htg tf_MA nu_MA no_MA hown (htg _ tm_21) (htg _ tm_23) (htg _ tm_2) hK hP hD hS hA rfl (fun j hj => by rcases (show j = 0 ∨ j = 1 ∨ j = 2 ∨ j = 3 ∨ j = 4 ∨ j = 5 ∨ j = 6 by omega) with rfl | rfl | rfl | rfl | rfl | rfl | rfl <;> rfl) (show 2 + 1 ≤ 78 by decide) (show 12 + 7 ≤ 2354 by decide) nd_CB_init_54 (fun q54 H hP hD hS => ?_)
      refine W.widen (k := 3) (n := 19) (by omega) (by omega) ?_
      have hCS : 3 ≤ ({ frames := 4, cells := 78, slots := 2354, locals := 74 } : Room).cells ∧ 19 ≤ ({ frames := 4, cells := 78, slots := 2354, locals := 74 } : Room).slots := ⟨by decide, by decide⟩
      have hP : va_P D cl_all ([(a, .inr (0, [.int (nI (n)), .int (nI ((2 ^ n) - 1)), .ref q42, .null])), (q42, .inl (cI, n, .inl (fun _ => nI 0))), (q49, .inl (cM, 2, .inr (.inr (.inr (.inr (fun _ => none)))))), (q54, .inr (1, [.null, .null, .null, .null, .null, .int (nI (0)), .null]))]) H := hP
      have hD : va_D A ([(a, .inr (0, [.int (nI (n)), .int (nI ((2 ^ n) - 1)), .ref q42, .null])), (q42, .inl (cI, n, .inl (fun _ => nI 0))), (q49, .inl (cM, 2, .inr (.inr (.inr (.inr (fun _ => none)))))), (q54, .inr (1, [.null, .null, .null, .null, .null, .int (nI (0)), .null]))]) := hD
      refine lv_dup hx hb nd_CB_init_57 rfl ?_
      refine lv_aload_n hx hb nd_CB_init_58 rfl (lv_at hl 0 rfl) ?_
      refine va_get (D := D) (C := nr_CB) (T := nt_CB) (N := 4) hx hb htg tf_CB hown hK hP 0 rfl rfl 0 (by decide) (htg _ tm_122) (fun _ h => h) rfl nd_CB_init_59 ?_
      refine wz_I (n := 1) (X := [(a, .inr (0, [.int (nI (n)), .int (nI ((2 ^ n) - 1)), .ref q42, .null])), (q42, .inl (cI, n, .inl (fun _ => nI 0))), (q49, .inl (cM, 2, .inr (.inr (.inr (.inr (fun _ => none))))))]) (Y := [(q54, .inr (1, [.null, .null, .null, .null, .null, .int (nI (0)), .null]))]) (Z := []) hx hb hml hown htg (c_MA_init l D cI cG cM q54 n hn1 hn _) tm_26 tm_24 tm_25 tm_2 rfl (by decide +kernel) ⟨⟨by decide, by decide⟩, rfl, rfl⟩ hP hD hS hA hK hN h5 h6 rfl hl.1 rfl (Nat.le_of_ble_eq_true rfl) nd_CB_init_62 ⟨(show 3 + 37 ≤ 78 by decide), (show 19 + 1164 ≤ 2354 by decide)⟩ (fun u62 H locs hp62 hP hD hS => ?_)
      refine W.widen (k := 40) (n := 1183) (by omega) (by omega) ?_
      have hCS : 40 ≤ ({ frames := 4, cells := 78, slots := 2354, locals := 74 } : Room).cells ∧ 1183 ≤ ({ frames := 4, cells := 78, slots := 2354, locals := 74 } : Room).slots := ⟨by decide, by decide⟩
      have hP : va_P D cl_all ([(a, .inr (0, [.int (nI (n)), .int (nI ((2 ^ n) - 1)), .ref q42, .null])), (q42, .inl (cI, n, .inl (fun _ => nI 0))), (q49, .inl (cM, 2, .inr (.inr (.inr (.inr (fun _ => none))))))] ++ (mw_ cI cG u62.1 n u62.2 ++ [])) H := hP
      have hD : va_D A ([(a, .inr (0, [.int (nI (n)), .int (nI ((2 ^ n) - 1)), .ref q42, .null])), (q42, .inl (cI, n, .inl (fun _ => nI 0))), (q49, .inl (cM, 2, .inr (.inr (.inr (.inr (fun _ => none))))))] ++ (mw_ cI cG u62.1 n u62.2 ++ [])) := hD
      have hv9 : ([(a, .inr (0, [.int (nI (n)), .int (nI ((2 ^ n) - 1)), .ref q42, .null])), (q42, .inl (cI, n, .inl (fun _ => nI 0))), (q49, .inl (cM, 2, .inr (.inr (.inr (.inr (fun _ => none))))))] ++ (mw_ cI cG u62.1 n u62.2 ++ []))[3]? = some (q54, .inr (1, [.ref (u62.1.1 2), .ref (u62.1.1 7), .ref (u62.1.1 3), .ref (u62.1.1 10), .ref (u62.1.1 1), .int (u62.2.2.1 0), .ref (u62.1.1 u62.2.1)])) := by rw [← hp62.1]; rfl
      refine va_astq (r := (nr_MA, nt_MA, 7)) hx hb hK hP hD hS 2 2 3 1 rfl rfl hv9 rfl (i := nI 0) (vp_in_nI (by omega) (by omega)) nd_CB_init_65 (fun H locs hP hD hS => ?_)
      have hP : va_P D cl_all ([(a, .inr (0, [.int (nI (n)), .int (nI ((2 ^ n) - 1)), .ref q42, .null])), (q42, .inl (cI, n, .inl (fun _ => nI 0))), (q49, .inl (cM, 2, .inr (.inr (.inr (.inr (va_up (fun _ => none) 0 (some q54)))))))] ++ (mw_ cI cG u62.1 n u62.2 ++ [])) H := hP
      have hD : va_D A ([(a, .inr (0, [.int (nI (n)), .int (nI ((2 ^ n) - 1)), .ref q42, .null])), (q42, .inl (cI, n, .inl (fun _ => nI 0))), (q49, .inl (cM, 2, .inr (.inr (.inr (.inr (va_up (fun _ => none) 0 (some q54)))))))] ++ (mw_ cI cG u62.1 n u62.2 ++ [])) := hD
      refine lv_dup hx hb nd_CB_init_66 rfl ?_
      refine wi_ic hx hb (a := 1) nd_CB_init_67 ?_
      refine va_new (ci := 1) (fs := [.null, .null, .null, .null, .null, .int (nI (0)), .null]) (C := nr_MA) (T := nt_MA) (N := 7) hx hb htg tf_MA nu_MA no_MA hown (htg _ tm_21) (htg _ tm_23) (htg _ tm_2) hK hP hD hS hA rfl (fun j hj => by rcases (show j = 0 ∨ j = 1 ∨ j = 2 ∨ j = 3 ∨ j = 4 ∨ j = 5 ∨ j = 6 by omega) with rfl | rfl | rfl | rfl | rfl | rfl | rfl <;> rfl) (show 40 + 1 ≤ 78 by decide) (show 1183 + 7 ≤ 2354 by decide) nd_CB_init_68 (fun q68 H hP hD hS => ?_)
      refine W.widen (k := 41) (n := 1190) (by omega) (by omega) ?_
      have hCS : 41 ≤ ({ frames := 4, cells := 78, slots := 2354, locals := 74 } : Room).cells ∧ 1190 ≤ ({ frames := 4, cells := 78, slots := 2354, locals := 74 } : Room).slots := ⟨by decide, by decide⟩
      have hP : va_P D cl_all ([(a, .inr (0, [.int (nI (n)), .int (nI ((2 ^ n) - 1)), .ref q42, .null])), (q42, .inl (cI, n, .inl (fun _ => nI 0))), (q49, .inl (cM, 2, .inr (.inr (.inr (.inr (va_up (fun _ => none) 0 (some q54)))))))] ++ (mw_ cI cG u62.1 n u62.2 ++ []) ++ [(q68, .inr (1, [.null, .null, .null, .null, .null, .int (nI (0)), .null]))]) H := hP
      have hD : va_D A ([(a, .inr (0, [.int (nI (n)), .int (nI ((2 ^ n) - 1)), .ref q42, .null])), (q42, .inl (cI, n, .inl (fun _ => nI 0))), (q49, .inl (cM, 2, .inr (.inr (.inr (.inr (va_up (fun _ => none) 0 (some q54)))))))] ++ (mw_ cI cG u62.1 n u62.2 ++ []) ++ [(q68, .inr (1, [.null, .null, .null, .null, .null, .int (nI (0)), .null]))]) := hD
      refine lv_dup hx hb nd_CB_init_71 rfl ?_
      refine lv_aload_n hx hb nd_CB_init_72 rfl (lv_at hl 0 rfl) ?_
      refine va_get (D := D) (C := nr_CB) (T := nt_CB) (N := 4) hx hb htg tf_CB hown hK hP 0 rfl rfl 0 (by decide) (htg _ tm_122) (fun _ h => h) rfl nd_CB_init_73 ?_
      refine wz_I (n := 1) (X := [(a, .inr (0, [.int (nI (n)), .int (nI ((2 ^ n) - 1)), .ref q42, .null])), (q42, .inl (cI, n, .inl (fun _ => nI 0))), (q49, .inl (cM, 2, .inr (.inr (.inr (.inr (va_up (fun _ => none) 0 (some q54)))))))] ++ (mw_ cI cG u62.1 n u62.2 ++ [])) (Y := [(q68, .inr (1, [.null, .null, .null, .null, .null, .int (nI (0)), .null]))]) (Z := []) hx hb hml hown htg (c_MA_init l D cI cG cM q68 n hn1 hn _) tm_26 tm_24 tm_25 tm_2 rfl (by decide +kernel) ⟨⟨by decide, by decide⟩, rfl, rfl⟩ hP hD hS hA hK hN h5 h6 rfl hl.1 rfl (Nat.le_of_ble_eq_true rfl) nd_CB_init_76 ⟨(show 41 + 37 ≤ 78 by decide), (show 1190 + 1164 ≤ 2354 by decide)⟩ (fun u76 H locs hp76 hP hD hS => ?_)
      refine W.widen (k := 78) (n := 2354) (by omega) (by omega) ?_
      have hCS : 78 ≤ ({ frames := 4, cells := 78, slots := 2354, locals := 74 } : Room).cells ∧ 2354 ≤ ({ frames := 4, cells := 78, slots := 2354, locals := 74 } : Room).slots := ⟨by decide, by decide⟩
      have hP : va_P D cl_all ([(a, .inr (0, [.int (nI (n)), .int (nI ((2 ^ n) - 1)), .ref q42, .null])), (q42, .inl (cI, n, .inl (fun _ => nI 0))), (q49, .inl (cM, 2, .inr (.inr (.inr (.inr (va_up (fun _ => none) 0 (some q54)))))))] ++ (mw_ cI cG u62.1 n u62.2 ++ []) ++ (mw_ cI cG u76.1 n u76.2 ++ [])) H := hP
      have hD : va_D A ([(a, .inr (0, [.int (nI (n)), .int (nI ((2 ^ n) - 1)), .ref q42, .null])), (q42, .inl (cI, n, .inl (fun _ => nI 0))), (q49, .inl (cM, 2, .inr (.inr (.inr (.inr (va_up (fun _ => none) 0 (some q54)))))))] ++ (mw_ cI cG u62.1 n u62.2 ++ []) ++ (mw_ cI cG u76.1 n u76.2 ++ [])) := hD
      obtain ⟨qk, hv9⟩ := List.getElem?_of_mem (show (q68, .inr (1, [.ref (u76.1.1 2), .ref (u76.1.1 7), .ref (u76.1.1 3), .ref (u76.1.1 10), .ref (u76.1.1 1), .int (u76.2.2.1 0), .ref (u76.1.1 u76.2.1)])) ∈ ([(a, .inr (0, [.int (nI (n)), .int (nI ((2 ^ n) - 1)), .ref q42, .null])), (q42, .inl (cI, n, .inl (fun _ => nI 0))), (q49, .inl (cM, 2, .inr (.inr (.inr (.inr (va_up (fun _ => none) 0 (some q54)))))))] ++ (mw_ cI cG u62.1 n u62.2 ++ []) ++ (mw_ cI cG u76.1 n u76.2 ++ [])) by rw [← hp76.1]; exact List.mem_append_right _ (List.mem_append_left _ (List.mem_append_left _ List.mem_cons_self)))
      refine va_astq (r := (nr_MA, nt_MA, 7)) hx hb hK hP hD hS 2 2 qk 1 rfl rfl hv9 rfl (i := nI 1) (vp_in_nI (by omega) (by omega)) nd_CB_init_79 (fun H locs hP hD hS => ?_)
      have hP : va_P D cl_all ([(a, .inr (0, [.int (nI (n)), .int (nI ((2 ^ n) - 1)), .ref q42, .null])), (q42, .inl (cI, n, .inl (fun _ => nI 0))), (q49, .inl (cM, 2, .inr (.inr (.inr (.inr (va_up (va_up (fun _ => none) 0 (some q54)) 1 (some q68)))))))] ++ (mw_ cI cG u62.1 n u62.2 ++ []) ++ (mw_ cI cG u76.1 n u76.2 ++ [])) H := hP
      have hD : va_D A ([(a, .inr (0, [.int (nI (n)), .int (nI ((2 ^ n) - 1)), .ref q42, .null])), (q42, .inl (cI, n, .inl (fun _ => nI 0))), (q49, .inl (cM, 2, .inr (.inr (.inr (.inr (va_up (va_up (fun _ => none) 0 (some q54)) 1 (some q68)))))))] ++ (mw_ cI cG u62.1 n u62.2 ++ []) ++ (mw_ cI cG u76.1 n u76.2 ++ [])) := hD
      refine va_putF (D := D) (C := nr_CB) (T := nt_CB) (N := 4) hx hb htg tf_CB nu_CB no_CB nn_CB hown hK hP hD hS 0 rfl rfl 3 (by decide) (htg _ tm_125) (fun _ h => h) rfl hin rfl rfl rfl rfl (Nat.le_of_ble_eq_true rfl) nd_CB_init_80 (fun H locs hP hD hS => ?_)
      have hP : va_P D cl_all ([(a, .inr (0, [.int (nI (n)), .int (nI ((2 ^ n) - 1)), .ref q42, .ref q49])), (q42, .inl (cI, n, .inl (fun _ => nI 0))), (q49, .inl (cM, 2, .inr (.inr (.inr (.inr (va_up (va_up (fun _ => none) 0 (some q54)) 1 (some q68)))))))] ++ (mw_ cI cG u62.1 n u62.2 ++ []) ++ (mw_ cI cG u76.1 n u76.2 ++ [])) H := hP
      have hD : va_D A ([(a, .inr (0, [.int (nI (n)), .int (nI ((2 ^ n) - 1)), .ref q42, .ref q49])), (q42, .inl (cI, n, .inl (fun _ => nI 0))), (q49, .inl (cM, 2, .inr (.inr (.inr (.inr (va_up (va_up (fun _ => none) 0 (some q54)) 1 (some q68)))))))] ++ (mw_ cI cG u62.1 n u62.2 ++ []) ++ (mw_ cI cG u76.1 n u76.2 ++ [])) := hD
      rw [cb_asc] at hP hD
      have hP : va_P D cl_all (cw_ cI cG cM (fun i => if i = 0 then a else if i = 1 then q42 else q49) n (va_up (va_up (fun _ => none) 0 (some q54)) 1 (some q68)) u62.1 u76.1 ((fun _ => nI 0), u62.2, u76.2)) H := hP
      have hD : va_D A (cw_ cI cG cM (fun i => if i = 0 then a else if i = 1 then q42 else q49) n (va_up (va_up (fun _ => none) 0 (some q54)) 1 (some q68)) u62.1 u76.1 ((fun _ => nI 0), u62.2, u76.2)) := hD
      refine W.widen (k := 78) (n := 2354) (by decide) (by decide) ?_
      exact wb_vret ((fun i => if i = 0 then a else if i = 1 then q42 else q49), (va_up (va_up (fun _ => none) 0 (some q54)) 1 (some q68)), u62.1, u76.1, ((fun _ => nI 0), u62.2, u76.2)) hx hb hr hk hAe ⟨rfl, congrArg some hp62.1.symm, congrArg some hp76.1.symm, fun e _ => ⟨rfl, (by decide : -1000000 ≤ (nI 0).toInt), (by decide : (nI 0).toInt ≤ 1000000)⟩, hp62.2, hp76.2⟩ hP hD hS nd_CB_init_83
