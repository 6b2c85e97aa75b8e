/-! The constructors. -/
theorem ma_perm {α : Type} (o u r : α) (G C L : List α) : (((([o, u] ++ (G ++ [])) ++ (C ++ [])) ++ (L ++ [])) ++ [r]).Perm ([o, r, u] ++ C ++ (G ++ L)) := by
  classical
  rw [List.perm_iff_count]
  intro a
  simp only [List.count_append, List.count_cons, List.count_nil]
  generalize (if (o == a) = true then 1 else 0) = x1
  generalize (if (u == a) = true then 1 else 0) = x2
  generalize (if (r == a) = true then 1 else 0) = x3
  omega
theorem nd_KI_init_0 : decode nc_KI_init 0 = .ok (.aload_n 0, 1) := by decide +kernel
theorem nd_KI_init_1 : decode nc_KI_init 1 = .ok (.invokespecial 1, 3) := by decide +kernel
theorem nd_KI_init_4 : decode nc_KI_init 4 = .ok (.return_, 1) := by decide +kernel
set_option maxRecDepth 20000 in
theorem c_KI_init (l : Launch) (D : va_G) (cI cG cM : ClassId)  (a : Nat) (sz : Nat) : wz_M l ny_KI_init nc_KI_init 1 ({ frames := 1, cells := 0, slots := 0, locals := 12 }) D (ty_all cI cG cM) ([]) sz [.ref a] 0 0 (fun u : Unit => True) (fun u : Unit => []) := by
  refine wz_start (by decide) (Nat.le_of_ble_eq_true rfl) ?_
  intro p e0 s0 m below meth c ls A hx hb hr hml htg hown hk hP hK hN hl hAe hsz hD hA hin h5 h6
  have hl : lv_has ls 1 [(0, .ref a)] := hl
  have hS : va_S A s0.heap s0.heap [] := va_S.rf
  have hRf : 1 ≤ ({ frames := 1, cells := 0, slots := 0, locals := 12 } : Room).frames := Nat.le_refl _
  have hRl : 12 ≤ ({ frames := 1, cells := 0, slots := 0, locals := 12 } : Room).locals := Nat.le_refl _
  have hCS : 0 ≤ ({ frames := 1, cells := 0, slots := 0, locals := 12 } : Room).cells ∧ 0 ≤ ({ frames := 1, cells := 0, slots := 0, locals := 12 } : Room).slots := ⟨Nat.zero_le _, Nat.zero_le _⟩
  refine lv_aload_n hx hb nd_KI_init_0 rfl (lv_at hl 0 rfl) ?_
  refine W.objInit hx hb hown (htg _ tm_36) (htg _ tm_19) (htg _ tm_20) rfl (by rw [hml]; exact hl.1) rfl nd_KI_init_1 (Nat.le_of_ble_eq_true rfl) (Nat.le_of_ble_eq_true rfl) ?_
  refine W.eq (g2 := F0 m 4 ls []) rfl ?_
  refine W.widen (k := 0) (n := 0) (by decide) (by decide) ?_
  exact wb_vret () hx hb hr hk hAe trivial hP hD hS nd_KI_init_4
theorem nd_UK_init_0 : decode nc_UK_init 0 = .ok (.aload_n 0, 1) := by decide +kernel
theorem nd_UK_init_1 : decode nc_UK_init 1 = .ok (.invokespecial 1, 3) := by decide +kernel
theorem nd_UK_init_4 : decode nc_UK_init 4 = .ok (.return_, 1) := by decide +kernel
set_option maxRecDepth 20000 in
theorem c_UK_init (l : Launch) (D : va_G) (cI cG cM : ClassId)  (a : Nat) (sz : Nat) : wz_M l ny_UK_init nc_UK_init 1 ({ frames := 2, cells := 0, slots := 0, locals := 32 }) D (ty_all cI cG cM) ([(a, .inr (2, [.int (nI (0))]))]) sz [.ref a] 0 0 (fun u : Unit => True) (fun u : Unit => [(a, .inr (2, [.int (nI (0))]))]) := by
  refine wz_start (by decide) (Nat.le_of_ble_eq_true rfl) ?_
  intro p e0 s0 m below meth c ls A hx hb hr hml htg hown hk hP hK hN hl hAe hsz hD hA hin h5 h6
  have hl : lv_has ls 1 [(0, .ref a)] := hl
  have hS : va_S A s0.heap s0.heap [] := va_S.rf
  have hRf : 2 ≤ ({ frames := 2, cells := 0, slots := 0, locals := 32 } : Room).frames := Nat.le_refl _
  have hRl : 32 ≤ ({ frames := 2, cells := 0, slots := 0, locals := 32 } : Room).locals := Nat.le_refl _
  have hCS : 0 ≤ ({ frames := 2, cells := 0, slots := 0, locals := 32 } : Room).cells ∧ 0 ≤ ({ frames := 2, cells := 0, slots := 0, locals := 32 } : Room).slots := ⟨Nat.zero_le _, Nat.zero_le _⟩
  refine lv_aload_n hx hb nd_UK_init_0 rfl (lv_at hl 0 rfl) ?_
  refine wz_IN (n := 0) (X := [(a, .inr (2, [.int (nI (0))]))]) (Y := []) (Z := []) hx hb hml hown htg (c_KI_init l D cI cG cM a _) tm_35 (tn_33 hN) tm_34 tm_3 rfl (by decide +kernel) ⟨⟨by decide, by decide⟩, rfl, rfl⟩ hP hD hS hA hK hN h5 h6 rfl hl.1 rfl (Nat.le_of_ble_eq_true rfl) nd_UK_init_1 ⟨(show 0 + 0 ≤ 0 by decide), (show 0 + 0 ≤ 0 by decide)⟩ (fun u1 H locs hp1 hP hD hS => ?_)
  refine W.widen (k := 0) (n := 0) (by omega) (by omega) ?_
  have hCS : 0 ≤ ({ frames := 2, cells := 0, slots := 0, locals := 32 } : Room).cells ∧ 0 ≤ ({ frames := 2, cells := 0, slots := 0, locals := 32 } : Room).slots := ⟨by decide, by decide⟩
  have hP : va_P D cl_all ([(a, .inr (2, [.int (nI (0))]))]) H := hP
  have hD : va_D A ([(a, .inr (2, [.int (nI (0))]))]) := hD
  refine W.widen (k := 0) (n := 0) (by decide) (by decide) ?_
  exact wb_vret () hx hb hr hk hAe trivial hP hD hS nd_UK_init_4
theorem nd_CK_init_0 : decode nc_CK_init 0 = .ok (.aload_n 0, 1) := by decide +kernel
theorem nd_CK_init_1 : decode nc_CK_init 1 = .ok (.invokespecial 3, 3) := by decide +kernel
theorem nd_CK_init_4 : decode nc_CK_init 4 = .ok (.aload_n 0, 1) := by decide +kernel
theorem nd_CK_init_5 : decode nc_CK_init 5 = .ok (.iconst 4, 1) := by decide +kernel
theorem nd_CK_init_6 : decode nc_CK_init 6 = .ok (.newarray .int, 2) := by decide +kernel
theorem nd_CK_init_8 : decode nc_CK_init 8 = .ok (.putfield 9, 3) := by decide +kernel
theorem nd_CK_init_11 : decode nc_CK_init 11 = .ok (.aload_n 0, 1) := by decide +kernel
theorem nd_CK_init_12 : decode nc_CK_init 12 = .ok (.iconst 4, 1) := by decide +kernel
theorem nd_CK_init_13 : decode nc_CK_init 13 = .ok (.newarray .int, 2) := by decide +kernel
theorem nd_CK_init_15 : decode nc_CK_init 15 = .ok (.putfield 15, 3) := by decide +kernel
theorem nd_CK_init_18 : decode nc_CK_init 18 = .ok (.aload_n 0, 1) := by decide +kernel
theorem nd_CK_init_19 : decode nc_CK_init 19 = .ok (.iload_n 1, 1) := by decide +kernel
theorem nd_CK_init_20 : decode nc_CK_init 20 = .ok (.newarray .int, 2) := by decide +kernel
theorem nd_CK_init_22 : decode nc_CK_init 22 = .ok (.putfield 18, 3) := by decide +kernel
theorem nd_CK_init_25 : decode nc_CK_init 25 = .ok (.return_, 1) := by decide +kernel
set_option maxRecDepth 20000 in
theorem c_CK_init (l : Launch) (D : va_G) (cI cG cM : ClassId)  (a : Nat) (n : Nat) (hn1 : 1 ≤ n) (hn : n ≤ 10) (sz : Nat) : wz_M l ny_CK_init nc_CK_init 2 ({ frames := 2, cells := 3, slots := 18, locals := 32 }) D (ty_all cI cG cM) ([(a, .inr (4, [.null, .null, .null]))]) sz [.ref a, .int (nI (n))] 3 18 (fun u : Nat × Nat × Nat => True) (fun u : Nat × Nat × Nat => [(a, .inr (4, [.ref u.2.2, .ref u.1, .ref u.2.1])), (u.1, .inl (cI, 4, .inl (fun _ => nI 0))), (u.2.1, .inl (cI, 4, .inl (fun _ => nI 0))), (u.2.2, .inl (cI, n, .inl (fun _ => nI 0)))]) := by
  refine wz_start (by decide) (Nat.le_of_ble_eq_true rfl) ?_
  intro p e0 s0 m below meth c ls A hx hb hr hml htg hown hk hP hK hN hl hAe hsz hD hA hin h5 h6
  have hl : lv_has ls 2 [(0, .ref a), (1, .int (nI (n)))] := hl
  have hS : va_S A s0.heap s0.heap [] := va_S.rf
  have hRf : 2 ≤ ({ frames := 2, cells := 3, slots := 18, locals := 32 } : Room).frames := Nat.le_refl _
  have hRl : 32 ≤ ({ frames := 2, cells := 3, slots := 18, locals := 32 } : Room).locals := Nat.le_refl _
  have hCS : 0 ≤ ({ frames := 2, cells := 3, slots := 18, locals := 32 } : Room).cells ∧ 0 ≤ ({ frames := 2, cells := 3, slots := 18, locals := 32 } : Room).slots := ⟨Nat.zero_le _, Nat.zero_le _⟩
  refine lv_aload_n hx hb nd_CK_init_0 rfl (lv_at hl 0 rfl) ?_
  refine wz_IN (n := 0) (X := [(a, .inr (4, [.null, .null, .null]))]) (Y := []) (Z := []) hx hb hml hown htg (c_KI_init l D cI cG cM a _) tm_35 (tn_64 hN) tm_34 tm_3 rfl (by decide +kernel) ⟨⟨by decide, by decide⟩, rfl, rfl⟩ hP hD hS hA hK hN h5 h6 rfl hl.1 rfl (Nat.le_of_ble_eq_true rfl) nd_CK_init_1 ⟨(show 0 + 0 ≤ 3 by decide), (show 0 + 0 ≤ 18 by decide)⟩ (fun u1 H locs hp1 hP hD hS => ?_)
  refine W.widen (k := 0) (n := 0) (by omega) (by omega) ?_
  have hCS : 0 ≤ ({ frames := 2, cells := 3, slots := 18, locals := 32 } : Room).cells ∧ 0 ≤ ({ frames := 2, cells := 3, slots := 18, locals := 32 } : Room).slots := ⟨by decide, by decide⟩
  have hP : va_P D cl_all ([(a, .inr (4, [.null, .null, .null]))]) H := hP
  have hD : va_D A ([(a, .inr (4, [.null, .null, .null]))]) := hD
  refine lv_aload_n hx hb nd_CK_init_4 rfl (lv_at hl 0 rfl) ?_
  refine wi_ic hx hb (a := 4) nd_CK_init_5 ?_
  refine wn_newa hx hb htg hK hP hD hS hA (N' := 4) (by omega) (show 0 + 1 ≤ 3 by decide) (show 0 + 4 ≤ 18 by omega) nd_CK_init_6 (fun q6 H hP hD hS => ?_)
  refine W.widen (k := 1) (n := 4) (by omega) (by omega) ?_
  have hCS : 1 ≤ ({ frames := 2, cells := 3, slots := 18, locals := 32 } : Room).cells ∧ 4 ≤ ({ frames := 2, cells := 3, slots := 18, locals := 32 } : Room).slots := ⟨by decide, by decide⟩
  have hP : va_P D cl_all ([(a, .inr (4, [.null, .null, .null])), (q6, .inl (cI, 4, .inl (fun _ => nI 0)))]) H := hP
  have hD : va_D A ([(a, .inr (4, [.null, .null, .null])), (q6, .inl (cI, 4, .inl (fun _ => nI 0)))]) := hD
  refine va_putF (D := D) (C := nr_CK) (T := nt_CK) (N := 3) hx hb htg tf_CK nu_CK no_CK nn_CK hown hK hP hD hS 0 rfl rfl 1 (by decide) (htg _ tm_67) (fun _ h => h) rfl hin rfl rfl rfl rfl (Nat.le_of_ble_eq_true rfl) nd_CK_init_8 (fun H locs hP hD hS => ?_)
  have hP : va_P D cl_all ([(a, .inr (4, [.null, .ref q6, .null])), (q6, .inl (cI, 4, .inl (fun _ => nI 0)))]) H := hP
  have hD : va_D A ([(a, .inr (4, [.null, .ref q6, .null])), (q6, .inl (cI, 4, .inl (fun _ => nI 0)))]) := hD
  refine lv_aload_n hx hb nd_CK_init_11 rfl (lv_at hl 0 rfl) ?_
  refine wi_ic hx hb (a := 4) nd_CK_init_12 ?_
  refine wn_newa hx hb htg hK hP hD hS hA (N' := 4) (by omega) (show 1 + 1 ≤ 3 by decide) (show 4 + 4 ≤ 18 by omega) nd_CK_init_13 (fun q13 H hP hD hS => ?_)
  refine W.widen (k := 2) (n := 8) (by omega) (by omega) ?_
  have hCS : 2 ≤ ({ frames := 2, cells := 3, slots := 18, locals := 32 } : Room).cells ∧ 8 ≤ ({ frames := 2, cells := 3, slots := 18, locals := 32 } : Room).slots := ⟨by decide, by decide⟩
  have hP : va_P D cl_all ([(a, .inr (4, [.null, .ref q6, .null])), (q6, .inl (cI, 4, .inl (fun _ => nI 0))), (q13, .inl (cI, 4, .inl (fun _ => nI 0)))]) H := hP
  have hD : va_D A ([(a, .inr (4, [.null, .ref q6, .null])), (q6, .inl (cI, 4, .inl (fun _ => nI 0))), (q13, .inl (cI, 4, .inl (fun _ => nI 0)))]) := hD
  refine va_putF (D := D) (C := nr_CK) (T := nt_CK) (N := 3) hx hb htg tf_CK nu_CK no_CK nn_CK hown hK hP hD hS 0 rfl rfl 2 (by decide) (htg _ tm_69) (fun _ h => h) rfl hin rfl rfl rfl rfl (Nat.le_of_ble_eq_true rfl) nd_CK_init_15 (fun H locs hP hD hS => ?_)
  have hP : va_P D cl_all ([(a, .inr (4, [.null, .ref q6, .ref q13])), (q6, .inl (cI, 4, .inl (fun _ => nI 0))), (q13, .inl (cI, 4, .inl (fun _ => nI 0)))]) H := hP
  have hD : va_D A ([(a, .inr (4, [.null, .ref q6, .ref q13])), (q6, .inl (cI, 4, .inl (fun _ => nI 0))), (q13, .inl (cI, 4, .inl (fun _ => nI 0)))]) := hD
  refine lv_aload_n hx hb nd_CK_init_18 rfl (lv_at hl 0 rfl) ?_
  refine lv_iload_n hx hb nd_CK_init_19 rfl (lv_at hl 1 rfl) ?_
  refine wn_newa hx hb htg hK hP hD hS hA (N' := n) (by omega) (show 2 + 1 ≤ 3 by decide) (show 8 + n ≤ 18 by omega) nd_CK_init_20 (fun q20 H hP hD hS => ?_)
  refine W.widen (k := 3) (n := 18) (by omega) (by omega) ?_
  have hCS : 3 ≤ ({ frames := 2, cells := 3, slots := 18, locals := 32 } : Room).cells ∧ 18 ≤ ({ frames := 2, cells := 3, slots := 18, locals := 32 } : Room).slots := ⟨by decide, by decide⟩
  have hP : va_P D cl_all ([(a, .inr (4, [.null, .ref q6, .ref q13])), (q6, .inl (cI, 4, .inl (fun _ => nI 0))), (q13, .inl (cI, 4, .inl (fun _ => nI 0))), (q20, .inl (cI, n, .inl (fun _ => nI 0)))]) H := hP
  have hD : va_D A ([(a, .inr (4, [.null, .ref q6, .ref q13])), (q6, .inl (cI, 4, .inl (fun _ => nI 0))), (q13, .inl (cI, 4, .inl (fun _ => nI 0))), (q20, .inl (cI, n, .inl (fun _ => nI 0)))]) := hD
  refine va_putF (D := D) (C := nr_CK) (T := nt_CK) (N := 3) hx hb htg tf_CK nu_CK no_CK nn_CK hown hK hP hD hS 0 rfl rfl 0 (by decide) (htg _ tm_65) (fun _ h => h) rfl hin rfl rfl rfl rfl (Nat.le_of_ble_eq_true rfl) nd_CK_init_22 (fun H locs hP hD hS => ?_)
  have hP : va_P D cl_all ([(a, .inr (4, [.ref q20, .ref q6, .ref q13])), (q6, .inl (cI, 4, .inl (fun _ => nI 0))), (q13, .inl (cI, 4, .inl (fun _ => nI 0))), (q20, .inl (cI, n, .inl (fun _ => nI 0)))]) H := hP
  have hD : va_D A ([(a, .inr (4, [.ref q20, .ref q6, .ref q13])), (q6, .inl (cI, 4, .inl (fun _ => nI 0))), (q13, .inl (cI, 4, .inl (fun _ => nI 0))), (q20, .inl (cI, n, .inl (fun _ => nI 0)))]) := hD
  refine W.widen (k := 3) (n := 18) (by decide) (by decide) ?_
  exact wb_vret (q6, q13, q20) hx hb hr hk hAe trivial hP hD hS nd_CK_init_25
theorem nd_GK_init_0 : decode nc_GK_init 0 = .ok (.aload_n 0, 1) := by decide +kernel
theorem nd_GK_init_1 : decode nc_GK_init 1 = .ok (.invokespecial 3, 3) := by decide +kernel
theorem nd_GK_init_4 : decode nc_GK_init 4 = .ok (.aload_n 0, 1) := by decide +kernel
theorem nd_GK_init_5 : decode nc_GK_init 5 = .ok (.bipush 8, 2) := by decide +kernel
theorem nd_GK_init_7 : decode nc_GK_init 7 = .ok (.newarray .int, 2) := by decide +kernel
theorem nd_GK_init_9 : decode nc_GK_init 9 = .ok (.putfield 9, 3) := by decide +kernel
theorem nd_GK_init_12 : decode nc_GK_init 12 = .ok (.aload_n 0, 1) := by decide +kernel
theorem nd_GK_init_13 : decode nc_GK_init 13 = .ok (.iload_n 1, 1) := by decide +kernel
theorem nd_GK_init_14 : decode nc_GK_init 14 = .ok (.iconst 2, 1) := by decide +kernel
theorem nd_GK_init_15 : decode nc_GK_init 15 = .ok (.multianewarray 15 2, 4) := by decide +kernel
theorem nd_GK_init_19 : decode nc_GK_init 19 = .ok (.putfield 17, 3) := by decide +kernel
theorem nd_GK_init_22 : decode nc_GK_init 22 = .ok (.return_, 1) := by decide +kernel
set_option maxRecDepth 20000 in
theorem c_GK_init (l : Launch) (D : va_G) (cI cG cM : ClassId)  (a : Nat) (n : Nat) (hn1 : 1 ≤ n) (hn : n ≤ 10) (sz : Nat) : wz_M l ny_GK_init nc_GK_init 2 ({ frames := 2, cells := 12, slots := 38, locals := 32 }) D (ty_all cI cG cM) ([(a, .inr (3, [.null, .null]))]) sz [.ref a, .int (nI (n))] 12 38 (fun u : Nat × Nat × (Nat → Nat) => True) (fun u : Nat × Nat × (Nat → Nat) => ([(a, .inr (3, [.ref u.2.1, .ref u.1])), (u.1, .inl (cI, 8, .inl (fun _ => nI 0))), (u.2.1, .inl (cG, n, .inr (.inr (.inr (.inr (fun i => if i < n then some (u.2.2 i) else none))))))] ++ (rw_R cI 2 u.2.2 (fun _ _ => nI 0) n ++ []))) := by
  refine wz_start (by decide) (Nat.le_of_ble_eq_true rfl) ?_
  intro p e0 s0 m below meth c ls A hx hb hr hml htg hown hk hP hK hN hl hAe hsz hD hA hin h5 h6
  have hl : lv_has ls 2 [(0, .ref a), (1, .int (nI (n)))] := hl
  have hS : va_S A s0.heap s0.heap [] := va_S.rf
  have hRf : 2 ≤ ({ frames := 2, cells := 12, slots := 38, locals := 32 } : Room).frames := Nat.le_refl _
  have hRl : 32 ≤ ({ frames := 2, cells := 12, slots := 38, locals := 32 } : Room).locals := Nat.le_refl _
  have hCS : 0 ≤ ({ frames := 2, cells := 12, slots := 38, locals := 32 } : Room).cells ∧ 0 ≤ ({ frames := 2, cells := 12, slots := 38, locals := 32 } : Room).slots := ⟨Nat.zero_le _, Nat.zero_le _⟩
  refine lv_aload_n hx hb nd_GK_init_0 rfl (lv_at hl 0 rfl) ?_
  refine wz_IN (n := 0) (X := [(a, .inr (3, [.null, .null]))]) (Y := []) (Z := []) hx hb hml hown htg (c_KI_init l D cI cG cM a _) tm_35 (tn_48 hN) tm_34 tm_3 rfl (by decide +kernel) ⟨⟨by decide, by decide⟩, rfl, rfl⟩ hP hD hS hA hK hN h5 h6 rfl hl.1 rfl (Nat.le_of_ble_eq_true rfl) nd_GK_init_1 ⟨(show 0 + 0 ≤ 12 by decide), (show 0 + 0 ≤ 38 by decide)⟩ (fun u1 H locs hp1 hP hD hS => ?_)
  refine W.widen (k := 0) (n := 0) (by omega) (by omega) ?_
  have hCS : 0 ≤ ({ frames := 2, cells := 12, slots := 38, locals := 32 } : Room).cells ∧ 0 ≤ ({ frames := 2, cells := 12, slots := 38, locals := 32 } : Room).slots := ⟨by decide, by decide⟩
  have hP : va_P D cl_all ([(a, .inr (3, [.null, .null]))]) H := hP
  have hD : va_D A ([(a, .inr (3, [.null, .null]))]) := hD
  refine lv_aload_n hx hb nd_GK_init_4 rfl (lv_at hl 0 rfl) ?_
  refine lv_bipush (v := nI 8) hx hb nd_GK_init_5 (by decide) ?_
  refine wn_newa hx hb htg hK hP hD hS hA (N' := 8) (by omega) (show 0 + 1 ≤ 12 by decide) (show 0 + 8 ≤ 38 by omega) nd_GK_init_7 (fun q7 H hP hD hS => ?_)
  refine W.widen (k := 1) (n := 8) (by omega) (by omega) ?_
  have hCS : 1 ≤ ({ frames := 2, cells := 12, slots := 38, locals := 32 } : Room).cells ∧ 8 ≤ ({ frames := 2, cells := 12, slots := 38, locals := 32 } : Room).slots := ⟨by decide, by decide⟩
  have hP : va_P D cl_all ([(a, .inr (3, [.null, .null])), (q7, .inl (cI, 8, .inl (fun _ => nI 0)))]) H := hP
  have hD : va_D A ([(a, .inr (3, [.null, .null])), (q7, .inl (cI, 8, .inl (fun _ => nI 0)))]) := hD
  refine va_putF (D := D) (C := nr_GK) (T := nt_GK) (N := 2) hx hb htg tf_GK nu_GK no_GK nn_GK hown hK hP hD hS 0 rfl rfl 1 (by decide) (htg _ tm_53) (fun _ h => h) rfl hin rfl rfl rfl rfl (Nat.le_of_ble_eq_true rfl) nd_GK_init_9 (fun H locs hP hD hS => ?_)
  have hP : va_P D cl_all ([(a, .inr (3, [.null, .ref q7])), (q7, .inl (cI, 8, .inl (fun _ => nI 0)))]) H := hP
  have hD : va_D A ([(a, .inr (3, [.null, .ref q7])), (q7, .inl (cI, 8, .inl (fun _ => nI 0)))]) := hD
  refine lv_aload_n hx hb nd_GK_init_12 rfl (lv_at hl 0 rfl) ?_
  refine lv_iload_n hx hb nd_GK_init_13 rfl (lv_at hl 1 rfl) ?_
  refine wi_ic hx hb (a := 2) nd_GK_init_14 ?_
  refine wn_mna hx hb hown htg tm_49 h6 hK hP hD hS hA (N' := n) (K' := 2) (by omega) (by omega) (show 1 + (1 + n) ≤ 12 by omega) (show 8 + (n + n * 2) ≤ 38 by omega) nd_GK_init_15 (fun q15 r15 H hP hD hS => ?_)
  refine W.widen (k := 12) (n := 38) (by omega) (by omega) ?_
  have hCS : 12 ≤ ({ frames := 2, cells := 12, slots := 38, locals := 32 } : Room).cells ∧ 38 ≤ ({ frames := 2, cells := 12, slots := 38, locals := 32 } : Room).slots := ⟨by decide, by decide⟩
  have hP : va_P D cl_all ([(a, .inr (3, [.null, .ref q7])), (q7, .inl (cI, 8, .inl (fun _ => nI 0)))] ++ [(q15, .inl (cG, n, .inr (.inr (.inr (.inr (fun i => if i < n then some (r15 i) else none))))))] ++ rw_R cI 2 r15 (fun _ _ => nI 0) n) H := hP
  have hD : va_D A ([(a, .inr (3, [.null, .ref q7])), (q7, .inl (cI, 8, .inl (fun _ => nI 0)))] ++ [(q15, .inl (cG, n, .inr (.inr (.inr (.inr (fun i => if i < n then some (r15 i) else none))))))] ++ rw_R cI 2 r15 (fun _ _ => nI 0) n) := hD
  refine va_putF (D := D) (C := nr_GK) (T := nt_GK) (N := 2) hx hb htg tf_GK nu_GK no_GK nn_GK hown hK hP hD hS 0 rfl rfl 0 (by decide) (htg _ tm_51) (fun _ h => h) rfl hin rfl rfl rfl rfl (Nat.le_of_ble_eq_true rfl) nd_GK_init_19 (fun H locs hP hD hS => ?_)
  have hP : va_P D cl_all ([(a, .inr (3, [.ref q15, .ref q7])), (q7, .inl (cI, 8, .inl (fun _ => nI 0)))] ++ [(q15, .inl (cG, n, .inr (.inr (.inr (.inr (fun i => if i < n then some (r15 i) else none))))))] ++ rw_R cI 2 r15 (fun _ _ => nI 0) n) H := hP
  have hD : va_D A ([(a, .inr (3, [.ref q15, .ref q7])), (q7, .inl (cI, 8, .inl (fun _ => nI 0)))] ++ [(q15, .inl (cG, n, .inr (.inr (.inr (.inr (fun i => if i < n then some (r15 i) else none))))))] ++ rw_R cI 2 r15 (fun _ _ => nI 0) n) := hD
  have hP : va_P D cl_all (([(a, .inr (3, [.ref q15, .ref q7])), (q7, .inl (cI, 8, .inl (fun _ => nI 0))), (q15, .inl (cG, n, .inr (.inr (.inr (.inr (fun i => if i < n then some (r15 i) else none))))))] ++ (rw_R cI 2 r15 (fun _ _ => nI 0) n ++ []))) H := by rw [List.append_nil]; exact hP
  have hD : va_D A (([(a, .inr (3, [.ref q15, .ref q7])), (q7, .inl (cI, 8, .inl (fun _ => nI 0))), (q15, .inl (cG, n, .inr (.inr (.inr (.inr (fun i => if i < n then some (r15 i) else none))))))] ++ (rw_R cI 2 r15 (fun _ _ => nI 0) n ++ []))) := by rw [List.append_nil]; exact hD
  refine W.widen (k := 12) (n := 38) (by decide) (by decide) ?_
  exact wb_vret (q7, q15, r15) hx hb hr hk hAe trivial hP hD hS nd_GK_init_22
theorem lk_perm {α : Type} (o a b c : α) (R T : List α) : ([o] ++ [a] ++ R ++ [b] ++ [c] ++ T).Perm ([o, a, b, c] ++ (R ++ (T ++ []))) := by
  classical
  rw [List.perm_iff_count]
  intro z
  simp only [List.count_append, List.count_cons, List.count_nil]
  generalize (if (o == z) = true then 1 else 0) = x1
  generalize (if (a == z) = true then 1 else 0) = x2
  generalize (if (b == z) = true then 1 else 0) = x3
  generalize (if (c == z) = true then 1 else 0) = x4
  omega
theorem nd_LK_init_0 : decode nc_LK_init 0 = .ok (.aload_n 0, 1) := by decide +kernel
theorem nd_LK_init_1 : decode nc_LK_init 1 = .ok (.invokespecial 3, 3) := by decide +kernel
theorem nd_LK_init_4 : decode nc_LK_init 4 = .ok (.aload_n 0, 1) := by decide +kernel
theorem nd_LK_init_5 : decode nc_LK_init 5 = .ok (.iconst 4, 1) := by decide +kernel
theorem nd_LK_init_6 : decode nc_LK_init 6 = .ok (.iconst 4, 1) := by decide +kernel
theorem nd_LK_init_7 : decode nc_LK_init 7 = .ok (.multianewarray 9 2, 4) := by decide +kernel
theorem nd_LK_init_11 : decode nc_LK_init 11 = .ok (.putfield 11, 3) := by decide +kernel
theorem nd_LK_init_14 : decode nc_LK_init 14 = .ok (.aload_n 0, 1) := by decide +kernel
theorem nd_LK_init_15 : decode nc_LK_init 15 = .ok (.iconst 4, 1) := by decide +kernel
theorem nd_LK_init_16 : decode nc_LK_init 16 = .ok (.newarray .int, 2) := by decide +kernel
theorem nd_LK_init_18 : decode nc_LK_init 18 = .ok (.putfield 16, 3) := by decide +kernel
theorem nd_LK_init_21 : decode nc_LK_init 21 = .ok (.aload_n 0, 1) := by decide +kernel
theorem nd_LK_init_22 : decode nc_LK_init 22 = .ok (.iconst 2, 1) := by decide +kernel
theorem nd_LK_init_23 : decode nc_LK_init 23 = .ok (.putfield 20, 3) := by decide +kernel
theorem nd_LK_init_26 : decode nc_LK_init 26 = .ok (.aload_n 0, 1) := by decide +kernel
theorem nd_LK_init_27 : decode nc_LK_init 27 = .ok (.iload_n 1, 1) := by decide +kernel
theorem nd_LK_init_28 : decode nc_LK_init 28 = .ok (.iconst 4, 1) := by decide +kernel
theorem nd_LK_init_29 : decode nc_LK_init 29 = .ok (.multianewarray 9 2, 4) := by decide +kernel
theorem nd_LK_init_33 : decode nc_LK_init 33 = .ok (.putfield 24, 3) := by decide +kernel
theorem nd_LK_init_36 : decode nc_LK_init 36 = .ok (.return_, 1) := by decide +kernel
set_option maxRecDepth 20000 in
theorem c_LK_init (l : Launch) (D : va_G) (cI cG cM : ClassId)  (a : Nat) (n : Nat) (hn1 : 1 ≤ n) (hn : n ≤ 10) (sz : Nat) : wz_M l ny_LK_init nc_LK_init 2 ({ frames := 2, cells := 17, slots := 74, locals := 32 }) D (ty_all cI cG cM) ([(a, .inr (5, [.null, .null, .null, .int (nI (0))]))]) sz [.ref a, .int (nI (n))] 17 74 (fun u : Nat × Nat × Nat × (Nat → Nat) × (Nat → Nat) => True) (fun u : Nat × Nat × Nat × (Nat → Nat) × (Nat → Nat) => ([(a, .inr (5, [.ref u.2.2.1, .ref u.1, .ref u.2.1, .int (nI 2)])), (u.1, .inl (cG, 4, .inr (.inr (.inr (.inr (fun i => if i < 4 then some (u.2.2.2.1 i) else none)))))), (u.2.1, .inl (cI, 4, .inl (fun _ => nI 0))), (u.2.2.1, .inl (cG, n, .inr (.inr (.inr (.inr (fun i => if i < n then some (u.2.2.2.2 i) else none))))))] ++ (rw_R cI 4 u.2.2.2.1 (fun _ _ => nI 0) 4 ++ (rw_R cI 4 u.2.2.2.2 (fun _ _ => nI 0) n ++ [])))) := by
  refine wz_start (by decide) (Nat.le_of_ble_eq_true rfl) ?_
  intro p e0 s0 m below meth c ls A hx hb hr hml htg hown hk hP hK hN hl hAe hsz hD hA hin h5 h6
  have hl : lv_has ls 2 [(0, .ref a), (1, .int (nI (n)))] := hl
  have hS : va_S A s0.heap s0.heap [] := va_S.rf
  have hRf : 2 ≤ ({ frames := 2, cells := 17, slots := 74, locals := 32 } : Room).frames := Nat.le_refl _
  have hRl : 32 ≤ ({ frames := 2, cells := 17, slots := 74, locals := 32 } : Room).locals := Nat.le_refl _
  have hCS : 0 ≤ ({ frames := 2, cells := 17, slots := 74, locals := 32 } : Room).cells ∧ 0 ≤ ({ frames := 2, cells := 17, slots := 74, locals := 32 } : Room).slots := ⟨Nat.zero_le _, Nat.zero_le _⟩
  refine lv_aload_n hx hb nd_LK_init_0 rfl (lv_at hl 0 rfl) ?_
  refine wz_IN (n := 0) (X := [(a, .inr (5, [.null, .null, .null, .int (nI (0))]))]) (Y := []) (Z := []) hx hb hml hown htg (c_KI_init l D cI cG cM a _) tm_35 (tn_82 hN) tm_34 tm_3 rfl (by decide +kernel) ⟨⟨by decide, by decide⟩, rfl, rfl⟩ hP hD hS hA hK hN h5 h6 rfl hl.1 rfl (Nat.le_of_ble_eq_true rfl) nd_LK_init_1 ⟨(show 0 + 0 ≤ 17 by decide), (show 0 + 0 ≤ 74 by decide)⟩ (fun u1 H locs hp1 hP hD hS => ?_)
  refine W.widen (k := 0) (n := 0) (by omega) (by omega) ?_
  have hCS : 0 ≤ ({ frames := 2, cells := 17, slots := 74, locals := 32 } : Room).cells ∧ 0 ≤ ({ frames := 2, cells := 17, slots := 74, locals := 32 } : Room).slots := ⟨by decide, by decide⟩
  have hP : va_P D cl_all ([(a, .inr (5, [.null, .null, .null, .int (nI (0))]))]) H := hP
  have hD : va_D A ([(a, .inr (5, [.null, .null, .null, .int (nI (0))]))]) := hD
  refine lv_aload_n hx hb nd_LK_init_4 rfl (lv_at hl 0 rfl) ?_
  refine wi_ic hx hb (a := 4) nd_LK_init_5 ?_
  refine wi_ic hx hb (a := 4) nd_LK_init_6 ?_
  refine wn_mna hx hb hown htg tm_83 h6 hK hP hD hS hA (N' := 4) (K' := 4) (by omega) (by omega) (show 0 + (1 + 4) ≤ 17 by omega) (show 0 + (4 + 4 * 4) ≤ 74 by omega) nd_LK_init_7 (fun q7 r7 H hP hD hS => ?_)
  refine W.widen (k := 5) (n := 20) (by omega) (by omega) ?_
  have hCS : 5 ≤ ({ frames := 2, cells := 17, slots := 74, locals := 32 } : Room).cells ∧ 20 ≤ ({ frames := 2, cells := 17, slots := 74, locals := 32 } : Room).slots := ⟨by decide, by decide⟩
  have hP : va_P D cl_all ([(a, .inr (5, [.null, .null, .null, .int (nI (0))]))] ++ [(q7, .inl (cG, 4, .inr (.inr (.inr (.inr (fun i => if i < 4 then some (r7 i) else none))))))] ++ rw_R cI 4 r7 (fun _ _ => nI 0) 4) H := hP
  have hD : va_D A ([(a, .inr (5, [.null, .null, .null, .int (nI (0))]))] ++ [(q7, .inl (cG, 4, .inr (.inr (.inr (.inr (fun i => if i < 4 then some (r7 i) else none))))))] ++ rw_R cI 4 r7 (fun _ _ => nI 0) 4) := hD
  refine va_putF (D := D) (C := nr_LK) (T := nt_LK) (N := 4) hx hb htg tf_LK nu_LK no_LK nn_LK hown hK hP hD hS 0 rfl rfl 1 (by decide) (htg _ tm_85) (fun _ h => h) rfl hin rfl rfl rfl rfl (Nat.le_of_ble_eq_true rfl) nd_LK_init_11 (fun H locs hP hD hS => ?_)
  have hP : va_P D cl_all ([(a, .inr (5, [.null, .ref q7, .null, .int (nI (0))]))] ++ [(q7, .inl (cG, 4, .inr (.inr (.inr (.inr (fun i => if i < 4 then some (r7 i) else none))))))] ++ rw_R cI 4 r7 (fun _ _ => nI 0) 4) H := hP
  have hD : va_D A ([(a, .inr (5, [.null, .ref q7, .null, .int (nI (0))]))] ++ [(q7, .inl (cG, 4, .inr (.inr (.inr (.inr (fun i => if i < 4 then some (r7 i) else none))))))] ++ rw_R cI 4 r7 (fun _ _ => nI 0) 4) := hD
  refine lv_aload_n hx hb nd_LK_init_14 rfl (lv_at hl 0 rfl) ?_
  refine wi_ic hx hb (a := 4) nd_LK_init_15 ?_
  refine wn_newa hx hb htg hK hP hD hS hA (N' := 4) (by omega) (show 5 + 1 ≤ 17 by decide) (show 20 + 4 ≤ 74 by omega) nd_LK_init_16 (fun q16 H hP hD hS => ?_)
  refine W.widen (k := 6) (n := 24) (by omega) (by omega) ?_
  have hCS : 6 ≤ ({ frames := 2, cells := 17, slots := 74, locals := 32 } : Room).cells ∧ 24 ≤ ({ frames := 2, cells := 17, slots := 74, locals := 32 } : Room).slots := ⟨by decide, by decide⟩
  have hP : va_P D cl_all ([(a, .inr (5, [.null, .ref q7, .null, .int (nI (0))]))] ++ [(q7, .inl (cG, 4, .inr (.inr (.inr (.inr (fun i => if i < 4 then some (r7 i) else none))))))] ++ rw_R cI 4 r7 (fun _ _ => nI 0) 4 ++ [(q16, .inl (cI, 4, .inl (fun _ => nI 0)))]) H := hP
  have hD : va_D A ([(a, .inr (5, [.null, .ref q7, .null, .int (nI (0))]))] ++ [(q7, .inl (cG, 4, .inr (.inr (.inr (.inr (fun i => if i < 4 then some (r7 i) else none))))))] ++ rw_R cI 4 r7 (fun _ _ => nI 0) 4 ++ [(q16, .inl (cI, 4, .inl (fun _ => nI 0)))]) := hD
  refine va_putF (D := D) (C := nr_LK) (T := nt_LK) (N := 4) hx hb htg tf_LK nu_LK no_LK nn_LK hown hK hP hD hS 0 rfl rfl 2 (by decide) (htg _ tm_86) (fun _ h => h) rfl hin rfl rfl rfl rfl (Nat.le_of_ble_eq_true rfl) nd_LK_init_18 (fun H locs hP hD hS => ?_)
  have hP : va_P D cl_all ([(a, .inr (5, [.null, .ref q7, .ref q16, .int (nI (0))]))] ++ [(q7, .inl (cG, 4, .inr (.inr (.inr (.inr (fun i => if i < 4 then some (r7 i) else none))))))] ++ rw_R cI 4 r7 (fun _ _ => nI 0) 4 ++ [(q16, .inl (cI, 4, .inl (fun _ => nI 0)))]) H := hP
  have hD : va_D A ([(a, .inr (5, [.null, .ref q7, .ref q16, .int (nI (0))]))] ++ [(q7, .inl (cG, 4, .inr (.inr (.inr (.inr (fun i => if i < 4 then some (r7 i) else none))))))] ++ rw_R cI 4 r7 (fun _ _ => nI 0) 4 ++ [(q16, .inl (cI, 4, .inl (fun _ => nI 0)))]) := hD
  refine lv_aload_n hx hb nd_LK_init_21 rfl (lv_at hl 0 rfl) ?_
  refine wi_ic hx hb (a := 2) nd_LK_init_22 ?_
  refine va_put (D := D) (C := nr_LK) (T := nt_LK) (N := 4) hx hb htg tf_LK nu_LK no_LK nn_LK hown hK hP hD hS 0 rfl rfl 3 (by decide) (htg _ tm_87) (fun _ h => h) rfl rfl rfl rfl (Nat.le_of_ble_eq_true rfl) nd_LK_init_23 (fun H locs hP hD hS => ?_)
  have hP : va_P D cl_all ([(a, .inr (5, [.null, .ref q7, .ref q16, .int (nI (2))]))] ++ [(q7, .inl (cG, 4, .inr (.inr (.inr (.inr (fun i => if i < 4 then some (r7 i) else none))))))] ++ rw_R cI 4 r7 (fun _ _ => nI 0) 4 ++ [(q16, .inl (cI, 4, .inl (fun _ => nI 0)))]) H := hP
  have hD : va_D A ([(a, .inr (5, [.null, .ref q7, .ref q16, .int (nI (2))]))] ++ [(q7, .inl (cG, 4, .inr (.inr (.inr (.inr (fun i => if i < 4 then some (r7 i) else none))))))] ++ rw_R cI 4 r7 (fun _ _ => nI 0) 4 ++ [(q16, .inl (cI, 4, .inl (fun _ => nI 0)))]) := hD
  refine lv_aload_n hx hb nd_LK_init_26 rfl (lv_at hl 0 rfl) ?_
  refine lv_iload_n hx hb nd_LK_init_27 rfl (lv_at hl 1 rfl) ?_
  refine wi_ic hx hb (a := 4) nd_LK_init_28 ?_
  refine wn_mna hx hb hown htg tm_83 h6 hK hP hD hS hA (N' := n) (K' := 4) (by omega) (by omega) (show 6 + (1 + n) ≤ 17 by omega) (show 24 + (n + n * 4) ≤ 74 by omega) nd_LK_init_29 (fun q29 r29 H hP hD hS => ?_)
  refine W.widen (k := 17) (n := 74) (by omega) (by omega) ?_
  have hCS : 17 ≤ ({ frames := 2, cells := 17, slots := 74, locals := 32 } : Room).cells ∧ 74 ≤ ({ frames := 2, cells := 17, slots := 74, locals := 32 } : Room).slots := ⟨by decide, by decide⟩
  have hP : va_P D cl_all ([(a, .inr (5, [.null, .ref q7, .ref q16, .int (nI (2))]))] ++ [(q7, .inl (cG, 4, .inr (.inr (.inr (.inr (fun i => if i < 4 then some (r7 i) else none))))))] ++ rw_R cI 4 r7 (fun _ _ => nI 0) 4 ++ [(q16, .inl (cI, 4, .inl (fun _ => nI 0)))] ++ [(q29, .inl (cG, n, .inr (.inr (.inr (.inr (fun i => if i < n then some (r29 i) else none))))))] ++ rw_R cI 4 r29 (fun _ _ => nI 0) n) H := hP
  have hD : va_D A ([(a, .inr (5, [.null, .ref q7, .ref q16, .int (nI (2))]))] ++ [(q7, .inl (cG, 4, .inr (.inr (.inr (.inr (fun i => if i < 4 then some (r7 i) else none))))))] ++ rw_R cI 4 r7 (fun _ _ => nI 0) 4 ++ [(q16, .inl (cI, 4, .inl (fun _ => nI 0)))] ++ [(q29, .inl (cG, n, .inr (.inr (.inr (.inr (fun i => if i < n then some (r29 i) else none))))))] ++ rw_R cI 4 r29 (fun _ _ => nI 0) n) := hD
  refine va_putF (D := D) (C := nr_LK) (T := nt_LK) (N := 4) hx hb htg tf_LK nu_LK no_LK nn_LK hown hK hP hD hS 0 rfl rfl 0 (by decide) (htg _ tm_84) (fun _ h => h) rfl hin rfl rfl rfl rfl (Nat.le_of_ble_eq_true rfl) nd_LK_init_33 (fun H locs hP hD hS => ?_)
  have hP : va_P D cl_all ([(a, .inr (5, [.ref q29, .ref q7, .ref q16, .int (nI (2))]))] ++ [(q7, .inl (cG, 4, .inr (.inr (.inr (.inr (fun i => if i < 4 then some (r7 i) else none))))))] ++ rw_R cI 4 r7 (fun _ _ => nI 0) 4 ++ [(q16, .inl (cI, 4, .inl (fun _ => nI 0)))] ++ [(q29, .inl (cG, n, .inr (.inr (.inr (.inr (fun i => if i < n then some (r29 i) else none))))))] ++ rw_R cI 4 r29 (fun _ _ => nI 0) n) H := hP
  have hD : va_D A ([(a, .inr (5, [.ref q29, .ref q7, .ref q16, .int (nI (2))]))] ++ [(q7, .inl (cG, 4, .inr (.inr (.inr (.inr (fun i => if i < 4 then some (r7 i) else none))))))] ++ rw_R cI 4 r7 (fun _ _ => nI 0) 4 ++ [(q16, .inl (cI, 4, .inl (fun _ => nI 0)))] ++ [(q29, .inl (cG, n, .inr (.inr (.inr (.inr (fun i => if i < n then some (r29 i) else none))))))] ++ rw_R cI 4 r29 (fun _ _ => nI 0) n) := hD
  have hP : va_P D cl_all (([(a, .inr (5, [.ref q29, .ref q7, .ref q16, .int (nI 2)])), (q7, .inl (cG, 4, .inr (.inr (.inr (.inr (fun i => if i < 4 then some (r7 i) else none)))))), (q16, .inl (cI, 4, .inl (fun _ => nI 0))), (q29, .inl (cG, n, .inr (.inr (.inr (.inr (fun i => if i < n then some (r29 i) else none))))))] ++ (rw_R cI 4 r7 (fun _ _ => nI 0) 4 ++ (rw_R cI 4 r29 (fun _ _ => nI 0) n ++ [])))) H := va_Pp (lk_perm _ _ _ _ _ _) hP
  have hD : va_D A (([(a, .inr (5, [.ref q29, .ref q7, .ref q16, .int (nI 2)])), (q7, .inl (cG, 4, .inr (.inr (.inr (.inr (fun i => if i < 4 then some (r7 i) else none)))))), (q16, .inl (cI, 4, .inl (fun _ => nI 0))), (q29, .inl (cG, n, .inr (.inr (.inr (.inr (fun i => if i < n then some (r29 i) else none))))))] ++ (rw_R cI 4 r7 (fun _ _ => nI 0) 4 ++ (rw_R cI 4 r29 (fun _ _ => nI 0) n ++ [])))) := va_Dp (lk_perm _ _ _ _ _ _) hD
  refine W.widen (k := 17) (n := 74) (by decide) (by decide) ?_
  exact wb_vret (q7, q16, q29, r7, r29) hx hb hr hk hAe trivial hP hD hS nd_LK_init_36
def nn_ (x : Int32) : Nat := if x < nI 1 ∨ nI 10 < x then 8 else x.toNatClampNeg
theorem nn_ok (x : Int32) : 1 ≤ nn_ x ∧ nn_ x ≤ 10 := by
  unfold nn_
  by_cases h : x < nI 1 ∨ nI 10 < x
  · rw [if_pos h]; omega
  · rw [if_neg h]
    have h1 := Int32.le_iff_toInt_le.mp (Int32.not_lt.mp (fun z => h (Or.inl z)))
    have h2 := Int32.le_iff_toInt_le.mp (Int32.not_lt.mp (fun z => h (Or.inr z)))
    rw [nI_toInt (by omega)] at h1 h2
    have : (x.toNatClampNeg : Int) = x.toInt := by
      show (x.toInt.toNat : Int) = x.toInt
      omega
    omega
theorem nn_bad {x : Int32} (h : x < nI 1 ∨ nI 10 < x) : nn_ x = 8 := if_pos h
theorem nn_good {x : Int32} (h1 : ¬ x < nI 1) (h2 : ¬ nI 10 < x) : nI (nn_ x) = x := by
  have h : ¬ (x < nI 1 ∨ nI 10 < x) := fun z => z.elim h1 h2
  have a := Int32.le_iff_toInt_le.mp (Int32.not_lt.mp h1)
  rw [nI_toInt (by omega)] at a
  obtain ⟨k, hk, rfl⟩ := nI_of (x := x) (fun z => by have := Int32.lt_iff_toInt_lt.mp z; have h0 : (0 : Int32).toInt = 0 := (by decide); omega)
  unfold nn_
  rw [if_neg h, nI_clamp hk]
theorem nd_CM_init_0 : decode nc_CM_init 0 = .ok (.aload_n 0, 1) := by decide +kernel
theorem nd_CM_init_1 : decode nc_CM_init 1 = .ok (.invokespecial 1, 3) := by decide +kernel
theorem nd_CM_init_4 : decode nc_CM_init 4 = .ok (.aload_n 0, 1) := by decide +kernel
theorem nd_CM_init_5 : decode nc_CM_init 5 = .ok (.bipush 10, 2) := by decide +kernel
theorem nd_CM_init_7 : decode nc_CM_init 7 = .ok (.newarray .int, 2) := by decide +kernel
theorem nd_CM_init_9 : decode nc_CM_init 9 = .ok (.putfield 7, 3) := by decide +kernel
theorem nd_CM_init_12 : decode nc_CM_init 12 = .ok (.aload_n 0, 1) := by decide +kernel
theorem nd_CM_init_13 : decode nc_CM_init 13 = .ok (.iconst 2, 1) := by decide +kernel
theorem nd_CM_init_14 : decode nc_CM_init 14 = .ok (.newarray .int, 2) := by decide +kernel
theorem nd_CM_init_16 : decode nc_CM_init 16 = .ok (.putfield 13, 3) := by decide +kernel
theorem nd_CM_init_19 : decode nc_CM_init 19 = .ok (.aload_n 0, 1) := by decide +kernel
theorem nd_CM_init_20 : decode nc_CM_init 20 = .ok (.iconst 2, 1) := by decide +kernel
theorem nd_CM_init_21 : decode nc_CM_init 21 = .ok (.newarray .int, 2) := by decide +kernel
theorem nd_CM_init_23 : decode nc_CM_init 23 = .ok (.putfield 16, 3) := by decide +kernel
theorem nd_CM_init_26 : decode nc_CM_init 26 = .ok (.aload_n 0, 1) := by decide +kernel
theorem nd_CM_init_27 : decode nc_CM_init 27 = .ok (.iconst 2, 1) := by decide +kernel
theorem nd_CM_init_28 : decode nc_CM_init 28 = .ok (.newarray .int, 2) := by decide +kernel
theorem nd_CM_init_30 : decode nc_CM_init 30 = .ok (.putfield 19, 3) := by decide +kernel
theorem nd_CM_init_33 : decode nc_CM_init 33 = .ok (.aload_n 0, 1) := by decide +kernel
theorem nd_CM_init_34 : decode nc_CM_init 34 = .ok (.bipush 20, 2) := by decide +kernel
theorem nd_CM_init_36 : decode nc_CM_init 36 = .ok (.newarray .int, 2) := by decide +kernel
theorem nd_CM_init_38 : decode nc_CM_init 38 = .ok (.putfield 22, 3) := by decide +kernel
theorem nd_CM_init_41 : decode nc_CM_init 41 = .ok (.aload_n 0, 1) := by decide +kernel
theorem nd_CM_init_42 : decode nc_CM_init 42 = .ok (.bipush 20, 2) := by decide +kernel
theorem nd_CM_init_44 : decode nc_CM_init 44 = .ok (.newarray .int, 2) := by decide +kernel
theorem nd_CM_init_46 : decode nc_CM_init 46 = .ok (.putfield 25, 3) := by decide +kernel
theorem nd_CM_init_49 : decode nc_CM_init 49 = .ok (.aload_n 0, 1) := by decide +kernel
theorem nd_CM_init_50 : decode nc_CM_init 50 = .ok (.bipush 20, 2) := by decide +kernel
theorem nd_CM_init_52 : decode nc_CM_init 52 = .ok (.newarray .int, 2) := by decide +kernel
theorem nd_CM_init_54 : decode nc_CM_init 54 = .ok (.putfield 28, 3) := by decide +kernel
theorem nd_CM_init_57 : decode nc_CM_init 57 = .ok (.aload_n 0, 1) := by decide +kernel
theorem nd_CM_init_58 : decode nc_CM_init 58 = .ok (.bipush 8, 2) := by decide +kernel
theorem nd_CM_init_60 : decode nc_CM_init 60 = .ok (.newarray .int, 2) := by decide +kernel
theorem nd_CM_init_62 : decode nc_CM_init 62 = .ok (.putfield 31, 3) := by decide +kernel
theorem nd_CM_init_65 : decode nc_CM_init 65 = .ok (.aload_n 0, 1) := by decide +kernel
theorem nd_CM_init_66 : decode nc_CM_init 66 = .ok (.bipush 80, 2) := by decide +kernel
theorem nd_CM_init_68 : decode nc_CM_init 68 = .ok (.newarray .int, 2) := by decide +kernel
theorem nd_CM_init_70 : decode nc_CM_init 70 = .ok (.putfield 34, 3) := by decide +kernel
theorem nd_CM_init_73 : decode nc_CM_init 73 = .ok (.aload_n 0, 1) := by decide +kernel
theorem nd_CM_init_74 : decode nc_CM_init 74 = .ok (.bipush 8, 2) := by decide +kernel
theorem nd_CM_init_76 : decode nc_CM_init 76 = .ok (.newarray .int, 2) := by decide +kernel
theorem nd_CM_init_78 : decode nc_CM_init 78 = .ok (.putfield 37, 3) := by decide +kernel
theorem nd_CM_init_81 : decode nc_CM_init 81 = .ok (.aload_n 0, 1) := by decide +kernel
theorem nd_CM_init_82 : decode nc_CM_init 82 = .ok (.bipush 16, 2) := by decide +kernel
theorem nd_CM_init_84 : decode nc_CM_init 84 = .ok (.newarray .int, 2) := by decide +kernel
theorem nd_CM_init_86 : decode nc_CM_init 86 = .ok (.putfield 40, 3) := by decide +kernel
theorem nd_CM_init_89 : decode nc_CM_init 89 = .ok (.aload_n 0, 1) := by decide +kernel
theorem nd_CM_init_90 : decode nc_CM_init 90 = .ok (.bipush 16, 2) := by decide +kernel
theorem nd_CM_init_92 : decode nc_CM_init 92 = .ok (.newarray .int, 2) := by decide +kernel
theorem nd_CM_init_94 : decode nc_CM_init 94 = .ok (.putfield 43, 3) := by decide +kernel
theorem nd_CM_init_97 : decode nc_CM_init 97 = .ok (.aload_n 0, 1) := by decide +kernel
theorem nd_CM_init_98 : decode nc_CM_init 98 = .ok (.sipush 2048, 3) := by decide +kernel
theorem nd_CM_init_101 : decode nc_CM_init 101 = .ok (.newarray .int, 2) := by decide +kernel
theorem nd_CM_init_103 : decode nc_CM_init 103 = .ok (.putfield 46, 3) := by decide +kernel
theorem nd_CM_init_106 : decode nc_CM_init 106 = .ok (.aload_n 0, 1) := by decide +kernel
theorem nd_CM_init_107 : decode nc_CM_init 107 = .ok (.iload_n 1, 1) := by decide +kernel
theorem nd_CM_init_108 : decode nc_CM_init 108 = .ok (.iconst 1, 1) := by decide +kernel
theorem nd_CM_init_109 : decode nc_CM_init 109 = .ok (.if_icmp .lt 9, 3) := by decide +kernel
theorem nd_CM_init_112 : decode nc_CM_init 112 = .ok (.iload_n 1, 1) := by decide +kernel
theorem nd_CM_init_113 : decode nc_CM_init 113 = .ok (.bipush 10, 2) := by decide +kernel
theorem nd_CM_init_115 : decode nc_CM_init 115 = .ok (.if_icmp .le 8, 3) := by decide +kernel
theorem nd_CM_init_118 : decode nc_CM_init 118 = .ok (.bipush 8, 2) := by decide +kernel
theorem nd_CM_init_120 : decode nc_CM_init 120 = .ok (.goto 4, 3) := by decide +kernel
theorem nd_CM_init_123 : decode nc_CM_init 123 = .ok (.iload_n 1, 1) := by decide +kernel
theorem nd_CM_init_124 : decode nc_CM_init 124 = .ok (.putfield 49, 3) := by decide +kernel
theorem nd_CM_init_127 : decode nc_CM_init 127 = .ok (.return_, 1) := by decide +kernel
set_option maxRecDepth 20000 in
theorem c_CM_init (l : Launch) (D : va_G) (cI cG cM : ClassId)  (a : Nat) (x : Int32) (sz : Nat) : wz_M l ny_CM_init nc_CM_init 2 ({ frames := 1, cells := 13, slots := 2252, locals := 12 }) D (ty_all cI cG cM) ([(a, .inr (6, [.int (nI (0)), .null, .null, .null, .null, .null, .null, .null, .null, .null, .null, .null, .null, .null]))]) sz [.ref a, .int (x)] 13 2252 (fun u : Nat → Nat => u 0 = a) (fun u : Nat → Nat => rf_ cI u (nn_ x) (fun _ _ => nI 0)) := by
  refine wz_start (by decide) (Nat.le_of_ble_eq_true rfl) ?_
  intro p e0 s0 m below meth c ls A hx hb hr hml htg hown hk hP hK hN hl hAe hsz hD hA hin h5 h6
  have hl : lv_has ls 2 [(0, .ref a), (1, .int (x))] := hl
  have hS : va_S A s0.heap s0.heap [] := va_S.rf
  have hRf : 1 ≤ ({ frames := 1, cells := 13, slots := 2252, locals := 12 } : Room).frames := Nat.le_refl _
  have hRl : 12 ≤ ({ frames := 1, cells := 13, slots := 2252, locals := 12 } : Room).locals := Nat.le_refl _
  have hCS : 0 ≤ ({ frames := 1, cells := 13, slots := 2252, locals := 12 } : Room).cells ∧ 0 ≤ ({ frames := 1, cells := 13, slots := 2252, locals := 12 } : Room).slots := ⟨Nat.zero_le _, Nat.zero_le _⟩
  refine lv_aload_n hx hb nd_CM_init_0 rfl (lv_at hl 0 rfl) ?_
  refine W.objInit hx hb hown (htg _ tm_382) (htg _ tm_19) (htg _ tm_20) rfl (by rw [hml]; exact hl.1) rfl nd_CM_init_1 (Nat.le_of_ble_eq_true rfl) (Nat.le_of_ble_eq_true rfl) ?_
  refine W.eq (g2 := F0 m 4 ls []) rfl ?_
  refine lv_aload_n hx hb nd_CM_init_4 rfl (lv_at hl 0 rfl) ?_
  refine lv_bipush (v := nI 10) hx hb nd_CM_init_5 (by decide) ?_
  refine wn_newa hx hb htg hK hP hD hS hA (N' := 10) (by omega) (show 0 + 1 ≤ 13 by decide) (show 0 + 10 ≤ 2252 by omega) nd_CM_init_7 (fun q7 H hP hD hS => ?_)
  refine W.widen (k := 1) (n := 10) (by omega) (by omega) ?_
  have hCS : 1 ≤ ({ frames := 1, cells := 13, slots := 2252, locals := 12 } : Room).cells ∧ 10 ≤ ({ frames := 1, cells := 13, slots := 2252, locals := 12 } : Room).slots := ⟨by decide, by decide⟩
  have hP : va_P D cl_all ([(a, .inr (6, [.int (nI (0)), .null, .null, .null, .null, .null, .null, .null, .null, .null, .null, .null, .null, .null])), (q7, .inl (cI, 10, .inl (fun _ => nI 0)))]) H := hP
  have hD : va_D A ([(a, .inr (6, [.int (nI (0)), .null, .null, .null, .null, .null, .null, .null, .null, .null, .null, .null, .null, .null])), (q7, .inl (cI, 10, .inl (fun _ => nI 0)))]) := hD
  refine va_put (D := D) (C := nr_CM) (T := nt_CM) (N := 14) hx hb htg tf_CM nu_CM no_CM nn_CM hown hK hP hD hS 0 rfl rfl 1 (by decide) (htg _ tm_384) (fun _ h => h) rfl rfl rfl rfl (Nat.le_of_ble_eq_true rfl) nd_CM_init_9 (fun H locs hP hD hS => ?_)
  have hP : va_P D cl_all ([(a, .inr (6, [.int (nI (0)), .ref q7, .null, .null, .null, .null, .null, .null, .null, .null, .null, .null, .null, .null])), (q7, .inl (cI, 10, .inl (fun _ => nI 0)))]) H := hP
  have hD : va_D A ([(a, .inr (6, [.int (nI (0)), .ref q7, .null, .null, .null, .null, .null, .null, .null, .null, .null, .null, .null, .null])), (q7, .inl (cI, 10, .inl (fun _ => nI 0)))]) := hD
  refine lv_aload_n hx hb nd_CM_init_12 rfl (lv_at hl 0 rfl) ?_
  refine wi_ic hx hb (a := 2) nd_CM_init_13 ?_
  refine wn_newa hx hb htg hK hP hD hS hA (N' := 2) (by omega) (show 1 + 1 ≤ 13 by decide) (show 10 + 2 ≤ 2252 by omega) nd_CM_init_14 (fun q14 H hP hD hS => ?_)
  refine W.widen (k := 2) (n := 12) (by omega) (by omega) ?_
  have hCS : 2 ≤ ({ frames := 1, cells := 13, slots := 2252, locals := 12 } : Room).cells ∧ 12 ≤ ({ frames := 1, cells := 13, slots := 2252, locals := 12 } : Room).slots := ⟨by decide, by decide⟩
  have hP : va_P D cl_all ([(a, .inr (6, [.int (nI (0)), .ref q7, .null, .null, .null, .null, .null, .null, .null, .null, .null, .null, .null, .null])), (q7, .inl (cI, 10, .inl (fun _ => nI 0))), (q14, .inl (cI, 2, .inl (fun _ => nI 0)))]) H := hP
  have hD : va_D A ([(a, .inr (6, [.int (nI (0)), .ref q7, .null, .null, .null, .null, .null, .null, .null, .null, .null, .null, .null, .null])), (q7, .inl (cI, 10, .inl (fun _ => nI 0))), (q14, .inl (cI, 2, .inl (fun _ => nI 0)))]) := hD
  refine va_put (D := D) (C := nr_CM) (T := nt_CM) (N := 14) hx hb htg tf_CM nu_CM no_CM nn_CM hown hK hP hD hS 0 rfl rfl 2 (by decide) (htg _ tm_385) (fun _ h => h) rfl rfl rfl rfl (Nat.le_of_ble_eq_true rfl) nd_CM_init_16 (fun H locs hP hD hS => ?_)
  have hP : va_P D cl_all ([(a, .inr (6, [.int (nI (0)), .ref q7, .ref q14, .null, .null, .null, .null, .null, .null, .null, .null, .null, .null, .null])), (q7, .inl (cI, 10, .inl (fun _ => nI 0))), (q14, .inl (cI, 2, .inl (fun _ => nI 0)))]) H := hP
  have hD : va_D A ([(a, .inr (6, [.int (nI (0)), .ref q7, .ref q14, .null, .null, .null, .null, .null, .null, .null, .null, .null, .null, .null])), (q7, .inl (cI, 10, .inl (fun _ => nI 0))), (q14, .inl (cI, 2, .inl (fun _ => nI 0)))]) := hD
  refine lv_aload_n hx hb nd_CM_init_19 rfl (lv_at hl 0 rfl) ?_
  refine wi_ic hx hb (a := 2) nd_CM_init_20 ?_
  refine wn_newa hx hb htg hK hP hD hS hA (N' := 2) (by omega) (show 2 + 1 ≤ 13 by decide) (show 12 + 2 ≤ 2252 by omega) nd_CM_init_21 (fun q21 H hP hD hS => ?_)
  refine W.widen (k := 3) (n := 14) (by omega) (by omega) ?_
  have hCS : 3 ≤ ({ frames := 1, cells := 13, slots := 2252, locals := 12 } : Room).cells ∧ 14 ≤ ({ frames := 1, cells := 13, slots := 2252, locals := 12 } : Room).slots := ⟨by decide, by decide⟩
  have hP : va_P D cl_all ([(a, .inr (6, [.int (nI (0)), .ref q7, .ref q14, .null, .null, .null, .null, .null, .null, .null, .null, .null, .null, .null])), (q7, .inl (cI, 10, .inl (fun _ => nI 0))), (q14, .inl (cI, 2, .inl (fun _ => nI 0))), (q21, .inl (cI, 2, .inl (fun _ => nI 0)))]) H := hP
  have hD : va_D A ([(a, .inr (6, [.int (nI (0)), .ref q7, .ref q14, .null, .null, .null, .null, .null, .null, .null, .null, .null, .null, .null])), (q7, .inl (cI, 10, .inl (fun _ => nI 0))), (q14, .inl (cI, 2, .inl (fun _ => nI 0))), (q21, .inl (cI, 2, .inl (fun _ => nI 0)))]) := hD
  refine va_put (D := D) (C := nr_CM) (T := nt_CM) (N := 14) hx hb htg tf_CM nu_CM no_CM nn_CM hown hK hP hD hS 0 rfl rfl 3 (by decide) (htg _ tm_386) (fun _ h => h) rfl rfl rfl rfl (Nat.le_of_ble_eq_true rfl) nd_CM_init_23 (fun H locs hP hD hS => ?_)
  have hP : va_P D cl_all ([(a, .inr (6, [.int (nI (0)), .ref q7, .ref q14, .ref q21, .null, .null, .null, .null, .null, .null, .null, .null, .null, .null])), (q7, .inl (cI, 10, .inl (fun _ => nI 0))), (q14, .inl (cI, 2, .inl (fun _ => nI 0))), (q21, .inl (cI, 2, .inl (fun _ => nI 0)))]) H := hP
  have hD : va_D A ([(a, .inr (6, [.int (nI (0)), .ref q7, .ref q14, .ref q21, .null, .null, .null, .null, .null, .null, .null, .null, .null, .null])), (q7, .inl (cI, 10, .inl (fun _ => nI 0))), (q14, .inl (cI, 2, .inl (fun _ => nI 0))), (q21, .inl (cI, 2, .inl (fun _ => nI 0)))]) := hD
  refine lv_aload_n hx hb nd_CM_init_26 rfl (lv_at hl 0 rfl) ?_
  refine wi_ic hx hb (a := 2) nd_CM_init_27 ?_
  refine wn_newa hx hb htg hK hP hD hS hA (N' := 2) (by omega) (show 3 + 1 ≤ 13 by decide) (show 14 + 2 ≤ 2252 by omega) nd_CM_init_28 (fun q28 H hP hD hS => ?_)
  refine W.widen (k := 4) (n := 16) (by omega) (by omega) ?_
  have hCS : 4 ≤ ({ frames := 1, cells := 13, slots := 2252, locals := 12 } : Room).cells ∧ 16 ≤ ({ frames := 1, cells := 13, slots := 2252, locals := 12 } : Room).slots := ⟨by decide, by decide⟩
  have hP : va_P D cl_all ([(a, .inr (6, [.int (nI (0)), .ref q7, .ref q14, .ref q21, .null, .null, .null, .null, .null, .null, .null, .null, .null, .null])), (q7, .inl (cI, 10, .inl (fun _ => nI 0))), (q14, .inl (cI, 2, .inl (fun _ => nI 0))), (q21, .inl (cI, 2, .inl (fun _ => nI 0))), (q28, .inl (cI, 2, .inl (fun _ => nI 0)))]) H := hP
  have hD : va_D A ([(a, .inr (6, [.int (nI (0)), .ref q7, .ref q14, .ref q21, .null, .null, .null, .null, .null, .null, .null, .null, .null, .null])), (q7, .inl (cI, 10, .inl (fun _ => nI 0))), (q14, .inl (cI, 2, .inl (fun _ => nI 0))), (q21, .inl (cI, 2, .inl (fun _ => nI 0))), (q28, .inl (cI, 2, .inl (fun _ => nI 0)))]) := hD
  refine va_put (D := D) (C := nr_CM) (T := nt_CM) (N := 14) hx hb htg tf_CM nu_CM no_CM nn_CM hown hK hP hD hS 0 rfl rfl 4 (by decide) (htg _ tm_387) (fun _ h => h) rfl rfl rfl rfl (Nat.le_of_ble_eq_true rfl) nd_CM_init_30 (fun H locs hP hD hS => ?_)
  have hP : va_P D cl_all ([(a, .inr (6, [.int (nI (0)), .ref q7, .ref q14, .ref q21, .ref q28, .null, .null, .null, .null, .null, .null, .null, .null, .null])), (q7, .inl (cI, 10, .inl (fun _ => nI 0))), (q14, .inl (cI, 2, .inl (fun _ => nI 0))), (q21, .inl (cI, 2, .inl (fun _ => nI 0))), (q28, .inl (cI, 2, .inl (fun _ => nI 0)))]) H := hP
  have hD : va_D A ([(a, .inr (6, [.int (nI (0)), .ref q7, .ref q14, .ref q21, .ref q28, .null, .null, .null, .null, .null, .null, .null, .null, .null])), (q7, .inl (cI, 10, .inl (fun _ => nI 0))), (q14, .inl (cI, 2, .inl (fun _ => nI 0))), (q21, .inl (cI, 2, .inl (fun _ => nI 0))), (q28, .inl (cI, 2, .inl (fun _ => nI 0)))]) := hD
  refine lv_aload_n hx hb nd_CM_init_33 rfl (lv_at hl 0 rfl) ?_
  refine lv_bipush (v := nI 20) hx hb nd_CM_init_34 (by decide) ?_
  refine wn_newa hx hb htg hK hP hD hS hA (N' := 20) (by omega) (show 4 + 1 ≤ 13 by decide) (show 16 + 20 ≤ 2252 by omega) nd_CM_init_36 (fun q36 H hP hD hS => ?_)
  refine W.widen (k := 5) (n := 36) (by omega) (by omega) ?_
  have hCS : 5 ≤ ({ frames := 1, cells := 13, slots := 2252, locals := 12 } : Room).cells ∧ 36 ≤ ({ frames := 1, cells := 13, slots := 2252, locals := 12 } : Room).slots := ⟨by decide, by decide⟩
  have hP : va_P D cl_all ([(a, .inr (6, [.int (nI (0)), .ref q7, .ref q14, .ref q21, .ref q28, .null, .null, .null, .null, .null, .null, .null, .null, .null])), (q7, .inl (cI, 10, .inl (fun _ => nI 0))), (q14, .inl (cI, 2, .inl (fun _ => nI 0))), (q21, .inl (cI, 2, .inl (fun _ => nI 0))), (q28, .inl (cI, 2, .inl (fun _ => nI 0))), (q36, .inl (cI, 20, .inl (fun _ => nI 0)))]) H := hP
  have hD : va_D A ([(a, .inr (6, [.int (nI (0)), .ref q7, .ref q14, .ref q21, .ref q28, .null, .null, .null, .null, .null, .null, .null, .null, .null])), (q7, .inl (cI, 10, .inl (fun _ => nI 0))), (q14, .inl (cI, 2, .inl (fun _ => nI 0))), (q21, .inl (cI, 2, .inl (fun _ => nI 0))), (q28, .inl (cI, 2, .inl (fun _ => nI 0))), (q36, .inl (cI, 20, .inl (fun _ => nI 0)))]) := hD
  refine va_put (D := D) (C := nr_CM) (T := nt_CM) (N := 14) hx hb htg tf_CM nu_CM no_CM nn_CM hown hK hP hD hS 0 rfl rfl 5 (by decide) (htg _ tm_388) (fun _ h => h) rfl rfl rfl rfl (Nat.le_of_ble_eq_true rfl) nd_CM_init_38 (fun H locs hP hD hS => ?_)
  have hP : va_P D cl_all ([(a, .inr (6, [.int (nI (0)), .ref q7, .ref q14, .ref q21, .ref q28, .ref q36, .null, .null, .null, .null, .null, .null, .null, .null])), (q7, .inl (cI, 10, .inl (fun _ => nI 0))), (q14, .inl (cI, 2, .inl (fun _ => nI 0))), (q21, .inl (cI, 2, .inl (fun _ => nI 0))), (q28, .inl (cI, 2, .inl (fun _ => nI 0))), (q36, .inl (cI, 20, .inl (fun _ => nI 0)))]) H := hP
  have hD : va_D A ([(a, .inr (6, [.int (nI (0)), .ref q7, .ref q14, .ref q21, .ref q28, .ref q36, .null, .null, .null, .null, .null, .null, .null, .null])), (q7, .inl (cI, 10, .inl (fun _ => nI 0))), (q14, .inl (cI, 2, .inl (fun _ => nI 0))), (q21, .inl (cI, 2, .inl (fun _ => nI 0))), (q28, .inl (cI, 2, .inl (fun _ => nI 0))), (q36, .inl (cI, 20, .inl (fun _ => nI 0)))]) := hD
  refine lv_aload_n hx hb nd_CM_init_41 rfl (lv_at hl 0 rfl) ?_
  refine lv_bipush (v := nI 20) hx hb nd_CM_init_42 (by decide) ?_
  refine wn_newa hx hb htg hK hP hD hS hA (N' := 20) (by omega) (show 5 + 1 ≤ 13 by decide) (show 36 + 20 ≤ 2252 by omega) nd_CM_init_44 (fun q44 H hP hD hS => ?_)
  refine W.widen (k := 6) (n := 56) (by omega) (by omega) ?_
  have hCS : 6 ≤ ({ frames := 1, cells := 13, slots := 2252, locals := 12 } : Room).cells ∧ 56 ≤ ({ frames := 1, cells := 13, slots := 2252, locals := 12 } : Room).slots := ⟨by decide, by decide⟩
  have hP : va_P D cl_all ([(a, .inr (6, [.int (nI (0)), .ref q7, .ref q14, .ref q21, .ref q28, .ref q36, .null, .null, .null, .null, .null, .null, .null, .null])), (q7, .inl (cI, 10, .inl (fun _ => nI 0))), (q14, .inl (cI, 2, .inl (fun _ => nI 0))), (q21, .inl (cI, 2, .inl (fun _ => nI 0))), (q28, .inl (cI, 2, .inl (fun _ => nI 0))), (q36, .inl (cI, 20, .inl (fun _ => nI 0))), (q44, .inl (cI, 20, .inl (fun _ => nI 0)))]) H := hP
  have hD : va_D A ([(a, .inr (6, [.int (nI (0)), .ref q7, .ref q14, .ref q21, .ref q28, .ref q36, .null, .null, .null, .null, .null, .null, .null, .null])), (q7, .inl (cI, 10, .inl (fun _ => nI 0))), (q14, .inl (cI, 2, .inl (fun _ => nI 0))), (q21, .inl (cI, 2, .inl (fun _ => nI 0))), (q28, .inl (cI, 2, .inl (fun _ => nI 0))), (q36, .inl (cI, 20, .inl (fun _ => nI 0))), (q44, .inl (cI, 20, .inl (fun _ => nI 0)))]) := hD
  refine va_put (D := D) (C := nr_CM) (T := nt_CM) (N := 14) hx hb htg tf_CM nu_CM no_CM nn_CM hown hK hP hD hS 0 rfl rfl 6 (by decide) (htg _ tm_389) (fun _ h => h) rfl rfl rfl rfl (Nat.le_of_ble_eq_true rfl) nd_CM_init_46 (fun H locs hP hD hS => ?_)
  have hP : va_P D cl_all ([(a, .inr (6, [.int (nI (0)), .ref q7, .ref q14, .ref q21, .ref q28, .ref q36, .ref q44, .null, .null, .null, .null, .null, .null, .null])), (q7, .inl (cI, 10, .inl (fun _ => nI 0))), (q14, .inl (cI, 2, .inl (fun _ => nI 0))), (q21, .inl (cI, 2, .inl (fun _ => nI 0))), (q28, .inl (cI, 2, .inl (fun _ => nI 0))), (q36, .inl (cI, 20, .inl (fun _ => nI 0))), (q44, .inl (cI, 20, .inl (fun _ => nI 0)))]) H := hP
  have hD : va_D A ([(a, .inr (6, [.int (nI (0)), .ref q7, .ref q14, .ref q21, .ref q28, .ref q36, .ref q44, .null, .null, .null, .null, .null, .null, .null])), (q7, .inl (cI, 10, .inl (fun _ => nI 0))), (q14, .inl (cI, 2, .inl (fun _ => nI 0))), (q21, .inl (cI, 2, .inl (fun _ => nI 0))), (q28, .inl (cI, 2, .inl (fun _ => nI 0))), (q36, .inl (cI, 20, .inl (fun _ => nI 0))), (q44, .inl (cI, 20, .inl (fun _ => nI 0)))]) := hD
  refine lv_aload_n hx hb nd_CM_init_49 rfl (lv_at hl 0 rfl) ?_
  refine lv_bipush (v := nI 20) hx hb nd_CM_init_50 (by decide) ?_
  refine wn_newa hx hb htg hK hP hD hS hA (N' := 20) (by omega) (show 6 + 1 ≤ 13 by decide) (show 56 + 20 ≤ 2252 by omega) nd_CM_init_52 (fun q52 H hP hD hS => ?_)
  refine W.widen (k := 7) (n := 76) (by omega) (by omega) ?_
  have hCS : 7 ≤ ({ frames := 1, cells := 13, slots := 2252, locals := 12 } : Room).cells ∧ 76 ≤ ({ frames := 1, cells := 13, slots := 2252, locals := 12 } : Room).slots := ⟨by decide, by decide⟩
  have hP : va_P D cl_all ([(a, .inr (6, [.int (nI (0)), .ref q7, .ref q14, .ref q21, .ref q28, .ref q36, .ref q44, .null, .null, .null, .null, .null, .null, .null])), (q7, .inl (cI, 10, .inl (fun _ => nI 0))), (q14, .inl (cI, 2, .inl (fun _ => nI 0))), (q21, .inl (cI, 2, .inl (fun _ => nI 0))), (q28, .inl (cI, 2, .inl (fun _ => nI 0))), (q36, .inl (cI, 20, .inl (fun _ => nI 0))), (q44, .inl (cI, 20, .inl (fun _ => nI 0))), (q52, .inl (cI, 20, .inl (fun _ => nI 0)))]) H := hP
  have hD : va_D A ([(a, .inr (6, [.int (nI (0)), .ref q7, .ref q14, .ref q21, .ref q28, .ref q36, .ref q44, .null, .null, .null, .null, .null, .null, .null])), (q7, .inl (cI, 10, .inl (fun _ => nI 0))), (q14, .inl (cI, 2, .inl (fun _ => nI 0))), (q21, .inl (cI, 2, .inl (fun _ => nI 0))), (q28, .inl (cI, 2, .inl (fun _ => nI 0))), (q36, .inl (cI, 20, .inl (fun _ => nI 0))), (q44, .inl (cI, 20, .inl (fun _ => nI 0))), (q52, .inl (cI, 20, .inl (fun _ => nI 0)))]) := hD
  refine va_put (D := D) (C := nr_CM) (T := nt_CM) (N := 14) hx hb htg tf_CM nu_CM no_CM nn_CM hown hK hP hD hS 0 rfl rfl 7 (by decide) (htg _ tm_390) (fun _ h => h) rfl rfl rfl rfl (Nat.le_of_ble_eq_true rfl) nd_CM_init_54 (fun H locs hP hD hS => ?_)
  have hP : va_P D cl_all ([(a, .inr (6, [.int (nI (0)), .ref q7, .ref q14, .ref q21, .ref q28, .ref q36, .ref q44, .ref q52, .null, .null, .null, .null, .null, .null])), (q7, .inl (cI, 10, .inl (fun _ => nI 0))), (q14, .inl (cI, 2, .inl (fun _ => nI 0))), (q21, .inl (cI, 2, .inl (fun _ => nI 0))), (q28, .inl (cI, 2, .inl (fun _ => nI 0))), (q36, .inl (cI, 20, .inl (fun _ => nI 0))), (q44, .inl (cI, 20, .inl (fun _ => nI 0))), (q52, .inl (cI, 20, .inl (fun _ => nI 0)))]) H := hP
  have hD : va_D A ([(a, .inr (6, [.int (nI (0)), .ref q7, .ref q14, .ref q21, .ref q28, .ref q36, .ref q44, .ref q52, .null, .null, .null, .null, .null, .null])), (q7, .inl (cI, 10, .inl (fun _ => nI 0))), (q14, .inl (cI, 2, .inl (fun _ => nI 0))), (q21, .inl (cI, 2, .inl (fun _ => nI 0))), (q28, .inl (cI, 2, .inl (fun _ => nI 0))), (q36, .inl (cI, 20, .inl (fun _ => nI 0))), (q44, .inl (cI, 20, .inl (fun _ => nI 0))), (q52, .inl (cI, 20, .inl (fun _ => nI 0)))]) := hD
  refine lv_aload_n hx hb nd_CM_init_57 rfl (lv_at hl 0 rfl) ?_
  refine lv_bipush (v := nI 8) hx hb nd_CM_init_58 (by decide) ?_
  refine wn_newa hx hb htg hK hP hD hS hA (N' := 8) (by omega) (show 7 + 1 ≤ 13 by decide) (show 76 + 8 ≤ 2252 by omega) nd_CM_init_60 (fun q60 H hP hD hS => ?_)
  refine W.widen (k := 8) (n := 84) (by omega) (by omega) ?_
  have hCS : 8 ≤ ({ frames := 1, cells := 13, slots := 2252, locals := 12 } : Room).cells ∧ 84 ≤ ({ frames := 1, cells := 13, slots := 2252, locals := 12 } : Room).slots := ⟨by decide, by decide⟩
  have hP : va_P D cl_all ([(a, .inr (6, [.int (nI (0)), .ref q7, .ref q14, .ref q21, .ref q28, .ref q36, .ref q44, .ref q52, .null, .null, .null, .null, .null, .null])), (q7, .inl (cI, 10, .inl (fun _ => nI 0))), (q14, .inl (cI, 2, .inl (fun _ => nI 0))), (q21, .inl (cI, 2, .inl (fun _ => nI 0))), (q28, .inl (cI, 2, .inl (fun _ => nI 0))), (q36, .inl (cI, 20, .inl (fun _ => nI 0))), (q44, .inl (cI, 20, .inl (fun _ => nI 0))), (q52, .inl (cI, 20, .inl (fun _ => nI 0))), (q60, .inl (cI, 8, .inl (fun _ => nI 0)))]) H := hP
  have hD : va_D A ([(a, .inr (6, [.int (nI (0)), .ref q7, .ref q14, .ref q21, .ref q28, .ref q36, .ref q44, .ref q52, .null, .null, .null, .null, .null, .null])), (q7, .inl (cI, 10, .inl (fun _ => nI 0))), (q14, .inl (cI, 2, .inl (fun _ => nI 0))), (q21, .inl (cI, 2, .inl (fun _ => nI 0))), (q28, .inl (cI, 2, .inl (fun _ => nI 0))), (q36, .inl (cI, 20, .inl (fun _ => nI 0))), (q44, .inl (cI, 20, .inl (fun _ => nI 0))), (q52, .inl (cI, 20, .inl (fun _ => nI 0))), (q60, .inl (cI, 8, .inl (fun _ => nI 0)))]) := hD
  refine va_put (D := D) (C := nr_CM) (T := nt_CM) (N := 14) hx hb htg tf_CM nu_CM no_CM nn_CM hown hK hP hD hS 0 rfl rfl 8 (by decide) (htg _ tm_391) (fun _ h => h) rfl rfl rfl rfl (Nat.le_of_ble_eq_true rfl) nd_CM_init_62 (fun H locs hP hD hS => ?_)
  have hP : va_P D cl_all ([(a, .inr (6, [.int (nI (0)), .ref q7, .ref q14, .ref q21, .ref q28, .ref q36, .ref q44, .ref q52, .ref q60, .null, .null, .null, .null, .null])), (q7, .inl (cI, 10, .inl (fun _ => nI 0))), (q14, .inl (cI, 2, .inl (fun _ => nI 0))), (q21, .inl (cI, 2, .inl (fun _ => nI 0))), (q28, .inl (cI, 2, .inl (fun _ => nI 0))), (q36, .inl (cI, 20, .inl (fun _ => nI 0))), (q44, .inl (cI, 20, .inl (fun _ => nI 0))), (q52, .inl (cI, 20, .inl (fun _ => nI 0))), (q60, .inl (cI, 8, .inl (fun _ => nI 0)))]) H := hP
  have hD : va_D A ([(a, .inr (6, [.int (nI (0)), .ref q7, .ref q14, .ref q21, .ref q28, .ref q36, .ref q44, .ref q52, .ref q60, .null, .null, .null, .null, .null])), (q7, .inl (cI, 10, .inl (fun _ => nI 0))), (q14, .inl (cI, 2, .inl (fun _ => nI 0))), (q21, .inl (cI, 2, .inl (fun _ => nI 0))), (q28, .inl (cI, 2, .inl (fun _ => nI 0))), (q36, .inl (cI, 20, .inl (fun _ => nI 0))), (q44, .inl (cI, 20, .inl (fun _ => nI 0))), (q52, .inl (cI, 20, .inl (fun _ => nI 0))), (q60, .inl (cI, 8, .inl (fun _ => nI 0)))]) := hD
  refine lv_aload_n hx hb nd_CM_init_65 rfl (lv_at hl 0 rfl) ?_
  refine lv_bipush (v := nI 80) hx hb nd_CM_init_66 (by decide) ?_
  refine wn_newa hx hb htg hK hP hD hS hA (N' := 80) (by omega) (show 8 + 1 ≤ 13 by decide) (show 84 + 80 ≤ 2252 by omega) nd_CM_init_68 (fun q68 H hP hD hS => ?_)
  refine W.widen (k := 9) (n := 164) (by omega) (by omega) ?_
  have hCS : 9 ≤ ({ frames := 1, cells := 13, slots := 2252, locals := 12 } : Room).cells ∧ 164 ≤ ({ frames := 1, cells := 13, slots := 2252, locals := 12 } : Room).slots := ⟨by decide, by decide⟩
  have hP : va_P D cl_all ([(a, .inr (6, [.int (nI (0)), .ref q7, .ref q14, .ref q21, .ref q28, .ref q36, .ref q44, .ref q52, .ref q60, .null, .null, .null, .null, .null])), (q7, .inl (cI, 10, .inl (fun _ => nI 0))), (q14, .inl (cI, 2, .inl (fun _ => nI 0))), (q21, .inl (cI, 2, .inl (fun _ => nI 0))), (q28, .inl (cI, 2, .inl (fun _ => nI 0))), (q36, .inl (cI, 20, .inl (fun _ => nI 0))), (q44, .inl (cI, 20, .inl (fun _ => nI 0))), (q52, .inl (cI, 20, .inl (fun _ => nI 0))), (q60, .inl (cI, 8, .inl (fun _ => nI 0))), (q68, .inl (cI, 80, .inl (fun _ => nI 0)))]) H := hP
  have hD : va_D A ([(a, .inr (6, [.int (nI (0)), .ref q7, .ref q14, .ref q21, .ref q28, .ref q36, .ref q44, .ref q52, .ref q60, .null, .null, .null, .null, .null])), (q7, .inl (cI, 10, .inl (fun _ => nI 0))), (q14, .inl (cI, 2, .inl (fun _ => nI 0))), (q21, .inl (cI, 2, .inl (fun _ => nI 0))), (q28, .inl (cI, 2, .inl (fun _ => nI 0))), (q36, .inl (cI, 20, .inl (fun _ => nI 0))), (q44, .inl (cI, 20, .inl (fun _ => nI 0))), (q52, .inl (cI, 20, .inl (fun _ => nI 0))), (q60, .inl (cI, 8, .inl (fun _ => nI 0))), (q68, .inl (cI, 80, .inl (fun _ => nI 0)))]) := hD
  refine va_put (D := D) (C := nr_CM) (T := nt_CM) (N := 14) hx hb htg tf_CM nu_CM no_CM nn_CM hown hK hP hD hS 0 rfl rfl 9 (by decide) (htg _ tm_392) (fun _ h => h) rfl rfl rfl rfl (Nat.le_of_ble_eq_true rfl) nd_CM_init_70 (fun H locs hP hD hS => ?_)
  have hP : va_P D cl_all ([(a, .inr (6, [.int (nI (0)), .ref q7, .ref q14, .ref q21, .ref q28, .ref q36, .ref q44, .ref q52, .ref q60, .ref q68, .null, .null, .null, .null])), (q7, .inl (cI, 10, .inl (fun _ => nI 0))), (q14, .inl (cI, 2, .inl (fun _ => nI 0))), (q21, .inl (cI, 2, .inl (fun _ => nI 0))), (q28, .inl (cI, 2, .inl (fun _ => nI 0))), (q36, .inl (cI, 20, .inl (fun _ => nI 0))), (q44, .inl (cI, 20, .inl (fun _ => nI 0))), (q52, .inl (cI, 20, .inl (fun _ => nI 0))), (q60, .inl (cI, 8, .inl (fun _ => nI 0))), (q68, .inl (cI, 80, .inl (fun _ => nI 0)))]) H := hP
  have hD : va_D A ([(a, .inr (6, [.int (nI (0)), .ref q7, .ref q14, .ref q21, .ref q28, .ref q36, .ref q44, .ref q52, .ref q60, .ref q68, .null, .null, .null, .null])), (q7, .inl (cI, 10, .inl (fun _ => nI 0))), (q14, .inl (cI, 2, .inl (fun _ => nI 0))), (q21, .inl (cI, 2, .inl (fun _ => nI 0))), (q28, .inl (cI, 2, .inl (fun _ => nI 0))), (q36, .inl (cI, 20, .inl (fun _ => nI 0))), (q44, .inl (cI, 20, .inl (fun _ => nI 0))), (q52, .inl (cI, 20, .inl (fun _ => nI 0))), (q60, .inl (cI, 8, .inl (fun _ => nI 0))), (q68, .inl (cI, 80, .inl (fun _ => nI 0)))]) := hD
  refine lv_aload_n hx hb nd_CM_init_73 rfl (lv_at hl 0 rfl) ?_
  refine lv_bipush (v := nI 8) hx hb nd_CM_init_74 (by decide) ?_
  refine wn_newa hx hb htg hK hP hD hS hA (N' := 8) (by omega) (show 9 + 1 ≤ 13 by decide) (show 164 + 8 ≤ 2252 by omega) nd_CM_init_76 (fun q76 H hP hD hS => ?_)
  refine W.widen (k := 10) (n := 172) (by omega) (by omega) ?_
  have hCS : 10 ≤ ({ frames := 1, cells := 13, slots := 2252, locals := 12 } : Room).cells ∧ 172 ≤ ({ frames := 1, cells := 13, slots := 2252, locals := 12 } : Room).slots := ⟨by decide, by decide⟩
  have hP : va_P D cl_all ([(a, .inr (6, [.int (nI (0)), .ref q7, .ref q14, .ref q21, .ref q28, .ref q36, .ref q44, .ref q52, .ref q60, .ref q68, .null, .null, .null, .null])), (q7, .inl (cI, 10, .inl (fun _ => nI 0))), (q14, .inl (cI, 2, .inl (fun _ => nI 0))), (q21, .inl (cI, 2, .inl (fun _ => nI 0))), (q28, .inl (cI, 2, .inl (fun _ => nI 0))), (q36, .inl (cI, 20, .inl (fun _ => nI 0))), (q44, .inl (cI, 20, .inl (fun _ => nI 0))), (q52, .inl (cI, 20, .inl (fun _ => nI 0))), (q60, .inl (cI, 8, .inl (fun _ => nI 0))), (q68, .inl (cI, 80, .inl (fun _ => nI 0))), (q76, .inl (cI, 8, .inl (fun _ => nI 0)))]) H := hP
  have hD : va_D A ([(a, .inr (6, [.int (nI (0)), .ref q7, .ref q14, .ref q21, .ref q28, .ref q36, .ref q44, .ref q52, .ref q60, .ref q68, .null, .null, .null, .null])), (q7, .inl (cI, 10, .inl (fun _ => nI 0))), (q14, .inl (cI, 2, .inl (fun _ => nI 0))), (q21, .inl (cI, 2, .inl (fun _ => nI 0))), (q28, .inl (cI, 2, .inl (fun _ => nI 0))), (q36, .inl (cI, 20, .inl (fun _ => nI 0))), (q44, .inl (cI, 20, .inl (fun _ => nI 0))), (q52, .inl (cI, 20, .inl (fun _ => nI 0))), (q60, .inl (cI, 8, .inl (fun _ => nI 0))), (q68, .inl (cI, 80, .inl (fun _ => nI 0))), (q76, .inl (cI, 8, .inl (fun _ => nI 0)))]) := hD
  refine va_put (D := D) (C := nr_CM) (T := nt_CM) (N := 14) hx hb htg tf_CM nu_CM no_CM nn_CM hown hK hP hD hS 0 rfl rfl 10 (by decide) (htg _ tm_393) (fun _ h => h) rfl rfl rfl rfl (Nat.le_of_ble_eq_true rfl) nd_CM_init_78 (fun H locs hP hD hS => ?_)
  have hP : va_P D cl_all ([(a, .inr (6, [.int (nI (0)), .ref q7, .ref q14, .ref q21, .ref q28, .ref q36, .ref q44, .ref q52, .ref q60, .ref q68, .ref q76, .null, .null, .null])), (q7, .inl (cI, 10, .inl (fun _ => nI 0))), (q14, .inl (cI, 2, .inl (fun _ => nI 0))), (q21, .inl (cI, 2, .inl (fun _ => nI 0))), (q28, .inl (cI, 2, .inl (fun _ => nI 0))), (q36, .inl (cI, 20, .inl (fun _ => nI 0))), (q44, .inl (cI, 20, .inl (fun _ => nI 0))), (q52, .inl (cI, 20, .inl (fun _ => nI 0))), (q60, .inl (cI, 8, .inl (fun _ => nI 0))), (q68, .inl (cI, 80, .inl (fun _ => nI 0))), (q76, .inl (cI, 8, .inl (fun _ => nI 0)))]) H := hP
  have hD : va_D A ([(a, .inr (6, [.int (nI (0)), .ref q7, .ref q14, .ref q21, .ref q28, .ref q36, .ref q44, .ref q52, .ref q60, .ref q68, .ref q76, .null, .null, .null])), (q7, .inl (cI, 10, .inl (fun _ => nI 0))), (q14, .inl (cI, 2, .inl (fun _ => nI 0))), (q21, .inl (cI, 2, .inl (fun _ => nI 0))), (q28, .inl (cI, 2, .inl (fun _ => nI 0))), (q36, .inl (cI, 20, .inl (fun _ => nI 0))), (q44, .inl (cI, 20, .inl (fun _ => nI 0))), (q52, .inl (cI, 20, .inl (fun _ => nI 0))), (q60, .inl (cI, 8, .inl (fun _ => nI 0))), (q68, .inl (cI, 80, .inl (fun _ => nI 0))), (q76, .inl (cI, 8, .inl (fun _ => nI 0)))]) := hD
  refine lv_aload_n hx hb nd_CM_init_81 rfl (lv_at hl 0 rfl) ?_
  refine lv_bipush (v := nI 16) hx hb nd_CM_init_82 (by decide) ?_
  refine wn_newa hx hb htg hK hP hD hS hA (N' := 16) (by omega) (show 10 + 1 ≤ 13 by decide) (show 172 + 16 ≤ 2252 by omega) nd_CM_init_84 (fun q84 H hP hD hS => ?_)
  refine W.widen (k := 11) (n := 188) (by omega) (by omega) ?_
  have hCS : 11 ≤ ({ frames := 1, cells := 13, slots := 2252, locals := 12 } : Room).cells ∧ 188 ≤ ({ frames := 1, cells := 13, slots := 2252, locals := 12 } : Room).slots := ⟨by decide, by decide⟩
  have hP : va_P D cl_all ([(a, .inr (6, [.int (nI (0)), .ref q7, .ref q14, .ref q21, .ref q28, .ref q36, .ref q44, .ref q52, .ref q60, .ref q68, .ref q76, .null, .null, .null])), (q7, .inl (cI, 10, .inl (fun _ => nI 0))), (q14, .inl (cI, 2, .inl (fun _ => nI 0))), (q21, .inl (cI, 2, .inl (fun _ => nI 0))), (q28, .inl (cI, 2, .inl (fun _ => nI 0))), (q36, .inl (cI, 20, .inl (fun _ => nI 0))), (q44, .inl (cI, 20, .inl (fun _ => nI 0))), (q52, .inl (cI, 20, .inl (fun _ => nI 0))), (q60, .inl (cI, 8, .inl (fun _ => nI 0))), (q68, .inl (cI, 80, .inl (fun _ => nI 0))), (q76, .inl (cI, 8, .inl (fun _ => nI 0))), (q84, .inl (cI, 16, .inl (fun _ => nI 0)))]) H := hP
  have hD : va_D A ([(a, .inr (6, [.int (nI (0)), .ref q7, .ref q14, .ref q21, .ref q28, .ref q36, .ref q44, .ref q52, .ref q60, .ref q68, .ref q76, .null, .null, .null])), (q7, .inl (cI, 10, .inl (fun _ => nI 0))), (q14, .inl (cI, 2, .inl (fun _ => nI 0))), (q21, .inl (cI, 2, .inl (fun _ => nI 0))), (q28, .inl (cI, 2, .inl (fun _ => nI 0))), (q36, .inl (cI, 20, .inl (fun _ => nI 0))), (q44, .inl (cI, 20, .inl (fun _ => nI 0))), (q52, .inl (cI, 20, .inl (fun _ => nI 0))), (q60, .inl (cI, 8, .inl (fun _ => nI 0))), (q68, .inl (cI, 80, .inl (fun _ => nI 0))), (q76, .inl (cI, 8, .inl (fun _ => nI 0))), (q84, .inl (cI, 16, .inl (fun _ => nI 0)))]) := hD
  refine va_put (D := D) (C := nr_CM) (T := nt_CM) (N := 14) hx hb htg tf_CM nu_CM no_CM nn_CM hown hK hP hD hS 0 rfl rfl 11 (by decide) (htg _ tm_394) (fun _ h => h) rfl rfl rfl rfl (Nat.le_of_ble_eq_true rfl) nd_CM_init_86 (fun H locs hP hD hS => ?_)
  have hP : va_P D cl_all ([(a, .inr (6, [.int (nI (0)), .ref q7, .ref q14, .ref q21, .ref q28, .ref q36, .ref q44, .ref q52, .ref q60, .ref q68, .ref q76, .ref q84, .null, .null])), (q7, .inl (cI, 10, .inl (fun _ => nI 0))), (q14, .inl (cI, 2, .inl (fun _ => nI 0))), (q21, .inl (cI, 2, .inl (fun _ => nI 0))), (q28, .inl (cI, 2, .inl (fun _ => nI 0))), (q36, .inl (cI, 20, .inl (fun _ => nI 0))), (q44, .inl (cI, 20, .inl (fun _ => nI 0))), (q52, .inl (cI, 20, .inl (fun _ => nI 0))), (q60, .inl (cI, 8, .inl (fun _ => nI 0))), (q68, .inl (cI, 80, .inl (fun _ => nI 0))), (q76, .inl (cI, 8, .inl (fun _ => nI 0))), (q84, .inl (cI, 16, .inl (fun _ => nI 0)))]) H := hP
  have hD : va_D A ([(a, .inr (6, [.int (nI (0)), .ref q7, .ref q14, .ref q21, .ref q28, .ref q36, .ref q44, .ref q52, .ref q60, .ref q68, .ref q76, .ref q84, .null, .null])), (q7, .inl (cI, 10, .inl (fun _ => nI 0))), (q14, .inl (cI, 2, .inl (fun _ => nI 0))), (q21, .inl (cI, 2, .inl (fun _ => nI 0))), (q28, .inl (cI, 2, .inl (fun _ => nI 0))), (q36, .inl (cI, 20, .inl (fun _ => nI 0))), (q44, .inl (cI, 20, .inl (fun _ => nI 0))), (q52, .inl (cI, 20, .inl (fun _ => nI 0))), (q60, .inl (cI, 8, .inl (fun _ => nI 0))), (q68, .inl (cI, 80, .inl (fun _ => nI 0))), (q76, .inl (cI, 8, .inl (fun _ => nI 0))), (q84, .inl (cI, 16, .inl (fun _ => nI 0)))]) := hD
  refine lv_aload_n hx hb nd_CM_init_89 rfl (lv_at hl 0 rfl) ?_
  refine lv_bipush (v := nI 16) hx hb nd_CM_init_90 (by decide) ?_
  refine wn_newa hx hb htg hK hP hD hS hA (N' := 16) (by omega) (show 11 + 1 ≤ 13 by decide) (show 188 + 16 ≤ 2252 by omega) nd_CM_init_92 (fun q92 H hP hD hS => ?_)
  refine W.widen (k := 12) (n := 204) (by omega) (by omega) ?_
  have hCS : 12 ≤ ({ frames := 1, cells := 13, slots := 2252, locals := 12 } : Room).cells ∧ 204 ≤ ({ frames := 1, cells := 13, slots := 2252, locals := 12 } : Room).slots := ⟨by decide, by decide⟩
  have hP : va_P D cl_all ([(a, .inr (6, [.int (nI (0)), .ref q7, .ref q14, .ref q21, .ref q28, .ref q36, .ref q44, .ref q52, .ref q60, .ref q68, .ref q76, .ref q84, .null, .null])), (q7, .inl (cI, 10, .inl (fun _ => nI 0))), (q14, .inl (cI, 2, .inl (fun _ => nI 0))), (q21, .inl (cI, 2, .inl (fun _ => nI 0))), (q28, .inl (cI, 2, .inl (fun _ => nI 0))), (q36, .inl (cI, 20, .inl (fun _ => nI 0))), (q44, .inl (cI, 20, .inl (fun _ => nI 0))), (q52, .inl (cI, 20, .inl (fun _ => nI 0))), (q60, .inl (cI, 8, .inl (fun _ => nI 0))), (q68, .inl (cI, 80, .inl (fun _ => nI 0))), (q76, .inl (cI, 8, .inl (fun _ => nI 0))), (q84, .inl (cI, 16, .inl (fun _ => nI 0))), (q92, .inl (cI, 16, .inl (fun _ => nI 0)))]) H := hP
  have hD : va_D A ([(a, .inr (6, [.int (nI (0)), .ref q7, .ref q14, .ref q21, .ref q28, .ref q36, .ref q44, .ref q52, .ref q60, .ref q68, .ref q76, .ref q84, .null, .null])), (q7, .inl (cI, 10, .inl (fun _ => nI 0))), (q14, .inl (cI, 2, .inl (fun _ => nI 0))), (q21, .inl (cI, 2, .inl (fun _ => nI 0))), (q28, .inl (cI, 2, .inl (fun _ => nI 0))), (q36, .inl (cI, 20, .inl (fun _ => nI 0))), (q44, .inl (cI, 20, .inl (fun _ => nI 0))), (q52, .inl (cI, 20, .inl (fun _ => nI 0))), (q60, .inl (cI, 8, .inl (fun _ => nI 0))), (q68, .inl (cI, 80, .inl (fun _ => nI 0))), (q76, .inl (cI, 8, .inl (fun _ => nI 0))), (q84, .inl (cI, 16, .inl (fun _ => nI 0))), (q92, .inl (cI, 16, .inl (fun _ => nI 0)))]) := hD
  refine va_put (D := D) (C := nr_CM) (T := nt_CM) (N := 14) hx hb htg tf_CM nu_CM no_CM nn_CM hown hK hP hD hS 0 rfl rfl 12 (by decide) (htg _ tm_395) (fun _ h => h) rfl rfl rfl rfl (Nat.le_of_ble_eq_true rfl) nd_CM_init_94 (fun H locs hP hD hS => ?_)
  have hP : va_P D cl_all ([(a, .inr (6, [.int (nI (0)), .ref q7, .ref q14, .ref q21, .ref q28, .ref q36, .ref q44, .ref q52, .ref q60, .ref q68, .ref q76, .ref q84, .ref q92, .null])), (q7, .inl (cI, 10, .inl (fun _ => nI 0))), (q14, .inl (cI, 2, .inl (fun _ => nI 0))), (q21, .inl (cI, 2, .inl (fun _ => nI 0))), (q28, .inl (cI, 2, .inl (fun _ => nI 0))), (q36, .inl (cI, 20, .inl (fun _ => nI 0))), (q44, .inl (cI, 20, .inl (fun _ => nI 0))), (q52, .inl (cI, 20, .inl (fun _ => nI 0))), (q60, .inl (cI, 8, .inl (fun _ => nI 0))), (q68, .inl (cI, 80, .inl (fun _ => nI 0))), (q76, .inl (cI, 8, .inl (fun _ => nI 0))), (q84, .inl (cI, 16, .inl (fun _ => nI 0))), (q92, .inl (cI, 16, .inl (fun _ => nI 0)))]) H := hP
  have hD : va_D A ([(a, .inr (6, [.int (nI (0)), .ref q7, .ref q14, .ref q21, .ref q28, .ref q36, .ref q44, .ref q52, .ref q60, .ref q68, .ref q76, .ref q84, .ref q92, .null])), (q7, .inl (cI, 10, .inl (fun _ => nI 0))), (q14, .inl (cI, 2, .inl (fun _ => nI 0))), (q21, .inl (cI, 2, .inl (fun _ => nI 0))), (q28, .inl (cI, 2, .inl (fun _ => nI 0))), (q36, .inl (cI, 20, .inl (fun _ => nI 0))), (q44, .inl (cI, 20, .inl (fun _ => nI 0))), (q52, .inl (cI, 20, .inl (fun _ => nI 0))), (q60, .inl (cI, 8, .inl (fun _ => nI 0))), (q68, .inl (cI, 80, .inl (fun _ => nI 0))), (q76, .inl (cI, 8, .inl (fun _ => nI 0))), (q84, .inl (cI, 16, .inl (fun _ => nI 0))), (q92, .inl (cI, 16, .inl (fun _ => nI 0)))]) := hD
  refine lv_aload_n hx hb nd_CM_init_97 rfl (lv_at hl 0 rfl) ?_
  refine lv_sipush (v := nI 2048) hx hb nd_CM_init_98 (by decide) ?_
  refine wn_newa hx hb htg hK hP hD hS hA (N' := 2048) (by omega) (show 12 + 1 ≤ 13 by decide) (show 204 + 2048 ≤ 2252 by omega) nd_CM_init_101 (fun q101 H hP hD hS => ?_)
  refine W.widen (k := 13) (n := 2252) (by omega) (by omega) ?_
  have hCS : 13 ≤ ({ frames := 1, cells := 13, slots := 2252, locals := 12 } : Room).cells ∧ 2252 ≤ ({ frames := 1, cells := 13, slots := 2252, locals := 12 } : Room).slots := ⟨by decide, by decide⟩
  have hP : va_P D cl_all ([(a, .inr (6, [.int (nI (0)), .ref q7, .ref q14, .ref q21, .ref q28, .ref q36, .ref q44, .ref q52, .ref q60, .ref q68, .ref q76, .ref q84, .ref q92, .null])), (q7, .inl (cI, 10, .inl (fun _ => nI 0))), (q14, .inl (cI, 2, .inl (fun _ => nI 0))), (q21, .inl (cI, 2, .inl (fun _ => nI 0))), (q28, .inl (cI, 2, .inl (fun _ => nI 0))), (q36, .inl (cI, 20, .inl (fun _ => nI 0))), (q44, .inl (cI, 20, .inl (fun _ => nI 0))), (q52, .inl (cI, 20, .inl (fun _ => nI 0))), (q60, .inl (cI, 8, .inl (fun _ => nI 0))), (q68, .inl (cI, 80, .inl (fun _ => nI 0))), (q76, .inl (cI, 8, .inl (fun _ => nI 0))), (q84, .inl (cI, 16, .inl (fun _ => nI 0))), (q92, .inl (cI, 16, .inl (fun _ => nI 0))), (q101, .inl (cI, 2048, .inl (fun _ => nI 0)))]) H := hP
  have hD : va_D A ([(a, .inr (6, [.int (nI (0)), .ref q7, .ref q14, .ref q21, .ref q28, .ref q36, .ref q44, .ref q52, .ref q60, .ref q68, .ref q76, .ref q84, .ref q92, .null])), (q7, .inl (cI, 10, .inl (fun _ => nI 0))), (q14, .inl (cI, 2, .inl (fun _ => nI 0))), (q21, .inl (cI, 2, .inl (fun _ => nI 0))), (q28, .inl (cI, 2, .inl (fun _ => nI 0))), (q36, .inl (cI, 20, .inl (fun _ => nI 0))), (q44, .inl (cI, 20, .inl (fun _ => nI 0))), (q52, .inl (cI, 20, .inl (fun _ => nI 0))), (q60, .inl (cI, 8, .inl (fun _ => nI 0))), (q68, .inl (cI, 80, .inl (fun _ => nI 0))), (q76, .inl (cI, 8, .inl (fun _ => nI 0))), (q84, .inl (cI, 16, .inl (fun _ => nI 0))), (q92, .inl (cI, 16, .inl (fun _ => nI 0))), (q101, .inl (cI, 2048, .inl (fun _ => nI 0)))]) := hD
  refine va_put (D := D) (C := nr_CM) (T := nt_CM) (N := 14) hx hb htg tf_CM nu_CM no_CM nn_CM hown hK hP hD hS 0 rfl rfl 13 (by decide) (htg _ tm_396) (fun _ h => h) rfl rfl rfl rfl (Nat.le_of_ble_eq_true rfl) nd_CM_init_103 (fun H locs hP hD hS => ?_)
  have hP : va_P D cl_all ([(a, .inr (6, [.int (nI (0)), .ref q7, .ref q14, .ref q21, .ref q28, .ref q36, .ref q44, .ref q52, .ref q60, .ref q68, .ref q76, .ref q84, .ref q92, .ref q101])), (q7, .inl (cI, 10, .inl (fun _ => nI 0))), (q14, .inl (cI, 2, .inl (fun _ => nI 0))), (q21, .inl (cI, 2, .inl (fun _ => nI 0))), (q28, .inl (cI, 2, .inl (fun _ => nI 0))), (q36, .inl (cI, 20, .inl (fun _ => nI 0))), (q44, .inl (cI, 20, .inl (fun _ => nI 0))), (q52, .inl (cI, 20, .inl (fun _ => nI 0))), (q60, .inl (cI, 8, .inl (fun _ => nI 0))), (q68, .inl (cI, 80, .inl (fun _ => nI 0))), (q76, .inl (cI, 8, .inl (fun _ => nI 0))), (q84, .inl (cI, 16, .inl (fun _ => nI 0))), (q92, .inl (cI, 16, .inl (fun _ => nI 0))), (q101, .inl (cI, 2048, .inl (fun _ => nI 0)))]) H := hP
  have hD : va_D A ([(a, .inr (6, [.int (nI (0)), .ref q7, .ref q14, .ref q21, .ref q28, .ref q36, .ref q44, .ref q52, .ref q60, .ref q68, .ref q76, .ref q84, .ref q92, .ref q101])), (q7, .inl (cI, 10, .inl (fun _ => nI 0))), (q14, .inl (cI, 2, .inl (fun _ => nI 0))), (q21, .inl (cI, 2, .inl (fun _ => nI 0))), (q28, .inl (cI, 2, .inl (fun _ => nI 0))), (q36, .inl (cI, 20, .inl (fun _ => nI 0))), (q44, .inl (cI, 20, .inl (fun _ => nI 0))), (q52, .inl (cI, 20, .inl (fun _ => nI 0))), (q60, .inl (cI, 8, .inl (fun _ => nI 0))), (q68, .inl (cI, 80, .inl (fun _ => nI 0))), (q76, .inl (cI, 8, .inl (fun _ => nI 0))), (q84, .inl (cI, 16, .inl (fun _ => nI 0))), (q92, .inl (cI, 16, .inl (fun _ => nI 0))), (q101, .inl (cI, 2048, .inl (fun _ => nI 0)))]) := hD
  refine lv_aload_n hx hb nd_CM_init_106 rfl (lv_at hl 0 rfl) ?_
  refine lv_iload_n hx hb nd_CM_init_107 rfl (lv_at hl 1 rfl) ?_
  refine wi_ic hx hb (a := 1) nd_CM_init_108 ?_
  refine lv_icmp_lt (tgt := 118) hx hb nd_CM_init_109 rfl (fun hc109 => ?_) (fun hc109 => ?_)
  · refine lv_bipush (v := nI 8) hx hb nd_CM_init_118 (by decide) ?_
    refine lv_goto (tgt := 124) hx hb nd_CM_init_120 rfl ?_
    refine wi_top (show nI 8 = nI (nn_ x) from congrArg nI (nn_bad (Or.inl hc109)).symm) ?_
    refine va_put (D := D) (C := nr_CM) (T := nt_CM) (N := 14) hx hb htg tf_CM nu_CM no_CM nn_CM hown hK hP hD hS 0 rfl rfl 0 (by decide) (htg _ tm_383) (fun _ h => h) rfl rfl rfl rfl (Nat.le_of_ble_eq_true rfl) nd_CM_init_124 (fun H locs hP hD hS => ?_)
    have hP : va_P D cl_all ([(a, .inr (6, [.int (nI (nn_ x)), .ref q7, .ref q14, .ref q21, .ref q28, .ref q36, .ref q44, .ref q52, .ref q60, .ref q68, .ref q76, .ref q84, .ref q92, .ref q101])), (q7, .inl (cI, 10, .inl (fun _ => nI 0))), (q14, .inl (cI, 2, .inl (fun _ => nI 0))), (q21, .inl (cI, 2, .inl (fun _ => nI 0))), (q28, .inl (cI, 2, .inl (fun _ => nI 0))), (q36, .inl (cI, 20, .inl (fun _ => nI 0))), (q44, .inl (cI, 20, .inl (fun _ => nI 0))), (q52, .inl (cI, 20, .inl (fun _ => nI 0))), (q60, .inl (cI, 8, .inl (fun _ => nI 0))), (q68, .inl (cI, 80, .inl (fun _ => nI 0))), (q76, .inl (cI, 8, .inl (fun _ => nI 0))), (q84, .inl (cI, 16, .inl (fun _ => nI 0))), (q92, .inl (cI, 16, .inl (fun _ => nI 0))), (q101, .inl (cI, 2048, .inl (fun _ => nI 0)))]) H := hP
    have hD : va_D A ([(a, .inr (6, [.int (nI (nn_ x)), .ref q7, .ref q14, .ref q21, .ref q28, .ref q36, .ref q44, .ref q52, .ref q60, .ref q68, .ref q76, .ref q84, .ref q92, .ref q101])), (q7, .inl (cI, 10, .inl (fun _ => nI 0))), (q14, .inl (cI, 2, .inl (fun _ => nI 0))), (q21, .inl (cI, 2, .inl (fun _ => nI 0))), (q28, .inl (cI, 2, .inl (fun _ => nI 0))), (q36, .inl (cI, 20, .inl (fun _ => nI 0))), (q44, .inl (cI, 20, .inl (fun _ => nI 0))), (q52, .inl (cI, 20, .inl (fun _ => nI 0))), (q60, .inl (cI, 8, .inl (fun _ => nI 0))), (q68, .inl (cI, 80, .inl (fun _ => nI 0))), (q76, .inl (cI, 8, .inl (fun _ => nI 0))), (q84, .inl (cI, 16, .inl (fun _ => nI 0))), (q92, .inl (cI, 16, .inl (fun _ => nI 0))), (q101, .inl (cI, 2048, .inl (fun _ => nI 0)))]) := hD
    refine W.widen (k := 13) (n := 2252) (by decide) (by decide) ?_
    exact wb_vret (fun i => if i = 0 then a else if i = 2 then q7 else if i = 3 then q14 else if i = 4 then q21 else if i = 5 then q28 else if i = 6 then q36 else if i = 7 then q44 else if i = 8 then q52 else if i = 9 then q60 else if i = 10 then q68 else if i = 11 then q76 else if i = 12 then q84 else if i = 13 then q92 else q101) hx hb hr hk hAe rfl hP hD hS nd_CM_init_127
  · refine lv_iload_n hx hb nd_CM_init_112 rfl (lv_at hl 1 rfl) ?_
    refine lv_bipush (v := nI 10) hx hb nd_CM_init_113 (by decide) ?_
    refine lv_icmp_le (tgt := 123) hx hb nd_CM_init_115 rfl (fun hc115 => ?_) (fun hc115 => ?_)
    · refine lv_iload_n hx hb nd_CM_init_123 rfl (lv_at hl 1 rfl) ?_
      refine wi_top (nn_good hc109 (Int32.not_lt.mpr hc115)).symm ?_
      refine va_put (D := D) (C := nr_CM) (T := nt_CM) (N := 14) hx hb htg tf_CM nu_CM no_CM nn_CM hown hK hP hD hS 0 rfl rfl 0 (by decide) (htg _ tm_383) (fun _ h => h) rfl rfl rfl rfl (Nat.le_of_ble_eq_true rfl) nd_CM_init_124 (fun H locs hP hD hS => ?_)
      have hP : va_P D cl_all ([(a, .inr (6, [.int (nI (nn_ x)), .ref q7, .ref q14, .ref q21, .ref q28, .ref q36, .ref q44, .ref q52, .ref q60, .ref q68, .ref q76, .ref q84, .ref q92, .ref q101])), (q7, .inl (cI, 10, .inl (fun _ => nI 0))), (q14, .inl (cI, 2, .inl (fun _ => nI 0))), (q21, .inl (cI, 2, .inl (fun _ => nI 0))), (q28, .inl (cI, 2, .inl (fun _ => nI 0))), (q36, .inl (cI, 20, .inl (fun _ => nI 0))), (q44, .inl (cI, 20, .inl (fun _ => nI 0))), (q52, .inl (cI, 20, .inl (fun _ => nI 0))), (q60, .inl (cI, 8, .inl (fun _ => nI 0))), (q68, .inl (cI, 80, .inl (fun _ => nI 0))), (q76, .inl (cI, 8, .inl (fun _ => nI 0))), (q84, .inl (cI, 16, .inl (fun _ => nI 0))), (q92, .inl (cI, 16, .inl (fun _ => nI 0))), (q101, .inl (cI, 2048, .inl (fun _ => nI 0)))]) H := hP
      have hD : va_D A ([(a, .inr (6, [.int (nI (nn_ x)), .ref q7, .ref q14, .ref q21, .ref q28, .ref q36, .ref q44, .ref q52, .ref q60, .ref q68, .ref q76, .ref q84, .ref q92, .ref q101])), (q7, .inl (cI, 10, .inl (fun _ => nI 0))), (q14, .inl (cI, 2, .inl (fun _ => nI 0))), (q21, .inl (cI, 2, .inl (fun _ => nI 0))), (q28, .inl (cI, 2, .inl (fun _ => nI 0))), (q36, .inl (cI, 20, .inl (fun _ => nI 0))), (q44, .inl (cI, 20, .inl (fun _ => nI 0))), (q52, .inl (cI, 20, .inl (fun _ => nI 0))), (q60, .inl (cI, 8, .inl (fun _ => nI 0))), (q68, .inl (cI, 80, .inl (fun _ => nI 0))), (q76, .inl (cI, 8, .inl (fun _ => nI 0))), (q84, .inl (cI, 16, .inl (fun _ => nI 0))), (q92, .inl (cI, 16, .inl (fun _ => nI 0))), (q101, .inl (cI, 2048, .inl (fun _ => nI 0)))]) := hD
      refine W.widen (k := 13) (n := 2252) (by decide) (by decide) ?_
      exact wb_vret (fun i => if i = 0 then a else if i = 2 then q7 else if i = 3 then q14 else if i = 4 then q21 else if i = 5 then q28 else if i = 6 then q36 else if i = 7 then q44 else if i = 8 then q52 else if i = 9 then q60 else if i = 10 then q68 else if i = 11 then q76 else if i = 12 then q84 else if i = 13 then q92 else q101) hx hb hr hk hAe rfl hP hD hS nd_CM_init_127
    · refine lv_bipush (v := nI 8) hx hb nd_CM_init_118 (by decide) ?_
      refine lv_goto (tgt := 124) hx hb nd_CM_init_120 rfl ?_
      refine wi_top (show nI 8 = nI (nn_ x) from congrArg nI (nn_bad (Or.inr (Int32.not_le.mp hc115))).symm) ?_
      refine va_put (D := D) (C := nr_CM) (T := nt_CM) (N := 14) hx hb htg tf_CM nu_CM no_CM nn_CM hown hK hP hD hS 0 rfl rfl 0 (by decide) (htg _ tm_383) (fun _ h => h) rfl rfl rfl rfl (Nat.le_of_ble_eq_true rfl) nd_CM_init_124 (fun H locs hP hD hS => ?_)
      have hP : va_P D cl_all ([(a, .inr (6, [.int (nI (nn_ x)), .ref q7, .ref q14, .ref q21, .ref q28, .ref q36, .ref q44, .ref q52, .ref q60, .ref q68, .ref q76, .ref q84, .ref q92, .ref q101])), (q7, .inl (cI, 10, .inl (fun _ => nI 0))), (q14, .inl (cI, 2, .inl (fun _ => nI 0))), (q21, .inl (cI, 2, .inl (fun _ => nI 0))), (q28, .inl (cI, 2, .inl (fun _ => nI 0))), (q36, .inl (cI, 20, .inl (fun _ => nI 0))), (q44, .inl (cI, 20, .inl (fun _ => nI 0))), (q52, .inl (cI, 20, .inl (fun _ => nI 0))), (q60, .inl (cI, 8, .inl (fun _ => nI 0))), (q68, .inl (cI, 80, .inl (fun _ => nI 0))), (q76, .inl (cI, 8, .inl (fun _ => nI 0))), (q84, .inl (cI, 16, .inl (fun _ => nI 0))), (q92, .inl (cI, 16, .inl (fun _ => nI 0))), (q101, .inl (cI, 2048, .inl (fun _ => nI 0)))]) H := hP
      have hD : va_D A ([(a, .inr (6, [.int (nI (nn_ x)), .ref q7, .ref q14, .ref q21, .ref q28, .ref q36, .ref q44, .ref q52, .ref q60, .ref q68, .ref q76, .ref q84, .ref q92, .ref q101])), (q7, .inl (cI, 10, .inl (fun _ => nI 0))), (q14, .inl (cI, 2, .inl (fun _ => nI 0))), (q21, .inl (cI, 2, .inl (fun _ => nI 0))), (q28, .inl (cI, 2, .inl (fun _ => nI 0))), (q36, .inl (cI, 20, .inl (fun _ => nI 0))), (q44, .inl (cI, 20, .inl (fun _ => nI 0))), (q52, .inl (cI, 20, .inl (fun _ => nI 0))), (q60, .inl (cI, 8, .inl (fun _ => nI 0))), (q68, .inl (cI, 80, .inl (fun _ => nI 0))), (q76, .inl (cI, 8, .inl (fun _ => nI 0))), (q84, .inl (cI, 16, .inl (fun _ => nI 0))), (q92, .inl (cI, 16, .inl (fun _ => nI 0))), (q101, .inl (cI, 2048, .inl (fun _ => nI 0)))]) := hD
      refine W.widen (k := 13) (n := 2252) (by decide) (by decide) ?_
      exact wb_vret (fun i => if i = 0 then a else if i = 2 then q7 else if i = 3 then q14 else if i = 4 then q21 else if i = 5 then q28 else if i = 6 then q36 else if i = 7 then q44 else if i = 8 then q52 else if i = 9 then q60 else if i = 10 then q68 else if i = 11 then q76 else if i = 12 then q84 else if i = 13 then q92 else q101) hx hb hr hk hAe rfl hP hD hS nd_CM_init_127
