/-! The reference: the questions. -/
noncomputable def tf_ (n : Nat) (y : cb_Y) (w s : Nat) : Nat := if ma_r n (cb_m y w) s = mt_cd n s then 1 else 0
theorem tf_lt (n : Nat) (y : cb_Y) (w s : Nat) : tf_ n y w s < 2 := by unfold tf_; split <;> omega
theorem tf_n {n : Nat} {y : cb_Y} {w s : Nat} : ¬ tf_ n y w s = 0 ↔ ma_r n (cb_m y w) s = mt_cd n s := by unfold tf_; split <;> simp_all
theorem tf_z {n : Nat} {y : cb_Y} {w s : Nat} : tf_ n y w s = 0 ↔ ¬ ma_r n (cb_m y w) s = mt_cd n s := by unfold tf_; split <;> simp_all
theorem c_tf (l : Launch) (D : va_G) (cI cG cM : ClassId) (q : Nat → Nat) (n : Nat) (hn : n ≤ 10) (g : rf_S) (y : cb_Y) (hrt : rt_ n y g) (hv : ∀ w, w < 2 → ma_v n (cb_m y w)) (w s : Nat) (hw : w < 2) (hs : s < 2 ^ n) : wa_M l ny_CM_tableFree nc_CM_tableFree 3 (some .boolean) ({ frames := 1, cells := 0, slots := 0, locals := 22 }) D (ty_all cI cG cM) ([(q 0, .inr (6, [.int (nI n), .ref (q 2), .ref (q 3), .ref (q 4), .ref (q 5), .ref (q 6), .ref (q 7), .ref (q 8), .ref (q 9), .ref (q 10), .ref (q 11), .ref (q 12), .ref (q 13), .ref (q 14)])), (q 14, .inl (cI, 2048, .inl (g 12)))]) [.ref (q 0), .int (nI w), .int (nI s)] (nI (tf_ n y w s)) := by
  have hb := ma_rb (hv w hw) hs
  have hc := mt_cd_le n s
  have h2n : 2 ^ n ≤ 1024 := Nat.pow_le_pow_right (by omega) hn
  refine c_CM_tableFree l D cI cG cM q n (g 12) w s hw (by omega) (nI (tf_ n y w s)) (fun z => ?_) (fun z => ?_)
  · rw [hrt w s hw hs, bs_cd10 hn hs] at z
    unfold tf_
    rw [if_pos ((nI_eq (by omega) (by omega)).mp z)]
    rfl
  · rw [hrt w s hw hs, bs_cd10 hn hs] at z
    unfold tf_
    rw [if_neg (fun h => z (congrArg nI h))]
    rfl
theorem oi_neg {o : Option Nat} (h : ∀ b, o = some b → b < 2 ^ 31) : oi_ o < 0 ↔ o = none := by
  cases o with
  | none => show (-2 : Int32) < 0 ↔ _; exact ⟨fun _ => rfl, fun _ => by decide⟩
  | some b =>
    simp only [oi_]
    constructor
    · intro q; exact absurd q (nI_pos (h b rfl))
    · intro q; cases q
theorem nd_CM_independent_0 : decode nc_CM_independent 0 = .ok (.iload_n 1, 1) := by decide +kernel
theorem nd_CM_independent_1 : decode nc_CM_independent 1 = .ok (.invokestatic 53, 3) := by decide +kernel
theorem nd_CM_independent_4 : decode nc_CM_independent 4 = .ok (.ifCond .eq 11, 3) := by decide +kernel
theorem nd_CM_independent_7 : decode nc_CM_independent 7 = .ok (.aload_n 0, 1) := by decide +kernel
theorem nd_CM_independent_8 : decode nc_CM_independent 8 = .ok (.iload_n 2, 1) := by decide +kernel
theorem nd_CM_independent_9 : decode nc_CM_independent 9 = .ok (.invokevirtual 86, 3) := by decide +kernel
theorem nd_CM_independent_12 : decode nc_CM_independent 12 = .ok (.ifCond .ne 5, 3) := by decide +kernel
theorem nd_CM_independent_15 : decode nc_CM_independent 15 = .ok (.iconst (-1), 1) := by decide +kernel
theorem nd_CM_independent_16 : decode nc_CM_independent 16 = .ok (.ireturn, 1) := by decide +kernel
theorem nd_CM_independent_17 : decode nc_CM_independent 17 = .ok (.aload_n 0, 1) := by decide +kernel
theorem nd_CM_independent_18 : decode nc_CM_independent 18 = .ok (.iload_n 1, 1) := by decide +kernel
theorem nd_CM_independent_19 : decode nc_CM_independent 19 = .ok (.iload_n 2, 1) := by decide +kernel
theorem nd_CM_independent_20 : decode nc_CM_independent 20 = .ok (.invokevirtual 83, 3) := by decide +kernel
theorem nd_CM_independent_23 : decode nc_CM_independent 23 = .ok (.ifCond .eq 7, 3) := by decide +kernel
theorem nd_CM_independent_26 : decode nc_CM_independent 26 = .ok (.iconst 1, 1) := by decide +kernel
theorem nd_CM_independent_27 : decode nc_CM_independent 27 = .ok (.goto 4, 3) := by decide +kernel
theorem nd_CM_independent_30 : decode nc_CM_independent 30 = .ok (.iconst 0, 1) := by decide +kernel
theorem nd_CM_independent_31 : decode nc_CM_independent 31 = .ok (.ireturn, 1) := by decide +kernel
set_option maxRecDepth 20000 in
theorem c_CM_independent (l : Launch) (D : va_G) (cI cG cM : ClassId)  (q : Nat → Nat) (n : Nat) (hn1 : 1 ≤ n) (hn : n ≤ 10) (g : rf_S) (y : cb_Y) (hI : rf_I n y g) (wh s : Int32) (sz : Nat) : wb_Mi l ny_CM_independent nc_CM_independent 3 (some .int) ({ frames := 3, cells := 0, slots := 0, locals := 73 }) D (ty_all cI cG cM) (rf_ cI q n g) sz [.ref (q 0), .int (wh), .int (s)] (fun (v : Int32) (u : rf_S) => v = sp_indep n y wh s ∧ rf_I n y u) (fun u : rf_S => rf_ cI q n u) := by
  refine wb_start (S := rf_S) (by decide) (Nat.le_of_ble_eq_true rfl) ?_
  intro p e0 s0 m below meth c ls A hx hb hr hml htg hown hk hP hK hN hl hAe hsz hD hA
  have hl : lv_has ls 3 [(0, .ref (q 0)), (1, .int (wh)), (2, .int (s))] := hl
  have hP : va_P D cl_all ([((q 0), .inr (6, [.int (nI (n)), .ref (q 2), .ref (q 3), .ref (q 4), .ref (q 5), .ref (q 6), .ref (q 7), .ref (q 8), .ref (q 9), .ref (q 10), .ref (q 11), .ref (q 12), .ref (q 13), .ref (q 14)])), ((q 2), .inl (cI, 10, .inl (g 0))), ((q 3), .inl (cI, 2, .inl (g 1))), ((q 4), .inl (cI, 2, .inl (g 2))), ((q 5), .inl (cI, 2, .inl (g 3))), ((q 6), .inl (cI, 20, .inl (g 4))), ((q 7), .inl (cI, 20, .inl (g 5))), ((q 8), .inl (cI, 20, .inl (g 6))), ((q 9), .inl (cI, 8, .inl (g 7))), ((q 10), .inl (cI, 80, .inl (g 8))), ((q 11), .inl (cI, 8, .inl (g 9))), ((q 12), .inl (cI, 16, .inl (g 10))), ((q 13), .inl (cI, 16, .inl (g 11))), ((q 14), .inl (cI, 2048, .inl (g 12)))]) s0.heap := hP
  have hD : va_D A ([((q 0), .inr (6, [.int (nI (n)), .ref (q 2), .ref (q 3), .ref (q 4), .ref (q 5), .ref (q 6), .ref (q 7), .ref (q 8), .ref (q 9), .ref (q 10), .ref (q 11), .ref (q 12), .ref (q 13), .ref (q 14)])), ((q 2), .inl (cI, 10, .inl (g 0))), ((q 3), .inl (cI, 2, .inl (g 1))), ((q 4), .inl (cI, 2, .inl (g 2))), ((q 5), .inl (cI, 2, .inl (g 3))), ((q 6), .inl (cI, 20, .inl (g 4))), ((q 7), .inl (cI, 20, .inl (g 5))), ((q 8), .inl (cI, 20, .inl (g 6))), ((q 9), .inl (cI, 8, .inl (g 7))), ((q 10), .inl (cI, 80, .inl (g 8))), ((q 11), .inl (cI, 8, .inl (g 9))), ((q 12), .inl (cI, 16, .inl (g 10))), ((q 13), .inl (cI, 16, .inl (g 11))), ((q 14), .inl (cI, 2048, .inl (g 12)))]) := hD
  have hS : va_S A s0.heap s0.heap [] := va_S.rf
  have hRf : 3 ≤ ({ frames := 3, cells := 0, slots := 0, locals := 73 } : Room).frames := Nat.le_refl _
  have hRl : 73 ≤ ({ frames := 3, cells := 0, slots := 0, locals := 73 } : Room).locals := Nat.le_refl _
  have hCS : 0 ≤ ({ frames := 3, cells := 0, slots := 0, locals := 73 } : Room).cells ∧ 0 ≤ ({ frames := 3, cells := 0, slots := 0, locals := 73 } : Room).slots := ⟨Nat.zero_le _, Nat.zero_le _⟩
  have h2n : 2 ^ n ≤ 1024 := Nat.pow_le_pow_right (by omega) hn
  have h2p : 1 ≤ 2 ^ n := Nat.one_le_two_pow
  refine lv_iload_n hx hb nd_CM_independent_0 rfl (lv_at hl 1 rfl) ?_
  rcases sm_which wh with hw1 | hw1 | hw1
  · subst hw1
    refine wc_S (n := 1) hx hb hml hown htg (c_CM_isWhich l D _ (nI 0) (nI 1) (fun _ => rfl) (fun h => absurd (Or.inl nI_0) h)) tm_432 tm_430 tm_431 tm_9 (by decide +kernel) ⟨⟨Nat.le_trans (by decide) hRf, Nat.le_trans (by decide) hRl⟩, rfl, rfl⟩ (wa_pre wa_nil hK hN) rfl hl.1 rfl (Nat.le_of_ble_eq_true rfl) nd_CM_independent_1 hCS ?_
    refine wi_if_eq (tgt := 15) hx hb (by decide) nd_CM_independent_4 rfl (fun h => absurd h (by decide)) (fun _ => ?_)
    refine lv_aload_n hx hb nd_CM_independent_7 rfl (lv_at hl 0 rfl) ?_
    refine lv_iload_n hx hb nd_CM_independent_8 rfl (lv_at hl 2 rfl) ?_
    by_cases hq9 : ¬ s < 0 ∧ ¬ nI (2 ^ n) ≤ s
    · obtain ⟨s1, h_s1, rfl⟩ := sm_elem (by omega) hq9
      refine wc_V (C := nr_CM) (n := 1) hx hb hml hown htg (c_CM_isSet l D _ q n hn (nI s1) (nI 1) (fun _ => rfl) (fun h => absurd hq9 h)) tm_482 tm_479 tm_481 tp_14 tm_9 (by decide +kernel) ⟨⟨Nat.le_trans (by decide) hRf, Nat.le_trans (by decide) hRl⟩, rfl, rfl⟩ (wa_pre (hP.sub [0] rfl) hK hN) (va_recv (q0 := 0) (ci := 6) hK hP rfl rfl) rfl hl.1 rfl (Nat.le_of_ble_eq_true rfl) nd_CM_independent_9 hCS ?_
      refine wi_if_ne (tgt := 17) hx hb (by decide) nd_CM_independent_12 rfl (fun _ => ?_) (fun h => absurd h (by decide))
      refine lv_aload_n hx hb nd_CM_independent_17 rfl (lv_at hl 0 rfl) ?_
      refine lv_iload_n hx hb nd_CM_independent_18 rfl (lv_at hl 1 rfl) ?_
      refine lv_iload_n hx hb nd_CM_independent_19 rfl (lv_at hl 2 rfl) ?_
      refine wd_Vi0 (C := nr_CM) (n := 2) (Y := rf_ cI q n g) hx hb hml hown htg (c_CM_isFree l D cI cG cM q n hn1 hn g y hI 0 s1 (by omega) (by omega) _) tm_486 tm_483 tm_485 tp_15 tm_9 (by decide +kernel) ⟨⟨Nat.le_trans (by decide) hRf, Nat.le_trans (by decide) hRl⟩, rfl, rfl⟩ hP hD hS hA hK hN (va_recv (q0 := 0) (ci := 6) hK hP rfl rfl) rfl hl.1 rfl (Nat.le_of_ble_eq_true rfl) nd_CM_independent_20 hCS (fun v20 u20 H locs hp20 hP hD hS => ?_)
      have hP : va_P D cl_all ([((q 0), .inr (6, [.int (nI (n)), .ref (q 2), .ref (q 3), .ref (q 4), .ref (q 5), .ref (q 6), .ref (q 7), .ref (q 8), .ref (q 9), .ref (q 10), .ref (q 11), .ref (q 12), .ref (q 13), .ref (q 14)])), ((q 2), .inl (cI, 10, .inl (u20 0))), ((q 3), .inl (cI, 2, .inl (u20 1))), ((q 4), .inl (cI, 2, .inl (u20 2))), ((q 5), .inl (cI, 2, .inl (u20 3))), ((q 6), .inl (cI, 20, .inl (u20 4))), ((q 7), .inl (cI, 20, .inl (u20 5))), ((q 8), .inl (cI, 20, .inl (u20 6))), ((q 9), .inl (cI, 8, .inl (u20 7))), ((q 10), .inl (cI, 80, .inl (u20 8))), ((q 11), .inl (cI, 8, .inl (u20 9))), ((q 12), .inl (cI, 16, .inl (u20 10))), ((q 13), .inl (cI, 16, .inl (u20 11))), ((q 14), .inl (cI, 2048, .inl (u20 12)))]) H := hP
      have hD : va_D A ([((q 0), .inr (6, [.int (nI (n)), .ref (q 2), .ref (q 3), .ref (q 4), .ref (q 5), .ref (q 6), .ref (q 7), .ref (q 8), .ref (q 9), .ref (q 10), .ref (q 11), .ref (q 12), .ref (q 13), .ref (q 14)])), ((q 2), .inl (cI, 10, .inl (u20 0))), ((q 3), .inl (cI, 2, .inl (u20 1))), ((q 4), .inl (cI, 2, .inl (u20 2))), ((q 5), .inl (cI, 2, .inl (u20 3))), ((q 6), .inl (cI, 20, .inl (u20 4))), ((q 7), .inl (cI, 20, .inl (u20 5))), ((q 8), .inl (cI, 20, .inl (u20 6))), ((q 9), .inl (cI, 8, .inl (u20 7))), ((q 10), .inl (cI, 80, .inl (u20 8))), ((q 11), .inl (cI, 8, .inl (u20 9))), ((q 12), .inl (cI, 16, .inl (u20 10))), ((q 13), .inl (cI, 16, .inl (u20 11))), ((q 14), .inl (cI, 2048, .inl (u20 12)))]) := hD
      refine lv_if_eq (tgt := 30) hx hb nd_CM_independent_23 rfl (fun hc23 => ?_) (fun hc23 => ?_)
      · refine wi_ic hx hb (a := 0) nd_CM_independent_30 ?_
        have hin : ¬ ma_r n (cb_m y 0) s1 = mt_cd n s1 := fun q => nI_ne0 (n := 1) (by omega) (by omega) ((hp20.1 q).symm.trans hc23)
        have hsp : sp_indep n y (nI 0) (nI s1) = nI 0 := by unfold sp_indep; simp only [sw_0, sr_t (show s1 ≤ 2 ^ n - 1 by omega) (show 2 ^ n - 1 < 2 ^ 31 by omega), tn_nI (show s1 < 2 ^ 31 by omega), tn_0]; simp [hin]
        exact wb_iret u20 hx hb hr hk hAe (by rw [hsp]; exact ⟨rfl, rf_keep hn (fun j hj => hp20.2.2 j (Or.inl hj)) hI⟩) hP hD hS nd_CM_independent_31
      · refine wi_ic hx hb (a := 1) nd_CM_independent_26 ?_
        refine lv_goto (tgt := 31) hx hb nd_CM_independent_27 rfl ?_
        have hin : ma_r n (cb_m y 0) s1 = mt_cd n s1 := Classical.byContradiction fun q => hc23 ((hp20.2.1 q).trans nI_0)
        have hsp : sp_indep n y (nI 0) (nI s1) = nI 1 := by unfold sp_indep; simp only [sw_0, sr_t (show s1 ≤ 2 ^ n - 1 by omega) (show 2 ^ n - 1 < 2 ^ 31 by omega), tn_nI (show s1 < 2 ^ 31 by omega), tn_0]; simp [hin]
        exact wb_iret u20 hx hb hr hk hAe (by rw [hsp]; exact ⟨rfl, rf_keep hn (fun j hj => hp20.2.2 j (Or.inl hj)) hI⟩) hP hD hS nd_CM_independent_31
    · refine wc_V (C := nr_CM) (n := 1) hx hb hml hown htg (c_CM_isSet l D _ q n hn s (nI 0) (fun h => absurd h hq9) (fun _ => rfl)) tm_482 tm_479 tm_481 tp_14 tm_9 (by decide +kernel) ⟨⟨Nat.le_trans (by decide) hRf, Nat.le_trans (by decide) hRl⟩, rfl, rfl⟩ (wa_pre (hP.sub [0] rfl) hK hN) (va_recv (q0 := 0) (ci := 6) hK hP rfl rfl) rfl hl.1 rfl (Nat.le_of_ble_eq_true rfl) nd_CM_independent_9 hCS ?_
      refine wi_if_ne (tgt := 17) hx hb (by decide) nd_CM_independent_12 rfl (fun h => absurd h (by decide)) (fun _ => ?_)
      refine lv_iconst (v := -1) hx hb nd_CM_independent_15 (by decide) ?_
      have hsp : sp_indep n y (nI (0)) s = -1 := by unfold sp_indep; simp [sz_s hn hq9]
      exact wb_iret g hx hb hr hk hAe (by rw [hsp]; exact ⟨rfl, hI⟩) hP hD hS nd_CM_independent_16
  · subst hw1
    refine wc_S (n := 1) hx hb hml hown htg (c_CM_isWhich l D _ (nI 1) (nI 1) (fun _ => rfl) (fun h => absurd (Or.inr rfl) h)) tm_432 tm_430 tm_431 tm_9 (by decide +kernel) ⟨⟨Nat.le_trans (by decide) hRf, Nat.le_trans (by decide) hRl⟩, rfl, rfl⟩ (wa_pre wa_nil hK hN) rfl hl.1 rfl (Nat.le_of_ble_eq_true rfl) nd_CM_independent_1 hCS ?_
    refine wi_if_eq (tgt := 15) hx hb (by decide) nd_CM_independent_4 rfl (fun h => absurd h (by decide)) (fun _ => ?_)
    refine lv_aload_n hx hb nd_CM_independent_7 rfl (lv_at hl 0 rfl) ?_
    refine lv_iload_n hx hb nd_CM_independent_8 rfl (lv_at hl 2 rfl) ?_
    by_cases hq9 : ¬ s < 0 ∧ ¬ nI (2 ^ n) ≤ s
    · obtain ⟨s1, h_s1, rfl⟩ := sm_elem (by omega) hq9
      refine wc_V (C := nr_CM) (n := 1) hx hb hml hown htg (c_CM_isSet l D _ q n hn (nI s1) (nI 1) (fun _ => rfl) (fun h => absurd hq9 h)) tm_482 tm_479 tm_481 tp_14 tm_9 (by decide +kernel) ⟨⟨Nat.le_trans (by decide) hRf, Nat.le_trans (by decide) hRl⟩, rfl, rfl⟩ (wa_pre (hP.sub [0] rfl) hK hN) (va_recv (q0 := 0) (ci := 6) hK hP rfl rfl) rfl hl.1 rfl (Nat.le_of_ble_eq_true rfl) nd_CM_independent_9 hCS ?_
      refine wi_if_ne (tgt := 17) hx hb (by decide) nd_CM_independent_12 rfl (fun _ => ?_) (fun h => absurd h (by decide))
      refine lv_aload_n hx hb nd_CM_independent_17 rfl (lv_at hl 0 rfl) ?_
      refine lv_iload_n hx hb nd_CM_independent_18 rfl (lv_at hl 1 rfl) ?_
      refine lv_iload_n hx hb nd_CM_independent_19 rfl (lv_at hl 2 rfl) ?_
      refine wd_Vi0 (C := nr_CM) (n := 2) (Y := rf_ cI q n g) hx hb hml hown htg (c_CM_isFree l D cI cG cM q n hn1 hn g y hI 1 s1 (by omega) (by omega) _) tm_486 tm_483 tm_485 tp_15 tm_9 (by decide +kernel) ⟨⟨Nat.le_trans (by decide) hRf, Nat.le_trans (by decide) hRl⟩, rfl, rfl⟩ hP hD hS hA hK hN (va_recv (q0 := 0) (ci := 6) hK hP rfl rfl) rfl hl.1 rfl (Nat.le_of_ble_eq_true rfl) nd_CM_independent_20 hCS (fun v20 u20 H locs hp20 hP hD hS => ?_)
      have hP : va_P D cl_all ([((q 0), .inr (6, [.int (nI (n)), .ref (q 2), .ref (q 3), .ref (q 4), .ref (q 5), .ref (q 6), .ref (q 7), .ref (q 8), .ref (q 9), .ref (q 10), .ref (q 11), .ref (q 12), .ref (q 13), .ref (q 14)])), ((q 2), .inl (cI, 10, .inl (u20 0))), ((q 3), .inl (cI, 2, .inl (u20 1))), ((q 4), .inl (cI, 2, .inl (u20 2))), ((q 5), .inl (cI, 2, .inl (u20 3))), ((q 6), .inl (cI, 20, .inl (u20 4))), ((q 7), .inl (cI, 20, .inl (u20 5))), ((q 8), .inl (cI, 20, .inl (u20 6))), ((q 9), .inl (cI, 8, .inl (u20 7))), ((q 10), .inl (cI, 80, .inl (u20 8))), ((q 11), .inl (cI, 8, .inl (u20 9))), ((q 12), .inl (cI, 16, .inl (u20 10))), ((q 13), .inl (cI, 16, .inl (u20 11))), ((q 14), .inl (cI, 2048, .inl (u20 12)))]) H := hP
      have hD : va_D A ([((q 0), .inr (6, [.int (nI (n)), .ref (q 2), .ref (q 3), .ref (q 4), .ref (q 5), .ref (q 6), .ref (q 7), .ref (q 8), .ref (q 9), .ref (q 10), .ref (q 11), .ref (q 12), .ref (q 13), .ref (q 14)])), ((q 2), .inl (cI, 10, .inl (u20 0))), ((q 3), .inl (cI, 2, .inl (u20 1))), ((q 4), .inl (cI, 2, .inl (u20 2))), ((q 5), .inl (cI, 2, .inl (u20 3))), ((q 6), .inl (cI, 20, .inl (u20 4))), ((q 7), .inl (cI, 20, .inl (u20 5))), ((q 8), .inl (cI, 20, .inl (u20 6))), ((q 9), .inl (cI, 8, .inl (u20 7))), ((q 10), .inl (cI, 80, .inl (u20 8))), ((q 11), .inl (cI, 8, .inl (u20 9))), ((q 12), .inl (cI, 16, .inl (u20 10))), ((q 13), .inl (cI, 16, .inl (u20 11))), ((q 14), .inl (cI, 2048, .inl (u20 12)))]) := hD
      refine lv_if_eq (tgt := 30) hx hb nd_CM_independent_23 rfl (fun hc23 => ?_) (fun hc23 => ?_)
      · refine wi_ic hx hb (a := 0) nd_CM_independent_30 ?_
        have hin : ¬ ma_r n (cb_m y 1) s1 = mt_cd n s1 := fun q => nI_ne0 (n := 1) (by omega) (by omega) ((hp20.1 q).symm.trans hc23)
        have hsp : sp_indep n y (nI 1) (nI s1) = nI 0 := by unfold sp_indep; simp only [sw_1, sr_t (show s1 ≤ 2 ^ n - 1 by omega) (show 2 ^ n - 1 < 2 ^ 31 by omega), tn_nI (show s1 < 2 ^ 31 by omega), tn_1]; simp [hin]
        exact wb_iret u20 hx hb hr hk hAe (by rw [hsp]; exact ⟨rfl, rf_keep hn (fun j hj => hp20.2.2 j (Or.inl hj)) hI⟩) hP hD hS nd_CM_independent_31
      · refine wi_ic hx hb (a := 1) nd_CM_independent_26 ?_
        refine lv_goto (tgt := 31) hx hb nd_CM_independent_27 rfl ?_
        have hin : ma_r n (cb_m y 1) s1 = mt_cd n s1 := Classical.byContradiction fun q => hc23 ((hp20.2.1 q).trans nI_0)
        have hsp : sp_indep n y (nI 1) (nI s1) = nI 1 := by unfold sp_indep; simp only [sw_1, sr_t (show s1 ≤ 2 ^ n - 1 by omega) (show 2 ^ n - 1 < 2 ^ 31 by omega), tn_nI (show s1 < 2 ^ 31 by omega), tn_1]; simp [hin]
        exact wb_iret u20 hx hb hr hk hAe (by rw [hsp]; exact ⟨rfl, rf_keep hn (fun j hj => hp20.2.2 j (Or.inl hj)) hI⟩) hP hD hS nd_CM_independent_31
    · refine wc_V (C := nr_CM) (n := 1) hx hb hml hown htg (c_CM_isSet l D _ q n hn s (nI 0) (fun h => absurd h hq9) (fun _ => rfl)) tm_482 tm_479 tm_481 tp_14 tm_9 (by decide +kernel) ⟨⟨Nat.le_trans (by decide) hRf, Nat.le_trans (by decide) hRl⟩, rfl, rfl⟩ (wa_pre (hP.sub [0] rfl) hK hN) (va_recv (q0 := 0) (ci := 6) hK hP rfl rfl) rfl hl.1 rfl (Nat.le_of_ble_eq_true rfl) nd_CM_independent_9 hCS ?_
      refine wi_if_ne (tgt := 17) hx hb (by decide) nd_CM_independent_12 rfl (fun h => absurd h (by decide)) (fun _ => ?_)
      refine lv_iconst (v := -1) hx hb nd_CM_independent_15 (by decide) ?_
      have hsp : sp_indep n y (nI (1)) s = -1 := by unfold sp_indep; simp [sz_s hn hq9]
      exact wb_iret g hx hb hr hk hAe (by rw [hsp]; exact ⟨rfl, hI⟩) hP hD hS nd_CM_independent_16
  · refine wc_S (n := 1) hx hb hml hown htg (c_CM_isWhich l D _ wh (nI 0) (fun h => absurd h (fun z => z.elim (fun z => hw1.1 (z.trans nI_0.symm)) hw1.2)) (fun _ => rfl)) tm_432 tm_430 tm_431 tm_9 (by decide +kernel) ⟨⟨Nat.le_trans (by decide) hRf, Nat.le_trans (by decide) hRl⟩, rfl, rfl⟩ (wa_pre wa_nil hK hN) rfl hl.1 rfl (Nat.le_of_ble_eq_true rfl) nd_CM_independent_1 hCS ?_
    refine wi_if_eq (tgt := 15) hx hb (by decide) nd_CM_independent_4 rfl (fun _ => ?_) (fun h => absurd h (by decide))
    refine lv_iconst (v := -1) hx hb nd_CM_independent_15 (by decide) ?_
    have hsp : sp_indep n y wh s = -1 := by unfold sp_indep; simp [sw_n hw1]
    exact wb_iret g hx hb hr hk hAe (by rw [hsp]; exact ⟨rfl, hI⟩) hP hD hS nd_CM_independent_16
theorem nd_CM_rank_0 : decode nc_CM_rank 0 = .ok (.iload_n 1, 1) := by decide +kernel
theorem nd_CM_rank_1 : decode nc_CM_rank 1 = .ok (.invokestatic 53, 3) := by decide +kernel
theorem nd_CM_rank_4 : decode nc_CM_rank 4 = .ok (.ifCond .eq 11, 3) := by decide +kernel
theorem nd_CM_rank_7 : decode nc_CM_rank 7 = .ok (.aload_n 0, 1) := by decide +kernel
theorem nd_CM_rank_8 : decode nc_CM_rank 8 = .ok (.iload_n 2, 1) := by decide +kernel
theorem nd_CM_rank_9 : decode nc_CM_rank 9 = .ok (.invokevirtual 86, 3) := by decide +kernel
theorem nd_CM_rank_12 : decode nc_CM_rank 12 = .ok (.ifCond .ne 5, 3) := by decide +kernel
theorem nd_CM_rank_15 : decode nc_CM_rank 15 = .ok (.iconst (-1), 1) := by decide +kernel
theorem nd_CM_rank_16 : decode nc_CM_rank 16 = .ok (.ireturn, 1) := by decide +kernel
theorem nd_CM_rank_17 : decode nc_CM_rank 17 = .ok (.aload_n 0, 1) := by decide +kernel
theorem nd_CM_rank_18 : decode nc_CM_rank 18 = .ok (.invokevirtual 89, 3) := by decide +kernel
theorem nd_CM_rank_21 : decode nc_CM_rank 21 = .ok (.aload_n 0, 1) := by decide +kernel
theorem nd_CM_rank_22 : decode nc_CM_rank 22 = .ok (.getfield 46, 3) := by decide +kernel
theorem nd_CM_rank_25 : decode nc_CM_rank 25 = .ok (.sipush 1024, 3) := by decide +kernel
theorem nd_CM_rank_28 : decode nc_CM_rank 28 = .ok (.iload_n 1, 1) := by decide +kernel
theorem nd_CM_rank_29 : decode nc_CM_rank 29 = .ok (.imul, 1) := by decide +kernel
theorem nd_CM_rank_30 : decode nc_CM_rank 30 = .ok (.iload_n 2, 1) := by decide +kernel
theorem nd_CM_rank_31 : decode nc_CM_rank 31 = .ok (.iadd, 1) := by decide +kernel
theorem nd_CM_rank_32 : decode nc_CM_rank 32 = .ok (.iaload, 1) := by decide +kernel
theorem nd_CM_rank_33 : decode nc_CM_rank 33 = .ok (.ireturn, 1) := by decide +kernel
set_option maxRecDepth 20000 in
theorem c_CM_rank (l : Launch) (D : va_G) (cI cG cM : ClassId)  (q : Nat → Nat) (n : Nat) (hn1 : 1 ≤ n) (hn : n ≤ 10) (g : rf_S) (y : cb_Y) (hI : rf_I n y g) (wh s : Int32) (sz : Nat) : wb_Mi l ny_CM_rank nc_CM_rank 3 (some .int) ({ frames := 4, cells := 0, slots := 0, locals := 98 }) D (ty_all cI cG cM) (rf_ cI q n g) sz [.ref (q 0), .int (wh), .int (s)] (fun (v : Int32) (u : rf_S) => v = sp_rank n y wh s ∧ rf_I n y u) (fun u : rf_S => rf_ cI q n u) := by
  refine wb_start (S := rf_S) (by decide) (Nat.le_of_ble_eq_true rfl) ?_
  intro p e0 s0 m below meth c ls A hx hb hr hml htg hown hk hP hK hN hl hAe hsz hD hA
  have hl : lv_has ls 3 [(0, .ref (q 0)), (1, .int (wh)), (2, .int (s))] := hl
  have hP : va_P D cl_all ([((q 0), .inr (6, [.int (nI (n)), .ref (q 2), .ref (q 3), .ref (q 4), .ref (q 5), .ref (q 6), .ref (q 7), .ref (q 8), .ref (q 9), .ref (q 10), .ref (q 11), .ref (q 12), .ref (q 13), .ref (q 14)])), ((q 2), .inl (cI, 10, .inl (g 0))), ((q 3), .inl (cI, 2, .inl (g 1))), ((q 4), .inl (cI, 2, .inl (g 2))), ((q 5), .inl (cI, 2, .inl (g 3))), ((q 6), .inl (cI, 20, .inl (g 4))), ((q 7), .inl (cI, 20, .inl (g 5))), ((q 8), .inl (cI, 20, .inl (g 6))), ((q 9), .inl (cI, 8, .inl (g 7))), ((q 10), .inl (cI, 80, .inl (g 8))), ((q 11), .inl (cI, 8, .inl (g 9))), ((q 12), .inl (cI, 16, .inl (g 10))), ((q 13), .inl (cI, 16, .inl (g 11))), ((q 14), .inl (cI, 2048, .inl (g 12)))]) s0.heap := hP
  have hD : va_D A ([((q 0), .inr (6, [.int (nI (n)), .ref (q 2), .ref (q 3), .ref (q 4), .ref (q 5), .ref (q 6), .ref (q 7), .ref (q 8), .ref (q 9), .ref (q 10), .ref (q 11), .ref (q 12), .ref (q 13), .ref (q 14)])), ((q 2), .inl (cI, 10, .inl (g 0))), ((q 3), .inl (cI, 2, .inl (g 1))), ((q 4), .inl (cI, 2, .inl (g 2))), ((q 5), .inl (cI, 2, .inl (g 3))), ((q 6), .inl (cI, 20, .inl (g 4))), ((q 7), .inl (cI, 20, .inl (g 5))), ((q 8), .inl (cI, 20, .inl (g 6))), ((q 9), .inl (cI, 8, .inl (g 7))), ((q 10), .inl (cI, 80, .inl (g 8))), ((q 11), .inl (cI, 8, .inl (g 9))), ((q 12), .inl (cI, 16, .inl (g 10))), ((q 13), .inl (cI, 16, .inl (g 11))), ((q 14), .inl (cI, 2048, .inl (g 12)))]) := hD
  have hS : va_S A s0.heap s0.heap [] := va_S.rf
  have hRf : 4 ≤ ({ frames := 4, cells := 0, slots := 0, locals := 98 } : Room).frames := Nat.le_refl _
  have hRl : 98 ≤ ({ frames := 4, cells := 0, slots := 0, locals := 98 } : Room).locals := Nat.le_refl _
  have hCS : 0 ≤ ({ frames := 4, cells := 0, slots := 0, locals := 98 } : Room).cells ∧ 0 ≤ ({ frames := 4, cells := 0, slots := 0, locals := 98 } : Room).slots := ⟨Nat.zero_le _, Nat.zero_le _⟩
  have h2n : 2 ^ n ≤ 1024 := Nat.pow_le_pow_right (by omega) hn
  have h2p : 1 ≤ 2 ^ n := Nat.one_le_two_pow
  refine lv_iload_n hx hb nd_CM_rank_0 rfl (lv_at hl 1 rfl) ?_
  rcases sm_which wh with hw1 | hw1 | hw1
  · subst hw1
    refine wc_S (n := 1) hx hb hml hown htg (c_CM_isWhich l D _ (nI 0) (nI 1) (fun _ => rfl) (fun h => absurd (Or.inl nI_0) h)) tm_432 tm_430 tm_431 tm_9 (by decide +kernel) ⟨⟨Nat.le_trans (by decide) hRf, Nat.le_trans (by decide) hRl⟩, rfl, rfl⟩ (wa_pre wa_nil hK hN) rfl hl.1 rfl (Nat.le_of_ble_eq_true rfl) nd_CM_rank_1 hCS ?_
    refine wi_if_eq (tgt := 15) hx hb (by decide) nd_CM_rank_4 rfl (fun h => absurd h (by decide)) (fun _ => ?_)
    refine lv_aload_n hx hb nd_CM_rank_7 rfl (lv_at hl 0 rfl) ?_
    refine lv_iload_n hx hb nd_CM_rank_8 rfl (lv_at hl 2 rfl) ?_
    by_cases hq9 : ¬ s < 0 ∧ ¬ nI (2 ^ n) ≤ s
    · obtain ⟨s1, h_s1, rfl⟩ := sm_elem (by omega) hq9
      refine wc_V (C := nr_CM) (n := 1) hx hb hml hown htg (c_CM_isSet l D _ q n hn (nI s1) (nI 1) (fun _ => rfl) (fun h => absurd hq9 h)) tm_482 tm_479 tm_481 tp_14 tm_9 (by decide +kernel) ⟨⟨Nat.le_trans (by decide) hRf, Nat.le_trans (by decide) hRl⟩, rfl, rfl⟩ (wa_pre (hP.sub [0] rfl) hK hN) (va_recv (q0 := 0) (ci := 6) hK hP rfl rfl) rfl hl.1 rfl (Nat.le_of_ble_eq_true rfl) nd_CM_rank_9 hCS ?_
      refine wi_if_ne (tgt := 17) hx hb (by decide) nd_CM_rank_12 rfl (fun _ => ?_) (fun h => absurd h (by decide))
      refine lv_aload_n hx hb nd_CM_rank_17 rfl (lv_at hl 0 rfl) ?_
      refine wd_Vv0 (C := nr_CM) (n := 0) (Y := rf_ cI q n g) hx hb hml hown htg (c_CM_work l D cI cG cM q n hn1 hn g y hI _) tm_513 tm_510 tm_512 tp_20 tm_9 (by decide +kernel) ⟨⟨Nat.le_trans (by decide) hRf, Nat.le_trans (by decide) hRl⟩, rfl, rfl⟩ hP hD hS hA hK hN (va_recv (q0 := 0) (ci := 6) hK hP rfl rfl) rfl hl.1 rfl (Nat.le_of_ble_eq_true rfl) nd_CM_rank_18 hCS (fun u18 H locs hp18 hP hD hS => ?_)
      have hP : va_P D cl_all ([((q 0), .inr (6, [.int (nI (n)), .ref (q 2), .ref (q 3), .ref (q 4), .ref (q 5), .ref (q 6), .ref (q 7), .ref (q 8), .ref (q 9), .ref (q 10), .ref (q 11), .ref (q 12), .ref (q 13), .ref (q 14)])), ((q 2), .inl (cI, 10, .inl (u18 0))), ((q 3), .inl (cI, 2, .inl (u18 1))), ((q 4), .inl (cI, 2, .inl (u18 2))), ((q 5), .inl (cI, 2, .inl (u18 3))), ((q 6), .inl (cI, 20, .inl (u18 4))), ((q 7), .inl (cI, 20, .inl (u18 5))), ((q 8), .inl (cI, 20, .inl (u18 6))), ((q 9), .inl (cI, 8, .inl (u18 7))), ((q 10), .inl (cI, 80, .inl (u18 8))), ((q 11), .inl (cI, 8, .inl (u18 9))), ((q 12), .inl (cI, 16, .inl (u18 10))), ((q 13), .inl (cI, 16, .inl (u18 11))), ((q 14), .inl (cI, 2048, .inl (u18 12)))]) H := hP
      have hD : va_D A ([((q 0), .inr (6, [.int (nI (n)), .ref (q 2), .ref (q 3), .ref (q 4), .ref (q 5), .ref (q 6), .ref (q 7), .ref (q 8), .ref (q 9), .ref (q 10), .ref (q 11), .ref (q 12), .ref (q 13), .ref (q 14)])), ((q 2), .inl (cI, 10, .inl (u18 0))), ((q 3), .inl (cI, 2, .inl (u18 1))), ((q 4), .inl (cI, 2, .inl (u18 2))), ((q 5), .inl (cI, 2, .inl (u18 3))), ((q 6), .inl (cI, 20, .inl (u18 4))), ((q 7), .inl (cI, 20, .inl (u18 5))), ((q 8), .inl (cI, 20, .inl (u18 6))), ((q 9), .inl (cI, 8, .inl (u18 7))), ((q 10), .inl (cI, 80, .inl (u18 8))), ((q 11), .inl (cI, 8, .inl (u18 9))), ((q 12), .inl (cI, 16, .inl (u18 10))), ((q 13), .inl (cI, 16, .inl (u18 11))), ((q 14), .inl (cI, 2048, .inl (u18 12)))]) := hD
      have hrt := hp18.2
      refine lv_aload_n hx hb nd_CM_rank_21 rfl (lv_at hl 0 rfl) ?_
      refine va_get (D := D) (C := nr_CM) (T := nt_CM) (N := 14) hx hb htg tf_CM hown hK hP 0 rfl rfl 13 (by decide) (htg _ tm_396) (fun _ h => h) rfl nd_CM_rank_22 ?_
      refine lv_sipush (v := nI 1024) hx hb nd_CM_rank_25 (by decide) ?_
      refine lv_iload_n hx hb nd_CM_rank_28 rfl (lv_at hl 1 rfl) ?_
      refine wi_imul hx hb nd_CM_rank_29 ?_
      refine lv_iload_n hx hb nd_CM_rank_30 rfl (lv_at hl 2 rfl) ?_
      refine wi_iadd hx hb nd_CM_rank_31 ?_
      refine wi_iald hx hb hK hP 13 0 rfl rfl (by omega) (by omega) nd_CM_rank_32 ?_
      refine wi_top (hrt 0 s1 (by omega) (by omega)) ?_
      have hsp : sp_rank n y (nI 0) (nI s1) = nI (ma_r n (cb_m y 0) s1) := by unfold sp_rank; simp only [sw_0, sr_t (show s1 ≤ 2 ^ n - 1 by omega) (show 2 ^ n - 1 < 2 ^ 31 by omega), tn_nI (show s1 < 2 ^ 31 by omega), tn_0]; simp
      exact wb_iret u18 hx hb hr hk hAe (by rw [hsp]; exact ⟨rfl, rf_keep hn (fun j hj => hp18.1 j hj) hI⟩) hP hD hS nd_CM_rank_33
    · refine wc_V (C := nr_CM) (n := 1) hx hb hml hown htg (c_CM_isSet l D _ q n hn s (nI 0) (fun h => absurd h hq9) (fun _ => rfl)) tm_482 tm_479 tm_481 tp_14 tm_9 (by decide +kernel) ⟨⟨Nat.le_trans (by decide) hRf, Nat.le_trans (by decide) hRl⟩, rfl, rfl⟩ (wa_pre (hP.sub [0] rfl) hK hN) (va_recv (q0 := 0) (ci := 6) hK hP rfl rfl) rfl hl.1 rfl (Nat.le_of_ble_eq_true rfl) nd_CM_rank_9 hCS ?_
      refine wi_if_ne (tgt := 17) hx hb (by decide) nd_CM_rank_12 rfl (fun h => absurd h (by decide)) (fun _ => ?_)
      refine lv_iconst (v := -1) hx hb nd_CM_rank_15 (by decide) ?_
      have hsp : sp_rank n y (nI (0)) s = -1 := by unfold sp_rank; simp [sz_s hn hq9]
      exact wb_iret g hx hb hr hk hAe (by rw [hsp]; exact ⟨rfl, hI⟩) hP hD hS nd_CM_rank_16
  · subst hw1
    refine wc_S (n := 1) hx hb hml hown htg (c_CM_isWhich l D _ (nI 1) (nI 1) (fun _ => rfl) (fun h => absurd (Or.inr rfl) h)) tm_432 tm_430 tm_431 tm_9 (by decide +kernel) ⟨⟨Nat.le_trans (by decide) hRf, Nat.le_trans (by decide) hRl⟩, rfl, rfl⟩ (wa_pre wa_nil hK hN) rfl hl.1 rfl (Nat.le_of_ble_eq_true rfl) nd_CM_rank_1 hCS ?_
    refine wi_if_eq (tgt := 15) hx hb (by decide) nd_CM_rank_4 rfl (fun h => absurd h (by decide)) (fun _ => ?_)
    refine lv_aload_n hx hb nd_CM_rank_7 rfl (lv_at hl 0 rfl) ?_
    refine lv_iload_n hx hb nd_CM_rank_8 rfl (lv_at hl 2 rfl) ?_
    by_cases hq9 : ¬ s < 0 ∧ ¬ nI (2 ^ n) ≤ s
    · obtain ⟨s1, h_s1, rfl⟩ := sm_elem (by omega) hq9
      refine wc_V (C := nr_CM) (n := 1) hx hb hml hown htg (c_CM_isSet l D _ q n hn (nI s1) (nI 1) (fun _ => rfl) (fun h => absurd hq9 h)) tm_482 tm_479 tm_481 tp_14 tm_9 (by decide +kernel) ⟨⟨Nat.le_trans (by decide) hRf, Nat.le_trans (by decide) hRl⟩, rfl, rfl⟩ (wa_pre (hP.sub [0] rfl) hK hN) (va_recv (q0 := 0) (ci := 6) hK hP rfl rfl) rfl hl.1 rfl (Nat.le_of_ble_eq_true rfl) nd_CM_rank_9 hCS ?_
      refine wi_if_ne (tgt := 17) hx hb (by decide) nd_CM_rank_12 rfl (fun _ => ?_) (fun h => absurd h (by decide))
      refine lv_aload_n hx hb nd_CM_rank_17 rfl (lv_at hl 0 rfl) ?_
      refine wd_Vv0 (C := nr_CM) (n := 0) (Y := rf_ cI q n g) hx hb hml hown htg (c_CM_work l D cI cG cM q n hn1 hn g y hI _) tm_513 tm_510 tm_512 tp_20 tm_9 (by decide +kernel) ⟨⟨Nat.le_trans (by decide) hRf, Nat.le_trans (by decide) hRl⟩, rfl, rfl⟩ hP hD hS hA hK hN (va_recv (q0 := 0) (ci := 6) hK hP rfl rfl) rfl hl.1 rfl (Nat.le_of_ble_eq_true rfl) nd_CM_rank_18 hCS (fun u18 H locs hp18 hP hD hS => ?_)
      have hP : va_P D cl_all ([((q 0), .inr (6, [.int (nI (n)), .ref (q 2), .ref (q 3), .ref (q 4), .ref (q 5), .ref (q 6), .ref (q 7), .ref (q 8), .ref (q 9), .ref (q 10), .ref (q 11), .ref (q 12), .ref (q 13), .ref (q 14)])), ((q 2), .inl (cI, 10, .inl (u18 0))), ((q 3), .inl (cI, 2, .inl (u18 1))), ((q 4), .inl (cI, 2, .inl (u18 2))), ((q 5), .inl (cI, 2, .inl (u18 3))), ((q 6), .inl (cI, 20, .inl (u18 4))), ((q 7), .inl (cI, 20, .inl (u18 5))), ((q 8), .inl (cI, 20, .inl (u18 6))), ((q 9), .inl (cI, 8, .inl (u18 7))), ((q 10), .inl (cI, 80, .inl (u18 8))), ((q 11), .inl (cI, 8, .inl (u18 9))), ((q 12), .inl (cI, 16, .inl (u18 10))), ((q 13), .inl (cI, 16, .inl (u18 11))), ((q 14), .inl (cI, 2048, .inl (u18 12)))]) H := hP
      have hD : va_D A ([((q 0), .inr (6, [.int (nI (n)), .ref (q 2), .ref (q 3), .ref (q 4), .ref (q 5), .ref (q 6), .ref (q 7), .ref (q 8), .ref (q 9), .ref (q 10), .ref (q 11), .ref (q 12), .ref (q 13), .ref (q 14)])), ((q 2), .inl (cI, 10, .inl (u18 0))), ((q 3), .inl (cI, 2, .inl (u18 1))), ((q 4), .inl (cI, 2, .inl (u18 2))), ((q 5), .inl (cI, 2, .inl (u18 3))), ((q 6), .inl (cI, 20, .inl (u18 4))), ((q 7), .inl (cI, 20, .inl (u18 5))), ((q 8), .inl (cI, 20, .inl (u18 6))), ((q 9), .inl (cI, 8, .inl (u18 7))), ((q 10), .inl (cI, 80, .inl (u18 8))), ((q 11), .inl (cI, 8, .inl (u18 9))), ((q 12), .inl (cI, 16, .inl (u18 10))), ((q 13), .inl (cI, 16, .inl (u18 11))), ((q 14), .inl (cI, 2048, .inl (u18 12)))]) := hD
      have hrt := hp18.2
      refine lv_aload_n hx hb nd_CM_rank_21 rfl (lv_at hl 0 rfl) ?_
      refine va_get (D := D) (C := nr_CM) (T := nt_CM) (N := 14) hx hb htg tf_CM hown hK hP 0 rfl rfl 13 (by decide) (htg _ tm_396) (fun _ h => h) rfl nd_CM_rank_22 ?_
      refine lv_sipush (v := nI 1024) hx hb nd_CM_rank_25 (by decide) ?_
      refine lv_iload_n hx hb nd_CM_rank_28 rfl (lv_at hl 1 rfl) ?_
      refine wi_imul hx hb nd_CM_rank_29 ?_
      refine lv_iload_n hx hb nd_CM_rank_30 rfl (lv_at hl 2 rfl) ?_
      refine wi_iadd hx hb nd_CM_rank_31 ?_
      refine wi_iald hx hb hK hP 13 0 rfl rfl (by omega) (by omega) nd_CM_rank_32 ?_
      refine wi_top (hrt 1 s1 (by omega) (by omega)) ?_
      have hsp : sp_rank n y (nI 1) (nI s1) = nI (ma_r n (cb_m y 1) s1) := by unfold sp_rank; simp only [sw_1, sr_t (show s1 ≤ 2 ^ n - 1 by omega) (show 2 ^ n - 1 < 2 ^ 31 by omega), tn_nI (show s1 < 2 ^ 31 by omega), tn_1]; simp
      exact wb_iret u18 hx hb hr hk hAe (by rw [hsp]; exact ⟨rfl, rf_keep hn (fun j hj => hp18.1 j hj) hI⟩) hP hD hS nd_CM_rank_33
    · refine wc_V (C := nr_CM) (n := 1) hx hb hml hown htg (c_CM_isSet l D _ q n hn s (nI 0) (fun h => absurd h hq9) (fun _ => rfl)) tm_482 tm_479 tm_481 tp_14 tm_9 (by decide +kernel) ⟨⟨Nat.le_trans (by decide) hRf, Nat.le_trans (by decide) hRl⟩, rfl, rfl⟩ (wa_pre (hP.sub [0] rfl) hK hN) (va_recv (q0 := 0) (ci := 6) hK hP rfl rfl) rfl hl.1 rfl (Nat.le_of_ble_eq_true rfl) nd_CM_rank_9 hCS ?_
      refine wi_if_ne (tgt := 17) hx hb (by decide) nd_CM_rank_12 rfl (fun h => absurd h (by decide)) (fun _ => ?_)
      refine lv_iconst (v := -1) hx hb nd_CM_rank_15 (by decide) ?_
      have hsp : sp_rank n y (nI (1)) s = -1 := by unfold sp_rank; simp [sz_s hn hq9]
      exact wb_iret g hx hb hr hk hAe (by rw [hsp]; exact ⟨rfl, hI⟩) hP hD hS nd_CM_rank_16
  · refine wc_S (n := 1) hx hb hml hown htg (c_CM_isWhich l D _ wh (nI 0) (fun h => absurd h (fun z => z.elim (fun z => hw1.1 (z.trans nI_0.symm)) hw1.2)) (fun _ => rfl)) tm_432 tm_430 tm_431 tm_9 (by decide +kernel) ⟨⟨Nat.le_trans (by decide) hRf, Nat.le_trans (by decide) hRl⟩, rfl, rfl⟩ (wa_pre wa_nil hK hN) rfl hl.1 rfl (Nat.le_of_ble_eq_true rfl) nd_CM_rank_1 hCS ?_
    refine wi_if_eq (tgt := 15) hx hb (by decide) nd_CM_rank_4 rfl (fun _ => ?_) (fun h => absurd h (by decide))
    refine lv_iconst (v := -1) hx hb nd_CM_rank_15 (by decide) ?_
    have hsp : sp_rank n y wh s = -1 := by unfold sp_rank; simp [sw_n hw1]
    exact wb_iret g hx hb hr hk hAe (by rw [hsp]; exact ⟨rfl, hI⟩) hP hD hS nd_CM_rank_16
theorem nd_CM_span_0 : decode nc_CM_span 0 = .ok (.iload_n 1, 1) := by decide +kernel
theorem nd_CM_span_1 : decode nc_CM_span 1 = .ok (.invokestatic 53, 3) := by decide +kernel
theorem nd_CM_span_4 : decode nc_CM_span 4 = .ok (.ifCond .eq 11, 3) := by decide +kernel
theorem nd_CM_span_7 : decode nc_CM_span 7 = .ok (.aload_n 0, 1) := by decide +kernel
theorem nd_CM_span_8 : decode nc_CM_span 8 = .ok (.iload_n 2, 1) := by decide +kernel
theorem nd_CM_span_9 : decode nc_CM_span 9 = .ok (.invokevirtual 86, 3) := by decide +kernel
theorem nd_CM_span_12 : decode nc_CM_span 12 = .ok (.ifCond .ne 5, 3) := by decide +kernel
theorem nd_CM_span_15 : decode nc_CM_span 15 = .ok (.iconst (-1), 1) := by decide +kernel
theorem nd_CM_span_16 : decode nc_CM_span 16 = .ok (.ireturn, 1) := by decide +kernel
theorem nd_CM_span_17 : decode nc_CM_span 17 = .ok (.aload_n 0, 1) := by decide +kernel
theorem nd_CM_span_18 : decode nc_CM_span 18 = .ok (.invokevirtual 89, 3) := by decide +kernel
theorem nd_CM_span_21 : decode nc_CM_span 21 = .ok (.iconst 0, 1) := by decide +kernel
theorem nd_CM_span_22 : decode nc_CM_span 22 = .ok (.istore_n 3, 1) := by decide +kernel
theorem nd_CM_span_23 : decode nc_CM_span 23 = .ok (.iconst 0, 1) := by decide +kernel
theorem nd_CM_span_24 : decode nc_CM_span 24 = .ok (.istore 4, 2) := by decide +kernel
theorem nd_CM_span_26 : decode nc_CM_span 26 = .ok (.iload 4, 2) := by decide +kernel
theorem nd_CM_span_28 : decode nc_CM_span 28 = .ok (.aload_n 0, 1) := by decide +kernel
theorem nd_CM_span_29 : decode nc_CM_span 29 = .ok (.getfield 49, 3) := by decide +kernel
theorem nd_CM_span_32 : decode nc_CM_span 32 = .ok (.if_icmp .ge 52, 3) := by decide +kernel
theorem nd_CM_span_35 : decode nc_CM_span 35 = .ok (.aload_n 0, 1) := by decide +kernel
theorem nd_CM_span_36 : decode nc_CM_span 36 = .ok (.getfield 46, 3) := by decide +kernel
theorem nd_CM_span_39 : decode nc_CM_span 39 = .ok (.sipush 1024, 3) := by decide +kernel
theorem nd_CM_span_42 : decode nc_CM_span 42 = .ok (.iload_n 1, 1) := by decide +kernel
theorem nd_CM_span_43 : decode nc_CM_span 43 = .ok (.imul, 1) := by decide +kernel
theorem nd_CM_span_44 : decode nc_CM_span 44 = .ok (.iload_n 2, 1) := by decide +kernel
theorem nd_CM_span_45 : decode nc_CM_span 45 = .ok (.iconst 1, 1) := by decide +kernel
theorem nd_CM_span_46 : decode nc_CM_span 46 = .ok (.iload 4, 2) := by decide +kernel
theorem nd_CM_span_48 : decode nc_CM_span 48 = .ok (.ishl, 1) := by decide +kernel
theorem nd_CM_span_49 : decode nc_CM_span 49 = .ok (.ior, 1) := by decide +kernel
theorem nd_CM_span_50 : decode nc_CM_span 50 = .ok (.iadd, 1) := by decide +kernel
theorem nd_CM_span_51 : decode nc_CM_span 51 = .ok (.iaload, 1) := by decide +kernel
theorem nd_CM_span_52 : decode nc_CM_span 52 = .ok (.aload_n 0, 1) := by decide +kernel
theorem nd_CM_span_53 : decode nc_CM_span 53 = .ok (.getfield 46, 3) := by decide +kernel
theorem nd_CM_span_56 : decode nc_CM_span 56 = .ok (.sipush 1024, 3) := by decide +kernel
theorem nd_CM_span_59 : decode nc_CM_span 59 = .ok (.iload_n 1, 1) := by decide +kernel
theorem nd_CM_span_60 : decode nc_CM_span 60 = .ok (.imul, 1) := by decide +kernel
theorem nd_CM_span_61 : decode nc_CM_span 61 = .ok (.iload_n 2, 1) := by decide +kernel
theorem nd_CM_span_62 : decode nc_CM_span 62 = .ok (.iadd, 1) := by decide +kernel
theorem nd_CM_span_63 : decode nc_CM_span 63 = .ok (.iaload, 1) := by decide +kernel
theorem nd_CM_span_64 : decode nc_CM_span 64 = .ok (.if_icmp .ne 12, 3) := by decide +kernel
theorem nd_CM_span_67 : decode nc_CM_span 67 = .ok (.iload_n 3, 1) := by decide +kernel
theorem nd_CM_span_68 : decode nc_CM_span 68 = .ok (.iconst 1, 1) := by decide +kernel
theorem nd_CM_span_69 : decode nc_CM_span 69 = .ok (.iload 4, 2) := by decide +kernel
theorem nd_CM_span_71 : decode nc_CM_span 71 = .ok (.ishl, 1) := by decide +kernel
theorem nd_CM_span_72 : decode nc_CM_span 72 = .ok (.ior, 1) := by decide +kernel
theorem nd_CM_span_73 : decode nc_CM_span 73 = .ok (.goto 4, 3) := by decide +kernel
theorem nd_CM_span_76 : decode nc_CM_span 76 = .ok (.iload_n 3, 1) := by decide +kernel
theorem nd_CM_span_77 : decode nc_CM_span 77 = .ok (.istore_n 3, 1) := by decide +kernel
theorem nd_CM_span_78 : decode nc_CM_span 78 = .ok (.iinc 4 1, 3) := by decide +kernel
theorem nd_CM_span_81 : decode nc_CM_span 81 = .ok (.goto (-55), 3) := by decide +kernel
theorem nd_CM_span_84 : decode nc_CM_span 84 = .ok (.iload_n 3, 1) := by decide +kernel
theorem nd_CM_span_85 : decode nc_CM_span 85 = .ok (.ireturn, 1) := by decide +kernel
set_option maxRecDepth 20000 in
theorem lp_CM_span {p : Program} {l : Launch} {e0 : Env} {R : Room} {s0 : State} {m : MethodId} {args : Array Value} {below : List Frame} {meth : Method} {c : Code} {cells slots : Nat} {Qq : State → Prop} {D : va_G} {A : Nat → Prop} (cI cG cM : ClassId) (q : Nat → Nat) (n : Nat) (hn1 : 1 ≤ n) (hn : n ≤ 10) (g : rf_S) (y : cb_Y) (hrt : rt_ n y g) (hv : ∀ w, w < 2 → ma_v n (cb_m y w)) (w s : Nat) (hw : w < 2) (hs : s < 2 ^ n)  (hx : p.tables.exec = Jvm.exec) (hb : c.code = nc_CM_span) (hml : c.maxLocals = 5) (htg : ∀ w ∈ tg_, w.before args s0 = true) (hown : s0.vm.findClass ny_CM_span.cls = some m.cls) (hK : va_K D cl_all (ty_all cI cG cM) s0) (hN : tn_K s0) (hA : ∀ q : Nat, s0.heap.size ≤ q → A q) (hRf : 4 ≤ R.frames) (hRl : 98 ≤ R.locals) (hCS : cells ≤ R.cells ∧ slots ≤ R.slots) (kx : ∀ (ls : Array Slot) (H : Heap) (locs : List Loc), lv_has ls 5 [(3, .int (nI (sn_ (ma_r n (cb_m y w)) s n)))] → va_P D cl_all ([((q 0), .inr (6, [.int (nI (n)), .ref (q 2), .ref (q 3), .ref (q 4), .ref (q 5), .ref (q 6), .ref (q 7), .ref (q 8), .ref (q 9), .ref (q 10), .ref (q 11), .ref (q 12), .ref (q 13), .ref (q 14)])), ((q 2), .inl (cI, 10, .inl (g 0))), ((q 3), .inl (cI, 2, .inl (g 1))), ((q 4), .inl (cI, 2, .inl (g 2))), ((q 5), .inl (cI, 2, .inl (g 3))), ((q 6), .inl (cI, 20, .inl (g 4))), ((q 7), .inl (cI, 20, .inl (g 5))), ((q 8), .inl (cI, 20, .inl (g 6))), ((q 9), .inl (cI, 8, .inl (g 7))), ((q 10), .inl (cI, 80, .inl (g 8))), ((q 11), .inl (cI, 8, .inl (g 9))), ((q 12), .inl (cI, 16, .inl (g 10))), ((q 13), .inl (cI, 16, .inl (g 11))), ((q 14), .inl (cI, 2048, .inl (g 12)))]) H → va_D A ([((q 0), .inr (6, [.int (nI (n)), .ref (q 2), .ref (q 3), .ref (q 4), .ref (q 5), .ref (q 6), .ref (q 7), .ref (q 8), .ref (q 9), .ref (q 10), .ref (q 11), .ref (q 12), .ref (q 13), .ref (q 14)])), ((q 2), .inl (cI, 10, .inl (g 0))), ((q 3), .inl (cI, 2, .inl (g 1))), ((q 4), .inl (cI, 2, .inl (g 2))), ((q 5), .inl (cI, 2, .inl (g 3))), ((q 6), .inl (cI, 20, .inl (g 4))), ((q 7), .inl (cI, 20, .inl (g 5))), ((q 8), .inl (cI, 20, .inl (g 6))), ((q 9), .inl (cI, 8, .inl (g 7))), ((q 10), .inl (cI, 80, .inl (g 8))), ((q 11), .inl (cI, 8, .inl (g 9))), ((q 12), .inl (cI, 16, .inl (g 10))), ((q 13), .inl (cI, 16, .inl (g 11))), ((q 14), .inl (cI, 2048, .inl (g 12)))]) → va_S A s0.heap H locs → W p l e0 R s0 m args below meth c H locs cells slots Qq (F0 m 84 ls [])) : ∀ (fuel : Nat) (e : Nat) (ls : Array Slot) (H : Heap) (locs : List Loc), n - e < fuel → (e ≤ n) → lv_has ls 5 [(4, .int (nI (e))), (3, .int (nI (sn_ (ma_r n (cb_m y w)) s e))), (0, .ref (q 0)), (1, .int (nI (w))), (2, .int (nI (s)))] → va_P D cl_all ([((q 0), .inr (6, [.int (nI (n)), .ref (q 2), .ref (q 3), .ref (q 4), .ref (q 5), .ref (q 6), .ref (q 7), .ref (q 8), .ref (q 9), .ref (q 10), .ref (q 11), .ref (q 12), .ref (q 13), .ref (q 14)])), ((q 2), .inl (cI, 10, .inl (g 0))), ((q 3), .inl (cI, 2, .inl (g 1))), ((q 4), .inl (cI, 2, .inl (g 2))), ((q 5), .inl (cI, 2, .inl (g 3))), ((q 6), .inl (cI, 20, .inl (g 4))), ((q 7), .inl (cI, 20, .inl (g 5))), ((q 8), .inl (cI, 20, .inl (g 6))), ((q 9), .inl (cI, 8, .inl (g 7))), ((q 10), .inl (cI, 80, .inl (g 8))), ((q 11), .inl (cI, 8, .inl (g 9))), ((q 12), .inl (cI, 16, .inl (g 10))), ((q 13), .inl (cI, 16, .inl (g 11))), ((q 14), .inl (cI, 2048, .inl (g 12)))]) H → va_D A ([((q 0), .inr (6, [.int (nI (n)), .ref (q 2), .ref (q 3), .ref (q 4), .ref (q 5), .ref (q 6), .ref (q 7), .ref (q 8), .ref (q 9), .ref (q 10), .ref (q 11), .ref (q 12), .ref (q 13), .ref (q 14)])), ((q 2), .inl (cI, 10, .inl (g 0))), ((q 3), .inl (cI, 2, .inl (g 1))), ((q 4), .inl (cI, 2, .inl (g 2))), ((q 5), .inl (cI, 2, .inl (g 3))), ((q 6), .inl (cI, 20, .inl (g 4))), ((q 7), .inl (cI, 20, .inl (g 5))), ((q 8), .inl (cI, 20, .inl (g 6))), ((q 9), .inl (cI, 8, .inl (g 7))), ((q 10), .inl (cI, 80, .inl (g 8))), ((q 11), .inl (cI, 8, .inl (g 9))), ((q 12), .inl (cI, 16, .inl (g 10))), ((q 13), .inl (cI, 16, .inl (g 11))), ((q 14), .inl (cI, 2048, .inl (g 12)))]) → va_S A s0.heap H locs → W p l e0 R s0 m args below meth c H locs cells slots Qq (F0 m 26 ls []) := by
  intro fuel
  induction fuel with
  | zero => intro e ls H locs hfu; omega
  | succ fuel ih =>
    intro e ls H locs hfu he hl hP hD hS
    have h2n : 2 ^ n ≤ 1024 := Nat.pow_le_pow_right (by omega) hn
    have h2p : 1 ≤ 2 ^ n := Nat.one_le_two_pow
    refine lv_iload hx hb nd_CM_span_26 (lv_at hl 0 rfl) ?_
    refine lv_aload_n hx hb nd_CM_span_28 rfl (lv_at hl 2 rfl) ?_
    refine va_get (D := D) (C := nr_CM) (T := nt_CM) (N := 14) hx hb htg tf_CM hown hK hP 0 rfl rfl 0 (by decide) (htg _ tm_383) (fun _ h => h) rfl nd_CM_span_29 ?_
    refine wi_icmp_ge (tgt := 84) hx hb (by omega) (by omega) nd_CM_span_32 rfl (fun hc32 => ?_) (fun hc32 => ?_)
    · have hl : lv_has ls 5 [(3, .int (nI (sn_ (ma_r n (cb_m y w)) s e)))] := lv_sub hl [1] rfl
      have hen : e = n := by omega
      exact kx ls H locs (by simpa only [hen] using hl) hP hD hS
    · have hor := mt_orlt hs (show e < n by omega)
      have hb1 := ma_rb (hv w hw) hor
      have hb2 := ma_rb (hv w hw) hs
      refine lv_aload_n hx hb nd_CM_span_35 rfl (lv_at hl 2 rfl) ?_
      refine va_get (D := D) (C := nr_CM) (T := nt_CM) (N := 14) hx hb htg tf_CM hown hK hP 0 rfl rfl 13 (by decide) (htg _ tm_396) (fun _ h => h) rfl nd_CM_span_36 ?_
      refine lv_sipush (v := nI 1024) hx hb nd_CM_span_39 (by decide) ?_
      refine lv_iload_n hx hb nd_CM_span_42 rfl (lv_at hl 3 rfl) ?_
      refine wi_imul hx hb nd_CM_span_43 ?_
      refine lv_iload_n hx hb nd_CM_span_44 rfl (lv_at hl 4 rfl) ?_
      refine wi_ic hx hb (a := 1) nd_CM_span_45 ?_
      refine lv_iload hx hb nd_CM_span_46 (lv_at hl 0 rfl) ?_
      refine wi_ishl1 hx hb (by omega) nd_CM_span_48 ?_
      refine wi_ior hx hb nd_CM_span_49 ?_
      refine wi_iadd hx hb nd_CM_span_50 ?_
      refine wi_iald hx hb hK hP 13 0 rfl rfl (by omega) (by omega) nd_CM_span_51 ?_
      refine wi_top (hrt w (s ||| (2 ^ e)) (by omega) (by omega)) ?_
      refine lv_aload_n hx hb nd_CM_span_52 rfl (lv_at hl 2 rfl) ?_
      refine va_get (D := D) (C := nr_CM) (T := nt_CM) (N := 14) hx hb htg tf_CM hown hK hP 0 rfl rfl 13 (by decide) (htg _ tm_396) (fun _ h => h) rfl nd_CM_span_53 ?_
      refine lv_sipush (v := nI 1024) hx hb nd_CM_span_56 (by decide) ?_
      refine lv_iload_n hx hb nd_CM_span_59 rfl (lv_at hl 3 rfl) ?_
      refine wi_imul hx hb nd_CM_span_60 ?_
      refine lv_iload_n hx hb nd_CM_span_61 rfl (lv_at hl 4 rfl) ?_
      refine wi_iadd hx hb nd_CM_span_62 ?_
      refine wi_iald hx hb hK hP 13 0 rfl rfl (by omega) (by omega) nd_CM_span_63 ?_
      refine wi_top (hrt w s (by omega) (by omega)) ?_
      refine wi_icmp_ne (tgt := 76) hx hb (by omega) (by omega) nd_CM_span_64 rfl (fun hc64 => ?_) (fun hc64 => ?_)
      · refine lv_iload_n hx hb nd_CM_span_76 rfl (lv_at hl 1 rfl) ?_
        refine lv_istore_n hx hb nd_CM_span_77 rfl hl (by decide) rfl (fun ls hl => ?_)
        have hl : lv_has ls 5 [(3, .int (nI (sn_ (ma_r n (cb_m y w)) s e))), (4, .int (nI (e))), (0, .ref (q 0)), (1, .int (nI (w))), (2, .int (nI (s)))] := hl
        refine lv_iinc (k := 1) (v := nI (e + 1)) hx hb nd_CM_span_78 hl rfl (wi_inc _ 1) (by decide) rfl (fun ls hl => ?_)
        have hl : lv_has ls 5 [(4, .int (nI (e + 1))), (3, .int (nI (sn_ (ma_r n (cb_m y w)) s e))), (0, .ref (q 0)), (1, .int (nI (w))), (2, .int (nI (s)))] := hl
        refine lv_goto (tgt := 26) hx hb nd_CM_span_81 rfl ?_
        have hl : lv_has ls 5 [(4, .int (nI (e + 1))), (3, .int (nI (sn_ (ma_r n (cb_m y w)) s e))), (0, .ref (q 0)), (1, .int (nI (w))), (2, .int (nI (s)))] := lv_sub hl [0, 1, 2, 3, 4] rfl
        have hsn : sn_ (ma_r n (cb_m y w)) s (e + 1) = sn_ (ma_r n (cb_m y w)) s e := if_neg hc64
        exact ih (e + 1) ls H locs (by omega) (by omega) (by rw [hsn]; exact hl) hP hD hS
      · refine lv_iload_n hx hb nd_CM_span_67 rfl (lv_at hl 1 rfl) ?_
        refine wi_ic hx hb (a := 1) nd_CM_span_68 ?_
        refine lv_iload hx hb nd_CM_span_69 (lv_at hl 0 rfl) ?_
        refine wi_ishl1 hx hb (by omega) nd_CM_span_71 ?_
        refine wi_ior hx hb nd_CM_span_72 ?_
        refine lv_goto (tgt := 77) hx hb nd_CM_span_73 rfl ?_
        refine lv_istore_n hx hb nd_CM_span_77 rfl hl (by decide) rfl (fun ls hl => ?_)
        have hl : lv_has ls 5 [(3, .int (nI ((sn_ (ma_r n (cb_m y w)) s e) ||| (2 ^ e)))), (4, .int (nI (e))), (0, .ref (q 0)), (1, .int (nI (w))), (2, .int (nI (s)))] := hl
        refine lv_iinc (k := 1) (v := nI (e + 1)) hx hb nd_CM_span_78 hl rfl (wi_inc _ 1) (by decide) rfl (fun ls hl => ?_)
        have hl : lv_has ls 5 [(4, .int (nI (e + 1))), (3, .int (nI ((sn_ (ma_r n (cb_m y w)) s e) ||| (2 ^ e)))), (0, .ref (q 0)), (1, .int (nI (w))), (2, .int (nI (s)))] := hl
        refine lv_goto (tgt := 26) hx hb nd_CM_span_81 rfl ?_
        have hl : lv_has ls 5 [(4, .int (nI (e + 1))), (3, .int (nI ((sn_ (ma_r n (cb_m y w)) s e) ||| (2 ^ e)))), (0, .ref (q 0)), (1, .int (nI (w))), (2, .int (nI (s)))] := lv_sub hl [0, 1, 2, 3, 4] rfl
        have hsn : sn_ (ma_r n (cb_m y w)) s (e + 1) = sn_ (ma_r n (cb_m y w)) s e ||| 2 ^ e := if_pos hc64
        exact ih (e + 1) ls H locs (by omega) (by omega) (by rw [hsn]; exact hl) hP hD hS
set_option maxRecDepth 20000 in
theorem c_CM_span (l : Launch) (D : va_G) (cI cG cM : ClassId)  (q : Nat → Nat) (n : Nat) (hn1 : 1 ≤ n) (hn : n ≤ 10) (g : rf_S) (y : cb_Y) (hI : rf_I n y g) (wh s : Int32) (sz : Nat) : wb_Mi l ny_CM_span nc_CM_span 5 (some .int) ({ frames := 4, cells := 0, slots := 0, locals := 98 }) D (ty_all cI cG cM) (rf_ cI q n g) sz [.ref (q 0), .int (wh), .int (s)] (fun (v : Int32) (u : rf_S) => v = sp_span n y wh s ∧ rf_I n y u) (fun u : rf_S => rf_ cI q n u) := by
  refine wb_start (S := rf_S) (by decide) (Nat.le_of_ble_eq_true rfl) ?_
  intro p e0 s0 m below meth c ls A hx hb hr hml htg hown hk hP hK hN hl hAe hsz hD hA
  have hl : lv_has ls 5 [(0, .ref (q 0)), (1, .int (wh)), (2, .int (s))] := hl
  have hP : va_P D cl_all ([((q 0), .inr (6, [.int (nI (n)), .ref (q 2), .ref (q 3), .ref (q 4), .ref (q 5), .ref (q 6), .ref (q 7), .ref (q 8), .ref (q 9), .ref (q 10), .ref (q 11), .ref (q 12), .ref (q 13), .ref (q 14)])), ((q 2), .inl (cI, 10, .inl (g 0))), ((q 3), .inl (cI, 2, .inl (g 1))), ((q 4), .inl (cI, 2, .inl (g 2))), ((q 5), .inl (cI, 2, .inl (g 3))), ((q 6), .inl (cI, 20, .inl (g 4))), ((q 7), .inl (cI, 20, .inl (g 5))), ((q 8), .inl (cI, 20, .inl (g 6))), ((q 9), .inl (cI, 8, .inl (g 7))), ((q 10), .inl (cI, 80, .inl (g 8))), ((q 11), .inl (cI, 8, .inl (g 9))), ((q 12), .inl (cI, 16, .inl (g 10))), ((q 13), .inl (cI, 16, .inl (g 11))), ((q 14), .inl (cI, 2048, .inl (g 12)))]) s0.heap := hP
  have hD : va_D A ([((q 0), .inr (6, [.int (nI (n)), .ref (q 2), .ref (q 3), .ref (q 4), .ref (q 5), .ref (q 6), .ref (q 7), .ref (q 8), .ref (q 9), .ref (q 10), .ref (q 11), .ref (q 12), .ref (q 13), .ref (q 14)])), ((q 2), .inl (cI, 10, .inl (g 0))), ((q 3), .inl (cI, 2, .inl (g 1))), ((q 4), .inl (cI, 2, .inl (g 2))), ((q 5), .inl (cI, 2, .inl (g 3))), ((q 6), .inl (cI, 20, .inl (g 4))), ((q 7), .inl (cI, 20, .inl (g 5))), ((q 8), .inl (cI, 20, .inl (g 6))), ((q 9), .inl (cI, 8, .inl (g 7))), ((q 10), .inl (cI, 80, .inl (g 8))), ((q 11), .inl (cI, 8, .inl (g 9))), ((q 12), .inl (cI, 16, .inl (g 10))), ((q 13), .inl (cI, 16, .inl (g 11))), ((q 14), .inl (cI, 2048, .inl (g 12)))]) := hD
  have hS : va_S A s0.heap s0.heap [] := va_S.rf
  have hRf : 4 ≤ ({ frames := 4, cells := 0, slots := 0, locals := 98 } : Room).frames := Nat.le_refl _
  have hRl : 98 ≤ ({ frames := 4, cells := 0, slots := 0, locals := 98 } : Room).locals := Nat.le_refl _
  have hCS : 0 ≤ ({ frames := 4, cells := 0, slots := 0, locals := 98 } : Room).cells ∧ 0 ≤ ({ frames := 4, cells := 0, slots := 0, locals := 98 } : Room).slots := ⟨Nat.zero_le _, Nat.zero_le _⟩
  have h2n : 2 ^ n ≤ 1024 := Nat.pow_le_pow_right (by omega) hn
  have h2p : 1 ≤ 2 ^ n := Nat.one_le_two_pow
  refine lv_iload_n hx hb nd_CM_span_0 rfl (lv_at hl 1 rfl) ?_
  rcases sm_which wh with hw1 | hw1 | hw1
  · subst hw1
    refine wc_S (n := 1) hx hb hml hown htg (c_CM_isWhich l D _ (nI 0) (nI 1) (fun _ => rfl) (fun h => absurd (Or.inl nI_0) h)) tm_432 tm_430 tm_431 tm_9 (by decide +kernel) ⟨⟨Nat.le_trans (by decide) hRf, Nat.le_trans (by decide) hRl⟩, rfl, rfl⟩ (wa_pre wa_nil hK hN) rfl hl.1 rfl (Nat.le_of_ble_eq_true rfl) nd_CM_span_1 hCS ?_
    refine wi_if_eq (tgt := 15) hx hb (by decide) nd_CM_span_4 rfl (fun h => absurd h (by decide)) (fun _ => ?_)
    refine lv_aload_n hx hb nd_CM_span_7 rfl (lv_at hl 0 rfl) ?_
    refine lv_iload_n hx hb nd_CM_span_8 rfl (lv_at hl 2 rfl) ?_
    by_cases hq9 : ¬ s < 0 ∧ ¬ nI (2 ^ n) ≤ s
    · obtain ⟨s1, h_s1, rfl⟩ := sm_elem (by omega) hq9
      refine wc_V (C := nr_CM) (n := 1) hx hb hml hown htg (c_CM_isSet l D _ q n hn (nI s1) (nI 1) (fun _ => rfl) (fun h => absurd hq9 h)) tm_482 tm_479 tm_481 tp_14 tm_9 (by decide +kernel) ⟨⟨Nat.le_trans (by decide) hRf, Nat.le_trans (by decide) hRl⟩, rfl, rfl⟩ (wa_pre (hP.sub [0] rfl) hK hN) (va_recv (q0 := 0) (ci := 6) hK hP rfl rfl) rfl hl.1 rfl (Nat.le_of_ble_eq_true rfl) nd_CM_span_9 hCS ?_
      refine wi_if_ne (tgt := 17) hx hb (by decide) nd_CM_span_12 rfl (fun _ => ?_) (fun h => absurd h (by decide))
      refine lv_aload_n hx hb nd_CM_span_17 rfl (lv_at hl 0 rfl) ?_
      refine wd_Vv0 (C := nr_CM) (n := 0) (Y := rf_ cI q n g) hx hb hml hown htg (c_CM_work l D cI cG cM q n hn1 hn g y hI _) tm_513 tm_510 tm_512 tp_20 tm_9 (by decide +kernel) ⟨⟨Nat.le_trans (by decide) hRf, Nat.le_trans (by decide) hRl⟩, rfl, rfl⟩ hP hD hS hA hK hN (va_recv (q0 := 0) (ci := 6) hK hP rfl rfl) rfl hl.1 rfl (Nat.le_of_ble_eq_true rfl) nd_CM_span_18 hCS (fun u18 H locs hp18 hP hD hS => ?_)
      have hP : va_P D cl_all ([((q 0), .inr (6, [.int (nI (n)), .ref (q 2), .ref (q 3), .ref (q 4), .ref (q 5), .ref (q 6), .ref (q 7), .ref (q 8), .ref (q 9), .ref (q 10), .ref (q 11), .ref (q 12), .ref (q 13), .ref (q 14)])), ((q 2), .inl (cI, 10, .inl (u18 0))), ((q 3), .inl (cI, 2, .inl (u18 1))), ((q 4), .inl (cI, 2, .inl (u18 2))), ((q 5), .inl (cI, 2, .inl (u18 3))), ((q 6), .inl (cI, 20, .inl (u18 4))), ((q 7), .inl (cI, 20, .inl (u18 5))), ((q 8), .inl (cI, 20, .inl (u18 6))), ((q 9), .inl (cI, 8, .inl (u18 7))), ((q 10), .inl (cI, 80, .inl (u18 8))), ((q 11), .inl (cI, 8, .inl (u18 9))), ((q 12), .inl (cI, 16, .inl (u18 10))), ((q 13), .inl (cI, 16, .inl (u18 11))), ((q 14), .inl (cI, 2048, .inl (u18 12)))]) H := hP
      have hD : va_D A ([((q 0), .inr (6, [.int (nI (n)), .ref (q 2), .ref (q 3), .ref (q 4), .ref (q 5), .ref (q 6), .ref (q 7), .ref (q 8), .ref (q 9), .ref (q 10), .ref (q 11), .ref (q 12), .ref (q 13), .ref (q 14)])), ((q 2), .inl (cI, 10, .inl (u18 0))), ((q 3), .inl (cI, 2, .inl (u18 1))), ((q 4), .inl (cI, 2, .inl (u18 2))), ((q 5), .inl (cI, 2, .inl (u18 3))), ((q 6), .inl (cI, 20, .inl (u18 4))), ((q 7), .inl (cI, 20, .inl (u18 5))), ((q 8), .inl (cI, 20, .inl (u18 6))), ((q 9), .inl (cI, 8, .inl (u18 7))), ((q 10), .inl (cI, 80, .inl (u18 8))), ((q 11), .inl (cI, 8, .inl (u18 9))), ((q 12), .inl (cI, 16, .inl (u18 10))), ((q 13), .inl (cI, 16, .inl (u18 11))), ((q 14), .inl (cI, 2048, .inl (u18 12)))]) := hD
      have hrt := hp18.2
      refine wi_ic hx hb (a := 0) nd_CM_span_21 ?_
      refine lv_istore_n hx hb nd_CM_span_22 rfl hl (by decide) rfl (fun ls hl => ?_)
      have hl : lv_has ls 5 [(3, .int (nI (0))), (0, .ref (q 0)), (1, .int (nI (0))), (2, .int (nI (s1)))] := hl
      refine wi_ic hx hb (a := 0) nd_CM_span_23 ?_
      refine lv_istore hx hb nd_CM_span_24 hl (by decide) rfl (fun ls hl => ?_)
      have hl : lv_has ls 5 [(4, .int (nI (0))), (3, .int (nI (0))), (0, .ref (q 0)), (1, .int (nI (0))), (2, .int (nI (s1)))] := hl
      have hl : lv_has ls 5 [(4, .int (nI (0))), (3, .int (nI (0))), (0, .ref (q 0)), (1, .int (nI (0))), (2, .int (nI (s1)))] := lv_sub hl [0, 1, 2, 3, 4] rfl
      refine lp_CM_span cI cG cM q n hn1 hn u18 y hrt (fun w hw => (hI.2 w hw).1) 0 s1 (by omega) (by omega) hx hb hml htg hown hK hN hA hRf hRl hCS (fun ls H locs hl hP hD hS => ?_) (n + 1) 0 ls H locs (by omega) (by omega) hl hP hD hS
      refine lv_iload_n hx hb nd_CM_span_84 rfl (lv_at hl 0 rfl) ?_
      have hsp : sp_span n y (nI 0) (nI s1) = nI (sn_ (ma_r n (cb_m y 0)) s1 n) := by unfold sp_span; simp only [sw_0, sr_t (show s1 ≤ 2 ^ n - 1 by omega) (show 2 ^ n - 1 < 2 ^ 31 by omega), tn_nI (show s1 < 2 ^ 31 by omega), tn_0]; simp
      exact wb_iret u18 hx hb hr hk hAe (by rw [hsp]; exact ⟨rfl, rf_keep hn (fun j hj => hp18.1 j hj) hI⟩) hP hD hS nd_CM_span_85
    · refine wc_V (C := nr_CM) (n := 1) hx hb hml hown htg (c_CM_isSet l D _ q n hn s (nI 0) (fun h => absurd h hq9) (fun _ => rfl)) tm_482 tm_479 tm_481 tp_14 tm_9 (by decide +kernel) ⟨⟨Nat.le_trans (by decide) hRf, Nat.le_trans (by decide) hRl⟩, rfl, rfl⟩ (wa_pre (hP.sub [0] rfl) hK hN) (va_recv (q0 := 0) (ci := 6) hK hP rfl rfl) rfl hl.1 rfl (Nat.le_of_ble_eq_true rfl) nd_CM_span_9 hCS ?_
      refine wi_if_ne (tgt := 17) hx hb (by decide) nd_CM_span_12 rfl (fun h => absurd h (by decide)) (fun _ => ?_)
      refine lv_iconst (v := -1) hx hb nd_CM_span_15 (by decide) ?_
      have hsp : sp_span n y (nI (0)) s = -1 := by unfold sp_span; simp [sz_s hn hq9]
      exact wb_iret g hx hb hr hk hAe (by rw [hsp]; exact ⟨rfl, hI⟩) hP hD hS nd_CM_span_16
  · subst hw1
    refine wc_S (n := 1) hx hb hml hown htg (c_CM_isWhich l D _ (nI 1) (nI 1) (fun _ => rfl) (fun h => absurd (Or.inr rfl) h)) tm_432 tm_430 tm_431 tm_9 (by decide +kernel) ⟨⟨Nat.le_trans (by decide) hRf, Nat.le_trans (by decide) hRl⟩, rfl, rfl⟩ (wa_pre wa_nil hK hN) rfl hl.1 rfl (Nat.le_of_ble_eq_true rfl) nd_CM_span_1 hCS ?_
    refine wi_if_eq (tgt := 15) hx hb (by decide) nd_CM_span_4 rfl (fun h => absurd h (by decide)) (fun _ => ?_)
    refine lv_aload_n hx hb nd_CM_span_7 rfl (lv_at hl 0 rfl) ?_
    refine lv_iload_n hx hb nd_CM_span_8 rfl (lv_at hl 2 rfl) ?_
    by_cases hq9 : ¬ s < 0 ∧ ¬ nI (2 ^ n) ≤ s
    · obtain ⟨s1, h_s1, rfl⟩ := sm_elem (by omega) hq9
      refine wc_V (C := nr_CM) (n := 1) hx hb hml hown htg (c_CM_isSet l D _ q n hn (nI s1) (nI 1) (fun _ => rfl) (fun h => absurd hq9 h)) tm_482 tm_479 tm_481 tp_14 tm_9 (by decide +kernel) ⟨⟨Nat.le_trans (by decide) hRf, Nat.le_trans (by decide) hRl⟩, rfl, rfl⟩ (wa_pre (hP.sub [0] rfl) hK hN) (va_recv (q0 := 0) (ci := 6) hK hP rfl rfl) rfl hl.1 rfl (Nat.le_of_ble_eq_true rfl) nd_CM_span_9 hCS ?_
      refine wi_if_ne (tgt := 17) hx hb (by decide) nd_CM_span_12 rfl (fun _ => ?_) (fun h => absurd h (by decide))
      refine lv_aload_n hx hb nd_CM_span_17 rfl (lv_at hl 0 rfl) ?_
      refine wd_Vv0 (C := nr_CM) (n := 0) (Y := rf_ cI q n g) hx hb hml hown htg (c_CM_work l D cI cG cM q n hn1 hn g y hI _) tm_513 tm_510 tm_512 tp_20 tm_9 (by decide +kernel) ⟨⟨Nat.le_trans (by decide) hRf, Nat.le_trans (by decide) hRl⟩, rfl, rfl⟩ hP hD hS hA hK hN (va_recv (q0 := 0) (ci := 6) hK hP rfl rfl) rfl hl.1 rfl (Nat.le_of_ble_eq_true rfl) nd_CM_span_18 hCS (fun u18 H locs hp18 hP hD hS => ?_)
      have hP : va_P D cl_all ([((q 0), .inr (6, [.int (nI (n)), .ref (q 2), .ref (q 3), .ref (q 4), .ref (q 5), .ref (q 6), .ref (q 7), .ref (q 8), .ref (q 9), .ref (q 10), .ref (q 11), .ref (q 12), .ref (q 13), .ref (q 14)])), ((q 2), .inl (cI, 10, .inl (u18 0))), ((q 3), .inl (cI, 2, .inl (u18 1))), ((q 4), .inl (cI, 2, .inl (u18 2))), ((q 5), .inl (cI, 2, .inl (u18 3))), ((q 6), .inl (cI, 20, .inl (u18 4))), ((q 7), .inl (cI, 20, .inl (u18 5))), ((q 8), .inl (cI, 20, .inl (u18 6))), ((q 9), .inl (cI, 8, .inl (u18 7))), ((q 10), .inl (cI, 80, .inl (u18 8))), ((q 11), .inl (cI, 8, .inl (u18 9))), ((q 12), .inl (cI, 16, .inl (u18 10))), ((q 13), .inl (cI, 16, .inl (u18 11))), ((q 14), .inl (cI, 2048, .inl (u18 12)))]) H := hP
      have hD : va_D A ([((q 0), .inr (6, [.int (nI (n)), .ref (q 2), .ref (q 3), .ref (q 4), .ref (q 5), .ref (q 6), .ref (q 7), .ref (q 8), .ref (q 9), .ref (q 10), .ref (q 11), .ref (q 12), .ref (q 13), .ref (q 14)])), ((q 2), .inl (cI, 10, .inl (u18 0))), ((q 3), .inl (cI, 2, .inl (u18 1))), ((q 4), .inl (cI, 2, .inl (u18 2))), ((q 5), .inl (cI, 2, .inl (u18 3))), ((q 6), .inl (cI, 20, .inl (u18 4))), ((q 7), .inl (cI, 20, .inl (u18 5))), ((q 8), .inl (cI, 20, .inl (u18 6))), ((q 9), .inl (cI, 8, .inl (u18 7))), ((q 10), .inl (cI, 80, .inl (u18 8))), ((q 11), .inl (cI, 8, .inl (u18 9))), ((q 12), .inl (cI, 16, .inl (u18 10))), ((q 13), .inl (cI, 16, .inl (u18 11))), ((q 14), .inl (cI, 2048, .inl (u18 12)))]) := hD
      have hrt := hp18.2
      refine wi_ic hx hb (a := 0) nd_CM_span_21 ?_
      refine lv_istore_n hx hb nd_CM_span_22 rfl hl (by decide) rfl (fun ls hl => ?_)
      have hl : lv_has ls 5 [(3, .int (nI (0))), (0, .ref (q 0)), (1, .int (nI (1))), (2, .int (nI (s1)))] := hl
      refine wi_ic hx hb (a := 0) nd_CM_span_23 ?_
      refine lv_istore hx hb nd_CM_span_24 hl (by decide) rfl (fun ls hl => ?_)
      have hl : lv_has ls 5 [(4, .int (nI (0))), (3, .int (nI (0))), (0, .ref (q 0)), (1, .int (nI (1))), (2, .int (nI (s1)))] := hl
      have hl : lv_has ls 5 [(4, .int (nI (0))), (3, .int (nI (0))), (0, .ref (q 0)), (1, .int (nI (1))), (2, .int (nI (s1)))] := lv_sub hl [0, 1, 2, 3, 4] rfl
      refine lp_CM_span cI cG cM q n hn1 hn u18 y hrt (fun w hw => (hI.2 w hw).1) 1 s1 (by omega) (by omega) hx hb hml htg hown hK hN hA hRf hRl hCS (fun ls H locs hl hP hD hS => ?_) (n + 1) 0 ls H locs (by omega) (by omega) hl hP hD hS
      refine lv_iload_n hx hb nd_CM_span_84 rfl (lv_at hl 0 rfl) ?_
      have hsp : sp_span n y (nI 1) (nI s1) = nI (sn_ (ma_r n (cb_m y 1)) s1 n) := by unfold sp_span; simp only [sw_1, sr_t (show s1 ≤ 2 ^ n - 1 by omega) (show 2 ^ n - 1 < 2 ^ 31 by omega), tn_nI (show s1 < 2 ^ 31 by omega), tn_1]; simp
      exact wb_iret u18 hx hb hr hk hAe (by rw [hsp]; exact ⟨rfl, rf_keep hn (fun j hj => hp18.1 j hj) hI⟩) hP hD hS nd_CM_span_85
    · refine wc_V (C := nr_CM) (n := 1) hx hb hml hown htg (c_CM_isSet l D _ q n hn s (nI 0) (fun h => absurd h hq9) (fun _ => rfl)) tm_482 tm_479 tm_481 tp_14 tm_9 (by decide +kernel) ⟨⟨Nat.le_trans (by decide) hRf, Nat.le_trans (by decide) hRl⟩, rfl, rfl⟩ (wa_pre (hP.sub [0] rfl) hK hN) (va_recv (q0 := 0) (ci := 6) hK hP rfl rfl) rfl hl.1 rfl (Nat.le_of_ble_eq_true rfl) nd_CM_span_9 hCS ?_
      refine wi_if_ne (tgt := 17) hx hb (by decide) nd_CM_span_12 rfl (fun h => absurd h (by decide)) (fun _ => ?_)
      refine lv_iconst (v := -1) hx hb nd_CM_span_15 (by decide) ?_
      have hsp : sp_span n y (nI (1)) s = -1 := by unfold sp_span; simp [sz_s hn hq9]
      exact wb_iret g hx hb hr hk hAe (by rw [hsp]; exact ⟨rfl, hI⟩) hP hD hS nd_CM_span_16
  · refine wc_S (n := 1) hx hb hml hown htg (c_CM_isWhich l D _ wh (nI 0) (fun h => absurd h (fun z => z.elim (fun z => hw1.1 (z.trans nI_0.symm)) hw1.2)) (fun _ => rfl)) tm_432 tm_430 tm_431 tm_9 (by decide +kernel) ⟨⟨Nat.le_trans (by decide) hRf, Nat.le_trans (by decide) hRl⟩, rfl, rfl⟩ (wa_pre wa_nil hK hN) rfl hl.1 rfl (Nat.le_of_ble_eq_true rfl) nd_CM_span_1 hCS ?_
    refine wi_if_eq (tgt := 15) hx hb (by decide) nd_CM_span_4 rfl (fun _ => ?_) (fun h => absurd h (by decide))
    refine lv_iconst (v := -1) hx hb nd_CM_span_15 (by decide) ?_
    have hsp : sp_span n y wh s = -1 := by unfold sp_span; simp [sw_n hw1]
    exact wb_iret g hx hb hr hk hAe (by rw [hsp]; exact ⟨rfl, hI⟩) hP hD hS nd_CM_span_16
theorem nd_CM_circuit_0 : decode nc_CM_circuit 0 = .ok (.iload_n 1, 1) := by decide +kernel
theorem nd_CM_circuit_1 : decode nc_CM_circuit 1 = .ok (.invokestatic 53, 3) := by decide +kernel
theorem nd_CM_circuit_4 : decode nc_CM_circuit 4 = .ok (.ifCond .eq 19, 3) := by decide +kernel
theorem nd_CM_circuit_7 : decode nc_CM_circuit 7 = .ok (.aload_n 0, 1) := by decide +kernel
theorem nd_CM_circuit_8 : decode nc_CM_circuit 8 = .ok (.iload_n 2, 1) := by decide +kernel
theorem nd_CM_circuit_9 : decode nc_CM_circuit 9 = .ok (.invokevirtual 86, 3) := by decide +kernel
theorem nd_CM_circuit_12 : decode nc_CM_circuit 12 = .ok (.ifCond .eq 11, 3) := by decide +kernel
theorem nd_CM_circuit_15 : decode nc_CM_circuit 15 = .ok (.aload_n 0, 1) := by decide +kernel
theorem nd_CM_circuit_16 : decode nc_CM_circuit 16 = .ok (.iload_n 3, 1) := by decide +kernel
theorem nd_CM_circuit_17 : decode nc_CM_circuit 17 = .ok (.invokevirtual 61, 3) := by decide +kernel
theorem nd_CM_circuit_20 : decode nc_CM_circuit 20 = .ok (.ifCond .ne 5, 3) := by decide +kernel
theorem nd_CM_circuit_23 : decode nc_CM_circuit 23 = .ok (.iconst (-1), 1) := by decide +kernel
theorem nd_CM_circuit_24 : decode nc_CM_circuit 24 = .ok (.ireturn, 1) := by decide +kernel
theorem nd_CM_circuit_25 : decode nc_CM_circuit 25 = .ok (.iload_n 2, 1) := by decide +kernel
theorem nd_CM_circuit_26 : decode nc_CM_circuit 26 = .ok (.iconst 1, 1) := by decide +kernel
theorem nd_CM_circuit_27 : decode nc_CM_circuit 27 = .ok (.iload_n 3, 1) := by decide +kernel
theorem nd_CM_circuit_28 : decode nc_CM_circuit 28 = .ok (.ishl, 1) := by decide +kernel
theorem nd_CM_circuit_29 : decode nc_CM_circuit 29 = .ok (.ior, 1) := by decide +kernel
theorem nd_CM_circuit_30 : decode nc_CM_circuit 30 = .ok (.istore 4, 2) := by decide +kernel
theorem nd_CM_circuit_32 : decode nc_CM_circuit 32 = .ok (.iload 4, 2) := by decide +kernel
theorem nd_CM_circuit_34 : decode nc_CM_circuit 34 = .ok (.iload_n 2, 1) := by decide +kernel
theorem nd_CM_circuit_35 : decode nc_CM_circuit 35 = .ok (.if_icmp .eq 22, 3) := by decide +kernel
theorem nd_CM_circuit_38 : decode nc_CM_circuit 38 = .ok (.aload_n 0, 1) := by decide +kernel
theorem nd_CM_circuit_39 : decode nc_CM_circuit 39 = .ok (.iload_n 1, 1) := by decide +kernel
theorem nd_CM_circuit_40 : decode nc_CM_circuit 40 = .ok (.iload_n 2, 1) := by decide +kernel
theorem nd_CM_circuit_41 : decode nc_CM_circuit 41 = .ok (.invokevirtual 83, 3) := by decide +kernel
theorem nd_CM_circuit_44 : decode nc_CM_circuit 44 = .ok (.ifCond .eq 13, 3) := by decide +kernel
theorem nd_CM_circuit_47 : decode nc_CM_circuit 47 = .ok (.aload_n 0, 1) := by decide +kernel
theorem nd_CM_circuit_48 : decode nc_CM_circuit 48 = .ok (.iload_n 1, 1) := by decide +kernel
theorem nd_CM_circuit_49 : decode nc_CM_circuit 49 = .ok (.iload 4, 2) := by decide +kernel
theorem nd_CM_circuit_51 : decode nc_CM_circuit 51 = .ok (.invokevirtual 83, 3) := by decide +kernel
theorem nd_CM_circuit_54 : decode nc_CM_circuit 54 = .ok (.ifCond .eq 5, 3) := by decide +kernel
theorem nd_CM_circuit_57 : decode nc_CM_circuit 57 = .ok (.iconst 0, 1) := by decide +kernel
theorem nd_CM_circuit_58 : decode nc_CM_circuit 58 = .ok (.ireturn, 1) := by decide +kernel
theorem nd_CM_circuit_59 : decode nc_CM_circuit 59 = .ok (.iconst 1, 1) := by decide +kernel
theorem nd_CM_circuit_60 : decode nc_CM_circuit 60 = .ok (.iload_n 3, 1) := by decide +kernel
theorem nd_CM_circuit_61 : decode nc_CM_circuit 61 = .ok (.ishl, 1) := by decide +kernel
theorem nd_CM_circuit_62 : decode nc_CM_circuit 62 = .ok (.istore 5, 2) := by decide +kernel
theorem nd_CM_circuit_64 : decode nc_CM_circuit 64 = .ok (.iconst 0, 1) := by decide +kernel
theorem nd_CM_circuit_65 : decode nc_CM_circuit 65 = .ok (.istore 6, 2) := by decide +kernel
theorem nd_CM_circuit_67 : decode nc_CM_circuit 67 = .ok (.iload 6, 2) := by decide +kernel
theorem nd_CM_circuit_69 : decode nc_CM_circuit 69 = .ok (.aload_n 0, 1) := by decide +kernel
theorem nd_CM_circuit_70 : decode nc_CM_circuit 70 = .ok (.getfield 49, 3) := by decide +kernel
theorem nd_CM_circuit_73 : decode nc_CM_circuit 73 = .ok (.if_icmp .ge 50, 3) := by decide +kernel
theorem nd_CM_circuit_76 : decode nc_CM_circuit 76 = .ok (.iload_n 2, 1) := by decide +kernel
theorem nd_CM_circuit_77 : decode nc_CM_circuit 77 = .ok (.iload 6, 2) := by decide +kernel
theorem nd_CM_circuit_79 : decode nc_CM_circuit 79 = .ok (.ishr, 1) := by decide +kernel
theorem nd_CM_circuit_80 : decode nc_CM_circuit 80 = .ok (.iconst 1, 1) := by decide +kernel
theorem nd_CM_circuit_81 : decode nc_CM_circuit 81 = .ok (.iand, 1) := by decide +kernel
theorem nd_CM_circuit_82 : decode nc_CM_circuit 82 = .ok (.iconst 1, 1) := by decide +kernel
theorem nd_CM_circuit_83 : decode nc_CM_circuit 83 = .ok (.if_icmp .ne 30, 3) := by decide +kernel
theorem nd_CM_circuit_86 : decode nc_CM_circuit 86 = .ok (.aload_n 0, 1) := by decide +kernel
theorem nd_CM_circuit_87 : decode nc_CM_circuit 87 = .ok (.iload_n 1, 1) := by decide +kernel
theorem nd_CM_circuit_88 : decode nc_CM_circuit 88 = .ok (.iload 4, 2) := by decide +kernel
theorem nd_CM_circuit_90 : decode nc_CM_circuit 90 = .ok (.iconst 1, 1) := by decide +kernel
theorem nd_CM_circuit_91 : decode nc_CM_circuit 91 = .ok (.iload 6, 2) := by decide +kernel
theorem nd_CM_circuit_93 : decode nc_CM_circuit 93 = .ok (.ishl, 1) := by decide +kernel
theorem nd_CM_circuit_94 : decode nc_CM_circuit 94 = .ok (.iconst (-1), 1) := by decide +kernel
theorem nd_CM_circuit_95 : decode nc_CM_circuit 95 = .ok (.ixor, 1) := by decide +kernel
theorem nd_CM_circuit_96 : decode nc_CM_circuit 96 = .ok (.iand, 1) := by decide +kernel
theorem nd_CM_circuit_97 : decode nc_CM_circuit 97 = .ok (.invokevirtual 83, 3) := by decide +kernel
theorem nd_CM_circuit_100 : decode nc_CM_circuit 100 = .ok (.ifCond .eq 13, 3) := by decide +kernel
theorem nd_CM_circuit_103 : decode nc_CM_circuit 103 = .ok (.iload 5, 2) := by decide +kernel
theorem nd_CM_circuit_105 : decode nc_CM_circuit 105 = .ok (.iconst 1, 1) := by decide +kernel
theorem nd_CM_circuit_106 : decode nc_CM_circuit 106 = .ok (.iload 6, 2) := by decide +kernel
theorem nd_CM_circuit_108 : decode nc_CM_circuit 108 = .ok (.ishl, 1) := by decide +kernel
theorem nd_CM_circuit_109 : decode nc_CM_circuit 109 = .ok (.ior, 1) := by decide +kernel
theorem nd_CM_circuit_110 : decode nc_CM_circuit 110 = .ok (.goto 5, 3) := by decide +kernel
theorem nd_CM_circuit_113 : decode nc_CM_circuit 113 = .ok (.iload 5, 2) := by decide +kernel
theorem nd_CM_circuit_115 : decode nc_CM_circuit 115 = .ok (.istore 5, 2) := by decide +kernel
theorem nd_CM_circuit_117 : decode nc_CM_circuit 117 = .ok (.iinc 6 1, 3) := by decide +kernel
theorem nd_CM_circuit_120 : decode nc_CM_circuit 120 = .ok (.goto (-53), 3) := by decide +kernel
theorem nd_CM_circuit_123 : decode nc_CM_circuit 123 = .ok (.iload 5, 2) := by decide +kernel
theorem nd_CM_circuit_125 : decode nc_CM_circuit 125 = .ok (.ireturn, 1) := by decide +kernel
set_option maxRecDepth 20000 in
theorem lp_CM_circuit {p : Program} {l : Launch} {e0 : Env} {R : Room} {s0 : State} {m : MethodId} {args : Array Value} {below : List Frame} {meth : Method} {c : Code} {cells slots : Nat} {Qq : State → Prop} {D : va_G} {A : Nat → Prop} (cI cG cM : ClassId) (q : Nat → Nat) (n : Nat) (hn1 : 1 ≤ n) (hn : n ≤ 10) (g : rf_S) (y : cb_Y) (hI : rf_I n y g) (w s e : Nat) (hw : w < 2) (hs : s < 2 ^ n) (he : e < n)  (hx : p.tables.exec = Jvm.exec) (hb : c.code = nc_CM_circuit) (hml : c.maxLocals = 7) (htg : ∀ w ∈ tg_, w.before args s0 = true) (hown : s0.vm.findClass ny_CM_circuit.cls = some m.cls) (hK : va_K D cl_all (ty_all cI cG cM) s0) (hN : tn_K s0) (hA : ∀ q : Nat, s0.heap.size ≤ q → A q) (hRf : 3 ≤ R.frames) (hRl : 73 ≤ R.locals) (hCS : cells ≤ R.cells ∧ slots ≤ R.slots) (kx : ∀ (ls : Array Slot) (H : Heap) (locs : List Loc) (h : rf_S), (∀ j, j < 9 → h j = g j) → lv_has ls 7 [(5, .int (nI (cq_ (ma_r n (cb_m y w)) n s e n)))] → va_P D cl_all ([((q 0), .inr (6, [.int (nI (n)), .ref (q 2), .ref (q 3), .ref (q 4), .ref (q 5), .ref (q 6), .ref (q 7), .ref (q 8), .ref (q 9), .ref (q 10), .ref (q 11), .ref (q 12), .ref (q 13), .ref (q 14)])), ((q 2), .inl (cI, 10, .inl (h 0))), ((q 3), .inl (cI, 2, .inl (h 1))), ((q 4), .inl (cI, 2, .inl (h 2))), ((q 5), .inl (cI, 2, .inl (h 3))), ((q 6), .inl (cI, 20, .inl (h 4))), ((q 7), .inl (cI, 20, .inl (h 5))), ((q 8), .inl (cI, 20, .inl (h 6))), ((q 9), .inl (cI, 8, .inl (h 7))), ((q 10), .inl (cI, 80, .inl (h 8))), ((q 11), .inl (cI, 8, .inl (h 9))), ((q 12), .inl (cI, 16, .inl (h 10))), ((q 13), .inl (cI, 16, .inl (h 11))), ((q 14), .inl (cI, 2048, .inl (h 12)))]) H → va_D A ([((q 0), .inr (6, [.int (nI (n)), .ref (q 2), .ref (q 3), .ref (q 4), .ref (q 5), .ref (q 6), .ref (q 7), .ref (q 8), .ref (q 9), .ref (q 10), .ref (q 11), .ref (q 12), .ref (q 13), .ref (q 14)])), ((q 2), .inl (cI, 10, .inl (h 0))), ((q 3), .inl (cI, 2, .inl (h 1))), ((q 4), .inl (cI, 2, .inl (h 2))), ((q 5), .inl (cI, 2, .inl (h 3))), ((q 6), .inl (cI, 20, .inl (h 4))), ((q 7), .inl (cI, 20, .inl (h 5))), ((q 8), .inl (cI, 20, .inl (h 6))), ((q 9), .inl (cI, 8, .inl (h 7))), ((q 10), .inl (cI, 80, .inl (h 8))), ((q 11), .inl (cI, 8, .inl (h 9))), ((q 12), .inl (cI, 16, .inl (h 10))), ((q 13), .inl (cI, 16, .inl (h 11))), ((q 14), .inl (cI, 2048, .inl (h 12)))]) → va_S A s0.heap H locs → W p l e0 R s0 m args below meth c H locs cells slots Qq (F0 m 123 ls [])) : ∀ (fuel : Nat) (k : Nat) (h : rf_S) (ls : Array Slot) (H : Heap) (locs : List Loc), n - k < fuel → (k ≤ n) → (∀ j, j < 9 → h j = g j) → lv_has ls 7 [(6, .int (nI (k))), (5, .int (nI (cq_ (ma_r n (cb_m y w)) n s e k))), (4, .int (nI (s ||| 2 ^ e))), (0, .ref (q 0)), (1, .int (nI (w))), (2, .int (nI (s)))] → va_P D cl_all ([((q 0), .inr (6, [.int (nI (n)), .ref (q 2), .ref (q 3), .ref (q 4), .ref (q 5), .ref (q 6), .ref (q 7), .ref (q 8), .ref (q 9), .ref (q 10), .ref (q 11), .ref (q 12), .ref (q 13), .ref (q 14)])), ((q 2), .inl (cI, 10, .inl (h 0))), ((q 3), .inl (cI, 2, .inl (h 1))), ((q 4), .inl (cI, 2, .inl (h 2))), ((q 5), .inl (cI, 2, .inl (h 3))), ((q 6), .inl (cI, 20, .inl (h 4))), ((q 7), .inl (cI, 20, .inl (h 5))), ((q 8), .inl (cI, 20, .inl (h 6))), ((q 9), .inl (cI, 8, .inl (h 7))), ((q 10), .inl (cI, 80, .inl (h 8))), ((q 11), .inl (cI, 8, .inl (h 9))), ((q 12), .inl (cI, 16, .inl (h 10))), ((q 13), .inl (cI, 16, .inl (h 11))), ((q 14), .inl (cI, 2048, .inl (h 12)))]) H → va_D A ([((q 0), .inr (6, [.int (nI (n)), .ref (q 2), .ref (q 3), .ref (q 4), .ref (q 5), .ref (q 6), .ref (q 7), .ref (q 8), .ref (q 9), .ref (q 10), .ref (q 11), .ref (q 12), .ref (q 13), .ref (q 14)])), ((q 2), .inl (cI, 10, .inl (h 0))), ((q 3), .inl (cI, 2, .inl (h 1))), ((q 4), .inl (cI, 2, .inl (h 2))), ((q 5), .inl (cI, 2, .inl (h 3))), ((q 6), .inl (cI, 20, .inl (h 4))), ((q 7), .inl (cI, 20, .inl (h 5))), ((q 8), .inl (cI, 20, .inl (h 6))), ((q 9), .inl (cI, 8, .inl (h 7))), ((q 10), .inl (cI, 80, .inl (h 8))), ((q 11), .inl (cI, 8, .inl (h 9))), ((q 12), .inl (cI, 16, .inl (h 10))), ((q 13), .inl (cI, 16, .inl (h 11))), ((q 14), .inl (cI, 2048, .inl (h 12)))]) → va_S A s0.heap H locs → W p l e0 R s0 m args below meth c H locs cells slots Qq (F0 m 67 ls []) := by
  intro fuel
  induction fuel with
  | zero => intro k h ls H locs hfu; omega
  | succ fuel ih =>
    intro k h ls H locs hfu hk hk9 hl hP hD hS
    have h2n : 2 ^ n ≤ 1024 := Nat.pow_le_pow_right (by omega) hn
    have h2p : 1 ≤ 2 ^ n := Nat.one_le_two_pow
    refine lv_iload hx hb nd_CM_circuit_67 (lv_at hl 0 rfl) ?_
    refine lv_aload_n hx hb nd_CM_circuit_69 rfl (lv_at hl 3 rfl) ?_
    refine va_get (D := D) (C := nr_CM) (T := nt_CM) (N := 14) hx hb htg tf_CM hown hK hP 0 rfl rfl 0 (by decide) (htg _ tm_383) (fun _ h => h) rfl nd_CM_circuit_70 ?_
    refine wi_icmp_ge (tgt := 123) hx hb (by omega) (by omega) nd_CM_circuit_73 rfl (fun hc73 => ?_) (fun hc73 => ?_)
    · have hl : lv_has ls 7 [(5, .int (nI (cq_ (ma_r n (cb_m y w)) n s e k)))] := lv_sub hl [1] rfl
      have hen : k = n := by omega
      exact kx ls H locs h hk9 (by simpa only [hen] using hl) hP hD hS
    · refine lv_iload_n hx hb nd_CM_circuit_76 rfl (lv_at hl 5 rfl) ?_
      refine lv_iload hx hb nd_CM_circuit_77 (lv_at hl 0 rfl) ?_
      refine wi_ishr hx hb (by omega) (by omega) nd_CM_circuit_79 ?_
      refine wi_ic hx hb (a := 1) nd_CM_circuit_80 ?_
      refine wi_bit hx hb nd_CM_circuit_81 ?_
      have hbt81 := mt_bt_lt s k
      refine wi_ic hx hb (a := 1) nd_CM_circuit_82 ?_
      refine wi_icmp_ne (tgt := 113) hx hb (by omega) (by omega) nd_CM_circuit_83 rfl (fun hc83 => ?_) (fun hc83 => ?_)
      · refine lv_iload hx hb nd_CM_circuit_113 (lv_at hl 1 rfl) ?_
        refine lv_istore hx hb nd_CM_circuit_115 hl (by decide) rfl (fun ls hl => ?_)
        have hl : lv_has ls 7 [(5, .int (nI (cq_ (ma_r n (cb_m y w)) n s e k))), (6, .int (nI (k))), (4, .int (nI (s ||| 2 ^ e))), (0, .ref (q 0)), (1, .int (nI (w))), (2, .int (nI (s)))] := hl
        refine lv_iinc (k := 1) (v := nI (k + 1)) hx hb nd_CM_circuit_117 hl rfl (wi_inc _ 1) (by decide) rfl (fun ls hl => ?_)
        have hl : lv_has ls 7 [(6, .int (nI (k + 1))), (5, .int (nI (cq_ (ma_r n (cb_m y w)) n s e k))), (4, .int (nI (s ||| 2 ^ e))), (0, .ref (q 0)), (1, .int (nI (w))), (2, .int (nI (s)))] := hl
        refine lv_goto (tgt := 67) hx hb nd_CM_circuit_120 rfl ?_
        have hl : lv_has ls 7 [(6, .int (nI (k + 1))), (5, .int (nI (cq_ (ma_r n (cb_m y w)) n s e k))), (4, .int (nI (s ||| 2 ^ e))), (0, .ref (q 0)), (1, .int (nI (w))), (2, .int (nI (s)))] := lv_sub hl [0, 1, 2, 3, 4, 5] rfl
        have hq : cq_ (ma_r n (cb_m y w)) n s e (k + 1) = cq_ (ma_r n (cb_m y w)) n s e k := if_neg (fun z => by have := mt_bt_t.mpr z.1; omega)
        exact ih (k + 1) h ls H locs (by omega) (by omega) hk9 (by rw [hq]; exact hl) hP hD hS
      · refine lv_aload_n hx hb nd_CM_circuit_86 rfl (lv_at hl 3 rfl) ?_
        refine lv_iload_n hx hb nd_CM_circuit_87 rfl (lv_at hl 4 rfl) ?_
        refine lv_iload hx hb nd_CM_circuit_88 (lv_at hl 2 rfl) ?_
        refine wi_ic hx hb (a := 1) nd_CM_circuit_90 ?_
        refine lv_iload hx hb nd_CM_circuit_91 (lv_at hl 0 rfl) ?_
        refine wi_ishl1 hx hb (by omega) nd_CM_circuit_93 ?_
        refine lv_iconst (v := -1) hx hb nd_CM_circuit_94 (by decide) ?_
        refine lv_ixor hx hb nd_CM_circuit_95 ?_
        have hkb : (s ||| 2 ^ e).testBit k = true := by rw [Nat.testBit_or, mt_bt_t.mp (show mt_bt s k = 1 by omega)]; rfl
        refine lv_iand hx hb nd_CM_circuit_96 ?_
        refine wi_top (bs_rm (mt_orlt hs he) (by omega) (show k < n by omega)) ?_
        rw [if_pos hkb]
        refine wd_Vi0 (C := nr_CM) (n := 2) (Y := rf_ cI q n h) hx hb hml hown htg (c_CM_isFree l D cI cG cM q n hn1 hn h y (rf_keep hn hk9 hI) w ((s ||| 2 ^ e) ^^^ 2 ^ k) (by omega) (mt_xorlt (mt_orlt hs he) (show k < n by omega)) _) tm_486 tm_483 tm_485 tp_15 tm_9 (by decide +kernel) ⟨⟨Nat.le_trans (by decide) hRf, Nat.le_trans (by decide) hRl⟩, rfl, rfl⟩ hP hD hS hA hK hN (va_recv (q0 := 0) (ci := 6) hK hP rfl rfl) rfl hl.1 rfl (Nat.le_of_ble_eq_true rfl) nd_CM_circuit_97 hCS (fun v97 u97 H locs hp97 hP hD hS => ?_)
        have hP : va_P D cl_all ([((q 0), .inr (6, [.int (nI (n)), .ref (q 2), .ref (q 3), .ref (q 4), .ref (q 5), .ref (q 6), .ref (q 7), .ref (q 8), .ref (q 9), .ref (q 10), .ref (q 11), .ref (q 12), .ref (q 13), .ref (q 14)])), ((q 2), .inl (cI, 10, .inl (u97 0))), ((q 3), .inl (cI, 2, .inl (u97 1))), ((q 4), .inl (cI, 2, .inl (u97 2))), ((q 5), .inl (cI, 2, .inl (u97 3))), ((q 6), .inl (cI, 20, .inl (u97 4))), ((q 7), .inl (cI, 20, .inl (u97 5))), ((q 8), .inl (cI, 20, .inl (u97 6))), ((q 9), .inl (cI, 8, .inl (u97 7))), ((q 10), .inl (cI, 80, .inl (u97 8))), ((q 11), .inl (cI, 8, .inl (u97 9))), ((q 12), .inl (cI, 16, .inl (u97 10))), ((q 13), .inl (cI, 16, .inl (u97 11))), ((q 14), .inl (cI, 2048, .inl (u97 12)))]) H := hP
        have hD : va_D A ([((q 0), .inr (6, [.int (nI (n)), .ref (q 2), .ref (q 3), .ref (q 4), .ref (q 5), .ref (q 6), .ref (q 7), .ref (q 8), .ref (q 9), .ref (q 10), .ref (q 11), .ref (q 12), .ref (q 13), .ref (q 14)])), ((q 2), .inl (cI, 10, .inl (u97 0))), ((q 3), .inl (cI, 2, .inl (u97 1))), ((q 4), .inl (cI, 2, .inl (u97 2))), ((q 5), .inl (cI, 2, .inl (u97 3))), ((q 6), .inl (cI, 20, .inl (u97 4))), ((q 7), .inl (cI, 20, .inl (u97 5))), ((q 8), .inl (cI, 20, .inl (u97 6))), ((q 9), .inl (cI, 8, .inl (u97 7))), ((q 10), .inl (cI, 80, .inl (u97 8))), ((q 11), .inl (cI, 8, .inl (u97 9))), ((q 12), .inl (cI, 16, .inl (u97 10))), ((q 13), .inl (cI, 16, .inl (u97 11))), ((q 14), .inl (cI, 2048, .inl (u97 12)))]) := hD
        refine lv_if_eq (tgt := 113) hx hb nd_CM_circuit_100 rfl (fun hc100 => ?_) (fun hc100 => ?_)
        · refine lv_iload hx hb nd_CM_circuit_113 (lv_at hl 1 rfl) ?_
          refine lv_istore hx hb nd_CM_circuit_115 hl (by decide) rfl (fun ls hl => ?_)
          have hl : lv_has ls 7 [(5, .int (nI (cq_ (ma_r n (cb_m y w)) n s e k))), (6, .int (nI (k))), (4, .int (nI (s ||| 2 ^ e))), (0, .ref (q 0)), (1, .int (nI (w))), (2, .int (nI (s)))] := hl
          refine lv_iinc (k := 1) (v := nI (k + 1)) hx hb nd_CM_circuit_117 hl rfl (wi_inc _ 1) (by decide) rfl (fun ls hl => ?_)
          have hl : lv_has ls 7 [(6, .int (nI (k + 1))), (5, .int (nI (cq_ (ma_r n (cb_m y w)) n s e k))), (4, .int (nI (s ||| 2 ^ e))), (0, .ref (q 0)), (1, .int (nI (w))), (2, .int (nI (s)))] := hl
          refine lv_goto (tgt := 67) hx hb nd_CM_circuit_120 rfl ?_
          have hl : lv_has ls 7 [(6, .int (nI (k + 1))), (5, .int (nI (cq_ (ma_r n (cb_m y w)) n s e k))), (4, .int (nI (s ||| 2 ^ e))), (0, .ref (q 0)), (1, .int (nI (w))), (2, .int (nI (s)))] := lv_sub hl [0, 1, 2, 3, 4, 5] rfl
          have hq : cq_ (ma_r n (cb_m y w)) n s e (k + 1) = cq_ (ma_r n (cb_m y w)) n s e k := if_neg (fun z => nI_ne0 (n := 1) (by omega) (by omega) ((hp97.1 z.2).symm.trans hc100))
          exact ih (k + 1) u97 ls H locs (by omega) (by omega) (fun j hj => (hp97.2.2 j (Or.inl hj)).trans (hk9 j hj)) (by rw [hq]; exact hl) hP hD hS
        · refine lv_iload hx hb nd_CM_circuit_103 (lv_at hl 1 rfl) ?_
          refine wi_ic hx hb (a := 1) nd_CM_circuit_105 ?_
          refine lv_iload hx hb nd_CM_circuit_106 (lv_at hl 0 rfl) ?_
          refine wi_ishl1 hx hb (by omega) nd_CM_circuit_108 ?_
          refine wi_ior hx hb nd_CM_circuit_109 ?_
          refine lv_goto (tgt := 115) hx hb nd_CM_circuit_110 rfl ?_
          refine lv_istore hx hb nd_CM_circuit_115 hl (by decide) rfl (fun ls hl => ?_)
          have hl : lv_has ls 7 [(5, .int (nI ((cq_ (ma_r n (cb_m y w)) n s e k) ||| (2 ^ k)))), (6, .int (nI (k))), (4, .int (nI (s ||| 2 ^ e))), (0, .ref (q 0)), (1, .int (nI (w))), (2, .int (nI (s)))] := hl
          refine lv_iinc (k := 1) (v := nI (k + 1)) hx hb nd_CM_circuit_117 hl rfl (wi_inc _ 1) (by decide) rfl (fun ls hl => ?_)
          have hl : lv_has ls 7 [(6, .int (nI (k + 1))), (5, .int (nI ((cq_ (ma_r n (cb_m y w)) n s e k) ||| (2 ^ k)))), (4, .int (nI (s ||| 2 ^ e))), (0, .ref (q 0)), (1, .int (nI (w))), (2, .int (nI (s)))] := hl
          refine lv_goto (tgt := 67) hx hb nd_CM_circuit_120 rfl ?_
          have hl : lv_has ls 7 [(6, .int (nI (k + 1))), (5, .int (nI ((cq_ (ma_r n (cb_m y w)) n s e k) ||| (2 ^ k)))), (4, .int (nI (s ||| 2 ^ e))), (0, .ref (q 0)), (1, .int (nI (w))), (2, .int (nI (s)))] := lv_sub hl [0, 1, 2, 3, 4, 5] rfl
          have hq : cq_ (ma_r n (cb_m y w)) n s e (k + 1) = cq_ (ma_r n (cb_m y w)) n s e k ||| 2 ^ k := if_pos ⟨mt_bt_t.mp (by omega), Classical.byContradiction fun z => hc100 ((hp97.2.1 z).trans nI_0)⟩
          exact ih (k + 1) u97 ls H locs (by omega) (by omega) (fun j hj => (hp97.2.2 j (Or.inl hj)).trans (hk9 j hj)) (by rw [hq]; exact hl) hP hD hS
theorem mt_or_bit {s e : Nat} (h : s ||| 2 ^ e = s) : s.testBit e = true := by
  rw [← h, Nat.testBit_or, mt_two]; simp
set_option maxRecDepth 20000 in
theorem c_CM_circuit (l : Launch) (D : va_G) (cI cG cM : ClassId)  (q : Nat → Nat) (n : Nat) (hn1 : 1 ≤ n) (hn : n ≤ 10) (g : rf_S) (y : cb_Y) (hI : rf_I n y g) (wh s e : Int32) (sz : Nat) : wb_Mi l ny_CM_circuit nc_CM_circuit 7 (some .int) ({ frames := 3, cells := 0, slots := 0, locals := 73 }) D (ty_all cI cG cM) (rf_ cI q n g) sz [.ref (q 0), .int (wh), .int (s), .int (e)] (fun (v : Int32) (u : rf_S) => v = sp_circuit n y wh s e ∧ rf_I n y u) (fun u : rf_S => rf_ cI q n u) := by
  refine wb_start (S := rf_S) (by decide) (Nat.le_of_ble_eq_true rfl) ?_
  intro p e0 s0 m below meth c ls A hx hb hr hml htg hown hk hP hK hN hl hAe hsz hD hA
  have hl : lv_has ls 7 [(0, .ref (q 0)), (1, .int (wh)), (2, .int (s)), (3, .int (e))] := hl
  have hP : va_P D cl_all ([((q 0), .inr (6, [.int (nI (n)), .ref (q 2), .ref (q 3), .ref (q 4), .ref (q 5), .ref (q 6), .ref (q 7), .ref (q 8), .ref (q 9), .ref (q 10), .ref (q 11), .ref (q 12), .ref (q 13), .ref (q 14)])), ((q 2), .inl (cI, 10, .inl (g 0))), ((q 3), .inl (cI, 2, .inl (g 1))), ((q 4), .inl (cI, 2, .inl (g 2))), ((q 5), .inl (cI, 2, .inl (g 3))), ((q 6), .inl (cI, 20, .inl (g 4))), ((q 7), .inl (cI, 20, .inl (g 5))), ((q 8), .inl (cI, 20, .inl (g 6))), ((q 9), .inl (cI, 8, .inl (g 7))), ((q 10), .inl (cI, 80, .inl (g 8))), ((q 11), .inl (cI, 8, .inl (g 9))), ((q 12), .inl (cI, 16, .inl (g 10))), ((q 13), .inl (cI, 16, .inl (g 11))), ((q 14), .inl (cI, 2048, .inl (g 12)))]) s0.heap := hP
  have hD : va_D A ([((q 0), .inr (6, [.int (nI (n)), .ref (q 2), .ref (q 3), .ref (q 4), .ref (q 5), .ref (q 6), .ref (q 7), .ref (q 8), .ref (q 9), .ref (q 10), .ref (q 11), .ref (q 12), .ref (q 13), .ref (q 14)])), ((q 2), .inl (cI, 10, .inl (g 0))), ((q 3), .inl (cI, 2, .inl (g 1))), ((q 4), .inl (cI, 2, .inl (g 2))), ((q 5), .inl (cI, 2, .inl (g 3))), ((q 6), .inl (cI, 20, .inl (g 4))), ((q 7), .inl (cI, 20, .inl (g 5))), ((q 8), .inl (cI, 20, .inl (g 6))), ((q 9), .inl (cI, 8, .inl (g 7))), ((q 10), .inl (cI, 80, .inl (g 8))), ((q 11), .inl (cI, 8, .inl (g 9))), ((q 12), .inl (cI, 16, .inl (g 10))), ((q 13), .inl (cI, 16, .inl (g 11))), ((q 14), .inl (cI, 2048, .inl (g 12)))]) := hD
  have hS : va_S A s0.heap s0.heap [] := va_S.rf
  have hRf : 3 ≤ ({ frames := 3, cells := 0, slots := 0, locals := 73 } : Room).frames := Nat.le_refl _
  have hRl : 73 ≤ ({ frames := 3, cells := 0, slots := 0, locals := 73 } : Room).locals := Nat.le_refl _
  have hCS : 0 ≤ ({ frames := 3, cells := 0, slots := 0, locals := 73 } : Room).cells ∧ 0 ≤ ({ frames := 3, cells := 0, slots := 0, locals := 73 } : Room).slots := ⟨Nat.zero_le _, Nat.zero_le _⟩
  have h2n : 2 ^ n ≤ 1024 := Nat.pow_le_pow_right (by omega) hn
  have h2p : 1 ≤ 2 ^ n := Nat.one_le_two_pow
  refine lv_iload_n hx hb nd_CM_circuit_0 rfl (lv_at hl 1 rfl) ?_
  rcases sm_which wh with hw1 | hw1 | hw1
  · subst hw1
    refine wc_S (n := 1) hx hb hml hown htg (c_CM_isWhich l D _ (nI 0) (nI 1) (fun _ => rfl) (fun h => absurd (Or.inl nI_0) h)) tm_432 tm_430 tm_431 tm_9 (by decide +kernel) ⟨⟨Nat.le_trans (by decide) hRf, Nat.le_trans (by decide) hRl⟩, rfl, rfl⟩ (wa_pre wa_nil hK hN) rfl hl.1 rfl (Nat.le_of_ble_eq_true rfl) nd_CM_circuit_1 hCS ?_
    refine wi_if_eq (tgt := 23) hx hb (by decide) nd_CM_circuit_4 rfl (fun h => absurd h (by decide)) (fun _ => ?_)
    refine lv_aload_n hx hb nd_CM_circuit_7 rfl (lv_at hl 0 rfl) ?_
    refine lv_iload_n hx hb nd_CM_circuit_8 rfl (lv_at hl 2 rfl) ?_
    by_cases hq9 : ¬ s < 0 ∧ ¬ nI (2 ^ n) ≤ s
    · obtain ⟨s1, h_s1, rfl⟩ := sm_elem (by omega) hq9
      refine wc_V (C := nr_CM) (n := 1) hx hb hml hown htg (c_CM_isSet l D _ q n hn (nI s1) (nI 1) (fun _ => rfl) (fun h => absurd hq9 h)) tm_482 tm_479 tm_481 tp_14 tm_9 (by decide +kernel) ⟨⟨Nat.le_trans (by decide) hRf, Nat.le_trans (by decide) hRl⟩, rfl, rfl⟩ (wa_pre (hP.sub [0] rfl) hK hN) (va_recv (q0 := 0) (ci := 6) hK hP rfl rfl) rfl hl.1 rfl (Nat.le_of_ble_eq_true rfl) nd_CM_circuit_9 hCS ?_
      refine wi_if_eq (tgt := 23) hx hb (by decide) nd_CM_circuit_12 rfl (fun h => absurd h (by decide)) (fun _ => ?_)
      refine lv_aload_n hx hb nd_CM_circuit_15 rfl (lv_at hl 0 rfl) ?_
      refine lv_iload_n hx hb nd_CM_circuit_16 rfl (lv_at hl 3 rfl) ?_
      by_cases hq17 : ¬ e < 0 ∧ ¬ nI n ≤ e
      · obtain ⟨e1, h_e1, rfl⟩ := sm_elem (by omega) hq17
        refine wc_V (C := nr_CM) (n := 1) hx hb hml hown htg (c_CM_isElement l D _ q n (nI e1) (nI 1) (fun _ => rfl) (fun h => absurd hq17 h)) tm_448 tm_445 tm_447 tp_13 tm_9 (by decide +kernel) ⟨⟨Nat.le_trans (by decide) hRf, Nat.le_trans (by decide) hRl⟩, rfl, rfl⟩ (wa_pre (hP.sub [0] rfl) hK hN) (va_recv (q0 := 0) (ci := 6) hK hP rfl rfl) rfl hl.1 rfl (Nat.le_of_ble_eq_true rfl) nd_CM_circuit_17 hCS ?_
        refine wi_if_ne (tgt := 25) hx hb (by decide) nd_CM_circuit_20 rfl (fun _ => ?_) (fun h => absurd h (by decide))
        have hor := mt_orlt h_s1 h_e1
        refine lv_iload_n hx hb nd_CM_circuit_25 rfl (lv_at hl 2 rfl) ?_
        refine wi_ic hx hb (a := 1) nd_CM_circuit_26 ?_
        refine lv_iload_n hx hb nd_CM_circuit_27 rfl (lv_at hl 3 rfl) ?_
        refine wi_ishl1 hx hb (by omega) nd_CM_circuit_28 ?_
        refine wi_ior hx hb nd_CM_circuit_29 ?_
        refine lv_istore hx hb nd_CM_circuit_30 hl (by decide) rfl (fun ls hl => ?_)
        have hl : lv_has ls 7 [(4, .int (nI (s1 ||| (2 ^ e1)))), (0, .ref (q 0)), (1, .int (nI (0))), (2, .int (nI (s1))), (3, .int (nI (e1)))] := hl
        refine lv_iload hx hb nd_CM_circuit_32 (lv_at hl 0 rfl) ?_
        refine lv_iload_n hx hb nd_CM_circuit_34 rfl (lv_at hl 3 rfl) ?_
        refine wi_icmp_eq (tgt := 57) hx hb (by omega) (by omega) nd_CM_circuit_35 rfl (fun hc35 => ?_) (fun hc35 => ?_)
        · refine wi_ic hx hb (a := 0) nd_CM_circuit_57 ?_
          have hsp : sp_circuit n y (nI 0) (nI s1) (nI e1) = nI 0 := by unfold sp_circuit; simp only [sw_0, sr_t (show s1 ≤ 2 ^ n - 1 by omega) (show 2 ^ n - 1 < 2 ^ 31 by omega), tn_nI (show s1 < 2 ^ 31 by omega), sz_t h_e1 (show n < 2 ^ 31 by omega), tn_0, tn_nI (show e1 < 2 ^ 31 by omega)]; simp only [Bool.and_self, if_true]; exact if_pos (Or.inl (mt_or_bit hc35))
          exact wb_iret g hx hb hr hk hAe (by rw [hsp]; exact ⟨rfl, hI⟩) hP hD hS nd_CM_circuit_58
        · refine lv_aload_n hx hb nd_CM_circuit_38 rfl (lv_at hl 1 rfl) ?_
          refine lv_iload_n hx hb nd_CM_circuit_39 rfl (lv_at hl 2 rfl) ?_
          refine lv_iload_n hx hb nd_CM_circuit_40 rfl (lv_at hl 3 rfl) ?_
          refine wd_Vi0 (C := nr_CM) (n := 2) (Y := rf_ cI q n g) hx hb hml hown htg (c_CM_isFree l D cI cG cM q n hn1 hn g y hI 0 s1 (by omega) (by omega) _) tm_486 tm_483 tm_485 tp_15 tm_9 (by decide +kernel) ⟨⟨Nat.le_trans (by decide) hRf, Nat.le_trans (by decide) hRl⟩, rfl, rfl⟩ hP hD hS hA hK hN (va_recv (q0 := 0) (ci := 6) hK hP rfl rfl) rfl hl.1 rfl (Nat.le_of_ble_eq_true rfl) nd_CM_circuit_41 hCS (fun v41 u41 H locs hp41 hP hD hS => ?_)
          have hP : va_P D cl_all ([((q 0), .inr (6, [.int (nI (n)), .ref (q 2), .ref (q 3), .ref (q 4), .ref (q 5), .ref (q 6), .ref (q 7), .ref (q 8), .ref (q 9), .ref (q 10), .ref (q 11), .ref (q 12), .ref (q 13), .ref (q 14)])), ((q 2), .inl (cI, 10, .inl (u41 0))), ((q 3), .inl (cI, 2, .inl (u41 1))), ((q 4), .inl (cI, 2, .inl (u41 2))), ((q 5), .inl (cI, 2, .inl (u41 3))), ((q 6), .inl (cI, 20, .inl (u41 4))), ((q 7), .inl (cI, 20, .inl (u41 5))), ((q 8), .inl (cI, 20, .inl (u41 6))), ((q 9), .inl (cI, 8, .inl (u41 7))), ((q 10), .inl (cI, 80, .inl (u41 8))), ((q 11), .inl (cI, 8, .inl (u41 9))), ((q 12), .inl (cI, 16, .inl (u41 10))), ((q 13), .inl (cI, 16, .inl (u41 11))), ((q 14), .inl (cI, 2048, .inl (u41 12)))]) H := hP
          have hD : va_D A ([((q 0), .inr (6, [.int (nI (n)), .ref (q 2), .ref (q 3), .ref (q 4), .ref (q 5), .ref (q 6), .ref (q 7), .ref (q 8), .ref (q 9), .ref (q 10), .ref (q 11), .ref (q 12), .ref (q 13), .ref (q 14)])), ((q 2), .inl (cI, 10, .inl (u41 0))), ((q 3), .inl (cI, 2, .inl (u41 1))), ((q 4), .inl (cI, 2, .inl (u41 2))), ((q 5), .inl (cI, 2, .inl (u41 3))), ((q 6), .inl (cI, 20, .inl (u41 4))), ((q 7), .inl (cI, 20, .inl (u41 5))), ((q 8), .inl (cI, 20, .inl (u41 6))), ((q 9), .inl (cI, 8, .inl (u41 7))), ((q 10), .inl (cI, 80, .inl (u41 8))), ((q 11), .inl (cI, 8, .inl (u41 9))), ((q 12), .inl (cI, 16, .inl (u41 10))), ((q 13), .inl (cI, 16, .inl (u41 11))), ((q 14), .inl (cI, 2048, .inl (u41 12)))]) := hD
          refine lv_if_eq (tgt := 57) hx hb nd_CM_circuit_44 rfl (fun hc44 => ?_) (fun hc44 => ?_)
          · refine wi_ic hx hb (a := 0) nd_CM_circuit_57 ?_
            have hsp : sp_circuit n y (nI 0) (nI s1) (nI e1) = nI 0 := by unfold sp_circuit; simp only [sw_0, sr_t (show s1 ≤ 2 ^ n - 1 by omega) (show 2 ^ n - 1 < 2 ^ 31 by omega), tn_nI (show s1 < 2 ^ 31 by omega), sz_t h_e1 (show n < 2 ^ 31 by omega), tn_0, tn_nI (show e1 < 2 ^ 31 by omega)]; simp only [Bool.and_self, if_true]; exact if_pos (Or.inr (Or.inl (fun q => nI_ne0 (n := 1) (by omega) (by omega) ((hp41.1 q).symm.trans hc44))))
            exact wb_iret u41 hx hb hr hk hAe (by rw [hsp]; exact ⟨rfl, rf_keep hn (fun j hj => hp41.2.2 j (Or.inl hj)) hI⟩) hP hD hS nd_CM_circuit_58
          · refine lv_aload_n hx hb nd_CM_circuit_47 rfl (lv_at hl 1 rfl) ?_
            refine lv_iload_n hx hb nd_CM_circuit_48 rfl (lv_at hl 2 rfl) ?_
            refine lv_iload hx hb nd_CM_circuit_49 (lv_at hl 0 rfl) ?_
            refine wd_Vi0 (C := nr_CM) (n := 2) (Y := rf_ cI q n u41) hx hb hml hown htg (c_CM_isFree l D cI cG cM q n hn1 hn u41 y (rf_keep hn (fun j hj => hp41.2.2 j (Or.inl hj)) hI) 0 (s1 ||| (2 ^ e1)) (by omega) (by omega) _) tm_486 tm_483 tm_485 tp_15 tm_9 (by decide +kernel) ⟨⟨Nat.le_trans (by decide) hRf, Nat.le_trans (by decide) hRl⟩, rfl, rfl⟩ hP hD hS hA hK hN (va_recv (q0 := 0) (ci := 6) hK hP rfl rfl) rfl hl.1 rfl (Nat.le_of_ble_eq_true rfl) nd_CM_circuit_51 hCS (fun v51 u51 H locs hp51 hP hD hS => ?_)
            have hP : va_P D cl_all ([((q 0), .inr (6, [.int (nI (n)), .ref (q 2), .ref (q 3), .ref (q 4), .ref (q 5), .ref (q 6), .ref (q 7), .ref (q 8), .ref (q 9), .ref (q 10), .ref (q 11), .ref (q 12), .ref (q 13), .ref (q 14)])), ((q 2), .inl (cI, 10, .inl (u51 0))), ((q 3), .inl (cI, 2, .inl (u51 1))), ((q 4), .inl (cI, 2, .inl (u51 2))), ((q 5), .inl (cI, 2, .inl (u51 3))), ((q 6), .inl (cI, 20, .inl (u51 4))), ((q 7), .inl (cI, 20, .inl (u51 5))), ((q 8), .inl (cI, 20, .inl (u51 6))), ((q 9), .inl (cI, 8, .inl (u51 7))), ((q 10), .inl (cI, 80, .inl (u51 8))), ((q 11), .inl (cI, 8, .inl (u51 9))), ((q 12), .inl (cI, 16, .inl (u51 10))), ((q 13), .inl (cI, 16, .inl (u51 11))), ((q 14), .inl (cI, 2048, .inl (u51 12)))]) H := hP
            have hD : va_D A ([((q 0), .inr (6, [.int (nI (n)), .ref (q 2), .ref (q 3), .ref (q 4), .ref (q 5), .ref (q 6), .ref (q 7), .ref (q 8), .ref (q 9), .ref (q 10), .ref (q 11), .ref (q 12), .ref (q 13), .ref (q 14)])), ((q 2), .inl (cI, 10, .inl (u51 0))), ((q 3), .inl (cI, 2, .inl (u51 1))), ((q 4), .inl (cI, 2, .inl (u51 2))), ((q 5), .inl (cI, 2, .inl (u51 3))), ((q 6), .inl (cI, 20, .inl (u51 4))), ((q 7), .inl (cI, 20, .inl (u51 5))), ((q 8), .inl (cI, 20, .inl (u51 6))), ((q 9), .inl (cI, 8, .inl (u51 7))), ((q 10), .inl (cI, 80, .inl (u51 8))), ((q 11), .inl (cI, 8, .inl (u51 9))), ((q 12), .inl (cI, 16, .inl (u51 10))), ((q 13), .inl (cI, 16, .inl (u51 11))), ((q 14), .inl (cI, 2048, .inl (u51 12)))]) := hD
            refine lv_if_eq (tgt := 59) hx hb nd_CM_circuit_54 rfl (fun hc54 => ?_) (fun hc54 => ?_)
            · refine wi_ic hx hb (a := 1) nd_CM_circuit_59 ?_
              refine lv_iload_n hx hb nd_CM_circuit_60 rfl (lv_at hl 4 rfl) ?_
              refine wi_ishl1 hx hb (by omega) nd_CM_circuit_61 ?_
              refine lv_istore hx hb nd_CM_circuit_62 hl (by decide) rfl (fun ls hl => ?_)
              have hl : lv_has ls 7 [(5, .int (nI (2 ^ e1))), (4, .int (nI (s1 ||| (2 ^ e1)))), (0, .ref (q 0)), (1, .int (nI (0))), (2, .int (nI (s1))), (3, .int (nI (e1)))] := hl
              refine wi_ic hx hb (a := 0) nd_CM_circuit_64 ?_
              refine lv_istore hx hb nd_CM_circuit_65 hl (by decide) rfl (fun ls hl => ?_)
              have hl : lv_has ls 7 [(6, .int (nI (0))), (5, .int (nI (2 ^ e1))), (4, .int (nI (s1 ||| (2 ^ e1)))), (0, .ref (q 0)), (1, .int (nI (0))), (2, .int (nI (s1))), (3, .int (nI (e1)))] := hl
              have hcond : ¬ (s1.testBit e1 = true ∨ ¬ ma_r n (cb_m y 0) s1 = mt_cd n s1 ∨ ma_r n (cb_m y 0) (s1 ||| 2 ^ e1) = mt_cd n (s1 ||| 2 ^ e1)) := fun z => z.elim (fun z => hc35 (mt_or_in z)) (fun z => z.elim (fun z => z (Classical.byContradiction fun q => hc44 ((hp41.2.1 q).trans nI_0))) (fun z => nI_ne0 (n := 1) (by omega) (by omega) ((hp51.1 z).symm.trans hc54)))
              have hl : lv_has ls 7 [(6, .int (nI (0))), (5, .int (nI (2 ^ e1))), (4, .int (nI (s1 ||| (2 ^ e1)))), (0, .ref (q 0)), (1, .int (nI (0))), (2, .int (nI (s1)))] := lv_sub hl [0, 1, 2, 3, 4, 5] rfl
              refine lp_CM_circuit cI cG cM q n hn1 hn g y hI 0 s1 e1 (by omega) (by omega) (by omega) hx hb hml htg hown hK hN hA hRf hRl hCS (fun ls H locs h hk9 hl hP hD hS => ?_) (n + 1) 0 u51 ls H locs (by omega) (by omega) (fun j hj => (hp51.2.2 j (Or.inl hj)).trans (hp41.2.2 j (Or.inl hj))) hl hP hD hS
              refine lv_iload hx hb nd_CM_circuit_123 (lv_at hl 0 rfl) ?_
              have hsp : sp_circuit n y (nI 0) (nI s1) (nI e1) = nI (cq_ (ma_r n (cb_m y 0)) n s1 e1 n) := by unfold sp_circuit; simp only [sw_0, sr_t (show s1 ≤ 2 ^ n - 1 by omega) (show 2 ^ n - 1 < 2 ^ 31 by omega), tn_nI (show s1 < 2 ^ 31 by omega), sz_t h_e1 (show n < 2 ^ 31 by omega), tn_0, tn_nI (show e1 < 2 ^ 31 by omega)]; simp only [Bool.and_self, if_true]; exact if_neg hcond
              exact wb_iret h hx hb hr hk hAe (by rw [hsp]; exact ⟨rfl, rf_keep hn hk9 hI⟩) hP hD hS nd_CM_circuit_125
            · refine wi_ic hx hb (a := 0) nd_CM_circuit_57 ?_
              have hsp : sp_circuit n y (nI 0) (nI s1) (nI e1) = nI 0 := by unfold sp_circuit; simp only [sw_0, sr_t (show s1 ≤ 2 ^ n - 1 by omega) (show 2 ^ n - 1 < 2 ^ 31 by omega), tn_nI (show s1 < 2 ^ 31 by omega), sz_t h_e1 (show n < 2 ^ 31 by omega), tn_0, tn_nI (show e1 < 2 ^ 31 by omega)]; simp only [Bool.and_self, if_true]; exact if_pos (Or.inr (Or.inr (Classical.byContradiction fun q => hc54 ((hp51.2.1 q).trans nI_0))))
              exact wb_iret u51 hx hb hr hk hAe (by rw [hsp]; exact ⟨rfl, rf_keep hn (fun j hj => (hp51.2.2 j (Or.inl hj)).trans (hp41.2.2 j (Or.inl hj))) hI⟩) hP hD hS nd_CM_circuit_58
      · refine wc_V (C := nr_CM) (n := 1) hx hb hml hown htg (c_CM_isElement l D _ q n e (nI 0) (fun h => absurd h hq17) (fun _ => rfl)) tm_448 tm_445 tm_447 tp_13 tm_9 (by decide +kernel) ⟨⟨Nat.le_trans (by decide) hRf, Nat.le_trans (by decide) hRl⟩, rfl, rfl⟩ (wa_pre (hP.sub [0] rfl) hK hN) (va_recv (q0 := 0) (ci := 6) hK hP rfl rfl) rfl hl.1 rfl (Nat.le_of_ble_eq_true rfl) nd_CM_circuit_17 hCS ?_
        refine wi_if_ne (tgt := 25) hx hb (by decide) nd_CM_circuit_20 rfl (fun h => absurd h (by decide)) (fun _ => ?_)
        refine lv_iconst (v := -1) hx hb nd_CM_circuit_23 (by decide) ?_
        have hsp : sp_circuit n y (nI (0)) (nI (s1)) e = -1 := by unfold sp_circuit; simp [sz_f hn1 (show n < 2 ^ 31 by omega) hq17]
        exact wb_iret g hx hb hr hk hAe (by rw [hsp]; exact ⟨rfl, hI⟩) hP hD hS nd_CM_circuit_24
    · refine wc_V (C := nr_CM) (n := 1) hx hb hml hown htg (c_CM_isSet l D _ q n hn s (nI 0) (fun h => absurd h hq9) (fun _ => rfl)) tm_482 tm_479 tm_481 tp_14 tm_9 (by decide +kernel) ⟨⟨Nat.le_trans (by decide) hRf, Nat.le_trans (by decide) hRl⟩, rfl, rfl⟩ (wa_pre (hP.sub [0] rfl) hK hN) (va_recv (q0 := 0) (ci := 6) hK hP rfl rfl) rfl hl.1 rfl (Nat.le_of_ble_eq_true rfl) nd_CM_circuit_9 hCS ?_
      refine wi_if_eq (tgt := 23) hx hb (by decide) nd_CM_circuit_12 rfl (fun _ => ?_) (fun h => absurd h (by decide))
      refine lv_iconst (v := -1) hx hb nd_CM_circuit_23 (by decide) ?_
      have hsp : sp_circuit n y (nI (0)) s e = -1 := by unfold sp_circuit; simp [sz_s hn hq9]
      exact wb_iret g hx hb hr hk hAe (by rw [hsp]; exact ⟨rfl, hI⟩) hP hD hS nd_CM_circuit_24
  · subst hw1
    refine wc_S (n := 1) hx hb hml hown htg (c_CM_isWhich l D _ (nI 1) (nI 1) (fun _ => rfl) (fun h => absurd (Or.inr rfl) h)) tm_432 tm_430 tm_431 tm_9 (by decide +kernel) ⟨⟨Nat.le_trans (by decide) hRf, Nat.le_trans (by decide) hRl⟩, rfl, rfl⟩ (wa_pre wa_nil hK hN) rfl hl.1 rfl (Nat.le_of_ble_eq_true rfl) nd_CM_circuit_1 hCS ?_
    refine wi_if_eq (tgt := 23) hx hb (by decide) nd_CM_circuit_4 rfl (fun h => absurd h (by decide)) (fun _ => ?_)
    refine lv_aload_n hx hb nd_CM_circuit_7 rfl (lv_at hl 0 rfl) ?_
    refine lv_iload_n hx hb nd_CM_circuit_8 rfl (lv_at hl 2 rfl) ?_
    by_cases hq9 : ¬ s < 0 ∧ ¬ nI (2 ^ n) ≤ s
    · obtain ⟨s1, h_s1, rfl⟩ := sm_elem (by omega) hq9
      refine wc_V (C := nr_CM) (n := 1) hx hb hml hown htg (c_CM_isSet l D _ q n hn (nI s1) (nI 1) (fun _ => rfl) (fun h => absurd hq9 h)) tm_482 tm_479 tm_481 tp_14 tm_9 (by decide +kernel) ⟨⟨Nat.le_trans (by decide) hRf, Nat.le_trans (by decide) hRl⟩, rfl, rfl⟩ (wa_pre (hP.sub [0] rfl) hK hN) (va_recv (q0 := 0) (ci := 6) hK hP rfl rfl) rfl hl.1 rfl (Nat.le_of_ble_eq_true rfl) nd_CM_circuit_9 hCS ?_
      refine wi_if_eq (tgt := 23) hx hb (by decide) nd_CM_circuit_12 rfl (fun h => absurd h (by decide)) (fun _ => ?_)
      refine lv_aload_n hx hb nd_CM_circuit_15 rfl (lv_at hl 0 rfl) ?_
      refine lv_iload_n hx hb nd_CM_circuit_16 rfl (lv_at hl 3 rfl) ?_
      by_cases hq17 : ¬ e < 0 ∧ ¬ nI n ≤ e
      · obtain ⟨e1, h_e1, rfl⟩ := sm_elem (by omega) hq17
        refine wc_V (C := nr_CM) (n := 1) hx hb hml hown htg (c_CM_isElement l D _ q n (nI e1) (nI 1) (fun _ => rfl) (fun h => absurd hq17 h)) tm_448 tm_445 tm_447 tp_13 tm_9 (by decide +kernel) ⟨⟨Nat.le_trans (by decide) hRf, Nat.le_trans (by decide) hRl⟩, rfl, rfl⟩ (wa_pre (hP.sub [0] rfl) hK hN) (va_recv (q0 := 0) (ci := 6) hK hP rfl rfl) rfl hl.1 rfl (Nat.le_of_ble_eq_true rfl) nd_CM_circuit_17 hCS ?_
        refine wi_if_ne (tgt := 25) hx hb (by decide) nd_CM_circuit_20 rfl (fun _ => ?_) (fun h => absurd h (by decide))
        have hor := mt_orlt h_s1 h_e1
        refine lv_iload_n hx hb nd_CM_circuit_25 rfl (lv_at hl 2 rfl) ?_
        refine wi_ic hx hb (a := 1) nd_CM_circuit_26 ?_
        refine lv_iload_n hx hb nd_CM_circuit_27 rfl (lv_at hl 3 rfl) ?_
        refine wi_ishl1 hx hb (by omega) nd_CM_circuit_28 ?_
        refine wi_ior hx hb nd_CM_circuit_29 ?_
        refine lv_istore hx hb nd_CM_circuit_30 hl (by decide) rfl (fun ls hl => ?_)
        have hl : lv_has ls 7 [(4, .int (nI (s1 ||| (2 ^ e1)))), (0, .ref (q 0)), (1, .int (nI (1))), (2, .int (nI (s1))), (3, .int (nI (e1)))] := hl
        refine lv_iload hx hb nd_CM_circuit_32 (lv_at hl 0 rfl) ?_
        refine lv_iload_n hx hb nd_CM_circuit_34 rfl (lv_at hl 3 rfl) ?_
        refine wi_icmp_eq (tgt := 57) hx hb (by omega) (by omega) nd_CM_circuit_35 rfl (fun hc35 => ?_) (fun hc35 => ?_)
        · refine wi_ic hx hb (a := 0) nd_CM_circuit_57 ?_
          have hsp : sp_circuit n y (nI 1) (nI s1) (nI e1) = nI 0 := by unfold sp_circuit; simp only [sw_1, sr_t (show s1 ≤ 2 ^ n - 1 by omega) (show 2 ^ n - 1 < 2 ^ 31 by omega), tn_nI (show s1 < 2 ^ 31 by omega), sz_t h_e1 (show n < 2 ^ 31 by omega), tn_1, tn_nI (show e1 < 2 ^ 31 by omega)]; simp only [Bool.and_self, if_true]; exact if_pos (Or.inl (mt_or_bit hc35))
          exact wb_iret g hx hb hr hk hAe (by rw [hsp]; exact ⟨rfl, hI⟩) hP hD hS nd_CM_circuit_58
        · refine lv_aload_n hx hb nd_CM_circuit_38 rfl (lv_at hl 1 rfl) ?_
          refine lv_iload_n hx hb nd_CM_circuit_39 rfl (lv_at hl 2 rfl) ?_
          refine lv_iload_n hx hb nd_CM_circuit_40 rfl (lv_at hl 3 rfl) ?_
          refine wd_Vi0 (C := nr_CM) (n := 2) (Y := rf_ cI q n g) hx hb hml hown htg (c_CM_isFree l D cI cG cM q n hn1 hn g y hI 1 s1 (by omega) (by omega) _) tm_486 tm_483 tm_485 tp_15 tm_9 (by decide +kernel) ⟨⟨Nat.le_trans (by decide) hRf, Nat.le_trans (by decide) hRl⟩, rfl, rfl⟩ hP hD hS hA hK hN (va_recv (q0 := 0) (ci := 6) hK hP rfl rfl) rfl hl.1 rfl (Nat.le_of_ble_eq_true rfl) nd_CM_circuit_41 hCS (fun v41 u41 H locs hp41 hP hD hS => ?_)
          have hP : va_P D cl_all ([((q 0), .inr (6, [.int (nI (n)), .ref (q 2), .ref (q 3), .ref (q 4), .ref (q 5), .ref (q 6), .ref (q 7), .ref (q 8), .ref (q 9), .ref (q 10), .ref (q 11), .ref (q 12), .ref (q 13), .ref (q 14)])), ((q 2), .inl (cI, 10, .inl (u41 0))), ((q 3), .inl (cI, 2, .inl (u41 1))), ((q 4), .inl (cI, 2, .inl (u41 2))), ((q 5), .inl (cI, 2, .inl (u41 3))), ((q 6), .inl (cI, 20, .inl (u41 4))), ((q 7), .inl (cI, 20, .inl (u41 5))), ((q 8), .inl (cI, 20, .inl (u41 6))), ((q 9), .inl (cI, 8, .inl (u41 7))), ((q 10), .inl (cI, 80, .inl (u41 8))), ((q 11), .inl (cI, 8, .inl (u41 9))), ((q 12), .inl (cI, 16, .inl (u41 10))), ((q 13), .inl (cI, 16, .inl (u41 11))), ((q 14), .inl (cI, 2048, .inl (u41 12)))]) H := hP
          have hD : va_D A ([((q 0), .inr (6, [.int (nI (n)), .ref (q 2), .ref (q 3), .ref (q 4), .ref (q 5), .ref (q 6), .ref (q 7), .ref (q 8), .ref (q 9), .ref (q 10), .ref (q 11), .ref (q 12), .ref (q 13), .ref (q 14)])), ((q 2), .inl (cI, 10, .inl (u41 0))), ((q 3), .inl (cI, 2, .inl (u41 1))), ((q 4), .inl (cI, 2, .inl (u41 2))), ((q 5), .inl (cI, 2, .inl (u41 3))), ((q 6), .inl (cI, 20, .inl (u41 4))), ((q 7), .inl (cI, 20, .inl (u41 5))), ((q 8), .inl (cI, 20, .inl (u41 6))), ((q 9), .inl (cI, 8, .inl (u41 7))), ((q 10), .inl (cI, 80, .inl (u41 8))), ((q 11), .inl (cI, 8, .inl (u41 9))), ((q 12), .inl (cI, 16, .inl (u41 10))), ((q 13), .inl (cI, 16, .inl (u41 11))), ((q 14), .inl (cI, 2048, .inl (u41 12)))]) := hD
          refine lv_if_eq (tgt := 57) hx hb nd_CM_circuit_44 rfl (fun hc44 => ?_) (fun hc44 => ?_)
          · refine wi_ic hx hb (a := 0) nd_CM_circuit_57 ?_
            have hsp : sp_circuit n y (nI 1) (nI s1) (nI e1) = nI 0 := by unfold sp_circuit; simp only [sw_1, sr_t (show s1 ≤ 2 ^ n - 1 by omega) (show 2 ^ n - 1 < 2 ^ 31 by omega), tn_nI (show s1 < 2 ^ 31 by omega), sz_t h_e1 (show n < 2 ^ 31 by omega), tn_1, tn_nI (show e1 < 2 ^ 31 by omega)]; simp only [Bool.and_self, if_true]; exact if_pos (Or.inr (Or.inl (fun q => nI_ne0 (n := 1) (by omega) (by omega) ((hp41.1 q).symm.trans hc44))))
            exact wb_iret u41 hx hb hr hk hAe (by rw [hsp]; exact ⟨rfl, rf_keep hn (fun j hj => hp41.2.2 j (Or.inl hj)) hI⟩) hP hD hS nd_CM_circuit_58
          · refine lv_aload_n hx hb nd_CM_circuit_47 rfl (lv_at hl 1 rfl) ?_
            refine lv_iload_n hx hb nd_CM_circuit_48 rfl (lv_at hl 2 rfl) ?_
            refine lv_iload hx hb nd_CM_circuit_49 (lv_at hl 0 rfl) ?_
            refine wd_Vi0 (C := nr_CM) (n := 2) (Y := rf_ cI q n u41) hx hb hml hown htg (c_CM_isFree l D cI cG cM q n hn1 hn u41 y (rf_keep hn (fun j hj => hp41.2.2 j (Or.inl hj)) hI) 1 (s1 ||| (2 ^ e1)) (by omega) (by omega) _) tm_486 tm_483 tm_485 tp_15 tm_9 (by decide +kernel) ⟨⟨Nat.le_trans (by decide) hRf, Nat.le_trans (by decide) hRl⟩, rfl, rfl⟩ hP hD hS hA hK hN (va_recv (q0 := 0) (ci := 6) hK hP rfl rfl) rfl hl.1 rfl (Nat.le_of_ble_eq_true rfl) nd_CM_circuit_51 hCS (fun v51 u51 H locs hp51 hP hD hS => ?_)
            have hP : va_P D cl_all ([((q 0), .inr (6, [.int (nI (n)), .ref (q 2), .ref (q 3), .ref (q 4), .ref (q 5), .ref (q 6), .ref (q 7), .ref (q 8), .ref (q 9), .ref (q 10), .ref (q 11), .ref (q 12), .ref (q 13), .ref (q 14)])), ((q 2), .inl (cI, 10, .inl (u51 0))), ((q 3), .inl (cI, 2, .inl (u51 1))), ((q 4), .inl (cI, 2, .inl (u51 2))), ((q 5), .inl (cI, 2, .inl (u51 3))), ((q 6), .inl (cI, 20, .inl (u51 4))), ((q 7), .inl (cI, 20, .inl (u51 5))), ((q 8), .inl (cI, 20, .inl (u51 6))), ((q 9), .inl (cI, 8, .inl (u51 7))), ((q 10), .inl (cI, 80, .inl (u51 8))), ((q 11), .inl (cI, 8, .inl (u51 9))), ((q 12), .inl (cI, 16, .inl (u51 10))), ((q 13), .inl (cI, 16, .inl (u51 11))), ((q 14), .inl (cI, 2048, .inl (u51 12)))]) H := hP
            have hD : va_D A ([((q 0), .inr (6, [.int (nI (n)), .ref (q 2), .ref (q 3), .ref (q 4), .ref (q 5), .ref (q 6), .ref (q 7), .ref (q 8), .ref (q 9), .ref (q 10), .ref (q 11), .ref (q 12), .ref (q 13), .ref (q 14)])), ((q 2), .inl (cI, 10, .inl (u51 0))), ((q 3), .inl (cI, 2, .inl (u51 1))), ((q 4), .inl (cI, 2, .inl (u51 2))), ((q 5), .inl (cI, 2, .inl (u51 3))), ((q 6), .inl (cI, 20, .inl (u51 4))), ((q 7), .inl (cI, 20, .inl (u51 5))), ((q 8), .inl (cI, 20, .inl (u51 6))), ((q 9), .inl (cI, 8, .inl (u51 7))), ((q 10), .inl (cI, 80, .inl (u51 8))), ((q 11), .inl (cI, 8, .inl (u51 9))), ((q 12), .inl (cI, 16, .inl (u51 10))), ((q 13), .inl (cI, 16, .inl (u51 11))), ((q 14), .inl (cI, 2048, .inl (u51 12)))]) := hD
            refine lv_if_eq (tgt := 59) hx hb nd_CM_circuit_54 rfl (fun hc54 => ?_) (fun hc54 => ?_)
            · refine wi_ic hx hb (a := 1) nd_CM_circuit_59 ?_
              refine lv_iload_n hx hb nd_CM_circuit_60 rfl (lv_at hl 4 rfl) ?_
              refine wi_ishl1 hx hb (by omega) nd_CM_circuit_61 ?_
              refine lv_istore hx hb nd_CM_circuit_62 hl (by decide) rfl (fun ls hl => ?_)
              have hl : lv_has ls 7 [(5, .int (nI (2 ^ e1))), (4, .int (nI (s1 ||| (2 ^ e1)))), (0, .ref (q 0)), (1, .int (nI (1))), (2, .int (nI (s1))), (3, .int (nI (e1)))] := hl
              refine wi_ic hx hb (a := 0) nd_CM_circuit_64 ?_
              refine lv_istore hx hb nd_CM_circuit_65 hl (by decide) rfl (fun ls hl => ?_)
              have hl : lv_has ls 7 [(6, .int (nI (0))), (5, .int (nI (2 ^ e1))), (4, .int (nI (s1 ||| (2 ^ e1)))), (0, .ref (q 0)), (1, .int (nI (1))), (2, .int (nI (s1))), (3, .int (nI (e1)))] := hl
              have hcond : ¬ (s1.testBit e1 = true ∨ ¬ ma_r n (cb_m y 1) s1 = mt_cd n s1 ∨ ma_r n (cb_m y 1) (s1 ||| 2 ^ e1) = mt_cd n (s1 ||| 2 ^ e1)) := fun z => z.elim (fun z => hc35 (mt_or_in z)) (fun z => z.elim (fun z => z (Classical.byContradiction fun q => hc44 ((hp41.2.1 q).trans nI_0))) (fun z => nI_ne0 (n := 1) (by omega) (by omega) ((hp51.1 z).symm.trans hc54)))
              have hl : lv_has ls 7 [(6, .int (nI (0))), (5, .int (nI (2 ^ e1))), (4, .int (nI (s1 ||| (2 ^ e1)))), (0, .ref (q 0)), (1, .int (nI (1))), (2, .int (nI (s1)))] := lv_sub hl [0, 1, 2, 3, 4, 5] rfl
              refine lp_CM_circuit cI cG cM q n hn1 hn g y hI 1 s1 e1 (by omega) (by omega) (by omega) hx hb hml htg hown hK hN hA hRf hRl hCS (fun ls H locs h hk9 hl hP hD hS => ?_) (n + 1) 0 u51 ls H locs (by omega) (by omega) (fun j hj => (hp51.2.2 j (Or.inl hj)).trans (hp41.2.2 j (Or.inl hj))) hl hP hD hS
              refine lv_iload hx hb nd_CM_circuit_123 (lv_at hl 0 rfl) ?_
              have hsp : sp_circuit n y (nI 1) (nI s1) (nI e1) = nI (cq_ (ma_r n (cb_m y 1)) n s1 e1 n) := by unfold sp_circuit; simp only [sw_1, sr_t (show s1 ≤ 2 ^ n - 1 by omega) (show 2 ^ n - 1 < 2 ^ 31 by omega), tn_nI (show s1 < 2 ^ 31 by omega), sz_t h_e1 (show n < 2 ^ 31 by omega), tn_1, tn_nI (show e1 < 2 ^ 31 by omega)]; simp only [Bool.and_self, if_true]; exact if_neg hcond
              exact wb_iret h hx hb hr hk hAe (by rw [hsp]; exact ⟨rfl, rf_keep hn hk9 hI⟩) hP hD hS nd_CM_circuit_125
            · refine wi_ic hx hb (a := 0) nd_CM_circuit_57 ?_
              have hsp : sp_circuit n y (nI 1) (nI s1) (nI e1) = nI 0 := by unfold sp_circuit; simp only [sw_1, sr_t (show s1 ≤ 2 ^ n - 1 by omega) (show 2 ^ n - 1 < 2 ^ 31 by omega), tn_nI (show s1 < 2 ^ 31 by omega), sz_t h_e1 (show n < 2 ^ 31 by omega), tn_1, tn_nI (show e1 < 2 ^ 31 by omega)]; simp only [Bool.and_self, if_true]; exact if_pos (Or.inr (Or.inr (Classical.byContradiction fun q => hc54 ((hp51.2.1 q).trans nI_0))))
              exact wb_iret u51 hx hb hr hk hAe (by rw [hsp]; exact ⟨rfl, rf_keep hn (fun j hj => (hp51.2.2 j (Or.inl hj)).trans (hp41.2.2 j (Or.inl hj))) hI⟩) hP hD hS nd_CM_circuit_58
      · refine wc_V (C := nr_CM) (n := 1) hx hb hml hown htg (c_CM_isElement l D _ q n e (nI 0) (fun h => absurd h hq17) (fun _ => rfl)) tm_448 tm_445 tm_447 tp_13 tm_9 (by decide +kernel) ⟨⟨Nat.le_trans (by decide) hRf, Nat.le_trans (by decide) hRl⟩, rfl, rfl⟩ (wa_pre (hP.sub [0] rfl) hK hN) (va_recv (q0 := 0) (ci := 6) hK hP rfl rfl) rfl hl.1 rfl (Nat.le_of_ble_eq_true rfl) nd_CM_circuit_17 hCS ?_
        refine wi_if_ne (tgt := 25) hx hb (by decide) nd_CM_circuit_20 rfl (fun h => absurd h (by decide)) (fun _ => ?_)
        refine lv_iconst (v := -1) hx hb nd_CM_circuit_23 (by decide) ?_
        have hsp : sp_circuit n y (nI (1)) (nI (s1)) e = -1 := by unfold sp_circuit; simp [sz_f hn1 (show n < 2 ^ 31 by omega) hq17]
        exact wb_iret g hx hb hr hk hAe (by rw [hsp]; exact ⟨rfl, hI⟩) hP hD hS nd_CM_circuit_24
    · refine wc_V (C := nr_CM) (n := 1) hx hb hml hown htg (c_CM_isSet l D _ q n hn s (nI 0) (fun h => absurd h hq9) (fun _ => rfl)) tm_482 tm_479 tm_481 tp_14 tm_9 (by decide +kernel) ⟨⟨Nat.le_trans (by decide) hRf, Nat.le_trans (by decide) hRl⟩, rfl, rfl⟩ (wa_pre (hP.sub [0] rfl) hK hN) (va_recv (q0 := 0) (ci := 6) hK hP rfl rfl) rfl hl.1 rfl (Nat.le_of_ble_eq_true rfl) nd_CM_circuit_9 hCS ?_
      refine wi_if_eq (tgt := 23) hx hb (by decide) nd_CM_circuit_12 rfl (fun _ => ?_) (fun h => absurd h (by decide))
      refine lv_iconst (v := -1) hx hb nd_CM_circuit_23 (by decide) ?_
      have hsp : sp_circuit n y (nI (1)) s e = -1 := by unfold sp_circuit; simp [sz_s hn hq9]
      exact wb_iret g hx hb hr hk hAe (by rw [hsp]; exact ⟨rfl, hI⟩) hP hD hS nd_CM_circuit_24
  · refine wc_S (n := 1) hx hb hml hown htg (c_CM_isWhich l D _ wh (nI 0) (fun h => absurd h (fun z => z.elim (fun z => hw1.1 (z.trans nI_0.symm)) hw1.2)) (fun _ => rfl)) tm_432 tm_430 tm_431 tm_9 (by decide +kernel) ⟨⟨Nat.le_trans (by decide) hRf, Nat.le_trans (by decide) hRl⟩, rfl, rfl⟩ (wa_pre wa_nil hK hN) rfl hl.1 rfl (Nat.le_of_ble_eq_true rfl) nd_CM_circuit_1 hCS ?_
    refine wi_if_eq (tgt := 23) hx hb (by decide) nd_CM_circuit_4 rfl (fun _ => ?_) (fun h => absurd h (by decide))
    refine lv_iconst (v := -1) hx hb nd_CM_circuit_23 (by decide) ?_
    have hsp : sp_circuit n y wh s e = -1 := by unfold sp_circuit; simp [sw_n hw1]
    exact wb_iret g hx hb hr hk hAe (by rw [hsp]; exact ⟨rfl, hI⟩) hP hD hS nd_CM_circuit_24
theorem nd_CM_weightOf_0 : decode nc_CM_weightOf 0 = .ok (.aload_n 0, 1) := by decide +kernel
theorem nd_CM_weightOf_1 : decode nc_CM_weightOf 1 = .ok (.iload_n 1, 1) := by decide +kernel
theorem nd_CM_weightOf_2 : decode nc_CM_weightOf 2 = .ok (.invokevirtual 86, 3) := by decide +kernel
theorem nd_CM_weightOf_5 : decode nc_CM_weightOf 5 = .ok (.ifCond .eq 11, 3) := by decide +kernel
theorem nd_CM_weightOf_8 : decode nc_CM_weightOf 8 = .ok (.aload_n 0, 1) := by decide +kernel
theorem nd_CM_weightOf_9 : decode nc_CM_weightOf 9 = .ok (.iload_n 1, 1) := by decide +kernel
theorem nd_CM_weightOf_10 : decode nc_CM_weightOf 10 = .ok (.invokevirtual 95, 3) := by decide +kernel
theorem nd_CM_weightOf_13 : decode nc_CM_weightOf 13 = .ok (.goto 4, 3) := by decide +kernel
theorem nd_CM_weightOf_16 : decode nc_CM_weightOf 16 = .ok (.iconst 0, 1) := by decide +kernel
theorem nd_CM_weightOf_17 : decode nc_CM_weightOf 17 = .ok (.ireturn, 1) := by decide +kernel
set_option maxRecDepth 20000 in
theorem c_CM_weightOf (l : Launch) (D : va_G) (cI cG cM : ClassId)  (q : Nat → Nat) (n : Nat) (hn1 : 1 ≤ n) (hn : n ≤ 10) (g : rf_S) (y : cb_Y) (hI : rf_I n y g) (s : Int32) (sz : Nat) : wb_Mi l ny_CM_weightOf nc_CM_weightOf 2 (some .int) ({ frames := 1, cells := 0, slots := 0, locals := 23 }) D (ty_all cI cG cM) (rf_ cI q n g) sz [.ref (q 0), .int (s)] (fun (v : Int32) (u : rf_S) => v = sp_weightOf n y s ∧ rf_I n y u) (fun u : rf_S => rf_ cI q n u) := by
  refine wb_start (S := rf_S) (by decide) (Nat.le_of_ble_eq_true rfl) ?_
  intro p e0 s0 m below meth c ls A hx hb hr hml htg hown hk hP hK hN hl hAe hsz hD hA
  have hl : lv_has ls 2 [(0, .ref (q 0)), (1, .int (s))] := hl
  have hP : va_P D cl_all ([((q 0), .inr (6, [.int (nI (n)), .ref (q 2), .ref (q 3), .ref (q 4), .ref (q 5), .ref (q 6), .ref (q 7), .ref (q 8), .ref (q 9), .ref (q 10), .ref (q 11), .ref (q 12), .ref (q 13), .ref (q 14)])), ((q 2), .inl (cI, 10, .inl (g 0))), ((q 3), .inl (cI, 2, .inl (g 1))), ((q 4), .inl (cI, 2, .inl (g 2))), ((q 5), .inl (cI, 2, .inl (g 3))), ((q 6), .inl (cI, 20, .inl (g 4))), ((q 7), .inl (cI, 20, .inl (g 5))), ((q 8), .inl (cI, 20, .inl (g 6))), ((q 9), .inl (cI, 8, .inl (g 7))), ((q 10), .inl (cI, 80, .inl (g 8))), ((q 11), .inl (cI, 8, .inl (g 9))), ((q 12), .inl (cI, 16, .inl (g 10))), ((q 13), .inl (cI, 16, .inl (g 11))), ((q 14), .inl (cI, 2048, .inl (g 12)))]) s0.heap := hP
  have hD : va_D A ([((q 0), .inr (6, [.int (nI (n)), .ref (q 2), .ref (q 3), .ref (q 4), .ref (q 5), .ref (q 6), .ref (q 7), .ref (q 8), .ref (q 9), .ref (q 10), .ref (q 11), .ref (q 12), .ref (q 13), .ref (q 14)])), ((q 2), .inl (cI, 10, .inl (g 0))), ((q 3), .inl (cI, 2, .inl (g 1))), ((q 4), .inl (cI, 2, .inl (g 2))), ((q 5), .inl (cI, 2, .inl (g 3))), ((q 6), .inl (cI, 20, .inl (g 4))), ((q 7), .inl (cI, 20, .inl (g 5))), ((q 8), .inl (cI, 20, .inl (g 6))), ((q 9), .inl (cI, 8, .inl (g 7))), ((q 10), .inl (cI, 80, .inl (g 8))), ((q 11), .inl (cI, 8, .inl (g 9))), ((q 12), .inl (cI, 16, .inl (g 10))), ((q 13), .inl (cI, 16, .inl (g 11))), ((q 14), .inl (cI, 2048, .inl (g 12)))]) := hD
  have hS : va_S A s0.heap s0.heap [] := va_S.rf
  have hRf : 1 ≤ ({ frames := 1, cells := 0, slots := 0, locals := 23 } : Room).frames := Nat.le_refl _
  have hRl : 23 ≤ ({ frames := 1, cells := 0, slots := 0, locals := 23 } : Room).locals := Nat.le_refl _
  have hCS : 0 ≤ ({ frames := 1, cells := 0, slots := 0, locals := 23 } : Room).cells ∧ 0 ≤ ({ frames := 1, cells := 0, slots := 0, locals := 23 } : Room).slots := ⟨Nat.zero_le _, Nat.zero_le _⟩
  have h2n : 2 ^ n ≤ 1024 := Nat.pow_le_pow_right (by omega) hn
  have h2p : 1 ≤ 2 ^ n := Nat.one_le_two_pow
  refine lv_aload_n hx hb nd_CM_weightOf_0 rfl (lv_at hl 0 rfl) ?_
  refine lv_iload_n hx hb nd_CM_weightOf_1 rfl (lv_at hl 1 rfl) ?_
  by_cases hq2 : ¬ s < 0 ∧ ¬ nI (2 ^ n) ≤ s
  · obtain ⟨s1, h_s1, rfl⟩ := sm_elem (by omega) hq2
    refine wc_V (C := nr_CM) (n := 1) hx hb hml hown htg (c_CM_isSet l D _ q n hn (nI s1) (nI 1) (fun _ => rfl) (fun h => absurd hq2 h)) tm_482 tm_479 tm_481 tp_14 tm_9 (by decide +kernel) ⟨⟨Nat.le_trans (by decide) hRf, Nat.le_trans (by decide) hRl⟩, rfl, rfl⟩ (wa_pre (hP.sub [0] rfl) hK hN) (va_recv (q0 := 0) (ci := 6) hK hP rfl rfl) rfl hl.1 rfl (Nat.le_of_ble_eq_true rfl) nd_CM_weightOf_2 hCS ?_
    refine wi_if_eq (tgt := 16) hx hb (by decide) nd_CM_weightOf_5 rfl (fun h => absurd h (by decide)) (fun _ => ?_)
    refine lv_aload_n hx hb nd_CM_weightOf_8 rfl (lv_at hl 0 rfl) ?_
    refine lv_iload_n hx hb nd_CM_weightOf_9 rfl (lv_at hl 1 rfl) ?_
    refine wc_V (C := nr_CM) (n := 1) hx hb hml hown htg (c_CM_heaviness l D cI cG cM q n hn (g 0) s1 (by omega)) tm_533 tm_530 tm_532 tp_22 tm_9 (by decide +kernel) ⟨⟨Nat.le_trans (by decide) hRf, Nat.le_trans (by decide) hRl⟩, rfl, rfl⟩ (wa_pre (hP.sub [0, 1] rfl) hK hN) (va_recv (q0 := 0) (ci := 6) hK hP rfl rfl) rfl hl.1 rfl (Nat.le_of_ble_eq_true rfl) nd_CM_weightOf_10 hCS ?_
    refine wi_top (ms_W_eq (fun e he => (hI.1 e he).1)) ?_
    refine lv_goto (tgt := 17) hx hb nd_CM_weightOf_13 rfl ?_
    have hsp : sp_weightOf n y (nI s1) = ms_W y.1 n s1 := by unfold sp_weightOf; simp only [sr_t (show s1 ≤ 2 ^ n - 1 by omega) (show 2 ^ n - 1 < 2 ^ 31 by omega), tn_nI (show s1 < 2 ^ 31 by omega)]; simp
    exact wb_iret g hx hb hr hk hAe (by rw [hsp]; exact ⟨rfl, hI⟩) hP hD hS nd_CM_weightOf_17
  · refine wc_V (C := nr_CM) (n := 1) hx hb hml hown htg (c_CM_isSet l D _ q n hn s (nI 0) (fun h => absurd h hq2) (fun _ => rfl)) tm_482 tm_479 tm_481 tp_14 tm_9 (by decide +kernel) ⟨⟨Nat.le_trans (by decide) hRf, Nat.le_trans (by decide) hRl⟩, rfl, rfl⟩ (wa_pre (hP.sub [0] rfl) hK hN) (va_recv (q0 := 0) (ci := 6) hK hP rfl rfl) rfl hl.1 rfl (Nat.le_of_ble_eq_true rfl) nd_CM_weightOf_2 hCS ?_
    refine wi_if_eq (tgt := 16) hx hb (by decide) nd_CM_weightOf_5 rfl (fun _ => ?_) (fun h => absurd h (by decide))
    refine wi_ic hx hb (a := 0) nd_CM_weightOf_16 ?_
    have hsp : sp_weightOf n y s = 0 := by unfold sp_weightOf; simp [sz_s hn hq2]
    exact wb_iret g hx hb hr hk hAe (by rw [hsp]; exact ⟨nI_0, hI⟩) hP hD hS nd_CM_weightOf_17
theorem nd_CM_largest_0 : decode nc_CM_largest 0 = .ok (.aload_n 0, 1) := by decide +kernel
theorem nd_CM_largest_1 : decode nc_CM_largest 1 = .ok (.invokevirtual 89, 3) := by decide +kernel
theorem nd_CM_largest_4 : decode nc_CM_largest 4 = .ok (.iconst 0, 1) := by decide +kernel
theorem nd_CM_largest_5 : decode nc_CM_largest 5 = .ok (.istore_n 1, 1) := by decide +kernel
theorem nd_CM_largest_6 : decode nc_CM_largest 6 = .ok (.iconst 0, 1) := by decide +kernel
theorem nd_CM_largest_7 : decode nc_CM_largest 7 = .ok (.istore_n 2, 1) := by decide +kernel
theorem nd_CM_largest_8 : decode nc_CM_largest 8 = .ok (.iload_n 2, 1) := by decide +kernel
theorem nd_CM_largest_9 : decode nc_CM_largest 9 = .ok (.iconst 1, 1) := by decide +kernel
theorem nd_CM_largest_10 : decode nc_CM_largest 10 = .ok (.aload_n 0, 1) := by decide +kernel
theorem nd_CM_largest_11 : decode nc_CM_largest 11 = .ok (.getfield 49, 3) := by decide +kernel
theorem nd_CM_largest_14 : decode nc_CM_largest 14 = .ok (.ishl, 1) := by decide +kernel
theorem nd_CM_largest_15 : decode nc_CM_largest 15 = .ok (.if_icmp .ge 44, 3) := by decide +kernel
theorem nd_CM_largest_18 : decode nc_CM_largest 18 = .ok (.aload_n 0, 1) := by decide +kernel
theorem nd_CM_largest_19 : decode nc_CM_largest 19 = .ok (.iconst 0, 1) := by decide +kernel
theorem nd_CM_largest_20 : decode nc_CM_largest 20 = .ok (.iload_n 2, 1) := by decide +kernel
theorem nd_CM_largest_21 : decode nc_CM_largest 21 = .ok (.invokevirtual 92, 3) := by decide +kernel
theorem nd_CM_largest_24 : decode nc_CM_largest 24 = .ok (.ifCond .eq 27, 3) := by decide +kernel
theorem nd_CM_largest_27 : decode nc_CM_largest 27 = .ok (.aload_n 0, 1) := by decide +kernel
theorem nd_CM_largest_28 : decode nc_CM_largest 28 = .ok (.iconst 1, 1) := by decide +kernel
theorem nd_CM_largest_29 : decode nc_CM_largest 29 = .ok (.iload_n 2, 1) := by decide +kernel
theorem nd_CM_largest_30 : decode nc_CM_largest 30 = .ok (.invokevirtual 92, 3) := by decide +kernel
theorem nd_CM_largest_33 : decode nc_CM_largest 33 = .ok (.ifCond .eq 18, 3) := by decide +kernel
theorem nd_CM_largest_36 : decode nc_CM_largest 36 = .ok (.iload_n 2, 1) := by decide +kernel
theorem nd_CM_largest_37 : decode nc_CM_largest 37 = .ok (.invokestatic 69, 3) := by decide +kernel
theorem nd_CM_largest_40 : decode nc_CM_largest 40 = .ok (.iload_n 1, 1) := by decide +kernel
theorem nd_CM_largest_41 : decode nc_CM_largest 41 = .ok (.if_icmp .le 10, 3) := by decide +kernel
theorem nd_CM_largest_44 : decode nc_CM_largest 44 = .ok (.iload_n 2, 1) := by decide +kernel
theorem nd_CM_largest_45 : decode nc_CM_largest 45 = .ok (.invokestatic 69, 3) := by decide +kernel
theorem nd_CM_largest_48 : decode nc_CM_largest 48 = .ok (.goto 4, 3) := by decide +kernel
theorem nd_CM_largest_51 : decode nc_CM_largest 51 = .ok (.iload_n 1, 1) := by decide +kernel
theorem nd_CM_largest_52 : decode nc_CM_largest 52 = .ok (.istore_n 1, 1) := by decide +kernel
theorem nd_CM_largest_53 : decode nc_CM_largest 53 = .ok (.iinc 2 1, 3) := by decide +kernel
theorem nd_CM_largest_56 : decode nc_CM_largest 56 = .ok (.goto (-48), 3) := by decide +kernel
theorem nd_CM_largest_59 : decode nc_CM_largest 59 = .ok (.iload_n 1, 1) := by decide +kernel
theorem nd_CM_largest_60 : decode nc_CM_largest 60 = .ok (.ireturn, 1) := by decide +kernel
set_option maxRecDepth 20000 in
theorem lp_CM_largest {p : Program} {l : Launch} {e0 : Env} {R : Room} {s0 : State} {m : MethodId} {args : Array Value} {below : List Frame} {meth : Method} {c : Code} {cells slots : Nat} {Qq : State → Prop} {D : va_G} {A : Nat → Prop} (cI cG cM : ClassId) (q : Nat → Nat) (n : Nat) (hn1 : 1 ≤ n) (hn : n ≤ 10) (g : rf_S) (y : cb_Y) (hrt : rt_ n y g) (hv : ∀ w, w < 2 → ma_v n (cb_m y w))  (hx : p.tables.exec = Jvm.exec) (hb : c.code = nc_CM_largest) (hml : c.maxLocals = 3) (htg : ∀ w ∈ tg_, w.before args s0 = true) (hown : s0.vm.findClass ny_CM_largest.cls = some m.cls) (hK : va_K D cl_all (ty_all cI cG cM) s0) (hN : tn_K s0) (hA : ∀ q : Nat, s0.heap.size ≤ q → A q) (hRf : 4 ≤ R.frames) (hRl : 98 ≤ R.locals) (hCS : cells ≤ R.cells ∧ slots ≤ R.slots) (kx : ∀ (ls : Array Slot) (H : Heap) (locs : List Loc), lv_has ls 3 [(1, .int (nI (lg_ n y (2 ^ n))))] → va_P D cl_all ([((q 0), .inr (6, [.int (nI (n)), .ref (q 2), .ref (q 3), .ref (q 4), .ref (q 5), .ref (q 6), .ref (q 7), .ref (q 8), .ref (q 9), .ref (q 10), .ref (q 11), .ref (q 12), .ref (q 13), .ref (q 14)])), ((q 2), .inl (cI, 10, .inl (g 0))), ((q 3), .inl (cI, 2, .inl (g 1))), ((q 4), .inl (cI, 2, .inl (g 2))), ((q 5), .inl (cI, 2, .inl (g 3))), ((q 6), .inl (cI, 20, .inl (g 4))), ((q 7), .inl (cI, 20, .inl (g 5))), ((q 8), .inl (cI, 20, .inl (g 6))), ((q 9), .inl (cI, 8, .inl (g 7))), ((q 10), .inl (cI, 80, .inl (g 8))), ((q 11), .inl (cI, 8, .inl (g 9))), ((q 12), .inl (cI, 16, .inl (g 10))), ((q 13), .inl (cI, 16, .inl (g 11))), ((q 14), .inl (cI, 2048, .inl (g 12)))]) H → va_D A ([((q 0), .inr (6, [.int (nI (n)), .ref (q 2), .ref (q 3), .ref (q 4), .ref (q 5), .ref (q 6), .ref (q 7), .ref (q 8), .ref (q 9), .ref (q 10), .ref (q 11), .ref (q 12), .ref (q 13), .ref (q 14)])), ((q 2), .inl (cI, 10, .inl (g 0))), ((q 3), .inl (cI, 2, .inl (g 1))), ((q 4), .inl (cI, 2, .inl (g 2))), ((q 5), .inl (cI, 2, .inl (g 3))), ((q 6), .inl (cI, 20, .inl (g 4))), ((q 7), .inl (cI, 20, .inl (g 5))), ((q 8), .inl (cI, 20, .inl (g 6))), ((q 9), .inl (cI, 8, .inl (g 7))), ((q 10), .inl (cI, 80, .inl (g 8))), ((q 11), .inl (cI, 8, .inl (g 9))), ((q 12), .inl (cI, 16, .inl (g 10))), ((q 13), .inl (cI, 16, .inl (g 11))), ((q 14), .inl (cI, 2048, .inl (g 12)))]) → va_S A s0.heap H locs → W p l e0 R s0 m args below meth c H locs cells slots Qq (F0 m 59 ls [])) : ∀ (fuel : Nat) (i : Nat) (ls : Array Slot) (H : Heap) (locs : List Loc), 2 ^ n - i < fuel → (i ≤ 2 ^ n) → lv_has ls 3 [(2, .int (nI (i))), (1, .int (nI (lg_ n y i))), (0, .ref (q 0))] → va_P D cl_all ([((q 0), .inr (6, [.int (nI (n)), .ref (q 2), .ref (q 3), .ref (q 4), .ref (q 5), .ref (q 6), .ref (q 7), .ref (q 8), .ref (q 9), .ref (q 10), .ref (q 11), .ref (q 12), .ref (q 13), .ref (q 14)])), ((q 2), .inl (cI, 10, .inl (g 0))), ((q 3), .inl (cI, 2, .inl (g 1))), ((q 4), .inl (cI, 2, .inl (g 2))), ((q 5), .inl (cI, 2, .inl (g 3))), ((q 6), .inl (cI, 20, .inl (g 4))), ((q 7), .inl (cI, 20, .inl (g 5))), ((q 8), .inl (cI, 20, .inl (g 6))), ((q 9), .inl (cI, 8, .inl (g 7))), ((q 10), .inl (cI, 80, .inl (g 8))), ((q 11), .inl (cI, 8, .inl (g 9))), ((q 12), .inl (cI, 16, .inl (g 10))), ((q 13), .inl (cI, 16, .inl (g 11))), ((q 14), .inl (cI, 2048, .inl (g 12)))]) H → va_D A ([((q 0), .inr (6, [.int (nI (n)), .ref (q 2), .ref (q 3), .ref (q 4), .ref (q 5), .ref (q 6), .ref (q 7), .ref (q 8), .ref (q 9), .ref (q 10), .ref (q 11), .ref (q 12), .ref (q 13), .ref (q 14)])), ((q 2), .inl (cI, 10, .inl (g 0))), ((q 3), .inl (cI, 2, .inl (g 1))), ((q 4), .inl (cI, 2, .inl (g 2))), ((q 5), .inl (cI, 2, .inl (g 3))), ((q 6), .inl (cI, 20, .inl (g 4))), ((q 7), .inl (cI, 20, .inl (g 5))), ((q 8), .inl (cI, 20, .inl (g 6))), ((q 9), .inl (cI, 8, .inl (g 7))), ((q 10), .inl (cI, 80, .inl (g 8))), ((q 11), .inl (cI, 8, .inl (g 9))), ((q 12), .inl (cI, 16, .inl (g 10))), ((q 13), .inl (cI, 16, .inl (g 11))), ((q 14), .inl (cI, 2048, .inl (g 12)))]) → va_S A s0.heap H locs → W p l e0 R s0 m args below meth c H locs cells slots Qq (F0 m 8 ls []) := by
  intro fuel
  induction fuel with
  | zero => intro i ls H locs hfu; omega
  | succ fuel ih =>
    intro i ls H locs hfu hi hl hP hD hS
    have h2n : 2 ^ n ≤ 1024 := Nat.pow_le_pow_right (by omega) hn
    have h2p : 1 ≤ 2 ^ n := Nat.one_le_two_pow
    have hlgb := lg_le n y i
    refine lv_iload_n hx hb nd_CM_largest_8 rfl (lv_at hl 0 rfl) ?_
    refine wi_ic hx hb (a := 1) nd_CM_largest_9 ?_
    refine lv_aload_n hx hb nd_CM_largest_10 rfl (lv_at hl 2 rfl) ?_
    refine va_get (D := D) (C := nr_CM) (T := nt_CM) (N := 14) hx hb htg tf_CM hown hK hP 0 rfl rfl 0 (by decide) (htg _ tm_383) (fun _ h => h) rfl nd_CM_largest_11 ?_
    refine wi_ishl1 hx hb (by omega) nd_CM_largest_14 ?_
    refine wi_icmp_ge (tgt := 59) hx hb (by omega) (by omega) nd_CM_largest_15 rfl (fun hc15 => ?_) (fun hc15 => ?_)
    · have hl : lv_has ls 3 [(1, .int (nI (lg_ n y i)))] := lv_sub hl [1] rfl
      have hin : i = 2 ^ n := by omega
      exact kx ls H locs (by simpa only [hin] using hl) hP hD hS
    · refine lv_aload_n hx hb nd_CM_largest_18 rfl (lv_at hl 2 rfl) ?_
      refine wi_ic hx hb (a := 0) nd_CM_largest_19 ?_
      refine lv_iload_n hx hb nd_CM_largest_20 rfl (lv_at hl 0 rfl) ?_
      refine wc_V (C := nr_CM) (n := 2) hx hb hml hown htg (c_tf l D cI cG cM q n hn g y hrt hv 0 i (by omega) (by omega)) tm_529 tm_526 tm_528 tp_21 tm_9 (by decide +kernel) ⟨⟨Nat.le_trans (by decide) hRf, Nat.le_trans (by decide) hRl⟩, rfl, rfl⟩ (wa_pre (hP.sub [0, 13] rfl) hK hN) (va_recv (q0 := 0) (ci := 6) hK hP rfl rfl) rfl hl.1 rfl (Nat.le_of_ble_eq_true rfl) nd_CM_largest_21 hCS ?_
      have htf21 := tf_lt n y 0 i
      refine wi_if_eq (tgt := 51) hx hb (by omega) nd_CM_largest_24 rfl (fun hc24 => ?_) (fun hc24 => ?_)
      · refine lv_iload_n hx hb nd_CM_largest_51 rfl (lv_at hl 1 rfl) ?_
        refine lv_istore_n hx hb nd_CM_largest_52 rfl hl (by decide) rfl (fun ls hl => ?_)
        have hl : lv_has ls 3 [(1, .int (nI (lg_ n y i))), (2, .int (nI (i))), (0, .ref (q 0))] := hl
        refine lv_iinc (k := 1) (v := nI (i + 1)) hx hb nd_CM_largest_53 hl rfl (wi_inc _ 1) (by decide) rfl (fun ls hl => ?_)
        have hl : lv_has ls 3 [(2, .int (nI (i + 1))), (1, .int (nI (lg_ n y i))), (0, .ref (q 0))] := hl
        refine lv_goto (tgt := 8) hx hb nd_CM_largest_56 rfl ?_
        have hl : lv_has ls 3 [(2, .int (nI (i + 1))), (1, .int (nI (lg_ n y i))), (0, .ref (q 0))] := lv_sub hl [0, 1, 2] rfl
        have hlg : lg_ n y (i + 1) = lg_ n y i := if_neg (fun z => tf_z.mp hc24 (co_t.mp z.2).1)
        exact ih (i + 1) ls H locs (by omega) (by omega) (by rw [hlg]; exact hl) hP hD hS
      · refine lv_aload_n hx hb nd_CM_largest_27 rfl (lv_at hl 2 rfl) ?_
        refine wi_ic hx hb (a := 1) nd_CM_largest_28 ?_
        refine lv_iload_n hx hb nd_CM_largest_29 rfl (lv_at hl 0 rfl) ?_
        refine wc_V (C := nr_CM) (n := 2) hx hb hml hown htg (c_tf l D cI cG cM q n hn g y hrt hv 1 i (by omega) (by omega)) tm_529 tm_526 tm_528 tp_21 tm_9 (by decide +kernel) ⟨⟨Nat.le_trans (by decide) hRf, Nat.le_trans (by decide) hRl⟩, rfl, rfl⟩ (wa_pre (hP.sub [0, 13] rfl) hK hN) (va_recv (q0 := 0) (ci := 6) hK hP rfl rfl) rfl hl.1 rfl (Nat.le_of_ble_eq_true rfl) nd_CM_largest_30 hCS ?_
        have htf30 := tf_lt n y 1 i
        refine wi_if_eq (tgt := 51) hx hb (by omega) nd_CM_largest_33 rfl (fun hc33 => ?_) (fun hc33 => ?_)
        · refine lv_iload_n hx hb nd_CM_largest_51 rfl (lv_at hl 1 rfl) ?_
          refine lv_istore_n hx hb nd_CM_largest_52 rfl hl (by decide) rfl (fun ls hl => ?_)
          have hl : lv_has ls 3 [(1, .int (nI (lg_ n y i))), (2, .int (nI (i))), (0, .ref (q 0))] := hl
          refine lv_iinc (k := 1) (v := nI (i + 1)) hx hb nd_CM_largest_53 hl rfl (wi_inc _ 1) (by decide) rfl (fun ls hl => ?_)
          have hl : lv_has ls 3 [(2, .int (nI (i + 1))), (1, .int (nI (lg_ n y i))), (0, .ref (q 0))] := hl
          refine lv_goto (tgt := 8) hx hb nd_CM_largest_56 rfl ?_
          have hl : lv_has ls 3 [(2, .int (nI (i + 1))), (1, .int (nI (lg_ n y i))), (0, .ref (q 0))] := lv_sub hl [0, 1, 2] rfl
          have hlg : lg_ n y (i + 1) = lg_ n y i := if_neg (fun z => tf_z.mp hc33 (co_t.mp z.2).2)
          exact ih (i + 1) ls H locs (by omega) (by omega) (by rw [hlg]; exact hl) hP hD hS
        · refine lv_iload_n hx hb nd_CM_largest_36 rfl (lv_at hl 0 rfl) ?_
          refine wc_S (n := 1) hx hb hml hown htg (c_CM_sizeOf l D cI cG cM i (by omega)) tm_489 tm_487 tm_488 tm_9 (by decide +kernel) ⟨⟨Nat.le_trans (by decide) hRf, Nat.le_trans (by decide) hRl⟩, rfl, rfl⟩ (wa_pre wa_nil hK hN) rfl hl.1 rfl (Nat.le_of_ble_eq_true rfl) nd_CM_largest_37 hCS ?_
          have hcd37 := mt_cd_le 10 i
          refine lv_iload_n hx hb nd_CM_largest_40 rfl (lv_at hl 1 rfl) ?_
          refine wi_icmp_le (tgt := 51) hx hb (by omega) (by omega) nd_CM_largest_41 rfl (fun hc41 => ?_) (fun hc41 => ?_)
          · refine lv_iload_n hx hb nd_CM_largest_51 rfl (lv_at hl 1 rfl) ?_
            refine lv_istore_n hx hb nd_CM_largest_52 rfl hl (by decide) rfl (fun ls hl => ?_)
            have hl : lv_has ls 3 [(1, .int (nI (lg_ n y i))), (2, .int (nI (i))), (0, .ref (q 0))] := hl
            refine lv_iinc (k := 1) (v := nI (i + 1)) hx hb nd_CM_largest_53 hl rfl (wi_inc _ 1) (by decide) rfl (fun ls hl => ?_)
            have hl : lv_has ls 3 [(2, .int (nI (i + 1))), (1, .int (nI (lg_ n y i))), (0, .ref (q 0))] := hl
            refine lv_goto (tgt := 8) hx hb nd_CM_largest_56 rfl ?_
            have hl : lv_has ls 3 [(2, .int (nI (i + 1))), (1, .int (nI (lg_ n y i))), (0, .ref (q 0))] := lv_sub hl [0, 1, 2] rfl
            have hlg : lg_ n y (i + 1) = lg_ n y i := if_neg (fun z => by omega)
            exact ih (i + 1) ls H locs (by omega) (by omega) (by rw [hlg]; exact hl) hP hD hS
          · refine lv_iload_n hx hb nd_CM_largest_44 rfl (lv_at hl 0 rfl) ?_
            refine wc_S (n := 1) hx hb hml hown htg (c_CM_sizeOf l D cI cG cM i (by omega)) tm_489 tm_487 tm_488 tm_9 (by decide +kernel) ⟨⟨Nat.le_trans (by decide) hRf, Nat.le_trans (by decide) hRl⟩, rfl, rfl⟩ (wa_pre wa_nil hK hN) rfl hl.1 rfl (Nat.le_of_ble_eq_true rfl) nd_CM_largest_45 hCS ?_
            have hcd45 := mt_cd_le 10 i
            refine lv_goto (tgt := 52) hx hb nd_CM_largest_48 rfl ?_
            refine lv_istore_n hx hb nd_CM_largest_52 rfl hl (by decide) rfl (fun ls hl => ?_)
            have hl : lv_has ls 3 [(1, .int (nI (mt_cd 10 i))), (2, .int (nI (i))), (0, .ref (q 0))] := hl
            refine lv_iinc (k := 1) (v := nI (i + 1)) hx hb nd_CM_largest_53 hl rfl (wi_inc _ 1) (by decide) rfl (fun ls hl => ?_)
            have hl : lv_has ls 3 [(2, .int (nI (i + 1))), (1, .int (nI (mt_cd 10 i))), (0, .ref (q 0))] := hl
            refine lv_goto (tgt := 8) hx hb nd_CM_largest_56 rfl ?_
            have hl : lv_has ls 3 [(2, .int (nI (i + 1))), (1, .int (nI (mt_cd 10 i))), (0, .ref (q 0))] := lv_sub hl [0, 1, 2] rfl
            have hlg : lg_ n y (i + 1) = mt_cd 10 i := if_pos ⟨by omega, co_t.mpr ⟨tf_n.mp hc24, tf_n.mp hc33⟩⟩
            exact ih (i + 1) ls H locs (by omega) (by omega) (by rw [hlg]; exact hl) hP hD hS
set_option maxRecDepth 20000 in
theorem c_CM_largest (l : Launch) (D : va_G) (cI cG cM : ClassId)  (q : Nat → Nat) (n : Nat) (hn1 : 1 ≤ n) (hn : n ≤ 10) (g : rf_S) (y : cb_Y) (hI : rf_I n y g)  (sz : Nat) : wb_Mi l ny_CM_largest nc_CM_largest 3 (some .int) ({ frames := 4, cells := 0, slots := 0, locals := 98 }) D (ty_all cI cG cM) (rf_ cI q n g) sz [.ref (q 0)] (fun (v : Int32) (u : rf_S) => v = nI (lg_ n y (2 ^ n)) ∧ rf_I n y u) (fun u : rf_S => rf_ cI q n u) := by
  refine wb_start (S := rf_S) (by decide) (Nat.le_of_ble_eq_true rfl) ?_
  intro p e0 s0 m below meth c ls A hx hb hr hml htg hown hk hP hK hN hl hAe hsz hD hA
  have hl : lv_has ls 3 [(0, .ref (q 0))] := hl
  have hP : va_P D cl_all ([((q 0), .inr (6, [.int (nI (n)), .ref (q 2), .ref (q 3), .ref (q 4), .ref (q 5), .ref (q 6), .ref (q 7), .ref (q 8), .ref (q 9), .ref (q 10), .ref (q 11), .ref (q 12), .ref (q 13), .ref (q 14)])), ((q 2), .inl (cI, 10, .inl (g 0))), ((q 3), .inl (cI, 2, .inl (g 1))), ((q 4), .inl (cI, 2, .inl (g 2))), ((q 5), .inl (cI, 2, .inl (g 3))), ((q 6), .inl (cI, 20, .inl (g 4))), ((q 7), .inl (cI, 20, .inl (g 5))), ((q 8), .inl (cI, 20, .inl (g 6))), ((q 9), .inl (cI, 8, .inl (g 7))), ((q 10), .inl (cI, 80, .inl (g 8))), ((q 11), .inl (cI, 8, .inl (g 9))), ((q 12), .inl (cI, 16, .inl (g 10))), ((q 13), .inl (cI, 16, .inl (g 11))), ((q 14), .inl (cI, 2048, .inl (g 12)))]) s0.heap := hP
  have hD : va_D A ([((q 0), .inr (6, [.int (nI (n)), .ref (q 2), .ref (q 3), .ref (q 4), .ref (q 5), .ref (q 6), .ref (q 7), .ref (q 8), .ref (q 9), .ref (q 10), .ref (q 11), .ref (q 12), .ref (q 13), .ref (q 14)])), ((q 2), .inl (cI, 10, .inl (g 0))), ((q 3), .inl (cI, 2, .inl (g 1))), ((q 4), .inl (cI, 2, .inl (g 2))), ((q 5), .inl (cI, 2, .inl (g 3))), ((q 6), .inl (cI, 20, .inl (g 4))), ((q 7), .inl (cI, 20, .inl (g 5))), ((q 8), .inl (cI, 20, .inl (g 6))), ((q 9), .inl (cI, 8, .inl (g 7))), ((q 10), .inl (cI, 80, .inl (g 8))), ((q 11), .inl (cI, 8, .inl (g 9))), ((q 12), .inl (cI, 16, .inl (g 10))), ((q 13), .inl (cI, 16, .inl (g 11))), ((q 14), .inl (cI, 2048, .inl (g 12)))]) := hD
  have hS : va_S A s0.heap s0.heap [] := va_S.rf
  have hRf : 4 ≤ ({ frames := 4, cells := 0, slots := 0, locals := 98 } : Room).frames := Nat.le_refl _
  have hRl : 98 ≤ ({ frames := 4, cells := 0, slots := 0, locals := 98 } : Room).locals := Nat.le_refl _
  have hCS : 0 ≤ ({ frames := 4, cells := 0, slots := 0, locals := 98 } : Room).cells ∧ 0 ≤ ({ frames := 4, cells := 0, slots := 0, locals := 98 } : Room).slots := ⟨Nat.zero_le _, Nat.zero_le _⟩
  have h2n : 2 ^ n ≤ 1024 := Nat.pow_le_pow_right (by omega) hn
  have h2p : 1 ≤ 2 ^ n := Nat.one_le_two_pow
  refine lv_aload_n hx hb nd_CM_largest_0 rfl (lv_at hl 0 rfl) ?_
  refine wd_Vv0 (C := nr_CM) (n := 0) (Y := rf_ cI q n g) hx hb hml hown htg (c_CM_work l D cI cG cM q n hn1 hn g y hI _) tm_513 tm_510 tm_512 tp_20 tm_9 (by decide +kernel) ⟨⟨Nat.le_trans (by decide) hRf, Nat.le_trans (by decide) hRl⟩, rfl, rfl⟩ hP hD hS hA hK hN (va_recv (q0 := 0) (ci := 6) hK hP rfl rfl) rfl hl.1 rfl (Nat.le_of_ble_eq_true rfl) nd_CM_largest_1 hCS (fun u1 H locs hp1 hP hD hS => ?_)
  have hP : va_P D cl_all ([((q 0), .inr (6, [.int (nI (n)), .ref (q 2), .ref (q 3), .ref (q 4), .ref (q 5), .ref (q 6), .ref (q 7), .ref (q 8), .ref (q 9), .ref (q 10), .ref (q 11), .ref (q 12), .ref (q 13), .ref (q 14)])), ((q 2), .inl (cI, 10, .inl (u1 0))), ((q 3), .inl (cI, 2, .inl (u1 1))), ((q 4), .inl (cI, 2, .inl (u1 2))), ((q 5), .inl (cI, 2, .inl (u1 3))), ((q 6), .inl (cI, 20, .inl (u1 4))), ((q 7), .inl (cI, 20, .inl (u1 5))), ((q 8), .inl (cI, 20, .inl (u1 6))), ((q 9), .inl (cI, 8, .inl (u1 7))), ((q 10), .inl (cI, 80, .inl (u1 8))), ((q 11), .inl (cI, 8, .inl (u1 9))), ((q 12), .inl (cI, 16, .inl (u1 10))), ((q 13), .inl (cI, 16, .inl (u1 11))), ((q 14), .inl (cI, 2048, .inl (u1 12)))]) H := hP
  have hD : va_D A ([((q 0), .inr (6, [.int (nI (n)), .ref (q 2), .ref (q 3), .ref (q 4), .ref (q 5), .ref (q 6), .ref (q 7), .ref (q 8), .ref (q 9), .ref (q 10), .ref (q 11), .ref (q 12), .ref (q 13), .ref (q 14)])), ((q 2), .inl (cI, 10, .inl (u1 0))), ((q 3), .inl (cI, 2, .inl (u1 1))), ((q 4), .inl (cI, 2, .inl (u1 2))), ((q 5), .inl (cI, 2, .inl (u1 3))), ((q 6), .inl (cI, 20, .inl (u1 4))), ((q 7), .inl (cI, 20, .inl (u1 5))), ((q 8), .inl (cI, 20, .inl (u1 6))), ((q 9), .inl (cI, 8, .inl (u1 7))), ((q 10), .inl (cI, 80, .inl (u1 8))), ((q 11), .inl (cI, 8, .inl (u1 9))), ((q 12), .inl (cI, 16, .inl (u1 10))), ((q 13), .inl (cI, 16, .inl (u1 11))), ((q 14), .inl (cI, 2048, .inl (u1 12)))]) := hD
  refine wi_ic hx hb (a := 0) nd_CM_largest_4 ?_
  refine lv_istore_n hx hb nd_CM_largest_5 rfl hl (by decide) rfl (fun ls hl => ?_)
  have hl : lv_has ls 3 [(1, .int (nI (0))), (0, .ref (q 0))] := hl
  refine wi_ic hx hb (a := 0) nd_CM_largest_6 ?_
  refine lv_istore_n hx hb nd_CM_largest_7 rfl hl (by decide) rfl (fun ls hl => ?_)
  have hl : lv_has ls 3 [(2, .int (nI (0))), (1, .int (nI (0))), (0, .ref (q 0))] := hl
  have hl : lv_has ls 3 [(2, .int (nI (0))), (1, .int (nI (0))), (0, .ref (q 0))] := lv_sub hl [0, 1, 2] rfl
  refine lp_CM_largest cI cG cM q n hn1 hn u1 y hp1.2 (fun w hw => (hI.2 w hw).1) hx hb hml htg hown hK hN hA hRf hRl hCS (fun ls H locs hl hP hD hS => ?_) (2 ^ n + 1) 0 ls H locs (by omega) (by omega) hl hP hD hS
  refine lv_iload_n hx hb nd_CM_largest_59 rfl (lv_at hl 0 rfl) ?_
  exact wb_iret u1 hx hb hr hk hAe (⟨rfl, rf_keep hn (fun j hj => hp1.1 j hj) hI⟩) hP hD hS nd_CM_largest_60
theorem nd_CM_common_0 : decode nc_CM_common 0 = .ok (.aload_n 0, 1) := by decide +kernel
theorem nd_CM_common_1 : decode nc_CM_common 1 = .ok (.invokevirtual 89, 3) := by decide +kernel
theorem nd_CM_common_4 : decode nc_CM_common 4 = .ok (.bipush (-2), 2) := by decide +kernel
theorem nd_CM_common_6 : decode nc_CM_common 6 = .ok (.istore_n 2, 1) := by decide +kernel
theorem nd_CM_common_7 : decode nc_CM_common 7 = .ok (.iconst 0, 1) := by decide +kernel
theorem nd_CM_common_8 : decode nc_CM_common 8 = .ok (.istore_n 3, 1) := by decide +kernel
theorem nd_CM_common_9 : decode nc_CM_common 9 = .ok (.iload_n 3, 1) := by decide +kernel
theorem nd_CM_common_10 : decode nc_CM_common 10 = .ok (.iconst 1, 1) := by decide +kernel
theorem nd_CM_common_11 : decode nc_CM_common 11 = .ok (.aload_n 0, 1) := by decide +kernel
theorem nd_CM_common_12 : decode nc_CM_common 12 = .ok (.getfield 49, 3) := by decide +kernel
theorem nd_CM_common_15 : decode nc_CM_common 15 = .ok (.ishl, 1) := by decide +kernel
theorem nd_CM_common_16 : decode nc_CM_common 16 = .ok (.if_icmp .ge 54, 3) := by decide +kernel
theorem nd_CM_common_19 : decode nc_CM_common 19 = .ok (.iload_n 3, 1) := by decide +kernel
theorem nd_CM_common_20 : decode nc_CM_common 20 = .ok (.invokestatic 69, 3) := by decide +kernel
theorem nd_CM_common_23 : decode nc_CM_common 23 = .ok (.iload_n 1, 1) := by decide +kernel
theorem nd_CM_common_24 : decode nc_CM_common 24 = .ok (.if_icmp .ne 40, 3) := by decide +kernel
theorem nd_CM_common_27 : decode nc_CM_common 27 = .ok (.aload_n 0, 1) := by decide +kernel
theorem nd_CM_common_28 : decode nc_CM_common 28 = .ok (.iconst 0, 1) := by decide +kernel
theorem nd_CM_common_29 : decode nc_CM_common 29 = .ok (.iload_n 3, 1) := by decide +kernel
theorem nd_CM_common_30 : decode nc_CM_common 30 = .ok (.invokevirtual 92, 3) := by decide +kernel
theorem nd_CM_common_33 : decode nc_CM_common 33 = .ok (.ifCond .eq 31, 3) := by decide +kernel
theorem nd_CM_common_36 : decode nc_CM_common 36 = .ok (.aload_n 0, 1) := by decide +kernel
theorem nd_CM_common_37 : decode nc_CM_common 37 = .ok (.iconst 1, 1) := by decide +kernel
theorem nd_CM_common_38 : decode nc_CM_common 38 = .ok (.iload_n 3, 1) := by decide +kernel
theorem nd_CM_common_39 : decode nc_CM_common 39 = .ok (.invokevirtual 92, 3) := by decide +kernel
theorem nd_CM_common_42 : decode nc_CM_common 42 = .ok (.ifCond .eq 22, 3) := by decide +kernel
theorem nd_CM_common_45 : decode nc_CM_common 45 = .ok (.iload_n 2, 1) := by decide +kernel
theorem nd_CM_common_46 : decode nc_CM_common 46 = .ok (.ifCond .lt 16, 3) := by decide +kernel
theorem nd_CM_common_49 : decode nc_CM_common 49 = .ok (.aload_n 0, 1) := by decide +kernel
theorem nd_CM_common_50 : decode nc_CM_common 50 = .ok (.iload_n 3, 1) := by decide +kernel
theorem nd_CM_common_51 : decode nc_CM_common 51 = .ok (.invokevirtual 95, 3) := by decide +kernel
theorem nd_CM_common_54 : decode nc_CM_common 54 = .ok (.aload_n 0, 1) := by decide +kernel
theorem nd_CM_common_55 : decode nc_CM_common 55 = .ok (.iload_n 2, 1) := by decide +kernel
theorem nd_CM_common_56 : decode nc_CM_common 56 = .ok (.invokevirtual 95, 3) := by decide +kernel
theorem nd_CM_common_59 : decode nc_CM_common 59 = .ok (.if_icmp .le 5, 3) := by decide +kernel
theorem nd_CM_common_62 : decode nc_CM_common 62 = .ok (.iload_n 3, 1) := by decide +kernel
theorem nd_CM_common_63 : decode nc_CM_common 63 = .ok (.istore_n 2, 1) := by decide +kernel
theorem nd_CM_common_64 : decode nc_CM_common 64 = .ok (.iinc 3 1, 3) := by decide +kernel
theorem nd_CM_common_67 : decode nc_CM_common 67 = .ok (.goto (-58), 3) := by decide +kernel
theorem nd_CM_common_70 : decode nc_CM_common 70 = .ok (.iload_n 2, 1) := by decide +kernel
theorem nd_CM_common_71 : decode nc_CM_common 71 = .ok (.ireturn, 1) := by decide +kernel
set_option maxRecDepth 20000 in
theorem lp_CM_common {p : Program} {l : Launch} {e0 : Env} {R : Room} {s0 : State} {m : MethodId} {args : Array Value} {below : List Frame} {meth : Method} {c : Code} {cells slots : Nat} {Qq : State → Prop} {D : va_G} {A : Nat → Prop} (cI cG cM : ClassId) (q : Nat → Nat) (n : Nat) (hn1 : 1 ≤ n) (hn : n ≤ 10) (g : rf_S) (y : cb_Y) (hrt : rt_ n y g) (hv : ∀ w, w < 2 → ma_v n (cb_m y w)) (hwb : ∀ e, e < n → g 0 e = y.1 e) (k : Int32)  (hx : p.tables.exec = Jvm.exec) (hb : c.code = nc_CM_common) (hml : c.maxLocals = 4) (htg : ∀ w ∈ tg_, w.before args s0 = true) (hown : s0.vm.findClass ny_CM_common.cls = some m.cls) (hK : va_K D cl_all (ty_all cI cG cM) s0) (hN : tn_K s0) (hA : ∀ q : Nat, s0.heap.size ≤ q → A q) (hRf : 4 ≤ R.frames) (hRl : 98 ≤ R.locals) (hCS : cells ≤ R.cells ∧ slots ≤ R.slots) (kx : ∀ (ls : Array Slot) (H : Heap) (locs : List Loc), lv_has ls 4 [(2, .int ((oi_ (cm_ n y k (2 ^ n)))))] → va_P D cl_all ([((q 0), .inr (6, [.int (nI (n)), .ref (q 2), .ref (q 3), .ref (q 4), .ref (q 5), .ref (q 6), .ref (q 7), .ref (q 8), .ref (q 9), .ref (q 10), .ref (q 11), .ref (q 12), .ref (q 13), .ref (q 14)])), ((q 2), .inl (cI, 10, .inl (g 0))), ((q 3), .inl (cI, 2, .inl (g 1))), ((q 4), .inl (cI, 2, .inl (g 2))), ((q 5), .inl (cI, 2, .inl (g 3))), ((q 6), .inl (cI, 20, .inl (g 4))), ((q 7), .inl (cI, 20, .inl (g 5))), ((q 8), .inl (cI, 20, .inl (g 6))), ((q 9), .inl (cI, 8, .inl (g 7))), ((q 10), .inl (cI, 80, .inl (g 8))), ((q 11), .inl (cI, 8, .inl (g 9))), ((q 12), .inl (cI, 16, .inl (g 10))), ((q 13), .inl (cI, 16, .inl (g 11))), ((q 14), .inl (cI, 2048, .inl (g 12)))]) H → va_D A ([((q 0), .inr (6, [.int (nI (n)), .ref (q 2), .ref (q 3), .ref (q 4), .ref (q 5), .ref (q 6), .ref (q 7), .ref (q 8), .ref (q 9), .ref (q 10), .ref (q 11), .ref (q 12), .ref (q 13), .ref (q 14)])), ((q 2), .inl (cI, 10, .inl (g 0))), ((q 3), .inl (cI, 2, .inl (g 1))), ((q 4), .inl (cI, 2, .inl (g 2))), ((q 5), .inl (cI, 2, .inl (g 3))), ((q 6), .inl (cI, 20, .inl (g 4))), ((q 7), .inl (cI, 20, .inl (g 5))), ((q 8), .inl (cI, 20, .inl (g 6))), ((q 9), .inl (cI, 8, .inl (g 7))), ((q 10), .inl (cI, 80, .inl (g 8))), ((q 11), .inl (cI, 8, .inl (g 9))), ((q 12), .inl (cI, 16, .inl (g 10))), ((q 13), .inl (cI, 16, .inl (g 11))), ((q 14), .inl (cI, 2048, .inl (g 12)))]) → va_S A s0.heap H locs → W p l e0 R s0 m args below meth c H locs cells slots Qq (F0 m 70 ls [])) : ∀ (fuel : Nat) (i : Nat) (ls : Array Slot) (H : Heap) (locs : List Loc), 2 ^ n - i < fuel → (i ≤ 2 ^ n) → lv_has ls 4 [(3, .int (nI (i))), (2, .int ((oi_ (cm_ n y k i)))), (0, .ref (q 0)), (1, .int (k))] → va_P D cl_all ([((q 0), .inr (6, [.int (nI (n)), .ref (q 2), .ref (q 3), .ref (q 4), .ref (q 5), .ref (q 6), .ref (q 7), .ref (q 8), .ref (q 9), .ref (q 10), .ref (q 11), .ref (q 12), .ref (q 13), .ref (q 14)])), ((q 2), .inl (cI, 10, .inl (g 0))), ((q 3), .inl (cI, 2, .inl (g 1))), ((q 4), .inl (cI, 2, .inl (g 2))), ((q 5), .inl (cI, 2, .inl (g 3))), ((q 6), .inl (cI, 20, .inl (g 4))), ((q 7), .inl (cI, 20, .inl (g 5))), ((q 8), .inl (cI, 20, .inl (g 6))), ((q 9), .inl (cI, 8, .inl (g 7))), ((q 10), .inl (cI, 80, .inl (g 8))), ((q 11), .inl (cI, 8, .inl (g 9))), ((q 12), .inl (cI, 16, .inl (g 10))), ((q 13), .inl (cI, 16, .inl (g 11))), ((q 14), .inl (cI, 2048, .inl (g 12)))]) H → va_D A ([((q 0), .inr (6, [.int (nI (n)), .ref (q 2), .ref (q 3), .ref (q 4), .ref (q 5), .ref (q 6), .ref (q 7), .ref (q 8), .ref (q 9), .ref (q 10), .ref (q 11), .ref (q 12), .ref (q 13), .ref (q 14)])), ((q 2), .inl (cI, 10, .inl (g 0))), ((q 3), .inl (cI, 2, .inl (g 1))), ((q 4), .inl (cI, 2, .inl (g 2))), ((q 5), .inl (cI, 2, .inl (g 3))), ((q 6), .inl (cI, 20, .inl (g 4))), ((q 7), .inl (cI, 20, .inl (g 5))), ((q 8), .inl (cI, 20, .inl (g 6))), ((q 9), .inl (cI, 8, .inl (g 7))), ((q 10), .inl (cI, 80, .inl (g 8))), ((q 11), .inl (cI, 8, .inl (g 9))), ((q 12), .inl (cI, 16, .inl (g 10))), ((q 13), .inl (cI, 16, .inl (g 11))), ((q 14), .inl (cI, 2048, .inl (g 12)))]) → va_S A s0.heap H locs → W p l e0 R s0 m args below meth c H locs cells slots Qq (F0 m 9 ls []) := by
  intro fuel
  induction fuel with
  | zero => intro i ls H locs hfu; omega
  | succ fuel ih =>
    intro i ls H locs hfu hi hl hP hD hS
    have h2n : 2 ^ n ≤ 1024 := Nat.pow_le_pow_right (by omega) hn
    have h2p : 1 ≤ 2 ^ n := Nat.one_le_two_pow
    have hlt := cm_lt n y k i
    refine lv_iload_n hx hb nd_CM_common_9 rfl (lv_at hl 0 rfl) ?_
    refine wi_ic hx hb (a := 1) nd_CM_common_10 ?_
    refine lv_aload_n hx hb nd_CM_common_11 rfl (lv_at hl 2 rfl) ?_
    refine va_get (D := D) (C := nr_CM) (T := nt_CM) (N := 14) hx hb htg tf_CM hown hK hP 0 rfl rfl 0 (by decide) (htg _ tm_383) (fun _ h => h) rfl nd_CM_common_12 ?_
    refine wi_ishl1 hx hb (by omega) nd_CM_common_15 ?_
    refine wi_icmp_ge (tgt := 70) hx hb (by omega) (by omega) nd_CM_common_16 rfl (fun hc16 => ?_) (fun hc16 => ?_)
    · have hl : lv_has ls 4 [(2, .int ((oi_ (cm_ n y k i))))] := lv_sub hl [1] rfl
      have hin : i = 2 ^ n := by omega
      exact kx ls H locs (by simpa only [hin] using hl) hP hD hS
    · refine lv_iload_n hx hb nd_CM_common_19 rfl (lv_at hl 0 rfl) ?_
      refine wc_S (n := 1) hx hb hml hown htg (c_CM_sizeOf l D cI cG cM i (by omega)) tm_489 tm_487 tm_488 tm_9 (by decide +kernel) ⟨⟨Nat.le_trans (by decide) hRf, Nat.le_trans (by decide) hRl⟩, rfl, rfl⟩ (wa_pre wa_nil hK hN) rfl hl.1 rfl (Nat.le_of_ble_eq_true rfl) nd_CM_common_20 hCS ?_
      have hcd20 := mt_cd_le 10 i
      refine lv_iload_n hx hb nd_CM_common_23 rfl (lv_at hl 3 rfl) ?_
      refine lv_icmp_ne (tgt := 64) hx hb nd_CM_common_24 rfl (fun hc24 => ?_) (fun hc24 => ?_)
      · refine lv_iinc (k := 0) (v := nI (i + 1)) hx hb nd_CM_common_64 hl rfl (wi_inc _ 1) (by decide) rfl (fun ls hl => ?_)
        have hl : lv_has ls 4 [(3, .int (nI (i + 1))), (2, .int ((oi_ (cm_ n y k i)))), (0, .ref (q 0)), (1, .int (k))] := hl
        refine lv_goto (tgt := 9) hx hb nd_CM_common_67 rfl ?_
        have hl : lv_has ls 4 [(3, .int (nI (i + 1))), (2, .int ((oi_ (cm_ n y k i)))), (0, .ref (q 0)), (1, .int (k))] := lv_sub hl [0, 1, 2, 3] rfl
        have hcm : cm_ n y k (i + 1) = cm_ n y k i := if_neg (fun z => hc24 z.1)
        exact ih (i + 1) ls H locs (by omega) (by omega) (by rw [hcm]; exact hl) hP hD hS
      · refine lv_aload_n hx hb nd_CM_common_27 rfl (lv_at hl 2 rfl) ?_
        refine wi_ic hx hb (a := 0) nd_CM_common_28 ?_
        refine lv_iload_n hx hb nd_CM_common_29 rfl (lv_at hl 0 rfl) ?_
        refine wc_V (C := nr_CM) (n := 2) hx hb hml hown htg (c_tf l D cI cG cM q n hn g y hrt hv 0 i (by omega) (by omega)) tm_529 tm_526 tm_528 tp_21 tm_9 (by decide +kernel) ⟨⟨Nat.le_trans (by decide) hRf, Nat.le_trans (by decide) hRl⟩, rfl, rfl⟩ (wa_pre (hP.sub [0, 13] rfl) hK hN) (va_recv (q0 := 0) (ci := 6) hK hP rfl rfl) rfl hl.1 rfl (Nat.le_of_ble_eq_true rfl) nd_CM_common_30 hCS ?_
        have htf30 := tf_lt n y 0 i
        refine wi_if_eq (tgt := 64) hx hb (by omega) nd_CM_common_33 rfl (fun hc33 => ?_) (fun hc33 => ?_)
        · refine lv_iinc (k := 0) (v := nI (i + 1)) hx hb nd_CM_common_64 hl rfl (wi_inc _ 1) (by decide) rfl (fun ls hl => ?_)
          have hl : lv_has ls 4 [(3, .int (nI (i + 1))), (2, .int ((oi_ (cm_ n y k i)))), (0, .ref (q 0)), (1, .int (k))] := hl
          refine lv_goto (tgt := 9) hx hb nd_CM_common_67 rfl ?_
          have hl : lv_has ls 4 [(3, .int (nI (i + 1))), (2, .int ((oi_ (cm_ n y k i)))), (0, .ref (q 0)), (1, .int (k))] := lv_sub hl [0, 1, 2, 3] rfl
          have hcm : cm_ n y k (i + 1) = cm_ n y k i := if_neg (fun z => tf_z.mp hc33 (co_t.mp z.2).1)
          exact ih (i + 1) ls H locs (by omega) (by omega) (by rw [hcm]; exact hl) hP hD hS
        · refine lv_aload_n hx hb nd_CM_common_36 rfl (lv_at hl 2 rfl) ?_
          refine wi_ic hx hb (a := 1) nd_CM_common_37 ?_
          refine lv_iload_n hx hb nd_CM_common_38 rfl (lv_at hl 0 rfl) ?_
          refine wc_V (C := nr_CM) (n := 2) hx hb hml hown htg (c_tf l D cI cG cM q n hn g y hrt hv 1 i (by omega) (by omega)) tm_529 tm_526 tm_528 tp_21 tm_9 (by decide +kernel) ⟨⟨Nat.le_trans (by decide) hRf, Nat.le_trans (by decide) hRl⟩, rfl, rfl⟩ (wa_pre (hP.sub [0, 13] rfl) hK hN) (va_recv (q0 := 0) (ci := 6) hK hP rfl rfl) rfl hl.1 rfl (Nat.le_of_ble_eq_true rfl) nd_CM_common_39 hCS ?_
          have htf39 := tf_lt n y 1 i
          refine wi_if_eq (tgt := 64) hx hb (by omega) nd_CM_common_42 rfl (fun hc42 => ?_) (fun hc42 => ?_)
          · refine lv_iinc (k := 0) (v := nI (i + 1)) hx hb nd_CM_common_64 hl rfl (wi_inc _ 1) (by decide) rfl (fun ls hl => ?_)
            have hl : lv_has ls 4 [(3, .int (nI (i + 1))), (2, .int ((oi_ (cm_ n y k i)))), (0, .ref (q 0)), (1, .int (k))] := hl
            refine lv_goto (tgt := 9) hx hb nd_CM_common_67 rfl ?_
            have hl : lv_has ls 4 [(3, .int (nI (i + 1))), (2, .int ((oi_ (cm_ n y k i)))), (0, .ref (q 0)), (1, .int (k))] := lv_sub hl [0, 1, 2, 3] rfl
            have hcm : cm_ n y k (i + 1) = cm_ n y k i := if_neg (fun z => tf_z.mp hc42 (co_t.mp z.2).2)
            exact ih (i + 1) ls H locs (by omega) (by omega) (by rw [hcm]; exact hl) hP hD hS
          · refine lv_iload_n hx hb nd_CM_common_45 rfl (lv_at hl 1 rfl) ?_
            refine lv_if_lt (tgt := 62) hx hb nd_CM_common_46 rfl (fun hc46 => ?_) (fun hc46 => ?_)
            · refine lv_iload_n hx hb nd_CM_common_62 rfl (lv_at hl 0 rfl) ?_
              refine lv_istore_n hx hb nd_CM_common_63 rfl hl (by decide) rfl (fun ls hl => ?_)
              have hl : lv_has ls 4 [(2, .int (nI (i))), (3, .int (nI (i))), (0, .ref (q 0)), (1, .int (k))] := hl
              refine lv_iinc (k := 1) (v := nI (i + 1)) hx hb nd_CM_common_64 hl rfl (wi_inc _ 1) (by decide) rfl (fun ls hl => ?_)
              have hl : lv_has ls 4 [(3, .int (nI (i + 1))), (2, .int (nI (i))), (0, .ref (q 0)), (1, .int (k))] := hl
              refine lv_goto (tgt := 9) hx hb nd_CM_common_67 rfl ?_
              have hl : lv_has ls 4 [(3, .int (nI (i + 1))), (2, .int (nI (i))), (0, .ref (q 0)), (1, .int (k))] := lv_sub hl [0, 1, 2, 3] rfl
              have hst : cm_ n y k (i + 1) = (match cm_ n y k i with | none => some i | some b => if ms_W y.1 n i ≤ ms_W y.1 n b then some b else some i) := if_pos ⟨hc24, co_t.mpr ⟨tf_n.mp hc33, tf_n.mp hc42⟩⟩
              have hno : cm_ n y k i = none := (oi_neg (fun b hb => by have := hlt b hb; omega)).mp hc46
              have hcm : cm_ n y k (i + 1) = some i := by rw [hst, hno]
              exact ih (i + 1) ls H locs (by omega) (by omega) (by rw [hcm]; exact hl) hP hD hS
            · obtain ⟨b0, hb0⟩ : ∃ b, cm_ n y k i = some b := by cases hq0 : cm_ n y k i with | none => exact absurd ((oi_neg (fun b hb => by have := hlt b hb; omega)).mpr hq0) hc46 | some b => exact ⟨b, rfl⟩
              have hbl := hlt b0 hb0
              refine lv_aload_n hx hb nd_CM_common_49 rfl (lv_at hl 2 rfl) ?_
              refine lv_iload_n hx hb nd_CM_common_50 rfl (lv_at hl 0 rfl) ?_
              refine wc_V (C := nr_CM) (n := 1) hx hb hml hown htg (c_CM_heaviness l D cI cG cM q n hn (g 0) i (by omega)) tm_533 tm_530 tm_532 tp_22 tm_9 (by decide +kernel) ⟨⟨Nat.le_trans (by decide) hRf, Nat.le_trans (by decide) hRl⟩, rfl, rfl⟩ (wa_pre (hP.sub [0, 1] rfl) hK hN) (va_recv (q0 := 0) (ci := 6) hK hP rfl rfl) rfl hl.1 rfl (Nat.le_of_ble_eq_true rfl) nd_CM_common_51 hCS ?_
              refine wi_top (ms_W_eq hwb) ?_
              refine lv_aload_n hx hb nd_CM_common_54 rfl (lv_at hl 2 rfl) ?_
              refine lv_iload_n hx hb nd_CM_common_55 rfl (lv_at hl 1 rfl) ?_
              refine wi_top (show oi_ (cm_ n y k i) = nI b0 by rw [hb0]; rfl) ?_
              refine wc_V (C := nr_CM) (n := 1) hx hb hml hown htg (c_CM_heaviness l D cI cG cM q n hn (g 0) b0 (by omega)) tm_533 tm_530 tm_532 tp_22 tm_9 (by decide +kernel) ⟨⟨Nat.le_trans (by decide) hRf, Nat.le_trans (by decide) hRl⟩, rfl, rfl⟩ (wa_pre (hP.sub [0, 1] rfl) hK hN) (va_recv (q0 := 0) (ci := 6) hK hP rfl rfl) rfl hl.1 rfl (Nat.le_of_ble_eq_true rfl) nd_CM_common_56 hCS ?_
              refine wi_top (ms_W_eq hwb) ?_
              refine lv_icmp_le (tgt := 64) hx hb nd_CM_common_59 rfl (fun hc59 => ?_) (fun hc59 => ?_)
              · refine lv_iinc (k := 0) (v := nI (i + 1)) hx hb nd_CM_common_64 hl rfl (wi_inc _ 1) (by decide) rfl (fun ls hl => ?_)
                have hl : lv_has ls 4 [(3, .int (nI (i + 1))), (2, .int ((oi_ (cm_ n y k i)))), (0, .ref (q 0)), (1, .int (k))] := hl
                refine lv_goto (tgt := 9) hx hb nd_CM_common_67 rfl ?_
                have hl : lv_has ls 4 [(3, .int (nI (i + 1))), (2, .int ((oi_ (cm_ n y k i)))), (0, .ref (q 0)), (1, .int (k))] := lv_sub hl [0, 1, 2, 3] rfl
                have hst : cm_ n y k (i + 1) = (match cm_ n y k i with | none => some i | some b => if ms_W y.1 n i ≤ ms_W y.1 n b then some b else some i) := if_pos ⟨hc24, co_t.mpr ⟨tf_n.mp hc33, tf_n.mp hc42⟩⟩
                have hcm : cm_ n y k (i + 1) = cm_ n y k i := by rw [hst, hb0]; exact if_pos hc59
                exact ih (i + 1) ls H locs (by omega) (by omega) (by rw [hcm]; exact hl) hP hD hS
              · refine lv_iload_n hx hb nd_CM_common_62 rfl (lv_at hl 0 rfl) ?_
                refine lv_istore_n hx hb nd_CM_common_63 rfl hl (by decide) rfl (fun ls hl => ?_)
                have hl : lv_has ls 4 [(2, .int (nI (i))), (3, .int (nI (i))), (0, .ref (q 0)), (1, .int (k))] := hl
                refine lv_iinc (k := 1) (v := nI (i + 1)) hx hb nd_CM_common_64 hl rfl (wi_inc _ 1) (by decide) rfl (fun ls hl => ?_)
                have hl : lv_has ls 4 [(3, .int (nI (i + 1))), (2, .int (nI (i))), (0, .ref (q 0)), (1, .int (k))] := hl
                refine lv_goto (tgt := 9) hx hb nd_CM_common_67 rfl ?_
                have hl : lv_has ls 4 [(3, .int (nI (i + 1))), (2, .int (nI (i))), (0, .ref (q 0)), (1, .int (k))] := lv_sub hl [0, 1, 2, 3] rfl
                have hst : cm_ n y k (i + 1) = (match cm_ n y k i with | none => some i | some b => if ms_W y.1 n i ≤ ms_W y.1 n b then some b else some i) := if_pos ⟨hc24, co_t.mpr ⟨tf_n.mp hc33, tf_n.mp hc42⟩⟩
                have hcm : cm_ n y k (i + 1) = some i := by rw [hst, hb0]; exact if_neg hc59
                exact ih (i + 1) ls H locs (by omega) (by omega) (by rw [hcm]; exact hl) hP hD hS
set_option maxRecDepth 20000 in
theorem c_CM_common (l : Launch) (D : va_G) (cI cG cM : ClassId)  (q : Nat → Nat) (n : Nat) (hn1 : 1 ≤ n) (hn : n ≤ 10) (g : rf_S) (y : cb_Y) (hI : rf_I n y g) (k : Int32) (sz : Nat) : wb_Mi l ny_CM_common nc_CM_common 4 (some .int) ({ frames := 4, cells := 0, slots := 0, locals := 98 }) D (ty_all cI cG cM) (rf_ cI q n g) sz [.ref (q 0), .int (k)] (fun (v : Int32) (u : rf_S) => v = sp_common n y k ∧ rf_I n y u) (fun u : rf_S => rf_ cI q n u) := by
  refine wb_start (S := rf_S) (by decide) (Nat.le_of_ble_eq_true rfl) ?_
  intro p e0 s0 m below meth c ls A hx hb hr hml htg hown hk hP hK hN hl hAe hsz hD hA
  have hl : lv_has ls 4 [(0, .ref (q 0)), (1, .int (k))] := hl
  have hP : va_P D cl_all ([((q 0), .inr (6, [.int (nI (n)), .ref (q 2), .ref (q 3), .ref (q 4), .ref (q 5), .ref (q 6), .ref (q 7), .ref (q 8), .ref (q 9), .ref (q 10), .ref (q 11), .ref (q 12), .ref (q 13), .ref (q 14)])), ((q 2), .inl (cI, 10, .inl (g 0))), ((q 3), .inl (cI, 2, .inl (g 1))), ((q 4), .inl (cI, 2, .inl (g 2))), ((q 5), .inl (cI, 2, .inl (g 3))), ((q 6), .inl (cI, 20, .inl (g 4))), ((q 7), .inl (cI, 20, .inl (g 5))), ((q 8), .inl (cI, 20, .inl (g 6))), ((q 9), .inl (cI, 8, .inl (g 7))), ((q 10), .inl (cI, 80, .inl (g 8))), ((q 11), .inl (cI, 8, .inl (g 9))), ((q 12), .inl (cI, 16, .inl (g 10))), ((q 13), .inl (cI, 16, .inl (g 11))), ((q 14), .inl (cI, 2048, .inl (g 12)))]) s0.heap := hP
  have hD : va_D A ([((q 0), .inr (6, [.int (nI (n)), .ref (q 2), .ref (q 3), .ref (q 4), .ref (q 5), .ref (q 6), .ref (q 7), .ref (q 8), .ref (q 9), .ref (q 10), .ref (q 11), .ref (q 12), .ref (q 13), .ref (q 14)])), ((q 2), .inl (cI, 10, .inl (g 0))), ((q 3), .inl (cI, 2, .inl (g 1))), ((q 4), .inl (cI, 2, .inl (g 2))), ((q 5), .inl (cI, 2, .inl (g 3))), ((q 6), .inl (cI, 20, .inl (g 4))), ((q 7), .inl (cI, 20, .inl (g 5))), ((q 8), .inl (cI, 20, .inl (g 6))), ((q 9), .inl (cI, 8, .inl (g 7))), ((q 10), .inl (cI, 80, .inl (g 8))), ((q 11), .inl (cI, 8, .inl (g 9))), ((q 12), .inl (cI, 16, .inl (g 10))), ((q 13), .inl (cI, 16, .inl (g 11))), ((q 14), .inl (cI, 2048, .inl (g 12)))]) := hD
  have hS : va_S A s0.heap s0.heap [] := va_S.rf
  have hRf : 4 ≤ ({ frames := 4, cells := 0, slots := 0, locals := 98 } : Room).frames := Nat.le_refl _
  have hRl : 98 ≤ ({ frames := 4, cells := 0, slots := 0, locals := 98 } : Room).locals := Nat.le_refl _
  have hCS : 0 ≤ ({ frames := 4, cells := 0, slots := 0, locals := 98 } : Room).cells ∧ 0 ≤ ({ frames := 4, cells := 0, slots := 0, locals := 98 } : Room).slots := ⟨Nat.zero_le _, Nat.zero_le _⟩
  have h2n : 2 ^ n ≤ 1024 := Nat.pow_le_pow_right (by omega) hn
  have h2p : 1 ≤ 2 ^ n := Nat.one_le_two_pow
  refine lv_aload_n hx hb nd_CM_common_0 rfl (lv_at hl 0 rfl) ?_
  refine wd_Vv0 (C := nr_CM) (n := 0) (Y := rf_ cI q n g) hx hb hml hown htg (c_CM_work l D cI cG cM q n hn1 hn g y hI _) tm_513 tm_510 tm_512 tp_20 tm_9 (by decide +kernel) ⟨⟨Nat.le_trans (by decide) hRf, Nat.le_trans (by decide) hRl⟩, rfl, rfl⟩ hP hD hS hA hK hN (va_recv (q0 := 0) (ci := 6) hK hP rfl rfl) rfl hl.1 rfl (Nat.le_of_ble_eq_true rfl) nd_CM_common_1 hCS (fun u1 H locs hp1 hP hD hS => ?_)
  have hP : va_P D cl_all ([((q 0), .inr (6, [.int (nI (n)), .ref (q 2), .ref (q 3), .ref (q 4), .ref (q 5), .ref (q 6), .ref (q 7), .ref (q 8), .ref (q 9), .ref (q 10), .ref (q 11), .ref (q 12), .ref (q 13), .ref (q 14)])), ((q 2), .inl (cI, 10, .inl (u1 0))), ((q 3), .inl (cI, 2, .inl (u1 1))), ((q 4), .inl (cI, 2, .inl (u1 2))), ((q 5), .inl (cI, 2, .inl (u1 3))), ((q 6), .inl (cI, 20, .inl (u1 4))), ((q 7), .inl (cI, 20, .inl (u1 5))), ((q 8), .inl (cI, 20, .inl (u1 6))), ((q 9), .inl (cI, 8, .inl (u1 7))), ((q 10), .inl (cI, 80, .inl (u1 8))), ((q 11), .inl (cI, 8, .inl (u1 9))), ((q 12), .inl (cI, 16, .inl (u1 10))), ((q 13), .inl (cI, 16, .inl (u1 11))), ((q 14), .inl (cI, 2048, .inl (u1 12)))]) H := hP
  have hD : va_D A ([((q 0), .inr (6, [.int (nI (n)), .ref (q 2), .ref (q 3), .ref (q 4), .ref (q 5), .ref (q 6), .ref (q 7), .ref (q 8), .ref (q 9), .ref (q 10), .ref (q 11), .ref (q 12), .ref (q 13), .ref (q 14)])), ((q 2), .inl (cI, 10, .inl (u1 0))), ((q 3), .inl (cI, 2, .inl (u1 1))), ((q 4), .inl (cI, 2, .inl (u1 2))), ((q 5), .inl (cI, 2, .inl (u1 3))), ((q 6), .inl (cI, 20, .inl (u1 4))), ((q 7), .inl (cI, 20, .inl (u1 5))), ((q 8), .inl (cI, 20, .inl (u1 6))), ((q 9), .inl (cI, 8, .inl (u1 7))), ((q 10), .inl (cI, 80, .inl (u1 8))), ((q 11), .inl (cI, 8, .inl (u1 9))), ((q 12), .inl (cI, 16, .inl (u1 10))), ((q 13), .inl (cI, 16, .inl (u1 11))), ((q 14), .inl (cI, 2048, .inl (u1 12)))]) := hD
  refine lv_bipush (v := -2) hx hb nd_CM_common_4 (by decide) ?_
  refine lv_istore_n hx hb nd_CM_common_6 rfl hl (by decide) rfl (fun ls hl => ?_)
  have hl : lv_has ls 4 [(2, .int ((-2))), (0, .ref (q 0)), (1, .int (k))] := hl
  refine wi_ic hx hb (a := 0) nd_CM_common_7 ?_
  refine lv_istore_n hx hb nd_CM_common_8 rfl hl (by decide) rfl (fun ls hl => ?_)
  have hl : lv_has ls 4 [(3, .int (nI (0))), (2, .int ((-2))), (0, .ref (q 0)), (1, .int (k))] := hl
  have hl : lv_has ls 4 [(3, .int (nI (0))), (2, .int ((-2))), (0, .ref (q 0)), (1, .int (k))] := lv_sub hl [0, 1, 2, 3] rfl
  refine lp_CM_common cI cG cM q n hn1 hn u1 y hp1.2 (fun w hw => (hI.2 w hw).1) (fun e he => (congrFun (hp1.1 0 (by omega)) e).trans (hI.1 e he).1) k hx hb hml htg hown hK hN hA hRf hRl hCS (fun ls H locs hl hP hD hS => ?_) (2 ^ n + 1) 0 ls H locs (by omega) (by omega) hl hP hD hS
  refine lv_iload_n hx hb nd_CM_common_70 rfl (lv_at hl 0 rfl) ?_
  exact wb_iret u1 hx hb hr hk hAe (⟨rfl, rf_keep hn (fun j hj => hp1.1 j hj) hI⟩) hP hD hS nd_CM_common_71
