/-! A matroid: rankOf, isIndependent. -/
theorem ma_r0 {n : Nat} {x : ma_T} (h : x.1 = 0) : ma_r n x = mt_U n x.2.1 := by unfold ma_r; rw [if_pos h]
theorem ma_r1 {n : Nat} {x : ma_T} (h : x.1 = 1) : ma_r n x = mg_r n x.2.2.1 x.2.2.2.1 := by unfold ma_r; rw [if_neg (by omega), if_pos h]
theorem ma_r2 {n : Nat} {x : ma_T} (h : x.1 = 2) : ma_r n x = mt_C n x.2.2.2.2.1 x.2.2.2.2.2.1 := by unfold ma_r; rw [if_neg (by omega), if_neg (by omega), if_pos h]
theorem ma_r3 {n : Nat} {x : ma_T} (h : x.1 = 3) : ma_r n x = ml_r n (x.2.2.2.2.2.2.1 : Int) (fun e i => (x.2.2.2.2.2.2.2 e i : Int)) := by unfold ma_r; rw [if_neg (by omega), if_neg (by omega), if_neg (by omega)]
theorem ma_put {n : Nat} {r : Nat → Nat} {f : Nat → Int32} {s : Nat} (h : ∀ s, s < 2 ^ n → f s = -1 ∨ f s = nI (r s)) : ∀ s', s' < 2 ^ n → upd f s (nI (r s)) s' = -1 ∨ upd f s (nI (r s)) s' = nI (r s') := fun s' hs' => by
  by_cases q : s' = s
  · subst q; right; simp [upd]
  · simp only [upd, q, if_false]; exact h s' hs'
theorem mw_rot (F G L : va_W) : F ++ (G ++ L) = (F ++ G) ++ (L ++ []) := by simp
theorem mw_Lp {cI cG : ClassId} {a : ma_A} {n : Nat} {kd : Nat} {sc : Nat → Int32} {f E P C : Nat → Nat → Int32} {md : Int32} (e : sc 2 = md) : mw_L cI cG a n (kd, sc, f, E, P, C) = [(a.1 10, .inr (5, [.ref (a.1 13), .ref (a.1 11), .ref (a.1 12), .int md])), (a.1 11, .inl (cG, 4, .inr (.inr (.inr (.inr (fun i => if i < 4 then some (a.2.2.1 i) else none)))))), (a.1 12, .inl (cI, 4, .inl (f 5))), (a.1 13, .inl (cG, n, .inr (.inr (.inr (.inr (fun i => if i < n then some (a.2.2.2 i) else none))))))] ++ (rw_R cI 4 a.2.2.1 P 4 ++ (rw_R cI 4 a.2.2.2 C n ++ [])) := by
  rw [← e]; rfl
theorem nd_MA_rankOf_0 : decode nc_MA_rankOf 0 = .ok (.aload_n 0, 1) := by decide +kernel
theorem nd_MA_rankOf_1 : decode nc_MA_rankOf 1 = .ok (.getfield 41, 3) := by decide +kernel
theorem nd_MA_rankOf_4 : decode nc_MA_rankOf 4 = .ok (.iload_n 1, 1) := by decide +kernel
theorem nd_MA_rankOf_5 : decode nc_MA_rankOf 5 = .ok (.iaload, 1) := by decide +kernel
theorem nd_MA_rankOf_6 : decode nc_MA_rankOf 6 = .ok (.iconst (-1), 1) := by decide +kernel
theorem nd_MA_rankOf_7 : decode nc_MA_rankOf 7 = .ok (.if_icmp .ne 22, 3) := by decide +kernel
theorem nd_MA_rankOf_10 : decode nc_MA_rankOf 10 = .ok (.aload_n 0, 1) := by decide +kernel
theorem nd_MA_rankOf_11 : decode nc_MA_rankOf 11 = .ok (.getfield 41, 3) := by decide +kernel
theorem nd_MA_rankOf_14 : decode nc_MA_rankOf 14 = .ok (.iload_n 1, 1) := by decide +kernel
theorem nd_MA_rankOf_15 : decode nc_MA_rankOf 15 = .ok (.aload_n 0, 1) := by decide +kernel
theorem nd_MA_rankOf_16 : decode nc_MA_rankOf 16 = .ok (.getfield 51, 3) := by decide +kernel
theorem nd_MA_rankOf_19 : decode nc_MA_rankOf 19 = .ok (.iload_n 1, 1) := by decide +kernel
theorem nd_MA_rankOf_20 : decode nc_MA_rankOf 20 = .ok (.invokevirtual 95, 3) := by decide +kernel
theorem nd_MA_rankOf_23 : decode nc_MA_rankOf 23 = .ok (.iastore, 1) := by decide +kernel
theorem nd_MA_rankOf_24 : decode nc_MA_rankOf 24 = .ok (.aload_n 0, 1) := by decide +kernel
theorem nd_MA_rankOf_25 : decode nc_MA_rankOf 25 = .ok (.iconst 1, 1) := by decide +kernel
theorem nd_MA_rankOf_26 : decode nc_MA_rankOf 26 = .ok (.putfield 100, 3) := by decide +kernel
theorem nd_MA_rankOf_29 : decode nc_MA_rankOf 29 = .ok (.aload_n 0, 1) := by decide +kernel
theorem nd_MA_rankOf_30 : decode nc_MA_rankOf 30 = .ok (.getfield 41, 3) := by decide +kernel
theorem nd_MA_rankOf_33 : decode nc_MA_rankOf 33 = .ok (.iload_n 1, 1) := by decide +kernel
theorem nd_MA_rankOf_34 : decode nc_MA_rankOf 34 = .ok (.iaload, 1) := by decide +kernel
theorem nd_MA_rankOf_35 : decode nc_MA_rankOf 35 = .ok (.ireturn, 1) := by decide +kernel
set_option maxRecDepth 20000 in
theorem c_MA_rankOf (l : Launch) (D : va_G) (cI cG cM : ClassId)  (a : ma_A) (n : Nat) (hn : n ≤ 10) (kd : Nat) (sc : Nat → Int32) (f E P C : Nat → Nat → Int32) (x : ma_T) (hI : ma_I n x (kd, sc, f, E, P, C)) (s : Nat) (hs : s < 2 ^ n) (sz : Nat) : wb_Mi l ny_MA_rankOf nc_MA_rankOf 2 (some .int) ({ frames := 4, cells := 0, slots := 0, locals := 91 }) D (ty_all cI cG cM) (mw_ cI cG a n (kd, sc, f, E, P, C)) sz [.ref (a.1 0), .int (nI (s))] (fun (v : Int32) (u : ma_S) => v = nI (ma_r n x s) ∧ ma_I n x u) (fun u : ma_S => mw_ cI cG a n u) := by
  refine wb_start (S := ma_S) (by decide) (Nat.le_of_ble_eq_true rfl) ?_
  intro p e0 s0 m below meth c ls A hx hb hr hml htg hown hk hP hK hN hl hAe hsz hD hA
  have hl : lv_has ls 2 [(0, .ref (a.1 0)), (1, .int (nI (s)))] := hl
  have hP : va_P D cl_all ([((a.1 0), .inr (1, [.ref (a.1 2), .ref (a.1 7), .ref (a.1 3), .ref (a.1 10), .ref (a.1 1), .int (sc 0), .ref (a.1 kd)])), ((a.1 1), .inl (cI, 2 ^ n, .inl (f 0))), ((a.1 2), .inr (2, [.int (sc 1)])), ((a.1 3), .inr (4, [.ref (a.1 6), .ref (a.1 4), .ref (a.1 5)])), ((a.1 4), .inl (cI, 4, .inl (f 1))), ((a.1 5), .inl (cI, 4, .inl (f 2))), ((a.1 6), .inl (cI, n, .inl (f 3)))] ++ (mw_G cI cG a n (kd, sc, f, E, P, C) ++ mw_L cI cG a n (kd, sc, f, E, P, C))) s0.heap := hP
  have hD : va_D A ([((a.1 0), .inr (1, [.ref (a.1 2), .ref (a.1 7), .ref (a.1 3), .ref (a.1 10), .ref (a.1 1), .int (sc 0), .ref (a.1 kd)])), ((a.1 1), .inl (cI, 2 ^ n, .inl (f 0))), ((a.1 2), .inr (2, [.int (sc 1)])), ((a.1 3), .inr (4, [.ref (a.1 6), .ref (a.1 4), .ref (a.1 5)])), ((a.1 4), .inl (cI, 4, .inl (f 1))), ((a.1 5), .inl (cI, 4, .inl (f 2))), ((a.1 6), .inl (cI, n, .inl (f 3)))] ++ (mw_G cI cG a n (kd, sc, f, E, P, C) ++ mw_L cI cG a n (kd, sc, f, E, P, C))) := hD
  have hS : va_S A s0.heap s0.heap [] := va_S.rf
  have hRf : 4 ≤ ({ frames := 4, cells := 0, slots := 0, locals := 91 } : Room).frames := Nat.le_refl _
  have hRl : 91 ≤ ({ frames := 4, cells := 0, slots := 0, locals := 91 } : Room).locals := Nat.le_refl _
  have hCS : 0 ≤ ({ frames := 4, cells := 0, slots := 0, locals := 91 } : Room).cells ∧ 0 ≤ ({ frames := 4, cells := 0, slots := 0, locals := 91 } : Room).slots := ⟨Nat.zero_le _, Nat.zero_le _⟩
  have h2n : 2 ^ n ≤ 1024 := Nat.pow_le_pow_right (by omega) hn
  refine lv_aload_n hx hb nd_MA_rankOf_0 rfl (lv_at hl 0 rfl) ?_
  refine va_get (D := D) (C := nr_MA) (T := nt_MA) (N := 7) hx hb htg tf_MA hown hK hP 0 rfl rfl 4 (by decide) (htg _ tm_104) (fun _ h => h) rfl nd_MA_rankOf_1 ?_
  refine lv_iload_n hx hb nd_MA_rankOf_4 rfl (lv_at hl 1 rfl) ?_
  refine wi_iald hx hb hK hP 1 0 rfl rfl (by omega) (by omega) nd_MA_rankOf_5 ?_
  refine lv_iconst (v := -1) hx hb nd_MA_rankOf_6 (by decide) ?_
  refine lv_icmp_ne (tgt := 29) hx hb nd_MA_rankOf_7 rfl (fun hc7 => ?_) (fun hc7 => ?_)
  · refine lv_aload_n hx hb nd_MA_rankOf_29 rfl (lv_at hl 0 rfl) ?_
    refine va_get (D := D) (C := nr_MA) (T := nt_MA) (N := 7) hx hb htg tf_MA hown hK hP 0 rfl rfl 4 (by decide) (htg _ tm_104) (fun _ h => h) rfl nd_MA_rankOf_30 ?_
    refine lv_iload_n hx hb nd_MA_rankOf_33 rfl (lv_at hl 1 rfl) ?_
    refine wi_iald hx hb hK hP 1 0 rfl rfl (by omega) (by omega) nd_MA_rankOf_34 ?_
    exact wb_iret ((kd, sc, f, E, P, C)) hx hb hr hk hAe (⟨((hI.2.2.1 s hs).resolve_left hc7), hI⟩) hP hD hS nd_MA_rankOf_35
  · refine lv_aload_n hx hb nd_MA_rankOf_10 rfl (lv_at hl 0 rfl) ?_
    refine va_get (D := D) (C := nr_MA) (T := nt_MA) (N := 7) hx hb htg tf_MA hown hK hP 0 rfl rfl 4 (by decide) (htg _ tm_104) (fun _ h => h) rfl nd_MA_rankOf_11 ?_
    refine lv_iload_n hx hb nd_MA_rankOf_14 rfl (lv_at hl 1 rfl) ?_
    refine lv_aload_n hx hb nd_MA_rankOf_15 rfl (lv_at hl 0 rfl) ?_
    refine va_get (D := D) (C := nr_MA) (T := nt_MA) (N := 7) hx hb htg tf_MA hown hK hP 0 rfl rfl 6 (by decide) (htg _ tm_106) (fun _ h => h) rfl nd_MA_rankOf_16 ?_
    refine lv_iload_n hx hb nd_MA_rankOf_19 rfl (lv_at hl 1 rfl) ?_
    rcases hI.2.1 with ⟨hq, hkd, ho⟩ | ⟨hq, hkd, ho⟩ | ⟨hq, hkd, ho, ho2⟩ | ⟨hq, hkd, ho, ho2⟩
    · have hkd : kd = 2 := hkd
      subst hkd
      have ho : sc 1 = nI x.2.1 := ho
      have hv : x.2.1 ≤ 10 := by rcases hI.1 with ⟨q, q2⟩ | ⟨q, -⟩ | ⟨q, -⟩ | ⟨q, -⟩ <;> first | exact q2 | omega
      rw [ho] at hP hD
      refine wd_Ai (C := nr_UK) (owner := nr_KI) (x := ny_KI_findRank) (n := 1) (X := [((a.1 0), .inr (1, [.ref (a.1 2), .ref (a.1 7), .ref (a.1 3), .ref (a.1 10), .ref (a.1 1), .int (sc 0), .ref (a.1 2)])), ((a.1 1), .inl (cI, 2 ^ n, .inl (f 0)))]) (Y := [((a.1 2), .inr (2, [.int (nI (x.2.1))]))]) (Z := [((a.1 3), .inr (4, [.ref (a.1 6), .ref (a.1 4), .ref (a.1 5)])), ((a.1 4), .inl (cI, 4, .inl (f 1))), ((a.1 5), .inl (cI, 4, .inl (f 2))), ((a.1 6), .inl (cI, n, .inl (f 3)))] ++ (mw_G cI cG a n (2, sc, f, E, P, C) ++ mw_L cI cG a n (2, sc, f, E, P, C))) hx hb hml hown htg (c_UK_findRank l D cI cG cM (a.1 2) x.2.1 (by omega) s (by omega) _) tm_301 tm_264 tm_266 tm_300 tm_299 tm_4 (tn_265 hN) (by decide +kernel) ⟨⟨Nat.le_trans (by decide) hRf, Nat.le_trans (by decide) hRl⟩, rfl, rfl⟩ hP hD hS hA hK hN (va_recv (q0 := 2) (ci := 2) hK hP rfl rfl) rfl hl.1 rfl (Nat.le_of_ble_eq_true rfl) nd_MA_rankOf_20 hCS (fun v20 u20 H locs hp20 hP hD hS => ?_)
      have hrv : v20 = nI (ma_r n x s) := by rw [hp20, ma_r0 hq, bs_cd10 hn hs]; rfl
      rw [← ho] at hP hD
      have hP : va_P D cl_all ([((a.1 0), .inr (1, [.ref (a.1 2), .ref (a.1 7), .ref (a.1 3), .ref (a.1 10), .ref (a.1 1), .int (sc 0), .ref (a.1 2)])), ((a.1 1), .inl (cI, 2 ^ n, .inl (f 0))), ((a.1 2), .inr (2, [.int (sc 1)])), ((a.1 3), .inr (4, [.ref (a.1 6), .ref (a.1 4), .ref (a.1 5)])), ((a.1 4), .inl (cI, 4, .inl (f 1))), ((a.1 5), .inl (cI, 4, .inl (f 2))), ((a.1 6), .inl (cI, n, .inl (f 3)))] ++ (mw_G cI cG a n (2, sc, f, E, P, C) ++ mw_L cI cG a n (2, sc, f, E, P, C))) H := hP
      have hD : va_D A ([((a.1 0), .inr (1, [.ref (a.1 2), .ref (a.1 7), .ref (a.1 3), .ref (a.1 10), .ref (a.1 1), .int (sc 0), .ref (a.1 2)])), ((a.1 1), .inl (cI, 2 ^ n, .inl (f 0))), ((a.1 2), .inr (2, [.int (sc 1)])), ((a.1 3), .inr (4, [.ref (a.1 6), .ref (a.1 4), .ref (a.1 5)])), ((a.1 4), .inl (cI, 4, .inl (f 1))), ((a.1 5), .inl (cI, 4, .inl (f 2))), ((a.1 6), .inl (cI, n, .inl (f 3)))] ++ (mw_G cI cG a n (2, sc, f, E, P, C) ++ mw_L cI cG a n (2, sc, f, E, P, C))) := hD
      refine wi_top hrv ?_
      refine wi_iast hx hb hK hP hD hS 1 0 rfl rfl (by omega) (by omega) nd_MA_rankOf_23 (fun H locs hP hD hS => ?_)
      have hP : va_P D cl_all ([((a.1 0), .inr (1, [.ref (a.1 2), .ref (a.1 7), .ref (a.1 3), .ref (a.1 10), .ref (a.1 1), .int (sc 0), .ref (a.1 2)])), ((a.1 1), .inl (cI, 2 ^ n, .inl (upd (f 0) s (nI (ma_r n x s))))), ((a.1 2), .inr (2, [.int (sc 1)])), ((a.1 3), .inr (4, [.ref (a.1 6), .ref (a.1 4), .ref (a.1 5)])), ((a.1 4), .inl (cI, 4, .inl (f 1))), ((a.1 5), .inl (cI, 4, .inl (f 2))), ((a.1 6), .inl (cI, n, .inl (f 3)))] ++ (mw_G cI cG a n (2, sc, f, E, P, C) ++ mw_L cI cG a n (2, sc, f, E, P, C))) H := hP
      have hD : va_D A ([((a.1 0), .inr (1, [.ref (a.1 2), .ref (a.1 7), .ref (a.1 3), .ref (a.1 10), .ref (a.1 1), .int (sc 0), .ref (a.1 2)])), ((a.1 1), .inl (cI, 2 ^ n, .inl (upd (f 0) s (nI (ma_r n x s))))), ((a.1 2), .inr (2, [.int (sc 1)])), ((a.1 3), .inr (4, [.ref (a.1 6), .ref (a.1 4), .ref (a.1 5)])), ((a.1 4), .inl (cI, 4, .inl (f 1))), ((a.1 5), .inl (cI, 4, .inl (f 2))), ((a.1 6), .inl (cI, n, .inl (f 3)))] ++ (mw_G cI cG a n (2, sc, f, E, P, C) ++ mw_L cI cG a n (2, sc, f, E, P, C))) := hD
      refine lv_aload_n hx hb nd_MA_rankOf_24 rfl (lv_at hl 0 rfl) ?_
      refine wi_ic hx hb (a := 1) nd_MA_rankOf_25 ?_
      refine va_put (D := D) (C := nr_MA) (T := nt_MA) (N := 7) hx hb htg tf_MA nu_MA no_MA nn_MA hown hK hP hD hS 0 rfl rfl 5 (by decide) (htg _ tm_105) (fun _ h => h) rfl rfl rfl rfl (Nat.le_of_ble_eq_true rfl) nd_MA_rankOf_26 (fun H locs hP hD hS => ?_)
      have hP : va_P D cl_all ([((a.1 0), .inr (1, [.ref (a.1 2), .ref (a.1 7), .ref (a.1 3), .ref (a.1 10), .ref (a.1 1), .int (nI (1)), .ref (a.1 2)])), ((a.1 1), .inl (cI, 2 ^ n, .inl (upd (f 0) s (nI (ma_r n x s))))), ((a.1 2), .inr (2, [.int (sc 1)])), ((a.1 3), .inr (4, [.ref (a.1 6), .ref (a.1 4), .ref (a.1 5)])), ((a.1 4), .inl (cI, 4, .inl (f 1))), ((a.1 5), .inl (cI, 4, .inl (f 2))), ((a.1 6), .inl (cI, n, .inl (f 3)))] ++ (mw_G cI cG a n (2, sc, f, E, P, C) ++ mw_L cI cG a n (2, sc, f, E, P, C))) H := hP
      have hD : va_D A ([((a.1 0), .inr (1, [.ref (a.1 2), .ref (a.1 7), .ref (a.1 3), .ref (a.1 10), .ref (a.1 1), .int (nI (1)), .ref (a.1 2)])), ((a.1 1), .inl (cI, 2 ^ n, .inl (upd (f 0) s (nI (ma_r n x s))))), ((a.1 2), .inr (2, [.int (sc 1)])), ((a.1 3), .inr (4, [.ref (a.1 6), .ref (a.1 4), .ref (a.1 5)])), ((a.1 4), .inl (cI, 4, .inl (f 1))), ((a.1 5), .inl (cI, 4, .inl (f 2))), ((a.1 6), .inl (cI, n, .inl (f 3)))] ++ (mw_G cI cG a n (2, sc, f, E, P, C) ++ mw_L cI cG a n (2, sc, f, E, P, C))) := hD
      refine lv_aload_n hx hb nd_MA_rankOf_29 rfl (lv_at hl 0 rfl) ?_
      refine va_get (D := D) (C := nr_MA) (T := nt_MA) (N := 7) hx hb htg tf_MA hown hK hP 0 rfl rfl 4 (by decide) (htg _ tm_104) (fun _ h => h) rfl nd_MA_rankOf_30 ?_
      refine lv_iload_n hx hb nd_MA_rankOf_33 rfl (lv_at hl 1 rfl) ?_
      refine wi_iald hx hb hK hP 1 0 rfl rfl (by omega) (by omega) nd_MA_rankOf_34 ?_
      exact wb_iret ((2, va_up sc 0 (nI 1), va_up f 0 (upd (f 0) s (nI (ma_r n x s))), E, P, C)) hx hb hr hk hAe (⟨by simp [upd], hI.1, hI.2.1, ma_put hI.2.2.1, fun q => absurd q (nI_ne0 (n := 1) (by omega) (by omega))⟩) hP hD hS nd_MA_rankOf_35
    · have hkd : kd = 7 := hkd
      subst hkd
      have hv : ∀ i, i < n → x.2.2.1 i < 8 ∧ x.2.2.2.1 i < 8 := by rcases hI.1 with ⟨q, -⟩ | ⟨q, q2⟩ | ⟨q, -⟩ | ⟨q, -⟩ <;> first | exact q2 | omega
      refine wd_Ai (C := nr_GK) (owner := nr_KI) (x := ny_KI_findRank) (n := 1) (X := [((a.1 0), .inr (1, [.ref (a.1 2), .ref (a.1 7), .ref (a.1 3), .ref (a.1 10), .ref (a.1 1), .int (sc 0), .ref (a.1 7)])), ((a.1 1), .inl (cI, 2 ^ n, .inl (f 0))), ((a.1 2), .inr (2, [.int (sc 1)])), ((a.1 3), .inr (4, [.ref (a.1 6), .ref (a.1 4), .ref (a.1 5)])), ((a.1 4), .inl (cI, 4, .inl (f 1))), ((a.1 5), .inl (cI, 4, .inl (f 2))), ((a.1 6), .inl (cI, n, .inl (f 3)))]) (Y := mw_G cI cG a n (7, sc, f, E, P, C)) (Z := mw_L cI cG a n (7, sc, f, E, P, C)) hx hb hml hown htg (c_GK_findRank l D cI cG cM (a.1 7) (a.1 8) (a.1 9) n hn a.2.1 E (f 4) x.2.2.1 x.2.2.2.1 ho hv s (by omega) _) tm_278 tm_264 tm_266 tm_277 tm_276 tm_5 (tn_265 hN) (by decide +kernel) ⟨⟨Nat.le_trans (by decide) hRf, Nat.le_trans (by decide) hRl⟩, rfl, rfl⟩ hP hD hS hA hK hN (va_recv (q0 := 0) (ci := 3) hK (wm_P (X := [((a.1 0), .inr (1, [.ref (a.1 2), .ref (a.1 7), .ref (a.1 3), .ref (a.1 10), .ref (a.1 1), .int (sc 0), .ref (a.1 7)])), ((a.1 1), .inl (cI, 2 ^ n, .inl (f 0))), ((a.1 2), .inr (2, [.int (sc 1)])), ((a.1 3), .inr (4, [.ref (a.1 6), .ref (a.1 4), .ref (a.1 5)])), ((a.1 4), .inl (cI, 4, .inl (f 1))), ((a.1 5), .inl (cI, 4, .inl (f 2))), ((a.1 6), .inl (cI, n, .inl (f 3)))]) (Y := mw_G cI cG a n (7, sc, f, E, P, C)) (Z := mw_L cI cG a n (7, sc, f, E, P, C)) hP).2.1 rfl rfl) rfl hl.1 rfl (Nat.le_of_ble_eq_true rfl) nd_MA_rankOf_20 hCS (fun v20 u20 H locs hp20 hP hD hS => ?_)
      have hrv : v20 = nI (ma_r n x s) := by rw [hp20, ma_r1 hq]
      have hP : va_P D cl_all ([((a.1 0), .inr (1, [.ref (a.1 2), .ref (a.1 7), .ref (a.1 3), .ref (a.1 10), .ref (a.1 1), .int (sc 0), .ref (a.1 7)])), ((a.1 1), .inl (cI, 2 ^ n, .inl (f 0))), ((a.1 2), .inr (2, [.int (sc 1)])), ((a.1 3), .inr (4, [.ref (a.1 6), .ref (a.1 4), .ref (a.1 5)])), ((a.1 4), .inl (cI, 4, .inl (f 1))), ((a.1 5), .inl (cI, 4, .inl (f 2))), ((a.1 6), .inl (cI, n, .inl (f 3)))] ++ (mw_G cI cG a n (7, sc, va_up f 4 u20, E, P, C) ++ mw_L cI cG a n (7, sc, f, E, P, C))) H := hP
      have hD : va_D A ([((a.1 0), .inr (1, [.ref (a.1 2), .ref (a.1 7), .ref (a.1 3), .ref (a.1 10), .ref (a.1 1), .int (sc 0), .ref (a.1 7)])), ((a.1 1), .inl (cI, 2 ^ n, .inl (f 0))), ((a.1 2), .inr (2, [.int (sc 1)])), ((a.1 3), .inr (4, [.ref (a.1 6), .ref (a.1 4), .ref (a.1 5)])), ((a.1 4), .inl (cI, 4, .inl (f 1))), ((a.1 5), .inl (cI, 4, .inl (f 2))), ((a.1 6), .inl (cI, n, .inl (f 3)))] ++ (mw_G cI cG a n (7, sc, va_up f 4 u20, E, P, C) ++ mw_L cI cG a n (7, sc, f, E, P, C))) := hD
      refine wi_top hrv ?_
      refine wi_iast hx hb hK hP hD hS 1 0 rfl rfl (by omega) (by omega) nd_MA_rankOf_23 (fun H locs hP hD hS => ?_)
      have hP : va_P D cl_all ([((a.1 0), .inr (1, [.ref (a.1 2), .ref (a.1 7), .ref (a.1 3), .ref (a.1 10), .ref (a.1 1), .int (sc 0), .ref (a.1 7)])), ((a.1 1), .inl (cI, 2 ^ n, .inl (upd (f 0) s (nI (ma_r n x s))))), ((a.1 2), .inr (2, [.int (sc 1)])), ((a.1 3), .inr (4, [.ref (a.1 6), .ref (a.1 4), .ref (a.1 5)])), ((a.1 4), .inl (cI, 4, .inl (f 1))), ((a.1 5), .inl (cI, 4, .inl (f 2))), ((a.1 6), .inl (cI, n, .inl (f 3)))] ++ (mw_G cI cG a n (7, sc, va_up f 4 u20, E, P, C) ++ mw_L cI cG a n (7, sc, f, E, P, C))) H := hP
      have hD : va_D A ([((a.1 0), .inr (1, [.ref (a.1 2), .ref (a.1 7), .ref (a.1 3), .ref (a.1 10), .ref (a.1 1), .int (sc 0), .ref (a.1 7)])), ((a.1 1), .inl (cI, 2 ^ n, .inl (upd (f 0) s (nI (ma_r n x s))))), ((a.1 2), .inr (2, [.int (sc 1)])), ((a.1 3), .inr (4, [.ref (a.1 6), .ref (a.1 4), .ref (a.1 5)])), ((a.1 4), .inl (cI, 4, .inl (f 1))), ((a.1 5), .inl (cI, 4, .inl (f 2))), ((a.1 6), .inl (cI, n, .inl (f 3)))] ++ (mw_G cI cG a n (7, sc, va_up f 4 u20, E, P, C) ++ mw_L cI cG a n (7, sc, f, E, P, C))) := hD
      refine lv_aload_n hx hb nd_MA_rankOf_24 rfl (lv_at hl 0 rfl) ?_
      refine wi_ic hx hb (a := 1) nd_MA_rankOf_25 ?_
      refine va_put (D := D) (C := nr_MA) (T := nt_MA) (N := 7) hx hb htg tf_MA nu_MA no_MA nn_MA hown hK hP hD hS 0 rfl rfl 5 (by decide) (htg _ tm_105) (fun _ h => h) rfl rfl rfl rfl (Nat.le_of_ble_eq_true rfl) nd_MA_rankOf_26 (fun H locs hP hD hS => ?_)
      have hP : va_P D cl_all ([((a.1 0), .inr (1, [.ref (a.1 2), .ref (a.1 7), .ref (a.1 3), .ref (a.1 10), .ref (a.1 1), .int (nI (1)), .ref (a.1 7)])), ((a.1 1), .inl (cI, 2 ^ n, .inl (upd (f 0) s (nI (ma_r n x s))))), ((a.1 2), .inr (2, [.int (sc 1)])), ((a.1 3), .inr (4, [.ref (a.1 6), .ref (a.1 4), .ref (a.1 5)])), ((a.1 4), .inl (cI, 4, .inl (f 1))), ((a.1 5), .inl (cI, 4, .inl (f 2))), ((a.1 6), .inl (cI, n, .inl (f 3)))] ++ (mw_G cI cG a n (7, sc, va_up f 4 u20, E, P, C) ++ mw_L cI cG a n (7, sc, f, E, P, C))) H := hP
      have hD : va_D A ([((a.1 0), .inr (1, [.ref (a.1 2), .ref (a.1 7), .ref (a.1 3), .ref (a.1 10), .ref (a.1 1), .int (nI (1)), .ref (a.1 7)])), ((a.1 1), .inl (cI, 2 ^ n, .inl (upd (f 0) s (nI (ma_r n x s))))), ((a.1 2), .inr (2, [.int (sc 1)])), ((a.1 3), .inr (4, [.ref (a.1 6), .ref (a.1 4), .ref (a.1 5)])), ((a.1 4), .inl (cI, 4, .inl (f 1))), ((a.1 5), .inl (cI, 4, .inl (f 2))), ((a.1 6), .inl (cI, n, .inl (f 3)))] ++ (mw_G cI cG a n (7, sc, va_up f 4 u20, E, P, C) ++ mw_L cI cG a n (7, sc, f, E, P, C))) := hD
      refine lv_aload_n hx hb nd_MA_rankOf_29 rfl (lv_at hl 0 rfl) ?_
      refine va_get (D := D) (C := nr_MA) (T := nt_MA) (N := 7) hx hb htg tf_MA hown hK hP 0 rfl rfl 4 (by decide) (htg _ tm_104) (fun _ h => h) rfl nd_MA_rankOf_30 ?_
      refine lv_iload_n hx hb nd_MA_rankOf_33 rfl (lv_at hl 1 rfl) ?_
      refine wi_iald hx hb hK hP 1 0 rfl rfl (by omega) (by omega) nd_MA_rankOf_34 ?_
      exact wb_iret ((7, va_up sc 0 (nI 1), va_up (va_up f 4 u20) 0 (upd (f 0) s (nI (ma_r n x s))), E, P, C)) hx hb hr hk hAe (⟨by simp [upd], hI.1, hI.2.1, ma_put hI.2.2.1, fun q => absurd q (nI_ne0 (n := 1) (by omega) (by omega))⟩) hP hD hS nd_MA_rankOf_35
    · have hkd : kd = 3 := hkd
      subst hkd
      have hv : (∀ i, i < n → x.2.2.2.2.1 i < 4) ∧ ∀ c, c < 4 → x.2.2.2.2.2.1 c ≤ 10 := by rcases hI.1 with ⟨q, -⟩ | ⟨q, -⟩ | ⟨q, q2⟩ | ⟨q, -⟩ <;> first | exact q2 | omega
      refine wd_Ai (C := nr_CK) (owner := nr_KI) (x := ny_KI_findRank) (n := 1) (X := [((a.1 0), .inr (1, [.ref (a.1 2), .ref (a.1 7), .ref (a.1 3), .ref (a.1 10), .ref (a.1 1), .int (sc 0), .ref (a.1 3)])), ((a.1 1), .inl (cI, 2 ^ n, .inl (f 0))), ((a.1 2), .inr (2, [.int (sc 1)]))]) (Y := [((a.1 3), .inr (4, [.ref (a.1 6), .ref (a.1 4), .ref (a.1 5)])), ((a.1 4), .inl (cI, 4, .inl (f 1))), ((a.1 5), .inl (cI, 4, .inl (f 2))), ((a.1 6), .inl (cI, n, .inl (f 3)))]) (Z := (mw_G cI cG a n (3, sc, f, E, P, C) ++ mw_L cI cG a n (3, sc, f, E, P, C))) hx hb hml hown htg (c_CK_findRank l D cI cG cM (a.1 3) (a.1 4) (a.1 5) (a.1 6) n hn (f 2) x.2.2.2.2.1 x.2.2.2.2.2.1 (f 3) (f 1) ho hv.1 ho2 hv.2 s (by omega) _) tm_269 tm_264 tm_266 tm_268 tm_267 tm_6 (tn_265 hN) (by decide +kernel) ⟨⟨Nat.le_trans (by decide) hRf, Nat.le_trans (by decide) hRl⟩, rfl, rfl⟩ hP hD hS hA hK hN (va_recv (q0 := 3) (ci := 4) hK hP rfl rfl) rfl hl.1 rfl (Nat.le_of_ble_eq_true rfl) nd_MA_rankOf_20 hCS (fun v20 u20 H locs hp20 hP hD hS => ?_)
      have hrv : v20 = nI (ma_r n x s) := by rw [hp20, ma_r2 hq]
      have hP : va_P D cl_all ([((a.1 0), .inr (1, [.ref (a.1 2), .ref (a.1 7), .ref (a.1 3), .ref (a.1 10), .ref (a.1 1), .int (sc 0), .ref (a.1 3)])), ((a.1 1), .inl (cI, 2 ^ n, .inl (f 0))), ((a.1 2), .inr (2, [.int (sc 1)])), ((a.1 3), .inr (4, [.ref (a.1 6), .ref (a.1 4), .ref (a.1 5)])), ((a.1 4), .inl (cI, 4, .inl (f 1))), ((a.1 5), .inl (cI, 4, .inl u20)), ((a.1 6), .inl (cI, n, .inl (f 3)))] ++ (mw_G cI cG a n (3, sc, f, E, P, C) ++ mw_L cI cG a n (3, sc, f, E, P, C))) H := hP
      have hD : va_D A ([((a.1 0), .inr (1, [.ref (a.1 2), .ref (a.1 7), .ref (a.1 3), .ref (a.1 10), .ref (a.1 1), .int (sc 0), .ref (a.1 3)])), ((a.1 1), .inl (cI, 2 ^ n, .inl (f 0))), ((a.1 2), .inr (2, [.int (sc 1)])), ((a.1 3), .inr (4, [.ref (a.1 6), .ref (a.1 4), .ref (a.1 5)])), ((a.1 4), .inl (cI, 4, .inl (f 1))), ((a.1 5), .inl (cI, 4, .inl u20)), ((a.1 6), .inl (cI, n, .inl (f 3)))] ++ (mw_G cI cG a n (3, sc, f, E, P, C) ++ mw_L cI cG a n (3, sc, f, E, P, C))) := hD
      refine wi_top hrv ?_
      refine wi_iast hx hb hK hP hD hS 1 0 rfl rfl (by omega) (by omega) nd_MA_rankOf_23 (fun H locs hP hD hS => ?_)
      have hP : va_P D cl_all ([((a.1 0), .inr (1, [.ref (a.1 2), .ref (a.1 7), .ref (a.1 3), .ref (a.1 10), .ref (a.1 1), .int (sc 0), .ref (a.1 3)])), ((a.1 1), .inl (cI, 2 ^ n, .inl (upd (f 0) s (nI (ma_r n x s))))), ((a.1 2), .inr (2, [.int (sc 1)])), ((a.1 3), .inr (4, [.ref (a.1 6), .ref (a.1 4), .ref (a.1 5)])), ((a.1 4), .inl (cI, 4, .inl (f 1))), ((a.1 5), .inl (cI, 4, .inl u20)), ((a.1 6), .inl (cI, n, .inl (f 3)))] ++ (mw_G cI cG a n (3, sc, f, E, P, C) ++ mw_L cI cG a n (3, sc, f, E, P, C))) H := hP
      have hD : va_D A ([((a.1 0), .inr (1, [.ref (a.1 2), .ref (a.1 7), .ref (a.1 3), .ref (a.1 10), .ref (a.1 1), .int (sc 0), .ref (a.1 3)])), ((a.1 1), .inl (cI, 2 ^ n, .inl (upd (f 0) s (nI (ma_r n x s))))), ((a.1 2), .inr (2, [.int (sc 1)])), ((a.1 3), .inr (4, [.ref (a.1 6), .ref (a.1 4), .ref (a.1 5)])), ((a.1 4), .inl (cI, 4, .inl (f 1))), ((a.1 5), .inl (cI, 4, .inl u20)), ((a.1 6), .inl (cI, n, .inl (f 3)))] ++ (mw_G cI cG a n (3, sc, f, E, P, C) ++ mw_L cI cG a n (3, sc, f, E, P, C))) := hD
      refine lv_aload_n hx hb nd_MA_rankOf_24 rfl (lv_at hl 0 rfl) ?_
      refine wi_ic hx hb (a := 1) nd_MA_rankOf_25 ?_
      refine va_put (D := D) (C := nr_MA) (T := nt_MA) (N := 7) hx hb htg tf_MA nu_MA no_MA nn_MA hown hK hP hD hS 0 rfl rfl 5 (by decide) (htg _ tm_105) (fun _ h => h) rfl rfl rfl rfl (Nat.le_of_ble_eq_true rfl) nd_MA_rankOf_26 (fun H locs hP hD hS => ?_)
      have hP : va_P D cl_all ([((a.1 0), .inr (1, [.ref (a.1 2), .ref (a.1 7), .ref (a.1 3), .ref (a.1 10), .ref (a.1 1), .int (nI (1)), .ref (a.1 3)])), ((a.1 1), .inl (cI, 2 ^ n, .inl (upd (f 0) s (nI (ma_r n x s))))), ((a.1 2), .inr (2, [.int (sc 1)])), ((a.1 3), .inr (4, [.ref (a.1 6), .ref (a.1 4), .ref (a.1 5)])), ((a.1 4), .inl (cI, 4, .inl (f 1))), ((a.1 5), .inl (cI, 4, .inl u20)), ((a.1 6), .inl (cI, n, .inl (f 3)))] ++ (mw_G cI cG a n (3, sc, f, E, P, C) ++ mw_L cI cG a n (3, sc, f, E, P, C))) H := hP
      have hD : va_D A ([((a.1 0), .inr (1, [.ref (a.1 2), .ref (a.1 7), .ref (a.1 3), .ref (a.1 10), .ref (a.1 1), .int (nI (1)), .ref (a.1 3)])), ((a.1 1), .inl (cI, 2 ^ n, .inl (upd (f 0) s (nI (ma_r n x s))))), ((a.1 2), .inr (2, [.int (sc 1)])), ((a.1 3), .inr (4, [.ref (a.1 6), .ref (a.1 4), .ref (a.1 5)])), ((a.1 4), .inl (cI, 4, .inl (f 1))), ((a.1 5), .inl (cI, 4, .inl u20)), ((a.1 6), .inl (cI, n, .inl (f 3)))] ++ (mw_G cI cG a n (3, sc, f, E, P, C) ++ mw_L cI cG a n (3, sc, f, E, P, C))) := hD
      refine lv_aload_n hx hb nd_MA_rankOf_29 rfl (lv_at hl 0 rfl) ?_
      refine va_get (D := D) (C := nr_MA) (T := nt_MA) (N := 7) hx hb htg tf_MA hown hK hP 0 rfl rfl 4 (by decide) (htg _ tm_104) (fun _ h => h) rfl nd_MA_rankOf_30 ?_
      refine lv_iload_n hx hb nd_MA_rankOf_33 rfl (lv_at hl 1 rfl) ?_
      refine wi_iald hx hb hK hP 1 0 rfl rfl (by omega) (by omega) nd_MA_rankOf_34 ?_
      exact wb_iret ((3, va_up sc 0 (nI 1), va_up (va_up f 2 u20) 0 (upd (f 0) s (nI (ma_r n x s))), E, P, C)) hx hb hr hk hAe (⟨by simp [upd], hI.1, hI.2.1, ma_put hI.2.2.1, fun q => absurd q (nI_ne0 (n := 1) (by omega) (by omega))⟩) hP hD hS nd_MA_rankOf_35
    · have hkd : kd = 10 := hkd
      subst hkd
      have ho : sc 2 = nI x.2.2.2.2.2.2.1 := ho
      have hv : (x.2.2.2.2.2.2.1 = 2 ∨ x.2.2.2.2.2.2.1 = 3 ∨ x.2.2.2.2.2.2.1 = 5 ∨ x.2.2.2.2.2.2.1 = 7) ∧ ∀ e, e < n → ∀ i, i < 4 → x.2.2.2.2.2.2.2 e i < x.2.2.2.2.2.2.1 := by rcases hI.1 with ⟨q, -⟩ | ⟨q, -⟩ | ⟨q, -⟩ | ⟨q, q2⟩ <;> first | exact q2 | omega
      have ho2 : ∀ e, e < n → ∀ i, i < 4 → C e i = nI (x.2.2.2.2.2.2.2 e i) := ho2
      have hcv : ∀ e, e < n → ∀ i, i < 4 → (C e i).toInt = (x.2.2.2.2.2.2.2 e i : Int) := fun e he i hi => by have := hv.2 e he i hi; rw [ho2 e he i hi, nI_toInt (by omega)]
      rw [mw_Lp ho, mw_rot] at hP hD
      refine wd_Ai (C := nr_LK) (owner := nr_KI) (x := ny_KI_findRank) (n := 1) (X := _) (Y := ([(a.1 10, .inr (5, [.ref (a.1 13), .ref (a.1 11), .ref (a.1 12), .int (nI x.2.2.2.2.2.2.1)])), (a.1 11, .inl (cG, 4, .inr (.inr (.inr (.inr (fun i => if i < 4 then some (a.2.2.1 i) else none)))))), (a.1 12, .inl (cI, 4, .inl (f 5))), (a.1 13, .inl (cG, n, .inr (.inr (.inr (.inr (fun i => if i < n then some (a.2.2.2 i) else none))))))] ++ (rw_R cI 4 a.2.2.1 P 4 ++ (rw_R cI 4 a.2.2.2 C n ++ [])))) (Z := []) hx hb hml hown htg (c_LK_findRank l D cI cG cM (a.1 10) (a.1 11) (a.1 12) (a.1 13) n hn a.2.2.1 a.2.2.2 C x.2.2.2.2.2.2.1 hv.1 P (f 5) s (by omega) (fun e he i hi => by have := hv.2 e he i hi; rw [hcv e he i hi]; omega) _) tm_286 tm_264 tm_266 tm_285 tm_284 tm_7 (tn_265 hN) (by decide +kernel) ⟨⟨Nat.le_trans (by decide) hRf, Nat.le_trans (by decide) hRl⟩, rfl, rfl⟩ hP hD hS hA hK hN (va_recv (q0 := 0) (ci := 5) hK (wm_P (Y := ([(a.1 10, .inr (5, [.ref (a.1 13), .ref (a.1 11), .ref (a.1 12), .int (nI x.2.2.2.2.2.2.1)])), (a.1 11, .inl (cG, 4, .inr (.inr (.inr (.inr (fun i => if i < 4 then some (a.2.2.1 i) else none)))))), (a.1 12, .inl (cI, 4, .inl (f 5))), (a.1 13, .inl (cG, n, .inr (.inr (.inr (.inr (fun i => if i < n then some (a.2.2.2 i) else none))))))] ++ (rw_R cI 4 a.2.2.1 P 4 ++ (rw_R cI 4 a.2.2.2 C n ++ [])))) (Z := []) hP).2.1 rfl rfl) rfl hl.1 rfl (Nat.le_of_ble_eq_true rfl) nd_MA_rankOf_20 hCS (fun v20 u20 H locs hp20 hP hD hS => ?_)
      have hrv : v20 = nI (ma_r n x s) := by rw [hp20, ma_r3 hq]; exact congrArg nI (ml_r_ext (fun e he i hi => hcv e he i hi) s)
      rw [← mw_rot] at hP hD
      have hP : va_P D cl_all ([((a.1 0), .inr (1, [.ref (a.1 2), .ref (a.1 7), .ref (a.1 3), .ref (a.1 10), .ref (a.1 1), .int (sc 0), .ref (a.1 10)])), ((a.1 1), .inl (cI, 2 ^ n, .inl (f 0))), ((a.1 2), .inr (2, [.int (sc 1)])), ((a.1 3), .inr (4, [.ref (a.1 6), .ref (a.1 4), .ref (a.1 5)])), ((a.1 4), .inl (cI, 4, .inl (f 1))), ((a.1 5), .inl (cI, 4, .inl (f 2))), ((a.1 6), .inl (cI, n, .inl (f 3)))] ++ (mw_G cI cG a n (10, sc, f, E, P, C) ++ mw_L cI cG a n (10, sc, va_up f 5 u20.2, E, u20.1, C))) H := by rw [mw_Lp (sc := sc) (f := va_up f 5 u20.2) ho]; exact hP
      have hD : va_D A ([((a.1 0), .inr (1, [.ref (a.1 2), .ref (a.1 7), .ref (a.1 3), .ref (a.1 10), .ref (a.1 1), .int (sc 0), .ref (a.1 10)])), ((a.1 1), .inl (cI, 2 ^ n, .inl (f 0))), ((a.1 2), .inr (2, [.int (sc 1)])), ((a.1 3), .inr (4, [.ref (a.1 6), .ref (a.1 4), .ref (a.1 5)])), ((a.1 4), .inl (cI, 4, .inl (f 1))), ((a.1 5), .inl (cI, 4, .inl (f 2))), ((a.1 6), .inl (cI, n, .inl (f 3)))] ++ (mw_G cI cG a n (10, sc, f, E, P, C) ++ mw_L cI cG a n (10, sc, va_up f 5 u20.2, E, u20.1, C))) := by rw [mw_Lp (sc := sc) (f := va_up f 5 u20.2) ho]; exact hD
      refine wi_top hrv ?_
      refine wi_iast hx hb hK hP hD hS 1 0 rfl rfl (by omega) (by omega) nd_MA_rankOf_23 (fun H locs hP hD hS => ?_)
      have hP : va_P D cl_all ([((a.1 0), .inr (1, [.ref (a.1 2), .ref (a.1 7), .ref (a.1 3), .ref (a.1 10), .ref (a.1 1), .int (sc 0), .ref (a.1 10)])), ((a.1 1), .inl (cI, 2 ^ n, .inl (upd (f 0) s (nI (ma_r n x s))))), ((a.1 2), .inr (2, [.int (sc 1)])), ((a.1 3), .inr (4, [.ref (a.1 6), .ref (a.1 4), .ref (a.1 5)])), ((a.1 4), .inl (cI, 4, .inl (f 1))), ((a.1 5), .inl (cI, 4, .inl (f 2))), ((a.1 6), .inl (cI, n, .inl (f 3)))] ++ (mw_G cI cG a n (10, sc, f, E, P, C) ++ mw_L cI cG a n (10, sc, va_up f 5 u20.2, E, u20.1, C))) H := hP
      have hD : va_D A ([((a.1 0), .inr (1, [.ref (a.1 2), .ref (a.1 7), .ref (a.1 3), .ref (a.1 10), .ref (a.1 1), .int (sc 0), .ref (a.1 10)])), ((a.1 1), .inl (cI, 2 ^ n, .inl (upd (f 0) s (nI (ma_r n x s))))), ((a.1 2), .inr (2, [.int (sc 1)])), ((a.1 3), .inr (4, [.ref (a.1 6), .ref (a.1 4), .ref (a.1 5)])), ((a.1 4), .inl (cI, 4, .inl (f 1))), ((a.1 5), .inl (cI, 4, .inl (f 2))), ((a.1 6), .inl (cI, n, .inl (f 3)))] ++ (mw_G cI cG a n (10, sc, f, E, P, C) ++ mw_L cI cG a n (10, sc, va_up f 5 u20.2, E, u20.1, C))) := hD
      refine lv_aload_n hx hb nd_MA_rankOf_24 rfl (lv_at hl 0 rfl) ?_
      refine wi_ic hx hb (a := 1) nd_MA_rankOf_25 ?_
      refine va_put (D := D) (C := nr_MA) (T := nt_MA) (N := 7) hx hb htg tf_MA nu_MA no_MA nn_MA hown hK hP hD hS 0 rfl rfl 5 (by decide) (htg _ tm_105) (fun _ h => h) rfl rfl rfl rfl (Nat.le_of_ble_eq_true rfl) nd_MA_rankOf_26 (fun H locs hP hD hS => ?_)
      have hP : va_P D cl_all ([((a.1 0), .inr (1, [.ref (a.1 2), .ref (a.1 7), .ref (a.1 3), .ref (a.1 10), .ref (a.1 1), .int (nI (1)), .ref (a.1 10)])), ((a.1 1), .inl (cI, 2 ^ n, .inl (upd (f 0) s (nI (ma_r n x s))))), ((a.1 2), .inr (2, [.int (sc 1)])), ((a.1 3), .inr (4, [.ref (a.1 6), .ref (a.1 4), .ref (a.1 5)])), ((a.1 4), .inl (cI, 4, .inl (f 1))), ((a.1 5), .inl (cI, 4, .inl (f 2))), ((a.1 6), .inl (cI, n, .inl (f 3)))] ++ (mw_G cI cG a n (10, sc, f, E, P, C) ++ mw_L cI cG a n (10, sc, va_up f 5 u20.2, E, u20.1, C))) H := hP
      have hD : va_D A ([((a.1 0), .inr (1, [.ref (a.1 2), .ref (a.1 7), .ref (a.1 3), .ref (a.1 10), .ref (a.1 1), .int (nI (1)), .ref (a.1 10)])), ((a.1 1), .inl (cI, 2 ^ n, .inl (upd (f 0) s (nI (ma_r n x s))))), ((a.1 2), .inr (2, [.int (sc 1)])), ((a.1 3), .inr (4, [.ref (a.1 6), .ref (a.1 4), .ref (a.1 5)])), ((a.1 4), .inl (cI, 4, .inl (f 1))), ((a.1 5), .inl (cI, 4, .inl (f 2))), ((a.1 6), .inl (cI, n, .inl (f 3)))] ++ (mw_G cI cG a n (10, sc, f, E, P, C) ++ mw_L cI cG a n (10, sc, va_up f 5 u20.2, E, u20.1, C))) := hD
      refine lv_aload_n hx hb nd_MA_rankOf_29 rfl (lv_at hl 0 rfl) ?_
      refine va_get (D := D) (C := nr_MA) (T := nt_MA) (N := 7) hx hb htg tf_MA hown hK hP 0 rfl rfl 4 (by decide) (htg _ tm_104) (fun _ h => h) rfl nd_MA_rankOf_30 ?_
      refine lv_iload_n hx hb nd_MA_rankOf_33 rfl (lv_at hl 1 rfl) ?_
      refine wi_iald hx hb hK hP 1 0 rfl rfl (by omega) (by omega) nd_MA_rankOf_34 ?_
      exact wb_iret ((10, va_up sc 0 (nI 1), va_up (va_up f 5 u20.2) 0 (upd (f 0) s (nI (ma_r n x s))), E, u20.1, C)) hx hb hr hk hAe (⟨by simp [upd], hI.1, hI.2.1, ma_put hI.2.2.1, fun q => absurd q (nI_ne0 (n := 1) (by omega) (by omega))⟩) hP hD hS nd_MA_rankOf_35
theorem nd_MA_isIndependent_0 : decode nc_MA_isIndependent 0 = .ok (.aload_n 0, 1) := by decide +kernel
theorem nd_MA_isIndependent_1 : decode nc_MA_isIndependent 1 = .ok (.iload_n 1, 1) := by decide +kernel
theorem nd_MA_isIndependent_2 : decode nc_MA_isIndependent 2 = .ok (.invokevirtual 86, 3) := by decide +kernel
theorem nd_MA_isIndependent_5 : decode nc_MA_isIndependent 5 = .ok (.iload_n 1, 1) := by decide +kernel
theorem nd_MA_isIndependent_6 : decode nc_MA_isIndependent 6 = .ok (.invokestatic 90, 3) := by decide +kernel
theorem nd_MA_isIndependent_9 : decode nc_MA_isIndependent 9 = .ok (.if_icmp .ne 7, 3) := by decide +kernel
theorem nd_MA_isIndependent_12 : decode nc_MA_isIndependent 12 = .ok (.iconst 1, 1) := by decide +kernel
theorem nd_MA_isIndependent_13 : decode nc_MA_isIndependent 13 = .ok (.goto 4, 3) := by decide +kernel
theorem nd_MA_isIndependent_16 : decode nc_MA_isIndependent 16 = .ok (.iconst 0, 1) := by decide +kernel
theorem nd_MA_isIndependent_17 : decode nc_MA_isIndependent 17 = .ok (.ireturn, 1) := by decide +kernel
set_option maxRecDepth 20000 in
theorem c_MA_isIndependent (l : Launch) (D : va_G) (cI cG cM : ClassId)  (a : ma_A) (n : Nat) (hn : n ≤ 10) (kd : Nat) (sc : Nat → Int32) (f E P C : Nat → Nat → Int32) (x : ma_T) (hI : ma_I n x (kd, sc, f, E, P, C)) (s : Nat) (hs : s < 2 ^ n) (sz : Nat) : wb_Mi l ny_MA_isIndependent nc_MA_isIndependent 2 (some .boolean) ({ frames := 5, cells := 0, slots := 0, locals := 112 }) D (ty_all cI cG cM) (mw_ cI cG a n (kd, sc, f, E, P, C)) sz [.ref (a.1 0), .int (nI (s))] (fun (v : Int32) (u : ma_S) => (ma_r n x s = mt_cd n s → v = nI 1) ∧ (¬ ma_r n x s = mt_cd n s → v = nI 0) ∧ ma_I n x u) (fun u : ma_S => mw_ cI cG a n u) := by
  refine wb_start (S := ma_S) (by decide) (Nat.le_of_ble_eq_true rfl) ?_
  intro p e0 s0 m below meth c ls A hx hb hr hml htg hown hk hP hK hN hl hAe hsz hD hA
  have hl : lv_has ls 2 [(0, .ref (a.1 0)), (1, .int (nI (s)))] := hl
  have hP : va_P D cl_all ([((a.1 0), .inr (1, [.ref (a.1 2), .ref (a.1 7), .ref (a.1 3), .ref (a.1 10), .ref (a.1 1), .int (sc 0), .ref (a.1 kd)])), ((a.1 1), .inl (cI, 2 ^ n, .inl (f 0))), ((a.1 2), .inr (2, [.int (sc 1)])), ((a.1 3), .inr (4, [.ref (a.1 6), .ref (a.1 4), .ref (a.1 5)])), ((a.1 4), .inl (cI, 4, .inl (f 1))), ((a.1 5), .inl (cI, 4, .inl (f 2))), ((a.1 6), .inl (cI, n, .inl (f 3)))] ++ (mw_G cI cG a n (kd, sc, f, E, P, C) ++ mw_L cI cG a n (kd, sc, f, E, P, C))) s0.heap := hP
  have hD : va_D A ([((a.1 0), .inr (1, [.ref (a.1 2), .ref (a.1 7), .ref (a.1 3), .ref (a.1 10), .ref (a.1 1), .int (sc 0), .ref (a.1 kd)])), ((a.1 1), .inl (cI, 2 ^ n, .inl (f 0))), ((a.1 2), .inr (2, [.int (sc 1)])), ((a.1 3), .inr (4, [.ref (a.1 6), .ref (a.1 4), .ref (a.1 5)])), ((a.1 4), .inl (cI, 4, .inl (f 1))), ((a.1 5), .inl (cI, 4, .inl (f 2))), ((a.1 6), .inl (cI, n, .inl (f 3)))] ++ (mw_G cI cG a n (kd, sc, f, E, P, C) ++ mw_L cI cG a n (kd, sc, f, E, P, C))) := hD
  have hS : va_S A s0.heap s0.heap [] := va_S.rf
  have hRf : 5 ≤ ({ frames := 5, cells := 0, slots := 0, locals := 112 } : Room).frames := Nat.le_refl _
  have hRl : 112 ≤ ({ frames := 5, cells := 0, slots := 0, locals := 112 } : Room).locals := Nat.le_refl _
  have hCS : 0 ≤ ({ frames := 5, cells := 0, slots := 0, locals := 112 } : Room).cells ∧ 0 ≤ ({ frames := 5, cells := 0, slots := 0, locals := 112 } : Room).slots := ⟨Nat.zero_le _, Nat.zero_le _⟩
  have h2n : 2 ^ n ≤ 1024 := Nat.pow_le_pow_right (by omega) hn
  refine lv_aload_n hx hb nd_MA_isIndependent_0 rfl (lv_at hl 0 rfl) ?_
  refine lv_iload_n hx hb nd_MA_isIndependent_1 rfl (lv_at hl 1 rfl) ?_
  refine wd_Vi0 (C := nr_MA) (n := 1) (Y := mw_ cI cG a n (kd, sc, f, E, P, C)) hx hb hml hown htg (c_MA_rankOf l D cI cG cM a n hn kd sc f E P C x hI s hs _) tm_263 tm_260 tm_261 tm_262 tm_2 (by decide +kernel) ⟨⟨Nat.le_trans (by decide) hRf, Nat.le_trans (by decide) hRl⟩, rfl, rfl⟩ hP hD hS hA hK hN (va_recv (q0 := 0) (ci := 1) hK hP rfl rfl) rfl hl.1 rfl (Nat.le_of_ble_eq_true rfl) nd_MA_isIndependent_2 hCS (fun v2 u2 H locs hp2 hP hD hS => ?_)
  refine wi_top hp2.1 ?_
  have hrl := mt_le_cd (ma_M hI.1) hs
  have hcl := mt_cd_le n s
  refine lv_iload_n hx hb nd_MA_isIndependent_5 rfl (lv_at hl 1 rfl) ?_
  refine wc_S (n := 1) hx hb hml hown htg (c_IN_bitCount l D _ s (by omega)) tm_304 tm_309 tm_303 tm_12 (by decide +kernel) ⟨⟨Nat.le_trans (by decide) hRf, Nat.le_trans (by decide) hRl⟩, rfl, rfl⟩ (wa_pre wa_nil hK hN) rfl hl.1 rfl (Nat.le_of_ble_eq_true rfl) nd_MA_isIndependent_6 hCS ?_
  have hcd6 := mt_cd_le 10 s
  refine wi_icmp_ne (tgt := 16) hx hb (by omega) (by omega) nd_MA_isIndependent_9 rfl (fun hc9 => ?_) (fun hc9 => ?_)
  · refine wi_ic hx hb (a := 0) nd_MA_isIndependent_16 ?_
    exact wb_zret u2 hx hb hr hk rfl hAe (⟨fun q => absurd (q.trans (bs_cd10 hn hs).symm) hc9, fun _ => rfl, hp2.2⟩) hP hD hS nd_MA_isIndependent_17
  · refine wi_ic hx hb (a := 1) nd_MA_isIndependent_12 ?_
    refine lv_goto (tgt := 17) hx hb nd_MA_isIndependent_13 rfl ?_
    exact wb_zret u2 hx hb hr hk rfl hAe (⟨fun _ => rfl, fun q => absurd ((bs_cd10 hn hs) ▸ hc9) q, hp2.2⟩) hP hD hS nd_MA_isIndependent_17
