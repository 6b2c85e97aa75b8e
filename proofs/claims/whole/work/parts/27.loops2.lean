/-! The class: joint, largest, common, best, circuit. -/
theorem co_t {n : Nat} {y : cb_Y} {s : Nat} : co_ n y s = true ↔ (ma_r n y.2.1 s = mt_cd n s ∧ ma_r n y.2.2 s = mt_cd n s) := by unfold co_; simp
theorem oi_none {o : Option Nat} (h : ∀ b, o = some b → b < 2 ^ 31) : oi_ o = -2 ↔ o = none := by
  cases o with
  | none => simp [oi_]
  | some b =>
    simp only [oi_]
    constructor
    · intro q
      have h1 := nI_toInt (h b rfl)
      rw [q] at h1
      have h2 : (-2 : Int32).toInt = -2 := by decide
      omega
    · intro q; cases q
theorem ms_F_eq {v w : Nat → Int32} {t k : Nat} (h : ∀ e, e < k → v e = w e) : ms_F v t k = ms_F w t k := by
  induction k with
  | zero => rfl
  | succ k ih =>
    have h1 := ih (fun e he => h e (by omega))
    simp only [ms_F]
    by_cases q : k = 0
    · simp [q]
    · have hF := ms_F_lt w t k (by omega)
      rw [if_neg q, if_neg q, h1, h (ms_F w t k) (by omega), h k (by omega)]
theorem nd_CB_joint_0 : decode nc_CB_joint 0 = .ok (.aload_n 0, 1) := by decide +kernel
theorem nd_CB_joint_1 : decode nc_CB_joint 1 = .ok (.aload_n 0, 1) := by decide +kernel
theorem nd_CB_joint_2 : decode nc_CB_joint 2 = .ok (.invokevirtual 100, 3) := by decide +kernel
theorem nd_CB_joint_5 : decode nc_CB_joint 5 = .ok (.invokevirtual 104, 3) := by decide +kernel
theorem nd_CB_joint_8 : decode nc_CB_joint 8 = .ok (.ireturn, 1) := by decide +kernel
set_option maxRecDepth 20000 in
theorem c_CB_joint (l : Launch) (D : va_G) (cI cG cM : ClassId)  (q : Nat → Nat) (n : Nat) (hn1 : 1 ≤ n) (hn : n ≤ 10) (mr : Nat → Option Nat) (a0 a1 : ma_A) (hm0 : mr 0 = some (a0.1 0)) (hm1 : mr 1 = some (a1.1 0)) (w : Nat → Int32) (t0 t1 : ma_S) (y : cb_Y) (hI : cb_I n y (w, t0, t1))  (sz : Nat) : wb_Mi l ny_CB_joint nc_CB_joint 1 (some .int) ({ frames := 7, cells := 0, slots := 0, locals := 157 }) D (ty_all cI cG cM) (cw_ cI cG cM q n mr a0 a1 (w, t0, t1)) sz [.ref (q 0)] (fun (v : Int32) (u : cb_S) => v = nI (h2_ n y (fi_ (h2_ n y) (2 ^ n - 1))) ∧ cb_I n y u) (fun u : cb_S => cw_ cI cG cM q n mr a0 a1 u) := by
  refine wb_start (S := cb_S) (by decide) (Nat.le_of_ble_eq_true rfl) ?_
  intro p e0 s0 m below meth c ls A hx hb hr hml htg hown hk hP hK hN hl hAe hsz hD hA
  have hl : lv_has ls 1 [(0, .ref (q 0))] := hl
  have hP : va_P D cl_all ([((q 0), .inr (0, [.int (nI (n)), .int (nI (2 ^ n - 1)), .ref (q 1), .ref (q 2)])), ((q 1), .inl (cI, n, .inl w)), ((q 2), .inl (cM, 2, .inr (.inr (.inr (.inr mr)))))] ++ (mw_ cI cG a0 n t0 ++ (mw_ cI cG a1 n t1 ++ []))) s0.heap := hP
  have hD : va_D A ([((q 0), .inr (0, [.int (nI (n)), .int (nI (2 ^ n - 1)), .ref (q 1), .ref (q 2)])), ((q 1), .inl (cI, n, .inl w)), ((q 2), .inl (cM, 2, .inr (.inr (.inr (.inr mr)))))] ++ (mw_ cI cG a0 n t0 ++ (mw_ cI cG a1 n t1 ++ []))) := hD
  have hS : va_S A s0.heap s0.heap [] := va_S.rf
  have hRf : 7 ≤ ({ frames := 7, cells := 0, slots := 0, locals := 157 } : Room).frames := Nat.le_refl _
  have hRl : 157 ≤ ({ frames := 7, cells := 0, slots := 0, locals := 157 } : Room).locals := Nat.le_refl _
  have hCS : 0 ≤ ({ frames := 7, cells := 0, slots := 0, locals := 157 } : Room).cells ∧ 0 ≤ ({ frames := 7, cells := 0, slots := 0, locals := 157 } : Room).slots := ⟨Nat.zero_le _, Nat.zero_le _⟩
  have h2n : 2 ^ n ≤ 1024 := Nat.pow_le_pow_right (by omega) hn
  have h2p : 1 ≤ 2 ^ n := Nat.one_le_two_pow
  have hI0 : ma_I n y.2.1 t0 := hI.2.1
  have hI1 : ma_I n y.2.2 t1 := hI.2.2
  have hwb := hI.1
  refine lv_aload_n hx hb nd_CB_joint_0 rfl (lv_at hl 0 rfl) ?_
  refine lv_aload_n hx hb nd_CB_joint_1 rfl (lv_at hl 0 rfl) ?_
  refine wd_Vi0 (C := nr_CB) (n := 0) (Y := cw_ cI cG cM q n mr a0 a1 (w, t0, t1)) hx hb hml hown htg (c_CB_jointWitness l D cI cG cM q n hn1 hn mr a0 a1 hm0 hm1 w t0 t1 y ⟨hwb, hI0, hI1⟩  _) tm_368 tm_365 tm_366 tm_367 tm_1 (by decide +kernel) ⟨⟨Nat.le_trans (by decide) hRf, Nat.le_trans (by decide) hRl⟩, rfl, rfl⟩ hP hD hS hA hK hN (va_recv (q0 := 0) (ci := 0) hK hP rfl rfl) rfl hl.1 rfl (Nat.le_of_ble_eq_true rfl) nd_CB_joint_2 hCS (fun v2 u2 H locs hp2 hP hD hS => ?_)
  have hP : va_P D cl_all ([((q 0), .inr (0, [.int (nI (n)), .int (nI (2 ^ n - 1)), .ref (q 1), .ref (q 2)])), ((q 1), .inl (cI, n, .inl u2.1)), ((q 2), .inl (cM, 2, .inr (.inr (.inr (.inr mr)))))] ++ (mw_ cI cG a0 n u2.2.1 ++ (mw_ cI cG a1 n u2.2.2 ++ []))) H := hP
  have hD : va_D A ([((q 0), .inr (0, [.int (nI (n)), .int (nI (2 ^ n - 1)), .ref (q 1), .ref (q 2)])), ((q 1), .inl (cI, n, .inl u2.1)), ((q 2), .inl (cM, 2, .inr (.inr (.inr (.inr mr)))))] ++ (mw_ cI cG a0 n u2.2.1 ++ (mw_ cI cG a1 n u2.2.2 ++ []))) := hD
  refine wi_top hp2.1 ?_
  have hfl := fi_le (h2_ n y) (2 ^ n - 1)
  refine wd_Vi0 (C := nr_CB) (n := 1) (Y := cw_ cI cG cM q n mr a0 a1 (u2.1, u2.2.1, u2.2.2)) hx hb hml hown htg (c_CB_jointBound l D cI cG cM q n hn1 hn mr a0 a1 hm0 hm1 u2.1 u2.2.1 u2.2.2 y ⟨hp2.2.1, hp2.2.2.1, hp2.2.2.2⟩ (fi_ (h2_ n y) (2 ^ n - 1)) (by omega) _) tm_372 tm_369 tm_371 tp_11 tm_1 (by decide +kernel) ⟨⟨Nat.le_trans (by decide) hRf, Nat.le_trans (by decide) hRl⟩, rfl, rfl⟩ hP hD hS hA hK hN (va_recv (q0 := 0) (ci := 0) hK hP rfl rfl) rfl hl.1 rfl (Nat.le_of_ble_eq_true rfl) nd_CB_joint_5 hCS (fun v5 u5 H locs hp5 hP hD hS => ?_)
  have hP : va_P D cl_all ([((q 0), .inr (0, [.int (nI (n)), .int (nI (2 ^ n - 1)), .ref (q 1), .ref (q 2)])), ((q 1), .inl (cI, n, .inl u5.1)), ((q 2), .inl (cM, 2, .inr (.inr (.inr (.inr mr)))))] ++ (mw_ cI cG a0 n u5.2.1 ++ (mw_ cI cG a1 n u5.2.2 ++ []))) H := hP
  have hD : va_D A ([((q 0), .inr (0, [.int (nI (n)), .int (nI (2 ^ n - 1)), .ref (q 1), .ref (q 2)])), ((q 1), .inl (cI, n, .inl u5.1)), ((q 2), .inl (cM, 2, .inr (.inr (.inr (.inr mr)))))] ++ (mw_ cI cG a0 n u5.2.1 ++ (mw_ cI cG a1 n u5.2.2 ++ []))) := hD
  exact wb_iret ((u5.1, u5.2.1, u5.2.2)) hx hb hr hk hAe (⟨hp5.1, ⟨hp5.2.1, hp5.2.2.1, hp5.2.2.2⟩⟩) hP hD hS nd_CB_joint_8
theorem nd_CB_largest_0 : decode nc_CB_largest 0 = .ok (.iconst 0, 1) := by decide +kernel
theorem nd_CB_largest_1 : decode nc_CB_largest 1 = .ok (.istore_n 1, 1) := by decide +kernel
theorem nd_CB_largest_2 : decode nc_CB_largest 2 = .ok (.iconst 0, 1) := by decide +kernel
theorem nd_CB_largest_3 : decode nc_CB_largest 3 = .ok (.istore_n 2, 1) := by decide +kernel
theorem nd_CB_largest_4 : decode nc_CB_largest 4 = .ok (.iload_n 2, 1) := by decide +kernel
theorem nd_CB_largest_5 : decode nc_CB_largest 5 = .ok (.aload_n 0, 1) := by decide +kernel
theorem nd_CB_largest_6 : decode nc_CB_largest 6 = .ok (.getfield 13, 3) := by decide +kernel
theorem nd_CB_largest_9 : decode nc_CB_largest 9 = .ok (.if_icmp .gt 30, 3) := by decide +kernel
theorem nd_CB_largest_12 : decode nc_CB_largest 12 = .ok (.iload_n 2, 1) := by decide +kernel
theorem nd_CB_largest_13 : decode nc_CB_largest 13 = .ok (.invokestatic 86, 3) := by decide +kernel
theorem nd_CB_largest_16 : decode nc_CB_largest 16 = .ok (.iload_n 1, 1) := by decide +kernel
theorem nd_CB_largest_17 : decode nc_CB_largest 17 = .ok (.if_icmp .le 16, 3) := by decide +kernel
theorem nd_CB_largest_20 : decode nc_CB_largest 20 = .ok (.aload_n 0, 1) := by decide +kernel
theorem nd_CB_largest_21 : decode nc_CB_largest 21 = .ok (.iload_n 2, 1) := by decide +kernel
theorem nd_CB_largest_22 : decode nc_CB_largest 22 = .ok (.invokevirtual 91, 3) := by decide +kernel
theorem nd_CB_largest_25 : decode nc_CB_largest 25 = .ok (.ifCond .eq 8, 3) := by decide +kernel
theorem nd_CB_largest_28 : decode nc_CB_largest 28 = .ok (.iload_n 2, 1) := by decide +kernel
theorem nd_CB_largest_29 : decode nc_CB_largest 29 = .ok (.invokestatic 86, 3) := by decide +kernel
theorem nd_CB_largest_32 : decode nc_CB_largest 32 = .ok (.istore_n 1, 1) := by decide +kernel
theorem nd_CB_largest_33 : decode nc_CB_largest 33 = .ok (.iinc 2 1, 3) := by decide +kernel
theorem nd_CB_largest_36 : decode nc_CB_largest 36 = .ok (.goto (-32), 3) := by decide +kernel
theorem nd_CB_largest_39 : decode nc_CB_largest 39 = .ok (.iload_n 1, 1) := by decide +kernel
theorem nd_CB_largest_40 : decode nc_CB_largest 40 = .ok (.ireturn, 1) := by decide +kernel
set_option maxRecDepth 20000 in
theorem lp_CB_largest {p : Program} {l : Launch} {e0 : Env} {R : Room} {s0 : State} {m : MethodId} {args : Array Value} {below : List Frame} {meth : Method} {c : Code} {cells slots : Nat} {Q : State → Prop} {D : va_G} {A : Nat → Prop} (cI cG cM : ClassId) (q : Nat → Nat) (n : Nat) (hn1 : 1 ≤ n) (hn : n ≤ 10) (mr : Nat → Option Nat) (a0 a1 : ma_A) (hm0 : mr 0 = some (a0.1 0)) (hm1 : mr 1 = some (a1.1 0)) (y : cb_Y)  (hx : p.tables.exec = Jvm.exec) (hb : c.code = nc_CB_largest) (hml : c.maxLocals = 3) (htg : ∀ w ∈ tg_, w.before args s0 = true) (hown : s0.vm.findClass ny_CB_largest.cls = some m.cls) (hK : va_K D cl_all (ty_all cI cG cM) s0) (hN : tn_K s0) (hA : ∀ q : Nat, s0.heap.size ≤ q → A q) (hRf : 7 ≤ R.frames) (hRl : 154 ≤ R.locals) (hCS : cells ≤ R.cells ∧ slots ≤ R.slots) (kx : ∀ (ls : Array Slot) (H : Heap) (locs : List Loc) (w : Nat → Int32) (t0 : ma_S) (t1 : ma_S), (∀ e, e < n → w e = y.1 e ∧ -1000000 ≤ (y.1 e).toInt ∧ (y.1 e).toInt ≤ 1000000) → (ma_I n y.2.1 t0) → (ma_I n y.2.2 t1) → lv_has ls 3 [(1, .int (nI (lg_ n y (2 ^ n))))] → va_P D cl_all ([((q 0), .inr (0, [.int (nI (n)), .int (nI (2 ^ n - 1)), .ref (q 1), .ref (q 2)])), ((q 1), .inl (cI, n, .inl w)), ((q 2), .inl (cM, 2, .inr (.inr (.inr (.inr mr)))))] ++ (mw_ cI cG a0 n t0 ++ (mw_ cI cG a1 n t1 ++ []))) H → va_D A ([((q 0), .inr (0, [.int (nI (n)), .int (nI (2 ^ n - 1)), .ref (q 1), .ref (q 2)])), ((q 1), .inl (cI, n, .inl w)), ((q 2), .inl (cM, 2, .inr (.inr (.inr (.inr mr)))))] ++ (mw_ cI cG a0 n t0 ++ (mw_ cI cG a1 n t1 ++ []))) → va_S A s0.heap H locs → W p l e0 R s0 m args below meth c H locs cells slots Q (F0 m 39 ls [])) : ∀ (f : Nat) (i : Nat) (w : Nat → Int32) (t0 : ma_S) (t1 : ma_S) (ls : Array Slot) (H : Heap) (locs : List Loc), 2 ^ n - i < f → (i ≤ 2 ^ n) → (∀ e, e < n → w e = y.1 e ∧ -1000000 ≤ (y.1 e).toInt ∧ (y.1 e).toInt ≤ 1000000) → (ma_I n y.2.1 t0) → (ma_I n y.2.2 t1) → lv_has ls 3 [(2, .int (nI (i))), (1, .int (nI (lg_ n y i))), (0, .ref (q 0))] → va_P D cl_all ([((q 0), .inr (0, [.int (nI (n)), .int (nI (2 ^ n - 1)), .ref (q 1), .ref (q 2)])), ((q 1), .inl (cI, n, .inl w)), ((q 2), .inl (cM, 2, .inr (.inr (.inr (.inr mr)))))] ++ (mw_ cI cG a0 n t0 ++ (mw_ cI cG a1 n t1 ++ []))) H → va_D A ([((q 0), .inr (0, [.int (nI (n)), .int (nI (2 ^ n - 1)), .ref (q 1), .ref (q 2)])), ((q 1), .inl (cI, n, .inl w)), ((q 2), .inl (cM, 2, .inr (.inr (.inr (.inr mr)))))] ++ (mw_ cI cG a0 n t0 ++ (mw_ cI cG a1 n t1 ++ []))) → va_S A s0.heap H locs → W p l e0 R s0 m args below meth c H locs cells slots Q (F0 m 4 ls []) := by
  intro f
  induction f with
  | zero => intro i w t0 t1 ls H locs hfu; omega
  | succ f ih =>
    intro i w t0 t1 ls H locs hfu hi hwb hI0 hI1 hl hP hD hS
    have h2n : 2 ^ n ≤ 1024 := Nat.pow_le_pow_right (by omega) hn
    have h2p : 1 ≤ 2 ^ n := Nat.one_le_two_pow
    have hlgb := lg_le n y i
    refine lv_iload_n hx hb nd_CB_largest_4 rfl (lv_at hl 0 rfl) ?_
    refine lv_aload_n hx hb nd_CB_largest_5 rfl (lv_at hl 2 rfl) ?_
    refine va_get (D := D) (C := nr_CB) (T := nt_CB) (N := 4) hx hb htg tf_CB hown hK hP 0 rfl rfl 1 (by decide) (htg _ tm_123) (fun _ h => h) rfl nd_CB_largest_6 ?_
    refine wi_icmp_gt (tgt := 39) hx hb (by omega) (by omega) nd_CB_largest_9 rfl (fun hc9 => ?_) (fun hc9 => ?_)
    · have hl : lv_has ls 3 [(1, .int (nI (lg_ n y i)))] := lv_sub hl [1] rfl
      have hin : i = 2 ^ n := by omega
      exact kx ls H locs w t0 t1 hwb hI0 hI1 (by simpa only [hin] using hl) hP hD hS
    · refine lv_iload_n hx hb nd_CB_largest_12 rfl (lv_at hl 0 rfl) ?_
      refine wc_S (n := 1) hx hb hml hown htg (c_IN_bitCount l D _ i (by omega)) tm_304 tm_336 tm_303 tm_12 (by decide +kernel) ⟨⟨Nat.le_trans (by decide) hRf, Nat.le_trans (by decide) hRl⟩, rfl, rfl⟩ (wa_pre wa_nil hK hN) rfl hl.1 rfl (Nat.le_of_ble_eq_true rfl) nd_CB_largest_13 hCS ?_
      have hcd13 := mt_cd_le 10 i
      refine lv_iload_n hx hb nd_CB_largest_16 rfl (lv_at hl 1 rfl) ?_
      refine wi_icmp_le (tgt := 33) hx hb (by omega) (by omega) nd_CB_largest_17 rfl (fun hc17 => ?_) (fun hc17 => ?_)
      · refine lv_iinc (k := 0) (v := nI (i + 1)) hx hb nd_CB_largest_33 hl rfl (wi_inc _ 1) (by decide) rfl (fun ls hl => ?_)
        have hl : lv_has ls 3 [(2, .int (nI (i + 1))), (1, .int (nI (lg_ n y i))), (0, .ref (q 0))] := hl
        refine lv_goto (tgt := 4) hx hb nd_CB_largest_36 rfl ?_
        have hl : lv_has ls 3 [(2, .int (nI (i + 1))), (1, .int (nI (lg_ n y i))), (0, .ref (q 0))] := lv_sub hl [0, 1, 2] rfl
        have hlg : lg_ n y (i + 1) = lg_ n y i := if_neg (fun z => by omega)
        exact ih (i + 1) w t0 t1 ls H locs (by omega) (by omega) hwb hI0 hI1 (by rw [hlg]; exact hl) hP hD hS
      · refine lv_aload_n hx hb nd_CB_largest_20 rfl (lv_at hl 2 rfl) ?_
        refine lv_iload_n hx hb nd_CB_largest_21 rfl (lv_at hl 0 rfl) ?_
        refine wd_Vi0 (C := nr_CB) (n := 1) (Y := cw_ cI cG cM q n mr a0 a1 (w, t0, t1)) hx hb hml hown htg (c_CB_isCommon l D cI cG cM q n hn1 hn mr a0 a1 hm0 hm1 w t0 t1 y ⟨hwb, hI0, hI1⟩ i (by omega) _) tm_340 tm_337 tm_339 tp_8 tm_1 (by decide +kernel) ⟨⟨Nat.le_trans (by decide) hRf, Nat.le_trans (by decide) hRl⟩, rfl, rfl⟩ hP hD hS hA hK hN (va_recv (q0 := 0) (ci := 0) hK hP rfl rfl) rfl hl.1 rfl (Nat.le_of_ble_eq_true rfl) nd_CB_largest_22 hCS (fun v22 u22 H locs hp22 hP hD hS => ?_)
        have hP : va_P D cl_all ([((q 0), .inr (0, [.int (nI (n)), .int (nI (2 ^ n - 1)), .ref (q 1), .ref (q 2)])), ((q 1), .inl (cI, n, .inl u22.1)), ((q 2), .inl (cM, 2, .inr (.inr (.inr (.inr mr)))))] ++ (mw_ cI cG a0 n u22.2.1 ++ (mw_ cI cG a1 n u22.2.2 ++ []))) H := hP
        have hD : va_D A ([((q 0), .inr (0, [.int (nI (n)), .int (nI (2 ^ n - 1)), .ref (q 1), .ref (q 2)])), ((q 1), .inl (cI, n, .inl u22.1)), ((q 2), .inl (cM, 2, .inr (.inr (.inr (.inr mr)))))] ++ (mw_ cI cG a0 n u22.2.1 ++ (mw_ cI cG a1 n u22.2.2 ++ []))) := hD
        refine lv_if_eq (tgt := 33) hx hb nd_CB_largest_25 rfl (fun hc25 => ?_) (fun hc25 => ?_)
        · refine lv_iinc (k := 0) (v := nI (i + 1)) hx hb nd_CB_largest_33 hl rfl (wi_inc _ 1) (by decide) rfl (fun ls hl => ?_)
          have hl : lv_has ls 3 [(2, .int (nI (i + 1))), (1, .int (nI (lg_ n y i))), (0, .ref (q 0))] := hl
          refine lv_goto (tgt := 4) hx hb nd_CB_largest_36 rfl ?_
          have hl : lv_has ls 3 [(2, .int (nI (i + 1))), (1, .int (nI (lg_ n y i))), (0, .ref (q 0))] := lv_sub hl [0, 1, 2] rfl
          have hlg : lg_ n y (i + 1) = lg_ n y i := if_neg (fun z => nI_ne0 (n := 1) (by omega) (by omega) ((hp22.1 (co_t.mp z.2)).symm.trans hc25))
          exact ih (i + 1) u22.1 u22.2.1 u22.2.2 ls H locs (by omega) (by omega) hp22.2.2.1 hp22.2.2.2.1 hp22.2.2.2.2 (by rw [hlg]; exact hl) hP hD hS
        · refine lv_iload_n hx hb nd_CB_largest_28 rfl (lv_at hl 0 rfl) ?_
          refine wc_S (n := 1) hx hb hml hown htg (c_IN_bitCount l D _ i (by omega)) tm_304 tm_336 tm_303 tm_12 (by decide +kernel) ⟨⟨Nat.le_trans (by decide) hRf, Nat.le_trans (by decide) hRl⟩, rfl, rfl⟩ (wa_pre wa_nil hK hN) rfl hl.1 rfl (Nat.le_of_ble_eq_true rfl) nd_CB_largest_29 hCS ?_
          have hcd29 := mt_cd_le 10 i
          refine lv_istore_n hx hb nd_CB_largest_32 rfl hl (by decide) rfl (fun ls hl => ?_)
          have hl : lv_has ls 3 [(1, .int (nI (mt_cd 10 i))), (2, .int (nI (i))), (0, .ref (q 0))] := hl
          refine lv_iinc (k := 1) (v := nI (i + 1)) hx hb nd_CB_largest_33 hl rfl (wi_inc _ 1) (by decide) rfl (fun ls hl => ?_)
          have hl : lv_has ls 3 [(2, .int (nI (i + 1))), (1, .int (nI (mt_cd 10 i))), (0, .ref (q 0))] := hl
          refine lv_goto (tgt := 4) hx hb nd_CB_largest_36 rfl ?_
          have hl : lv_has ls 3 [(2, .int (nI (i + 1))), (1, .int (nI (mt_cd 10 i))), (0, .ref (q 0))] := lv_sub hl [0, 1, 2] rfl
          have hlg : lg_ n y (i + 1) = mt_cd 10 i := if_pos ⟨by omega, co_t.mpr (Classical.byContradiction fun z => hc25 ((hp22.2.1 z).trans nI_0))⟩
          exact ih (i + 1) u22.1 u22.2.1 u22.2.2 ls H locs (by omega) (by omega) hp22.2.2.1 hp22.2.2.2.1 hp22.2.2.2.2 (by rw [hlg]; exact hl) hP hD hS
set_option maxRecDepth 20000 in
theorem c_CB_largest (l : Launch) (D : va_G) (cI cG cM : ClassId)  (q : Nat → Nat) (n : Nat) (hn1 : 1 ≤ n) (hn : n ≤ 10) (mr : Nat → Option Nat) (a0 a1 : ma_A) (hm0 : mr 0 = some (a0.1 0)) (hm1 : mr 1 = some (a1.1 0)) (w : Nat → Int32) (t0 t1 : ma_S) (y : cb_Y) (hI : cb_I n y (w, t0, t1))  (sz : Nat) : wb_Mi l ny_CB_largest nc_CB_largest 3 (some .int) ({ frames := 7, cells := 0, slots := 0, locals := 154 }) D (ty_all cI cG cM) (cw_ cI cG cM q n mr a0 a1 (w, t0, t1)) sz [.ref (q 0)] (fun (v : Int32) (u : cb_S) => v = nI (lg_ n y (2 ^ n)) ∧ cb_I n y u) (fun u : cb_S => cw_ cI cG cM q n mr a0 a1 u) := by
  refine wb_start (S := cb_S) (by decide) (Nat.le_of_ble_eq_true rfl) ?_
  intro p e0 s0 m below meth c ls A hx hb hr hml htg hown hk hP hK hN hl hAe hsz hD hA
  have hl : lv_has ls 3 [(0, .ref (q 0))] := hl
  have hP : va_P D cl_all ([((q 0), .inr (0, [.int (nI (n)), .int (nI (2 ^ n - 1)), .ref (q 1), .ref (q 2)])), ((q 1), .inl (cI, n, .inl w)), ((q 2), .inl (cM, 2, .inr (.inr (.inr (.inr mr)))))] ++ (mw_ cI cG a0 n t0 ++ (mw_ cI cG a1 n t1 ++ []))) s0.heap := hP
  have hD : va_D A ([((q 0), .inr (0, [.int (nI (n)), .int (nI (2 ^ n - 1)), .ref (q 1), .ref (q 2)])), ((q 1), .inl (cI, n, .inl w)), ((q 2), .inl (cM, 2, .inr (.inr (.inr (.inr mr)))))] ++ (mw_ cI cG a0 n t0 ++ (mw_ cI cG a1 n t1 ++ []))) := hD
  have hS : va_S A s0.heap s0.heap [] := va_S.rf
  have hRf : 7 ≤ ({ frames := 7, cells := 0, slots := 0, locals := 154 } : Room).frames := Nat.le_refl _
  have hRl : 154 ≤ ({ frames := 7, cells := 0, slots := 0, locals := 154 } : Room).locals := Nat.le_refl _
  have hCS : 0 ≤ ({ frames := 7, cells := 0, slots := 0, locals := 154 } : Room).cells ∧ 0 ≤ ({ frames := 7, cells := 0, slots := 0, locals := 154 } : Room).slots := ⟨Nat.zero_le _, Nat.zero_le _⟩
  have h2n : 2 ^ n ≤ 1024 := Nat.pow_le_pow_right (by omega) hn
  have h2p : 1 ≤ 2 ^ n := Nat.one_le_two_pow
  have hI0 : ma_I n y.2.1 t0 := hI.2.1
  have hI1 : ma_I n y.2.2 t1 := hI.2.2
  have hwb := hI.1
  refine wi_ic hx hb (a := 0) nd_CB_largest_0 ?_
  refine lv_istore_n hx hb nd_CB_largest_1 rfl hl (by decide) rfl (fun ls hl => ?_)
  have hl : lv_has ls 3 [(1, .int (nI (0))), (0, .ref (q 0))] := hl
  refine wi_ic hx hb (a := 0) nd_CB_largest_2 ?_
  refine lv_istore_n hx hb nd_CB_largest_3 rfl hl (by decide) rfl (fun ls hl => ?_)
  have hl : lv_has ls 3 [(2, .int (nI (0))), (1, .int (nI (0))), (0, .ref (q 0))] := hl
  have hl : lv_has ls 3 [(2, .int (nI (0))), (1, .int (nI (0))), (0, .ref (q 0))] := lv_sub hl [0, 1, 2] rfl
  refine lp_CB_largest cI cG cM q n hn1 hn mr a0 a1 hm0 hm1 y hx hb hml htg hown hK hN hA hRf hRl hCS (fun ls H locs w t0 t1 hwb hI0 hI1 hl hP hD hS => ?_) (2 ^ n + 1) 0 w t0 t1 ls s0.heap [] (by omega) (by omega) hwb hI0 hI1 hl hP hD hS
  refine lv_iload_n hx hb nd_CB_largest_39 rfl (lv_at hl 0 rfl) ?_
  exact wb_iret (w, t0, t1) hx hb hr hk hAe (⟨rfl, hwb, hI0, hI1⟩) hP hD hS nd_CB_largest_40
theorem nd_CB_common_0 : decode nc_CB_common 0 = .ok (.bipush (-2), 2) := by decide +kernel
theorem nd_CB_common_2 : decode nc_CB_common 2 = .ok (.istore_n 2, 1) := by decide +kernel
theorem nd_CB_common_3 : decode nc_CB_common 3 = .ok (.iconst 0, 1) := by decide +kernel
theorem nd_CB_common_4 : decode nc_CB_common 4 = .ok (.istore_n 3, 1) := by decide +kernel
theorem nd_CB_common_5 : decode nc_CB_common 5 = .ok (.iconst 0, 1) := by decide +kernel
theorem nd_CB_common_6 : decode nc_CB_common 6 = .ok (.istore 4, 2) := by decide +kernel
theorem nd_CB_common_8 : decode nc_CB_common 8 = .ok (.iload 4, 2) := by decide +kernel
theorem nd_CB_common_10 : decode nc_CB_common 10 = .ok (.aload_n 0, 1) := by decide +kernel
theorem nd_CB_common_11 : decode nc_CB_common 11 = .ok (.getfield 13, 3) := by decide +kernel
theorem nd_CB_common_14 : decode nc_CB_common 14 = .ok (.if_icmp .gt 53, 3) := by decide +kernel
theorem nd_CB_common_17 : decode nc_CB_common 17 = .ok (.iload 4, 2) := by decide +kernel
theorem nd_CB_common_19 : decode nc_CB_common 19 = .ok (.invokestatic 86, 3) := by decide +kernel
theorem nd_CB_common_22 : decode nc_CB_common 22 = .ok (.iload_n 1, 1) := by decide +kernel
theorem nd_CB_common_23 : decode nc_CB_common 23 = .ok (.if_icmp .ne 38, 3) := by decide +kernel
theorem nd_CB_common_26 : decode nc_CB_common 26 = .ok (.aload_n 0, 1) := by decide +kernel
theorem nd_CB_common_27 : decode nc_CB_common 27 = .ok (.iload 4, 2) := by decide +kernel
theorem nd_CB_common_29 : decode nc_CB_common 29 = .ok (.invokevirtual 91, 3) := by decide +kernel
theorem nd_CB_common_32 : decode nc_CB_common 32 = .ok (.ifCond .eq 29, 3) := by decide +kernel
theorem nd_CB_common_35 : decode nc_CB_common 35 = .ok (.aload_n 0, 1) := by decide +kernel
theorem nd_CB_common_36 : decode nc_CB_common 36 = .ok (.iload 4, 2) := by decide +kernel
theorem nd_CB_common_38 : decode nc_CB_common 38 = .ok (.invokevirtual 94, 3) := by decide +kernel
theorem nd_CB_common_41 : decode nc_CB_common 41 = .ok (.istore 5, 2) := by decide +kernel
theorem nd_CB_common_43 : decode nc_CB_common 43 = .ok (.iload_n 2, 1) := by decide +kernel
theorem nd_CB_common_44 : decode nc_CB_common 44 = .ok (.bipush (-2), 2) := by decide +kernel
theorem nd_CB_common_46 : decode nc_CB_common 46 = .ok (.if_icmp .eq 9, 3) := by decide +kernel
theorem nd_CB_common_49 : decode nc_CB_common 49 = .ok (.iload 5, 2) := by decide +kernel
theorem nd_CB_common_51 : decode nc_CB_common 51 = .ok (.iload_n 3, 1) := by decide +kernel
theorem nd_CB_common_52 : decode nc_CB_common 52 = .ok (.if_icmp .le 9, 3) := by decide +kernel
theorem nd_CB_common_55 : decode nc_CB_common 55 = .ok (.iload 4, 2) := by decide +kernel
theorem nd_CB_common_57 : decode nc_CB_common 57 = .ok (.istore_n 2, 1) := by decide +kernel
theorem nd_CB_common_58 : decode nc_CB_common 58 = .ok (.iload 5, 2) := by decide +kernel
theorem nd_CB_common_60 : decode nc_CB_common 60 = .ok (.istore_n 3, 1) := by decide +kernel
theorem nd_CB_common_61 : decode nc_CB_common 61 = .ok (.iinc 4 1, 3) := by decide +kernel
theorem nd_CB_common_64 : decode nc_CB_common 64 = .ok (.goto (-56), 3) := by decide +kernel
theorem nd_CB_common_67 : decode nc_CB_common 67 = .ok (.iload_n 2, 1) := by decide +kernel
theorem nd_CB_common_68 : decode nc_CB_common 68 = .ok (.ireturn, 1) := by decide +kernel
set_option maxRecDepth 20000 in
theorem lp_CB_common {p : Program} {l : Launch} {e0 : Env} {R : Room} {s0 : State} {m : MethodId} {args : Array Value} {below : List Frame} {meth : Method} {c : Code} {cells slots : Nat} {Q : State → Prop} {D : va_G} {A : Nat → Prop} (cI cG cM : ClassId) (q : Nat → Nat) (n : Nat) (hn1 : 1 ≤ n) (hn : n ≤ 10) (mr : Nat → Option Nat) (a0 a1 : ma_A) (hm0 : mr 0 = some (a0.1 0)) (hm1 : mr 1 = some (a1.1 0)) (y : cb_Y) (k : Int32)  (hx : p.tables.exec = Jvm.exec) (hb : c.code = nc_CB_common) (hml : c.maxLocals = 6) (htg : ∀ w ∈ tg_, w.before args s0 = true) (hown : s0.vm.findClass ny_CB_common.cls = some m.cls) (hK : va_K D cl_all (ty_all cI cG cM) s0) (hN : tn_K s0) (hA : ∀ q : Nat, s0.heap.size ≤ q → A q) (hRf : 7 ≤ R.frames) (hRl : 154 ≤ R.locals) (hCS : cells ≤ R.cells ∧ slots ≤ R.slots) (kx : ∀ (ls : Array Slot) (H : Heap) (locs : List Loc) (w : Nat → Int32) (t0 : ma_S) (t1 : ma_S), (∀ e, e < n → w e = y.1 e ∧ -1000000 ≤ (y.1 e).toInt ∧ (y.1 e).toInt ≤ 1000000) → (ma_I n y.2.1 t0) → (ma_I n y.2.2 t1) → lv_has ls 6 [(2, .int ((oi_ (cm_ n y k (2 ^ n)))))] → va_P D cl_all ([((q 0), .inr (0, [.int (nI (n)), .int (nI (2 ^ n - 1)), .ref (q 1), .ref (q 2)])), ((q 1), .inl (cI, n, .inl w)), ((q 2), .inl (cM, 2, .inr (.inr (.inr (.inr mr)))))] ++ (mw_ cI cG a0 n t0 ++ (mw_ cI cG a1 n t1 ++ []))) H → va_D A ([((q 0), .inr (0, [.int (nI (n)), .int (nI (2 ^ n - 1)), .ref (q 1), .ref (q 2)])), ((q 1), .inl (cI, n, .inl w)), ((q 2), .inl (cM, 2, .inr (.inr (.inr (.inr mr)))))] ++ (mw_ cI cG a0 n t0 ++ (mw_ cI cG a1 n t1 ++ []))) → va_S A s0.heap H locs → W p l e0 R s0 m args below meth c H locs cells slots Q (F0 m 67 ls [])) : ∀ (f : Nat) (i : Nat) (fw : Int32) (w : Nat → Int32) (t0 : ma_S) (t1 : ma_S) (ls : Array Slot) (H : Heap) (locs : List Loc), 2 ^ n - i < f → (i ≤ 2 ^ n) → (∀ b, cm_ n y k i = some b → fw = ms_W y.1 n b) → (∀ e, e < n → w e = y.1 e ∧ -1000000 ≤ (y.1 e).toInt ∧ (y.1 e).toInt ≤ 1000000) → (ma_I n y.2.1 t0) → (ma_I n y.2.2 t1) → lv_has ls 6 [(4, .int (nI (i))), (3, .int (fw)), (2, .int ((oi_ (cm_ n y k i)))), (0, .ref (q 0)), (1, .int (k))] → va_P D cl_all ([((q 0), .inr (0, [.int (nI (n)), .int (nI (2 ^ n - 1)), .ref (q 1), .ref (q 2)])), ((q 1), .inl (cI, n, .inl w)), ((q 2), .inl (cM, 2, .inr (.inr (.inr (.inr mr)))))] ++ (mw_ cI cG a0 n t0 ++ (mw_ cI cG a1 n t1 ++ []))) H → va_D A ([((q 0), .inr (0, [.int (nI (n)), .int (nI (2 ^ n - 1)), .ref (q 1), .ref (q 2)])), ((q 1), .inl (cI, n, .inl w)), ((q 2), .inl (cM, 2, .inr (.inr (.inr (.inr mr)))))] ++ (mw_ cI cG a0 n t0 ++ (mw_ cI cG a1 n t1 ++ []))) → va_S A s0.heap H locs → W p l e0 R s0 m args below meth c H locs cells slots Q (F0 m 8 ls []) := by
  intro f
  induction f with
  | zero => intro i fw w t0 t1 ls H locs hfu; omega
  | succ f ih =>
    intro i fw w t0 t1 ls H locs hfu hi hfw hwb hI0 hI1 hl hP hD hS
    have h2n : 2 ^ n ≤ 1024 := Nat.pow_le_pow_right (by omega) hn
    have h2p : 1 ≤ 2 ^ n := Nat.one_le_two_pow
    refine lv_iload hx hb nd_CB_common_8 (lv_at hl 0 rfl) ?_
    refine lv_aload_n hx hb nd_CB_common_10 rfl (lv_at hl 3 rfl) ?_
    refine va_get (D := D) (C := nr_CB) (T := nt_CB) (N := 4) hx hb htg tf_CB hown hK hP 0 rfl rfl 1 (by decide) (htg _ tm_123) (fun _ h => h) rfl nd_CB_common_11 ?_
    refine wi_icmp_gt (tgt := 67) hx hb (by omega) (by omega) nd_CB_common_14 rfl (fun hc14 => ?_) (fun hc14 => ?_)
    · have hl : lv_has ls 6 [(2, .int ((oi_ (cm_ n y k i))))] := lv_sub hl [2] rfl
      have hin : i = 2 ^ n := by omega
      exact kx ls H locs w t0 t1 hwb hI0 hI1 (by simpa only [hin] using hl) hP hD hS
    · refine lv_iload hx hb nd_CB_common_17 (lv_at hl 0 rfl) ?_
      refine wc_S (n := 1) hx hb hml hown htg (c_IN_bitCount l D _ i (by omega)) tm_304 tm_336 tm_303 tm_12 (by decide +kernel) ⟨⟨Nat.le_trans (by decide) hRf, Nat.le_trans (by decide) hRl⟩, rfl, rfl⟩ (wa_pre wa_nil hK hN) rfl hl.1 rfl (Nat.le_of_ble_eq_true rfl) nd_CB_common_19 hCS ?_
      have hcd19 := mt_cd_le 10 i
      refine lv_iload_n hx hb nd_CB_common_22 rfl (lv_at hl 4 rfl) ?_
      refine lv_icmp_ne (tgt := 61) hx hb nd_CB_common_23 rfl (fun hc23 => ?_) (fun hc23 => ?_)
      · refine lv_iinc (k := 0) (v := nI (i + 1)) hx hb nd_CB_common_61 hl rfl (wi_inc _ 1) (by decide) rfl (fun ls hl => ?_)
        have hl : lv_has ls 6 [(4, .int (nI (i + 1))), (3, .int (fw)), (2, .int ((oi_ (cm_ n y k i)))), (0, .ref (q 0)), (1, .int (k))] := hl
        refine lv_goto (tgt := 8) hx hb nd_CB_common_64 rfl ?_
        have hl : lv_has ls 6 [(4, .int (nI (i + 1))), (3, .int (fw)), (2, .int ((oi_ (cm_ n y k i)))), (0, .ref (q 0)), (1, .int (k))] := lv_sub hl [0, 1, 2, 3, 4] rfl
        have hcm : cm_ n y k (i + 1) = cm_ n y k i := if_neg (fun z => hc23 z.1)
        exact ih (i + 1) fw w t0 t1 ls H locs (by omega) (by omega) (by rw [hcm]; exact hfw) hwb hI0 hI1 (by rw [hcm]; exact hl) hP hD hS
      · refine lv_aload_n hx hb nd_CB_common_26 rfl (lv_at hl 3 rfl) ?_
        refine lv_iload hx hb nd_CB_common_27 (lv_at hl 0 rfl) ?_
        refine wd_Vi0 (C := nr_CB) (n := 1) (Y := cw_ cI cG cM q n mr a0 a1 (w, t0, t1)) hx hb hml hown htg (c_CB_isCommon l D cI cG cM q n hn1 hn mr a0 a1 hm0 hm1 w t0 t1 y ⟨hwb, hI0, hI1⟩ i (by omega) _) tm_340 tm_337 tm_339 tp_8 tm_1 (by decide +kernel) ⟨⟨Nat.le_trans (by decide) hRf, Nat.le_trans (by decide) hRl⟩, rfl, rfl⟩ hP hD hS hA hK hN (va_recv (q0 := 0) (ci := 0) hK hP rfl rfl) rfl hl.1 rfl (Nat.le_of_ble_eq_true rfl) nd_CB_common_29 hCS (fun v29 u29 H locs hp29 hP hD hS => ?_)
        have hP : va_P D cl_all ([((q 0), .inr (0, [.int (nI (n)), .int (nI (2 ^ n - 1)), .ref (q 1), .ref (q 2)])), ((q 1), .inl (cI, n, .inl u29.1)), ((q 2), .inl (cM, 2, .inr (.inr (.inr (.inr mr)))))] ++ (mw_ cI cG a0 n u29.2.1 ++ (mw_ cI cG a1 n u29.2.2 ++ []))) H := hP
        have hD : va_D A ([((q 0), .inr (0, [.int (nI (n)), .int (nI (2 ^ n - 1)), .ref (q 1), .ref (q 2)])), ((q 1), .inl (cI, n, .inl u29.1)), ((q 2), .inl (cM, 2, .inr (.inr (.inr (.inr mr)))))] ++ (mw_ cI cG a0 n u29.2.1 ++ (mw_ cI cG a1 n u29.2.2 ++ []))) := hD
        refine lv_if_eq (tgt := 61) hx hb nd_CB_common_32 rfl (fun hc32 => ?_) (fun hc32 => ?_)
        · refine lv_iinc (k := 0) (v := nI (i + 1)) hx hb nd_CB_common_61 hl rfl (wi_inc _ 1) (by decide) rfl (fun ls hl => ?_)
          have hl : lv_has ls 6 [(4, .int (nI (i + 1))), (3, .int (fw)), (2, .int ((oi_ (cm_ n y k i)))), (0, .ref (q 0)), (1, .int (k))] := hl
          refine lv_goto (tgt := 8) hx hb nd_CB_common_64 rfl ?_
          have hl : lv_has ls 6 [(4, .int (nI (i + 1))), (3, .int (fw)), (2, .int ((oi_ (cm_ n y k i)))), (0, .ref (q 0)), (1, .int (k))] := lv_sub hl [0, 1, 2, 3, 4] rfl
          have hcm : cm_ n y k (i + 1) = cm_ n y k i := if_neg (fun z => nI_ne0 (n := 1) (by omega) (by omega) ((hp29.1 (co_t.mp z.2)).symm.trans hc32))
          exact ih (i + 1) fw u29.1 u29.2.1 u29.2.2 ls H locs (by omega) (by omega) (by rw [hcm]; exact hfw) hp29.2.2.1 hp29.2.2.2.1 hp29.2.2.2.2 (by rw [hcm]; exact hl) hP hD hS
        · refine lv_aload_n hx hb nd_CB_common_35 rfl (lv_at hl 3 rfl) ?_
          refine lv_iload hx hb nd_CB_common_36 (lv_at hl 0 rfl) ?_
          refine wc_V (C := nr_CB) (n := 1) hx hb hml hown htg (c_CB_sumOfWeights l D cI cG cM (q 0) (q 1) (q 2) n hn u29.1 i (by omega)) tm_344 tm_341 tm_343 tp_9 tm_1 (by decide +kernel) ⟨⟨Nat.le_trans (by decide) hRf, Nat.le_trans (by decide) hRl⟩, rfl, rfl⟩ (wa_pre (hP.sub [0, 1] rfl) hK hN) (va_recv (q0 := 0) (ci := 0) hK hP rfl rfl) rfl hl.1 rfl (Nat.le_of_ble_eq_true rfl) nd_CB_common_38 hCS ?_
          refine wi_top (ms_W_eq (fun e he => (hp29.2.2.1 e he).1)) ?_
          refine lv_istore hx hb nd_CB_common_41 hl (by decide) rfl (fun ls hl => ?_)
          have hl : lv_has ls 6 [(5, .int ((ms_W y.1 n i))), (4, .int (nI (i))), (3, .int (fw)), (2, .int ((oi_ (cm_ n y k i)))), (0, .ref (q 0)), (1, .int (k))] := hl
          refine lv_iload_n hx hb nd_CB_common_43 rfl (lv_at hl 3 rfl) ?_
          refine lv_bipush (v := -2) hx hb nd_CB_common_44 (by decide) ?_
          refine lv_icmp_eq (tgt := 55) hx hb nd_CB_common_46 rfl (fun hc46 => ?_) (fun hc46 => ?_)
          · refine lv_iload hx hb nd_CB_common_55 (lv_at hl 1 rfl) ?_
            refine lv_istore_n hx hb nd_CB_common_57 rfl hl (by decide) rfl (fun ls hl => ?_)
            have hl : lv_has ls 6 [(2, .int (nI (i))), (5, .int ((ms_W y.1 n i))), (4, .int (nI (i))), (3, .int (fw)), (0, .ref (q 0)), (1, .int (k))] := hl
            refine lv_iload hx hb nd_CB_common_58 (lv_at hl 1 rfl) ?_
            refine lv_istore_n hx hb nd_CB_common_60 rfl hl (by decide) rfl (fun ls hl => ?_)
            have hl : lv_has ls 6 [(3, .int ((ms_W y.1 n i))), (2, .int (nI (i))), (5, .int ((ms_W y.1 n i))), (4, .int (nI (i))), (0, .ref (q 0)), (1, .int (k))] := hl
            refine lv_iinc (k := 3) (v := nI (i + 1)) hx hb nd_CB_common_61 hl rfl (wi_inc _ 1) (by decide) rfl (fun ls hl => ?_)
            have hl : lv_has ls 6 [(4, .int (nI (i + 1))), (3, .int ((ms_W y.1 n i))), (2, .int (nI (i))), (5, .int ((ms_W y.1 n i))), (0, .ref (q 0)), (1, .int (k))] := hl
            refine lv_goto (tgt := 8) hx hb nd_CB_common_64 rfl ?_
            have hl : lv_has ls 6 [(4, .int (nI (i + 1))), (3, .int ((ms_W y.1 n i))), (2, .int (nI (i))), (0, .ref (q 0)), (1, .int (k))] := lv_sub hl [0, 1, 2, 4, 5] rfl
            have hco : co_ n y i = true := co_t.mpr (Classical.byContradiction fun z => hc32 ((hp29.2.1 z).trans nI_0))
            have hlt := cm_lt n y k i
            have hst : cm_ n y k (i + 1) = (match cm_ n y k i with | none => some i | some b => if ms_W y.1 n i ≤ ms_W y.1 n b then some b else some i) := if_pos ⟨hc23, hco⟩
            have hno : cm_ n y k i = none := (oi_none (fun b hb => by have := hlt b hb; omega)).mp hc46
            have hcm : cm_ n y k (i + 1) = some i := by rw [hst, hno]
            exact ih (i + 1) (ms_W y.1 n i) u29.1 u29.2.1 u29.2.2 ls H locs (by omega) (by omega) (fun b hb => by rw [hcm] at hb; cases hb; rfl) hp29.2.2.1 hp29.2.2.2.1 hp29.2.2.2.2 (by rw [hcm]; exact hl) hP hD hS
          · refine lv_iload hx hb nd_CB_common_49 (lv_at hl 0 rfl) ?_
            refine lv_iload_n hx hb nd_CB_common_51 rfl (lv_at hl 2 rfl) ?_
            refine lv_icmp_le (tgt := 61) hx hb nd_CB_common_52 rfl (fun hc52 => ?_) (fun hc52 => ?_)
            · refine lv_iinc (k := 1) (v := nI (i + 1)) hx hb nd_CB_common_61 hl rfl (wi_inc _ 1) (by decide) rfl (fun ls hl => ?_)
              have hl : lv_has ls 6 [(4, .int (nI (i + 1))), (5, .int ((ms_W y.1 n i))), (3, .int (fw)), (2, .int ((oi_ (cm_ n y k i)))), (0, .ref (q 0)), (1, .int (k))] := hl
              refine lv_goto (tgt := 8) hx hb nd_CB_common_64 rfl ?_
              have hl : lv_has ls 6 [(4, .int (nI (i + 1))), (3, .int (fw)), (2, .int ((oi_ (cm_ n y k i)))), (0, .ref (q 0)), (1, .int (k))] := lv_sub hl [0, 2, 3, 4, 5] rfl
              have hco : co_ n y i = true := co_t.mpr (Classical.byContradiction fun z => hc32 ((hp29.2.1 z).trans nI_0))
              have hlt := cm_lt n y k i
              have hst : cm_ n y k (i + 1) = (match cm_ n y k i with | none => some i | some b => if ms_W y.1 n i ≤ ms_W y.1 n b then some b else some i) := if_pos ⟨hc23, hco⟩
              obtain ⟨b0, hb0⟩ : ∃ b, cm_ n y k i = some b := by cases hq0 : cm_ n y k i with | none => exact absurd (show oi_ none = -2 from rfl) (by rw [hq0] at hc46; exact hc46) | some b => exact ⟨b, rfl⟩
              have hfb := hfw b0 hb0
              have hcm : cm_ n y k (i + 1) = cm_ n y k i := by rw [hst, hb0]; exact if_pos (hfb ▸ hc52)
              exact ih (i + 1) fw u29.1 u29.2.1 u29.2.2 ls H locs (by omega) (by omega) (by rw [hcm]; exact hfw) hp29.2.2.1 hp29.2.2.2.1 hp29.2.2.2.2 (by rw [hcm]; exact hl) hP hD hS
            · refine lv_iload hx hb nd_CB_common_55 (lv_at hl 1 rfl) ?_
              refine lv_istore_n hx hb nd_CB_common_57 rfl hl (by decide) rfl (fun ls hl => ?_)
              have hl : lv_has ls 6 [(2, .int (nI (i))), (5, .int ((ms_W y.1 n i))), (4, .int (nI (i))), (3, .int (fw)), (0, .ref (q 0)), (1, .int (k))] := hl
              refine lv_iload hx hb nd_CB_common_58 (lv_at hl 1 rfl) ?_
              refine lv_istore_n hx hb nd_CB_common_60 rfl hl (by decide) rfl (fun ls hl => ?_)
              have hl : lv_has ls 6 [(3, .int ((ms_W y.1 n i))), (2, .int (nI (i))), (5, .int ((ms_W y.1 n i))), (4, .int (nI (i))), (0, .ref (q 0)), (1, .int (k))] := hl
              refine lv_iinc (k := 3) (v := nI (i + 1)) hx hb nd_CB_common_61 hl rfl (wi_inc _ 1) (by decide) rfl (fun ls hl => ?_)
              have hl : lv_has ls 6 [(4, .int (nI (i + 1))), (3, .int ((ms_W y.1 n i))), (2, .int (nI (i))), (5, .int ((ms_W y.1 n i))), (0, .ref (q 0)), (1, .int (k))] := hl
              refine lv_goto (tgt := 8) hx hb nd_CB_common_64 rfl ?_
              have hl : lv_has ls 6 [(4, .int (nI (i + 1))), (3, .int ((ms_W y.1 n i))), (2, .int (nI (i))), (0, .ref (q 0)), (1, .int (k))] := lv_sub hl [0, 1, 2, 4, 5] rfl
              have hco : co_ n y i = true := co_t.mpr (Classical.byContradiction fun z => hc32 ((hp29.2.1 z).trans nI_0))
              have hlt := cm_lt n y k i
              have hst : cm_ n y k (i + 1) = (match cm_ n y k i with | none => some i | some b => if ms_W y.1 n i ≤ ms_W y.1 n b then some b else some i) := if_pos ⟨hc23, hco⟩
              obtain ⟨b0, hb0⟩ : ∃ b, cm_ n y k i = some b := by cases hq0 : cm_ n y k i with | none => exact absurd (show oi_ none = -2 from rfl) (by rw [hq0] at hc46; exact hc46) | some b => exact ⟨b, rfl⟩
              have hfb := hfw b0 hb0
              have hcm : cm_ n y k (i + 1) = some i := by rw [hst, hb0]; exact if_neg (hfb ▸ hc52)
              exact ih (i + 1) (ms_W y.1 n i) u29.1 u29.2.1 u29.2.2 ls H locs (by omega) (by omega) (fun b hb => by rw [hcm] at hb; cases hb; rfl) hp29.2.2.1 hp29.2.2.2.1 hp29.2.2.2.2 (by rw [hcm]; exact hl) hP hD hS
set_option maxRecDepth 20000 in
theorem c_CB_common (l : Launch) (D : va_G) (cI cG cM : ClassId)  (q : Nat → Nat) (n : Nat) (hn1 : 1 ≤ n) (hn : n ≤ 10) (mr : Nat → Option Nat) (a0 a1 : ma_A) (hm0 : mr 0 = some (a0.1 0)) (hm1 : mr 1 = some (a1.1 0)) (w : Nat → Int32) (t0 t1 : ma_S) (y : cb_Y) (hI : cb_I n y (w, t0, t1)) (k : Int32) (sz : Nat) : wb_Mi l ny_CB_common nc_CB_common 6 (some .int) ({ frames := 7, cells := 0, slots := 0, locals := 154 }) D (ty_all cI cG cM) (cw_ cI cG cM q n mr a0 a1 (w, t0, t1)) sz [.ref (q 0), .int (k)] (fun (v : Int32) (u : cb_S) => v = sp_common n y k ∧ cb_I n y u) (fun u : cb_S => cw_ cI cG cM q n mr a0 a1 u) := by
  refine wb_start (S := cb_S) (by decide) (Nat.le_of_ble_eq_true rfl) ?_
  intro p e0 s0 m below meth c ls A hx hb hr hml htg hown hk hP hK hN hl hAe hsz hD hA
  have hl : lv_has ls 6 [(0, .ref (q 0)), (1, .int (k))] := hl
  have hP : va_P D cl_all ([((q 0), .inr (0, [.int (nI (n)), .int (nI (2 ^ n - 1)), .ref (q 1), .ref (q 2)])), ((q 1), .inl (cI, n, .inl w)), ((q 2), .inl (cM, 2, .inr (.inr (.inr (.inr mr)))))] ++ (mw_ cI cG a0 n t0 ++ (mw_ cI cG a1 n t1 ++ []))) s0.heap := hP
  have hD : va_D A ([((q 0), .inr (0, [.int (nI (n)), .int (nI (2 ^ n - 1)), .ref (q 1), .ref (q 2)])), ((q 1), .inl (cI, n, .inl w)), ((q 2), .inl (cM, 2, .inr (.inr (.inr (.inr mr)))))] ++ (mw_ cI cG a0 n t0 ++ (mw_ cI cG a1 n t1 ++ []))) := hD
  have hS : va_S A s0.heap s0.heap [] := va_S.rf
  have hRf : 7 ≤ ({ frames := 7, cells := 0, slots := 0, locals := 154 } : Room).frames := Nat.le_refl _
  have hRl : 154 ≤ ({ frames := 7, cells := 0, slots := 0, locals := 154 } : Room).locals := Nat.le_refl _
  have hCS : 0 ≤ ({ frames := 7, cells := 0, slots := 0, locals := 154 } : Room).cells ∧ 0 ≤ ({ frames := 7, cells := 0, slots := 0, locals := 154 } : Room).slots := ⟨Nat.zero_le _, Nat.zero_le _⟩
  have h2n : 2 ^ n ≤ 1024 := Nat.pow_le_pow_right (by omega) hn
  have h2p : 1 ≤ 2 ^ n := Nat.one_le_two_pow
  have hI0 : ma_I n y.2.1 t0 := hI.2.1
  have hI1 : ma_I n y.2.2 t1 := hI.2.2
  have hwb := hI.1
  refine lv_bipush (v := -2) hx hb nd_CB_common_0 (by decide) ?_
  refine lv_istore_n hx hb nd_CB_common_2 rfl hl (by decide) rfl (fun ls hl => ?_)
  have hl : lv_has ls 6 [(2, .int ((-2))), (0, .ref (q 0)), (1, .int (k))] := hl
  refine wi_ic hx hb (a := 0) nd_CB_common_3 ?_
  refine lv_istore_n hx hb nd_CB_common_4 rfl hl (by decide) rfl (fun ls hl => ?_)
  have hl : lv_has ls 6 [(3, .int (nI (0))), (2, .int ((-2))), (0, .ref (q 0)), (1, .int (k))] := hl
  refine wi_ic hx hb (a := 0) nd_CB_common_5 ?_
  refine lv_istore hx hb nd_CB_common_6 hl (by decide) rfl (fun ls hl => ?_)
  have hl : lv_has ls 6 [(4, .int (nI (0))), (3, .int (nI (0))), (2, .int ((-2))), (0, .ref (q 0)), (1, .int (k))] := hl
  have hl : lv_has ls 6 [(4, .int (nI (0))), (3, .int (nI (0))), (2, .int ((-2))), (0, .ref (q 0)), (1, .int (k))] := lv_sub hl [0, 1, 2, 3, 4] rfl
  refine lp_CB_common cI cG cM q n hn1 hn mr a0 a1 hm0 hm1 y k hx hb hml htg hown hK hN hA hRf hRl hCS (fun ls H locs w t0 t1 hwb hI0 hI1 hl hP hD hS => ?_) (2 ^ n + 1) 0 (nI 0) w t0 t1 ls s0.heap [] (by omega) (by omega) (fun b hb => by simp [cm_] at hb) hwb hI0 hI1 hl hP hD hS
  refine lv_iload_n hx hb nd_CB_common_67 rfl (lv_at hl 0 rfl) ?_
  exact wb_iret (w, t0, t1) hx hb hr hk hAe (⟨rfl, hwb, hI0, hI1⟩) hP hD hS nd_CB_common_68
theorem nd_CB_best_0 : decode nc_CB_best 0 = .ok (.iload_n 1, 1) := by decide +kernel
theorem nd_CB_best_1 : decode nc_CB_best 1 = .ok (.invokestatic 29, 3) := by decide +kernel
theorem nd_CB_best_4 : decode nc_CB_best 4 = .ok (.ifCond .ne 5, 3) := by decide +kernel
theorem nd_CB_best_7 : decode nc_CB_best 7 = .ok (.iconst (-1), 1) := by decide +kernel
theorem nd_CB_best_8 : decode nc_CB_best 8 = .ok (.ireturn, 1) := by decide +kernel
theorem nd_CB_best_9 : decode nc_CB_best 9 = .ok (.aload_n 0, 1) := by decide +kernel
theorem nd_CB_best_10 : decode nc_CB_best 10 = .ok (.getfield 25, 3) := by decide +kernel
theorem nd_CB_best_13 : decode nc_CB_best 13 = .ok (.iload_n 1, 1) := by decide +kernel
theorem nd_CB_best_14 : decode nc_CB_best 14 = .ok (.aaload, 1) := by decide +kernel
theorem nd_CB_best_15 : decode nc_CB_best 15 = .ok (.astore_n 2, 1) := by decide +kernel
theorem nd_CB_best_16 : decode nc_CB_best 16 = .ok (.iconst 0, 1) := by decide +kernel
theorem nd_CB_best_17 : decode nc_CB_best 17 = .ok (.istore_n 3, 1) := by decide +kernel
theorem nd_CB_best_18 : decode nc_CB_best 18 = .ok (.iconst 0, 1) := by decide +kernel
theorem nd_CB_best_19 : decode nc_CB_best 19 = .ok (.istore 4, 2) := by decide +kernel
theorem nd_CB_best_21 : decode nc_CB_best 21 = .ok (.iconst 0, 1) := by decide +kernel
theorem nd_CB_best_22 : decode nc_CB_best 22 = .ok (.istore 5, 2) := by decide +kernel
theorem nd_CB_best_24 : decode nc_CB_best 24 = .ok (.iload 5, 2) := by decide +kernel
theorem nd_CB_best_26 : decode nc_CB_best 26 = .ok (.aload_n 0, 1) := by decide +kernel
theorem nd_CB_best_27 : decode nc_CB_best 27 = .ok (.getfield 9, 3) := by decide +kernel
theorem nd_CB_best_30 : decode nc_CB_best 30 = .ok (.if_icmp .ge 46, 3) := by decide +kernel
theorem nd_CB_best_33 : decode nc_CB_best 33 = .ok (.aload_n 0, 1) := by decide +kernel
theorem nd_CB_best_34 : decode nc_CB_best 34 = .ok (.iload 4, 2) := by decide +kernel
theorem nd_CB_best_36 : decode nc_CB_best 36 = .ok (.invokevirtual 83, 3) := by decide +kernel
theorem nd_CB_best_39 : decode nc_CB_best 39 = .ok (.istore 6, 2) := by decide +kernel
theorem nd_CB_best_41 : decode nc_CB_best 41 = .ok (.iload 4, 2) := by decide +kernel
theorem nd_CB_best_43 : decode nc_CB_best 43 = .ok (.iconst 1, 1) := by decide +kernel
theorem nd_CB_best_44 : decode nc_CB_best 44 = .ok (.iload 6, 2) := by decide +kernel
theorem nd_CB_best_46 : decode nc_CB_best 46 = .ok (.ishl, 1) := by decide +kernel
theorem nd_CB_best_47 : decode nc_CB_best 47 = .ok (.ior, 1) := by decide +kernel
theorem nd_CB_best_48 : decode nc_CB_best 48 = .ok (.istore 4, 2) := by decide +kernel
theorem nd_CB_best_50 : decode nc_CB_best 50 = .ok (.aload_n 2, 1) := by decide +kernel
theorem nd_CB_best_51 : decode nc_CB_best 51 = .ok (.iload_n 3, 1) := by decide +kernel
theorem nd_CB_best_52 : decode nc_CB_best 52 = .ok (.iconst 1, 1) := by decide +kernel
theorem nd_CB_best_53 : decode nc_CB_best 53 = .ok (.iload 6, 2) := by decide +kernel
theorem nd_CB_best_55 : decode nc_CB_best 55 = .ok (.ishl, 1) := by decide +kernel
theorem nd_CB_best_56 : decode nc_CB_best 56 = .ok (.ior, 1) := by decide +kernel
theorem nd_CB_best_57 : decode nc_CB_best 57 = .ok (.invokevirtual 73, 3) := by decide +kernel
theorem nd_CB_best_60 : decode nc_CB_best 60 = .ok (.ifCond .eq 10, 3) := by decide +kernel
theorem nd_CB_best_63 : decode nc_CB_best 63 = .ok (.iload_n 3, 1) := by decide +kernel
theorem nd_CB_best_64 : decode nc_CB_best 64 = .ok (.iconst 1, 1) := by decide +kernel
theorem nd_CB_best_65 : decode nc_CB_best 65 = .ok (.iload 6, 2) := by decide +kernel
theorem nd_CB_best_67 : decode nc_CB_best 67 = .ok (.ishl, 1) := by decide +kernel
theorem nd_CB_best_68 : decode nc_CB_best 68 = .ok (.ior, 1) := by decide +kernel
theorem nd_CB_best_69 : decode nc_CB_best 69 = .ok (.istore_n 3, 1) := by decide +kernel
theorem nd_CB_best_70 : decode nc_CB_best 70 = .ok (.iinc 5 1, 3) := by decide +kernel
theorem nd_CB_best_73 : decode nc_CB_best 73 = .ok (.goto (-49), 3) := by decide +kernel
theorem nd_CB_best_76 : decode nc_CB_best 76 = .ok (.iload_n 3, 1) := by decide +kernel
theorem nd_CB_best_77 : decode nc_CB_best 77 = .ok (.ireturn, 1) := by decide +kernel
set_option maxRecDepth 20000 in
theorem lp_CB_best0 {p : Program} {l : Launch} {e0 : Env} {R : Room} {s0 : State} {m : MethodId} {args : Array Value} {below : List Frame} {meth : Method} {c : Code} {cells slots : Nat} {Q : State → Prop} {D : va_G} {A : Nat → Prop} (cI cG cM : ClassId) (q : Nat → Nat) (n : Nat) (hn1 : 1 ≤ n) (hn : n ≤ 10) (mr : Nat → Option Nat) (a0 a1 : ma_A) (hm0 : mr 0 = some (a0.1 0)) (hm1 : mr 1 = some (a1.1 0)) (w : Nat → Int32) (y : cb_Y) (hWy : ∀ e, e < n → w e = y.1 e)  (hx : p.tables.exec = Jvm.exec) (hb : c.code = nc_CB_best) (hml : c.maxLocals = 7) (htg : ∀ w ∈ tg_, w.before args s0 = true) (hown : s0.vm.findClass ny_CB_best.cls = some m.cls) (hK : va_K D cl_all (ty_all cI cG cM) s0) (hN : tn_K s0) (hA : ∀ q : Nat, s0.heap.size ≤ q → A q) (hRf : 6 ≤ R.frames) (hRl : 133 ≤ R.locals) (hCS : cells ≤ R.cells ∧ slots ≤ R.slots) (kx : ∀ (ls : Array Slot) (H : Heap) (locs : List Loc) (t0 : ma_S) (t1 : ma_S), (ma_I n y.2.1 t0) → (ma_I n y.2.2 t1) → lv_has ls 7 [(3, .int (nI ((gb_ n y.1 (ma_r n y.2.1) n).2)))] → va_P D cl_all ([((q 0), .inr (0, [.int (nI (n)), .int (nI (2 ^ n - 1)), .ref (q 1), .ref (q 2)])), ((q 1), .inl (cI, n, .inl w)), ((q 2), .inl (cM, 2, .inr (.inr (.inr (.inr mr)))))] ++ (mw_ cI cG a0 n t0 ++ (mw_ cI cG a1 n t1 ++ []))) H → va_D A ([((q 0), .inr (0, [.int (nI (n)), .int (nI (2 ^ n - 1)), .ref (q 1), .ref (q 2)])), ((q 1), .inl (cI, n, .inl w)), ((q 2), .inl (cM, 2, .inr (.inr (.inr (.inr mr)))))] ++ (mw_ cI cG a0 n t0 ++ (mw_ cI cG a1 n t1 ++ []))) → va_S A s0.heap H locs → W p l e0 R s0 m args below meth c H locs cells slots Q (F0 m 76 ls [])) : ∀ (f : Nat) (k : Nat) (t0 : ma_S) (t1 : ma_S) (ls : Array Slot) (H : Heap) (locs : List Loc), n - k < f → (k ≤ n) → (ma_I n y.2.1 t0) → (ma_I n y.2.2 t1) → lv_has ls 7 [(5, .int (nI (k))), (4, .int (nI ((gb_ n y.1 (ma_r n y.2.1) k).1))), (3, .int (nI ((gb_ n y.1 (ma_r n y.2.1) k).2))), (2, .ref (a0.1 0)), (0, .ref (q 0))] → va_P D cl_all ([((q 0), .inr (0, [.int (nI (n)), .int (nI (2 ^ n - 1)), .ref (q 1), .ref (q 2)])), ((q 1), .inl (cI, n, .inl w)), ((q 2), .inl (cM, 2, .inr (.inr (.inr (.inr mr)))))] ++ (mw_ cI cG a0 n t0 ++ (mw_ cI cG a1 n t1 ++ []))) H → va_D A ([((q 0), .inr (0, [.int (nI (n)), .int (nI (2 ^ n - 1)), .ref (q 1), .ref (q 2)])), ((q 1), .inl (cI, n, .inl w)), ((q 2), .inl (cM, 2, .inr (.inr (.inr (.inr mr)))))] ++ (mw_ cI cG a0 n t0 ++ (mw_ cI cG a1 n t1 ++ []))) → va_S A s0.heap H locs → W p l e0 R s0 m args below meth c H locs cells slots Q (F0 m 24 ls []) := by
  intro f
  induction f with
  | zero => intro k t0 t1 ls H locs hfu; omega
  | succ f ih =>
    intro k t0 t1 ls H locs hfu hk9 hI0 hI1 hl hP hD hS
    have h2n : 2 ^ n ≤ 1024 := Nat.pow_le_pow_right (by omega) hn
    have h2p : 1 ≤ 2 ^ n := Nat.one_le_two_pow
    have hgl := gb_lt hn1 y.1 (ma_r n y.2.1) k
    refine lv_iload hx hb nd_CB_best_24 (lv_at hl 0 rfl) ?_
    refine lv_aload_n hx hb nd_CB_best_26 rfl (lv_at hl 4 rfl) ?_
    refine va_get (D := D) (C := nr_CB) (T := nt_CB) (N := 4) hx hb htg tf_CB hown hK hP 0 rfl rfl 0 (by decide) (htg _ tm_122) (fun _ h => h) rfl nd_CB_best_27 ?_
    refine wi_icmp_ge (tgt := 76) hx hb (by omega) (by omega) nd_CB_best_30 rfl (fun hc30 => ?_) (fun hc30 => ?_)
    · have hl : lv_has ls 7 [(3, .int (nI ((gb_ n y.1 (ma_r n y.2.1) k).2)))] := lv_sub hl [2] rfl
      have hin : k = n := by omega
      exact kx ls H locs t0 t1 hI0 hI1 (by simpa only [hin] using hl) hP hD hS
    · refine lv_aload_n hx hb nd_CB_best_33 rfl (lv_at hl 4 rfl) ?_
      refine lv_iload hx hb nd_CB_best_34 (lv_at hl 1 rfl) ?_
      refine wc_V (C := nr_CB) (n := 1) hx hb hml hown htg (c_CB_firstInOrder l D cI cG cM (q 0) (q 1) (q 2) n hn w hn1 ((gb_ n y.1 (ma_r n y.2.1) k).1) (by omega)) tm_331 tm_328 tm_330 tp_7 tm_1 (by decide +kernel) ⟨⟨Nat.le_trans (by decide) hRf, Nat.le_trans (by decide) hRl⟩, rfl, rfl⟩ (wa_pre (hP.sub [0, 1] rfl) hK hN) (va_recv (q0 := 0) (ci := 0) hK hP rfl rfl) rfl hl.1 rfl (Nat.le_of_ble_eq_true rfl) nd_CB_best_36 hCS ?_
      refine wi_top (congrArg nI (ms_F_eq hWy)) ?_
      have hF := ms_F_lt y.1 (gb_ n y.1 (ma_r n y.2.1) k).1 n hn1
      refine lv_istore hx hb nd_CB_best_39 hl (by decide) rfl (fun ls hl => ?_)
      have hl : lv_has ls 7 [(6, .int (nI (ms_F y.1 ((gb_ n y.1 (ma_r n y.2.1) k).1) n))), (5, .int (nI (k))), (4, .int (nI ((gb_ n y.1 (ma_r n y.2.1) k).1))), (3, .int (nI ((gb_ n y.1 (ma_r n y.2.1) k).2))), (2, .ref (a0.1 0)), (0, .ref (q 0))] := hl
      refine lv_iload hx hb nd_CB_best_41 (lv_at hl 2 rfl) ?_
      refine wi_ic hx hb (a := 1) nd_CB_best_43 ?_
      refine lv_iload hx hb nd_CB_best_44 (lv_at hl 0 rfl) ?_
      refine wi_ishl1 hx hb (by omega) nd_CB_best_46 ?_
      refine wi_ior hx hb nd_CB_best_47 ?_
      refine lv_istore hx hb nd_CB_best_48 hl (by decide) rfl (fun ls hl => ?_)
      have hl : lv_has ls 7 [(4, .int (nI (((gb_ n y.1 (ma_r n y.2.1) k).1) ||| (2 ^ (ms_F y.1 ((gb_ n y.1 (ma_r n y.2.1) k).1) n))))), (6, .int (nI (ms_F y.1 ((gb_ n y.1 (ma_r n y.2.1) k).1) n))), (5, .int (nI (k))), (3, .int (nI ((gb_ n y.1 (ma_r n y.2.1) k).2))), (2, .ref (a0.1 0)), (0, .ref (q 0))] := hl
      refine lv_aload_n hx hb nd_CB_best_50 rfl (lv_at hl 4 rfl) ?_
      refine lv_iload_n hx hb nd_CB_best_51 rfl (lv_at hl 3 rfl) ?_
      refine wi_ic hx hb (a := 1) nd_CB_best_52 ?_
      refine lv_iload hx hb nd_CB_best_53 (lv_at hl 1 rfl) ?_
      refine wi_ishl1 hx hb (by omega) nd_CB_best_55 ?_
      refine wi_ior hx hb nd_CB_best_56 ?_
      refine wd_Vi (C := nr_MA) (n := 1) (X := [((q 0), .inr (0, [.int (nI (n)), .int (nI (2 ^ n - 1)), .ref (q 1), .ref (q 2)])), ((q 1), .inl (cI, n, .inl w)), ((q 2), .inl (cM, 2, .inr (.inr (.inr (.inr mr)))))]) (Y := mw_ cI cG a0 n t0) (Z := (mw_ cI cG a1 n t1 ++ [])) hx hb hml hown htg (c_MA_isIndependent l D cI cG cM a0 n hn t0.1 t0.2.1 t0.2.2.1 t0.2.2.2.1 t0.2.2.2.2.1 t0.2.2.2.2.2 y.2.1 hI0 (((gb_ n y.1 (ma_r n y.2.1) k).2) ||| (2 ^ (ms_F y.1 ((gb_ n y.1 (ma_r n y.2.1) k).1) n))) (mt_orlt hgl.2 hF) _) tm_259 tm_256 tm_257 tm_258 tm_2 (by decide +kernel) ⟨⟨Nat.le_trans (by decide) hRf, Nat.le_trans (by decide) hRl⟩, rfl, rfl⟩ hP hD hS hA hK hN (va_recv (q0 := 0) (ci := 1) hK (wm_P (X := [((q 0), .inr (0, [.int (nI (n)), .int (nI (2 ^ n - 1)), .ref (q 1), .ref (q 2)])), ((q 1), .inl (cI, n, .inl w)), ((q 2), .inl (cM, 2, .inr (.inr (.inr (.inr mr)))))]) (Y := mw_ cI cG a0 n t0) (Z := (mw_ cI cG a1 n t1 ++ [])) hP).2.1 rfl rfl) rfl hl.1 rfl (Nat.le_of_ble_eq_true rfl) nd_CB_best_57 hCS (fun v57 u57 H locs hp57 hP hD hS => ?_)
      have hP : va_P D cl_all ([((q 0), .inr (0, [.int (nI (n)), .int (nI (2 ^ n - 1)), .ref (q 1), .ref (q 2)])), ((q 1), .inl (cI, n, .inl w)), ((q 2), .inl (cM, 2, .inr (.inr (.inr (.inr mr)))))] ++ (mw_ cI cG a0 n u57 ++ (mw_ cI cG a1 n t1 ++ []))) H := hP
      have hD : va_D A ([((q 0), .inr (0, [.int (nI (n)), .int (nI (2 ^ n - 1)), .ref (q 1), .ref (q 2)])), ((q 1), .inl (cI, n, .inl w)), ((q 2), .inl (cM, 2, .inr (.inr (.inr (.inr mr)))))] ++ (mw_ cI cG a0 n u57 ++ (mw_ cI cG a1 n t1 ++ []))) := hD
      refine lv_if_eq (tgt := 70) hx hb nd_CB_best_60 rfl (fun hc60 => ?_) (fun hc60 => ?_)
      · refine lv_iinc (k := 2) (v := nI (k + 1)) hx hb nd_CB_best_70 hl rfl (wi_inc _ 1) (by decide) rfl (fun ls hl => ?_)
        have hl : lv_has ls 7 [(5, .int (nI (k + 1))), (4, .int (nI (((gb_ n y.1 (ma_r n y.2.1) k).1) ||| (2 ^ (ms_F y.1 ((gb_ n y.1 (ma_r n y.2.1) k).1) n))))), (6, .int (nI (ms_F y.1 ((gb_ n y.1 (ma_r n y.2.1) k).1) n))), (3, .int (nI ((gb_ n y.1 (ma_r n y.2.1) k).2))), (2, .ref (a0.1 0)), (0, .ref (q 0))] := hl
        refine lv_goto (tgt := 24) hx hb nd_CB_best_73 rfl ?_
        have hl : lv_has ls 7 [(5, .int (nI (k + 1))), (4, .int (nI (((gb_ n y.1 (ma_r n y.2.1) k).1) ||| (2 ^ (ms_F y.1 ((gb_ n y.1 (ma_r n y.2.1) k).1) n))))), (3, .int (nI ((gb_ n y.1 (ma_r n y.2.1) k).2))), (2, .ref (a0.1 0)), (0, .ref (q 0))] := lv_sub hl [0, 1, 3, 4, 5] rfl
        have hno : ¬ (ma_r n y.2.1) ((gb_ n y.1 (ma_r n y.2.1) k).2 ||| 2 ^ ms_F y.1 (gb_ n y.1 (ma_r n y.2.1) k).1 n) = mt_cd n ((gb_ n y.1 (ma_r n y.2.1) k).2 ||| 2 ^ ms_F y.1 (gb_ n y.1 (ma_r n y.2.1) k).1 n) := fun q => nI_ne0 (n := 1) (by omega) (by omega) ((hp57.1 q).symm.trans hc60)
        have hg : gb_ n y.1 (ma_r n y.2.1) (k + 1) = ((gb_ n y.1 (ma_r n y.2.1) k).1 ||| 2 ^ ms_F y.1 (gb_ n y.1 (ma_r n y.2.1) k).1 n, (gb_ n y.1 (ma_r n y.2.1) k).2) := by simp only [gb_]; rw [if_neg hno]
        exact ih (k + 1) u57 t1 ls H locs (by omega) (by omega) hp57.2.2 hI1 (by rw [hg]; exact hl) hP hD hS
      · refine lv_iload_n hx hb nd_CB_best_63 rfl (lv_at hl 3 rfl) ?_
        refine wi_ic hx hb (a := 1) nd_CB_best_64 ?_
        refine lv_iload hx hb nd_CB_best_65 (lv_at hl 1 rfl) ?_
        refine wi_ishl1 hx hb (by omega) nd_CB_best_67 ?_
        refine wi_ior hx hb nd_CB_best_68 ?_
        refine lv_istore_n hx hb nd_CB_best_69 rfl hl (by decide) rfl (fun ls hl => ?_)
        have hl : lv_has ls 7 [(3, .int (nI (((gb_ n y.1 (ma_r n y.2.1) k).2) ||| (2 ^ (ms_F y.1 ((gb_ n y.1 (ma_r n y.2.1) k).1) n))))), (4, .int (nI (((gb_ n y.1 (ma_r n y.2.1) k).1) ||| (2 ^ (ms_F y.1 ((gb_ n y.1 (ma_r n y.2.1) k).1) n))))), (6, .int (nI (ms_F y.1 ((gb_ n y.1 (ma_r n y.2.1) k).1) n))), (5, .int (nI (k))), (2, .ref (a0.1 0)), (0, .ref (q 0))] := hl
        refine lv_iinc (k := 3) (v := nI (k + 1)) hx hb nd_CB_best_70 hl rfl (wi_inc _ 1) (by decide) rfl (fun ls hl => ?_)
        have hl : lv_has ls 7 [(5, .int (nI (k + 1))), (3, .int (nI (((gb_ n y.1 (ma_r n y.2.1) k).2) ||| (2 ^ (ms_F y.1 ((gb_ n y.1 (ma_r n y.2.1) k).1) n))))), (4, .int (nI (((gb_ n y.1 (ma_r n y.2.1) k).1) ||| (2 ^ (ms_F y.1 ((gb_ n y.1 (ma_r n y.2.1) k).1) n))))), (6, .int (nI (ms_F y.1 ((gb_ n y.1 (ma_r n y.2.1) k).1) n))), (2, .ref (a0.1 0)), (0, .ref (q 0))] := hl
        refine lv_goto (tgt := 24) hx hb nd_CB_best_73 rfl ?_
        have hl : lv_has ls 7 [(5, .int (nI (k + 1))), (4, .int (nI (((gb_ n y.1 (ma_r n y.2.1) k).1) ||| (2 ^ (ms_F y.1 ((gb_ n y.1 (ma_r n y.2.1) k).1) n))))), (3, .int (nI (((gb_ n y.1 (ma_r n y.2.1) k).2) ||| (2 ^ (ms_F y.1 ((gb_ n y.1 (ma_r n y.2.1) k).1) n))))), (2, .ref (a0.1 0)), (0, .ref (q 0))] := lv_sub hl [0, 2, 1, 4, 5] rfl
        have hno : (ma_r n y.2.1) ((gb_ n y.1 (ma_r n y.2.1) k).2 ||| 2 ^ ms_F y.1 (gb_ n y.1 (ma_r n y.2.1) k).1 n) = mt_cd n ((gb_ n y.1 (ma_r n y.2.1) k).2 ||| 2 ^ ms_F y.1 (gb_ n y.1 (ma_r n y.2.1) k).1 n) := Classical.byContradiction fun q => hc60 ((hp57.2.1 q).trans nI_0)
        have hg : gb_ n y.1 (ma_r n y.2.1) (k + 1) = ((gb_ n y.1 (ma_r n y.2.1) k).1 ||| 2 ^ ms_F y.1 (gb_ n y.1 (ma_r n y.2.1) k).1 n, (gb_ n y.1 (ma_r n y.2.1) k).2 ||| 2 ^ ms_F y.1 (gb_ n y.1 (ma_r n y.2.1) k).1 n) := by simp only [gb_]; rw [if_pos hno]
        exact ih (k + 1) u57 t1 ls H locs (by omega) (by omega) hp57.2.2 hI1 (by rw [hg]; exact hl) hP hD hS
set_option maxRecDepth 20000 in
theorem lp_CB_best1 {p : Program} {l : Launch} {e0 : Env} {R : Room} {s0 : State} {m : MethodId} {args : Array Value} {below : List Frame} {meth : Method} {c : Code} {cells slots : Nat} {Q : State → Prop} {D : va_G} {A : Nat → Prop} (cI cG cM : ClassId) (q : Nat → Nat) (n : Nat) (hn1 : 1 ≤ n) (hn : n ≤ 10) (mr : Nat → Option Nat) (a0 a1 : ma_A) (hm0 : mr 0 = some (a0.1 0)) (hm1 : mr 1 = some (a1.1 0)) (w : Nat → Int32) (y : cb_Y) (hWy : ∀ e, e < n → w e = y.1 e)  (hx : p.tables.exec = Jvm.exec) (hb : c.code = nc_CB_best) (hml : c.maxLocals = 7) (htg : ∀ w ∈ tg_, w.before args s0 = true) (hown : s0.vm.findClass ny_CB_best.cls = some m.cls) (hK : va_K D cl_all (ty_all cI cG cM) s0) (hN : tn_K s0) (hA : ∀ q : Nat, s0.heap.size ≤ q → A q) (hRf : 6 ≤ R.frames) (hRl : 133 ≤ R.locals) (hCS : cells ≤ R.cells ∧ slots ≤ R.slots) (kx : ∀ (ls : Array Slot) (H : Heap) (locs : List Loc) (t0 : ma_S) (t1 : ma_S), (ma_I n y.2.1 t0) → (ma_I n y.2.2 t1) → lv_has ls 7 [(3, .int (nI ((gb_ n y.1 (ma_r n y.2.2) n).2)))] → va_P D cl_all ([((q 0), .inr (0, [.int (nI (n)), .int (nI (2 ^ n - 1)), .ref (q 1), .ref (q 2)])), ((q 1), .inl (cI, n, .inl w)), ((q 2), .inl (cM, 2, .inr (.inr (.inr (.inr mr)))))] ++ (mw_ cI cG a0 n t0 ++ (mw_ cI cG a1 n t1 ++ []))) H → va_D A ([((q 0), .inr (0, [.int (nI (n)), .int (nI (2 ^ n - 1)), .ref (q 1), .ref (q 2)])), ((q 1), .inl (cI, n, .inl w)), ((q 2), .inl (cM, 2, .inr (.inr (.inr (.inr mr)))))] ++ (mw_ cI cG a0 n t0 ++ (mw_ cI cG a1 n t1 ++ []))) → va_S A s0.heap H locs → W p l e0 R s0 m args below meth c H locs cells slots Q (F0 m 76 ls [])) : ∀ (f : Nat) (k : Nat) (t0 : ma_S) (t1 : ma_S) (ls : Array Slot) (H : Heap) (locs : List Loc), n - k < f → (k ≤ n) → (ma_I n y.2.1 t0) → (ma_I n y.2.2 t1) → lv_has ls 7 [(5, .int (nI (k))), (4, .int (nI ((gb_ n y.1 (ma_r n y.2.2) k).1))), (3, .int (nI ((gb_ n y.1 (ma_r n y.2.2) k).2))), (2, .ref (a1.1 0)), (0, .ref (q 0))] → va_P D cl_all ([((q 0), .inr (0, [.int (nI (n)), .int (nI (2 ^ n - 1)), .ref (q 1), .ref (q 2)])), ((q 1), .inl (cI, n, .inl w)), ((q 2), .inl (cM, 2, .inr (.inr (.inr (.inr mr)))))] ++ (mw_ cI cG a0 n t0 ++ (mw_ cI cG a1 n t1 ++ []))) H → va_D A ([((q 0), .inr (0, [.int (nI (n)), .int (nI (2 ^ n - 1)), .ref (q 1), .ref (q 2)])), ((q 1), .inl (cI, n, .inl w)), ((q 2), .inl (cM, 2, .inr (.inr (.inr (.inr mr)))))] ++ (mw_ cI cG a0 n t0 ++ (mw_ cI cG a1 n t1 ++ []))) → va_S A s0.heap H locs → W p l e0 R s0 m args below meth c H locs cells slots Q (F0 m 24 ls []) := by
  intro f
  induction f with
  | zero => intro k t0 t1 ls H locs hfu; omega
  | succ f ih =>
    intro k t0 t1 ls H locs hfu hk9 hI0 hI1 hl hP hD hS
    have h2n : 2 ^ n ≤ 1024 := Nat.pow_le_pow_right (by omega) hn
    have h2p : 1 ≤ 2 ^ n := Nat.one_le_two_pow
    have hgl := gb_lt hn1 y.1 (ma_r n y.2.2) k
    refine lv_iload hx hb nd_CB_best_24 (lv_at hl 0 rfl) ?_
    refine lv_aload_n hx hb nd_CB_best_26 rfl (lv_at hl 4 rfl) ?_
    refine va_get (D := D) (C := nr_CB) (T := nt_CB) (N := 4) hx hb htg tf_CB hown hK hP 0 rfl rfl 0 (by decide) (htg _ tm_122) (fun _ h => h) rfl nd_CB_best_27 ?_
    refine wi_icmp_ge (tgt := 76) hx hb (by omega) (by omega) nd_CB_best_30 rfl (fun hc30 => ?_) (fun hc30 => ?_)
    · have hl : lv_has ls 7 [(3, .int (nI ((gb_ n y.1 (ma_r n y.2.2) k).2)))] := lv_sub hl [2] rfl
      have hin : k = n := by omega
      exact kx ls H locs t0 t1 hI0 hI1 (by simpa only [hin] using hl) hP hD hS
    · refine lv_aload_n hx hb nd_CB_best_33 rfl (lv_at hl 4 rfl) ?_
      refine lv_iload hx hb nd_CB_best_34 (lv_at hl 1 rfl) ?_
      refine wc_V (C := nr_CB) (n := 1) hx hb hml hown htg (c_CB_firstInOrder l D cI cG cM (q 0) (q 1) (q 2) n hn w hn1 ((gb_ n y.1 (ma_r n y.2.2) k).1) (by omega)) tm_331 tm_328 tm_330 tp_7 tm_1 (by decide +kernel) ⟨⟨Nat.le_trans (by decide) hRf, Nat.le_trans (by decide) hRl⟩, rfl, rfl⟩ (wa_pre (hP.sub [0, 1] rfl) hK hN) (va_recv (q0 := 0) (ci := 0) hK hP rfl rfl) rfl hl.1 rfl (Nat.le_of_ble_eq_true rfl) nd_CB_best_36 hCS ?_
      refine wi_top (congrArg nI (ms_F_eq hWy)) ?_
      have hF := ms_F_lt y.1 (gb_ n y.1 (ma_r n y.2.2) k).1 n hn1
      refine lv_istore hx hb nd_CB_best_39 hl (by decide) rfl (fun ls hl => ?_)
      have hl : lv_has ls 7 [(6, .int (nI (ms_F y.1 ((gb_ n y.1 (ma_r n y.2.2) k).1) n))), (5, .int (nI (k))), (4, .int (nI ((gb_ n y.1 (ma_r n y.2.2) k).1))), (3, .int (nI ((gb_ n y.1 (ma_r n y.2.2) k).2))), (2, .ref (a1.1 0)), (0, .ref (q 0))] := hl
      refine lv_iload hx hb nd_CB_best_41 (lv_at hl 2 rfl) ?_
      refine wi_ic hx hb (a := 1) nd_CB_best_43 ?_
      refine lv_iload hx hb nd_CB_best_44 (lv_at hl 0 rfl) ?_
      refine wi_ishl1 hx hb (by omega) nd_CB_best_46 ?_
      refine wi_ior hx hb nd_CB_best_47 ?_
      refine lv_istore hx hb nd_CB_best_48 hl (by decide) rfl (fun ls hl => ?_)
      have hl : lv_has ls 7 [(4, .int (nI (((gb_ n y.1 (ma_r n y.2.2) k).1) ||| (2 ^ (ms_F y.1 ((gb_ n y.1 (ma_r n y.2.2) k).1) n))))), (6, .int (nI (ms_F y.1 ((gb_ n y.1 (ma_r n y.2.2) k).1) n))), (5, .int (nI (k))), (3, .int (nI ((gb_ n y.1 (ma_r n y.2.2) k).2))), (2, .ref (a1.1 0)), (0, .ref (q 0))] := hl
      refine lv_aload_n hx hb nd_CB_best_50 rfl (lv_at hl 4 rfl) ?_
      refine lv_iload_n hx hb nd_CB_best_51 rfl (lv_at hl 3 rfl) ?_
      refine wi_ic hx hb (a := 1) nd_CB_best_52 ?_
      refine lv_iload hx hb nd_CB_best_53 (lv_at hl 1 rfl) ?_
      refine wi_ishl1 hx hb (by omega) nd_CB_best_55 ?_
      refine wi_ior hx hb nd_CB_best_56 ?_
      rw [← List.append_assoc] at hP hD
      refine wd_Vi (C := nr_MA) (n := 1) (X := ([((q 0), .inr (0, [.int (nI (n)), .int (nI (2 ^ n - 1)), .ref (q 1), .ref (q 2)])), ((q 1), .inl (cI, n, .inl w)), ((q 2), .inl (cM, 2, .inr (.inr (.inr (.inr mr)))))] ++ mw_ cI cG a0 n t0)) (Y := mw_ cI cG a1 n t1) (Z := []) hx hb hml hown htg (c_MA_isIndependent l D cI cG cM a1 n hn t1.1 t1.2.1 t1.2.2.1 t1.2.2.2.1 t1.2.2.2.2.1 t1.2.2.2.2.2 y.2.2 hI1 (((gb_ n y.1 (ma_r n y.2.2) k).2) ||| (2 ^ (ms_F y.1 ((gb_ n y.1 (ma_r n y.2.2) k).1) n))) (mt_orlt hgl.2 hF) _) tm_259 tm_256 tm_257 tm_258 tm_2 (by decide +kernel) ⟨⟨Nat.le_trans (by decide) hRf, Nat.le_trans (by decide) hRl⟩, rfl, rfl⟩ hP hD hS hA hK hN (va_recv (q0 := 0) (ci := 1) hK (wm_P (X := ([((q 0), .inr (0, [.int (nI (n)), .int (nI (2 ^ n - 1)), .ref (q 1), .ref (q 2)])), ((q 1), .inl (cI, n, .inl w)), ((q 2), .inl (cM, 2, .inr (.inr (.inr (.inr mr)))))] ++ mw_ cI cG a0 n t0)) (Y := mw_ cI cG a1 n t1) (Z := []) hP).2.1 rfl rfl) rfl hl.1 rfl (Nat.le_of_ble_eq_true rfl) nd_CB_best_57 hCS (fun v57 u57 H locs hp57 hP hD hS => ?_)
      rw [List.append_assoc] at hP hD
      have hP : va_P D cl_all ([((q 0), .inr (0, [.int (nI (n)), .int (nI (2 ^ n - 1)), .ref (q 1), .ref (q 2)])), ((q 1), .inl (cI, n, .inl w)), ((q 2), .inl (cM, 2, .inr (.inr (.inr (.inr mr)))))] ++ (mw_ cI cG a0 n t0 ++ (mw_ cI cG a1 n u57 ++ []))) H := hP
      have hD : va_D A ([((q 0), .inr (0, [.int (nI (n)), .int (nI (2 ^ n - 1)), .ref (q 1), .ref (q 2)])), ((q 1), .inl (cI, n, .inl w)), ((q 2), .inl (cM, 2, .inr (.inr (.inr (.inr mr)))))] ++ (mw_ cI cG a0 n t0 ++ (mw_ cI cG a1 n u57 ++ []))) := hD
      refine lv_if_eq (tgt := 70) hx hb nd_CB_best_60 rfl (fun hc60 => ?_) (fun hc60 => ?_)
      · refine lv_iinc (k := 2) (v := nI (k + 1)) hx hb nd_CB_best_70 hl rfl (wi_inc _ 1) (by decide) rfl (fun ls hl => ?_)
        have hl : lv_has ls 7 [(5, .int (nI (k + 1))), (4, .int (nI (((gb_ n y.1 (ma_r n y.2.2) k).1) ||| (2 ^ (ms_F y.1 ((gb_ n y.1 (ma_r n y.2.2) k).1) n))))), (6, .int (nI (ms_F y.1 ((gb_ n y.1 (ma_r n y.2.2) k).1) n))), (3, .int (nI ((gb_ n y.1 (ma_r n y.2.2) k).2))), (2, .ref (a1.1 0)), (0, .ref (q 0))] := hl
        refine lv_goto (tgt := 24) hx hb nd_CB_best_73 rfl ?_
        have hl : lv_has ls 7 [(5, .int (nI (k + 1))), (4, .int (nI (((gb_ n y.1 (ma_r n y.2.2) k).1) ||| (2 ^ (ms_F y.1 ((gb_ n y.1 (ma_r n y.2.2) k).1) n))))), (3, .int (nI ((gb_ n y.1 (ma_r n y.2.2) k).2))), (2, .ref (a1.1 0)), (0, .ref (q 0))] := lv_sub hl [0, 1, 3, 4, 5] rfl
        have hno : ¬ (ma_r n y.2.2) ((gb_ n y.1 (ma_r n y.2.2) k).2 ||| 2 ^ ms_F y.1 (gb_ n y.1 (ma_r n y.2.2) k).1 n) = mt_cd n ((gb_ n y.1 (ma_r n y.2.2) k).2 ||| 2 ^ ms_F y.1 (gb_ n y.1 (ma_r n y.2.2) k).1 n) := fun q => nI_ne0 (n := 1) (by omega) (by omega) ((hp57.1 q).symm.trans hc60)
        have hg : gb_ n y.1 (ma_r n y.2.2) (k + 1) = ((gb_ n y.1 (ma_r n y.2.2) k).1 ||| 2 ^ ms_F y.1 (gb_ n y.1 (ma_r n y.2.2) k).1 n, (gb_ n y.1 (ma_r n y.2.2) k).2) := by simp only [gb_]; rw [if_neg hno]
        exact ih (k + 1) t0 u57 ls H locs (by omega) (by omega) hI0 hp57.2.2 (by rw [hg]; exact hl) hP hD hS
      · refine lv_iload_n hx hb nd_CB_best_63 rfl (lv_at hl 3 rfl) ?_
        refine wi_ic hx hb (a := 1) nd_CB_best_64 ?_
        refine lv_iload hx hb nd_CB_best_65 (lv_at hl 1 rfl) ?_
        refine wi_ishl1 hx hb (by omega) nd_CB_best_67 ?_
        refine wi_ior hx hb nd_CB_best_68 ?_
        refine lv_istore_n hx hb nd_CB_best_69 rfl hl (by decide) rfl (fun ls hl => ?_)
        have hl : lv_has ls 7 [(3, .int (nI (((gb_ n y.1 (ma_r n y.2.2) k).2) ||| (2 ^ (ms_F y.1 ((gb_ n y.1 (ma_r n y.2.2) k).1) n))))), (4, .int (nI (((gb_ n y.1 (ma_r n y.2.2) k).1) ||| (2 ^ (ms_F y.1 ((gb_ n y.1 (ma_r n y.2.2) k).1) n))))), (6, .int (nI (ms_F y.1 ((gb_ n y.1 (ma_r n y.2.2) k).1) n))), (5, .int (nI (k))), (2, .ref (a1.1 0)), (0, .ref (q 0))] := hl
        refine lv_iinc (k := 3) (v := nI (k + 1)) hx hb nd_CB_best_70 hl rfl (wi_inc _ 1) (by decide) rfl (fun ls hl => ?_)
        have hl : lv_has ls 7 [(5, .int (nI (k + 1))), (3, .int (nI (((gb_ n y.1 (ma_r n y.2.2) k).2) ||| (2 ^ (ms_F y.1 ((gb_ n y.1 (ma_r n y.2.2) k).1) n))))), (4, .int (nI (((gb_ n y.1 (ma_r n y.2.2) k).1) ||| (2 ^ (ms_F y.1 ((gb_ n y.1 (ma_r n y.2.2) k).1) n))))), (6, .int (nI (ms_F y.1 ((gb_ n y.1 (ma_r n y.2.2) k).1) n))), (2, .ref (a1.1 0)), (0, .ref (q 0))] := hl
        refine lv_goto (tgt := 24) hx hb nd_CB_best_73 rfl ?_
        have hl : lv_has ls 7 [(5, .int (nI (k + 1))), (4, .int (nI (((gb_ n y.1 (ma_r n y.2.2) k).1) ||| (2 ^ (ms_F y.1 ((gb_ n y.1 (ma_r n y.2.2) k).1) n))))), (3, .int (nI (((gb_ n y.1 (ma_r n y.2.2) k).2) ||| (2 ^ (ms_F y.1 ((gb_ n y.1 (ma_r n y.2.2) k).1) n))))), (2, .ref (a1.1 0)), (0, .ref (q 0))] := lv_sub hl [0, 2, 1, 4, 5] rfl
        have hno : (ma_r n y.2.2) ((gb_ n y.1 (ma_r n y.2.2) k).2 ||| 2 ^ ms_F y.1 (gb_ n y.1 (ma_r n y.2.2) k).1 n) = mt_cd n ((gb_ n y.1 (ma_r n y.2.2) k).2 ||| 2 ^ ms_F y.1 (gb_ n y.1 (ma_r n y.2.2) k).1 n) := Classical.byContradiction fun q => hc60 ((hp57.2.1 q).trans nI_0)
        have hg : gb_ n y.1 (ma_r n y.2.2) (k + 1) = ((gb_ n y.1 (ma_r n y.2.2) k).1 ||| 2 ^ ms_F y.1 (gb_ n y.1 (ma_r n y.2.2) k).1 n, (gb_ n y.1 (ma_r n y.2.2) k).2 ||| 2 ^ ms_F y.1 (gb_ n y.1 (ma_r n y.2.2) k).1 n) := by simp only [gb_]; rw [if_pos hno]
        exact ih (k + 1) t0 u57 ls H locs (by omega) (by omega) hI0 hp57.2.2 (by rw [hg]; exact hl) hP hD hS
set_option maxRecDepth 20000 in
theorem c_CB_best (l : Launch) (D : va_G) (cI cG cM : ClassId)  (q : Nat → Nat) (n : Nat) (hn1 : 1 ≤ n) (hn : n ≤ 10) (mr : Nat → Option Nat) (a0 a1 : ma_A) (hm0 : mr 0 = some (a0.1 0)) (hm1 : mr 1 = some (a1.1 0)) (w : Nat → Int32) (t0 t1 : ma_S) (y : cb_Y) (hI : cb_I n y (w, t0, t1)) (wh : Int32) (sz : Nat) : wb_Mi l ny_CB_best nc_CB_best 7 (some .int) ({ frames := 6, cells := 0, slots := 0, locals := 133 }) D (ty_all cI cG cM) (cw_ cI cG cM q n mr a0 a1 (w, t0, t1)) sz [.ref (q 0), .int (wh)] (fun (v : Int32) (u : cb_S) => v = sp_best n y wh ∧ cb_I n y u) (fun u : cb_S => cw_ cI cG cM q n mr a0 a1 u) := by
  refine wb_start (S := cb_S) (by decide) (Nat.le_of_ble_eq_true rfl) ?_
  intro p e0 s0 m below meth c ls A hx hb hr hml htg hown hk hP hK hN hl hAe hsz hD hA
  have hl : lv_has ls 7 [(0, .ref (q 0)), (1, .int (wh))] := hl
  have hP : va_P D cl_all ([((q 0), .inr (0, [.int (nI (n)), .int (nI (2 ^ n - 1)), .ref (q 1), .ref (q 2)])), ((q 1), .inl (cI, n, .inl w)), ((q 2), .inl (cM, 2, .inr (.inr (.inr (.inr mr)))))] ++ (mw_ cI cG a0 n t0 ++ (mw_ cI cG a1 n t1 ++ []))) s0.heap := hP
  have hD : va_D A ([((q 0), .inr (0, [.int (nI (n)), .int (nI (2 ^ n - 1)), .ref (q 1), .ref (q 2)])), ((q 1), .inl (cI, n, .inl w)), ((q 2), .inl (cM, 2, .inr (.inr (.inr (.inr mr)))))] ++ (mw_ cI cG a0 n t0 ++ (mw_ cI cG a1 n t1 ++ []))) := hD
  have hS : va_S A s0.heap s0.heap [] := va_S.rf
  have hRf : 6 ≤ ({ frames := 6, cells := 0, slots := 0, locals := 133 } : Room).frames := Nat.le_refl _
  have hRl : 133 ≤ ({ frames := 6, cells := 0, slots := 0, locals := 133 } : Room).locals := Nat.le_refl _
  have hCS : 0 ≤ ({ frames := 6, cells := 0, slots := 0, locals := 133 } : Room).cells ∧ 0 ≤ ({ frames := 6, cells := 0, slots := 0, locals := 133 } : Room).slots := ⟨Nat.zero_le _, Nat.zero_le _⟩
  have h2n : 2 ^ n ≤ 1024 := Nat.pow_le_pow_right (by omega) hn
  have h2p : 1 ≤ 2 ^ n := Nat.one_le_two_pow
  have hI0 : ma_I n y.2.1 t0 := hI.2.1
  have hI1 : ma_I n y.2.2 t1 := hI.2.2
  refine lv_iload_n hx hb nd_CB_best_0 rfl (lv_at hl 1 rfl) ?_
  rcases sm_which wh with hw1 | hw1 | hw1
  · subst hw1
    refine wc_S (n := 1) hx hb hml hown htg (c_CB_isMatroid l D _ (nI 0) (nI 1) (fun _ => rfl) (fun h => absurd (Or.inl nI_0) h)) tm_141 tm_139 tm_140 tm_1 (by decide +kernel) ⟨⟨Nat.le_trans (by decide) hRf, Nat.le_trans (by decide) hRl⟩, rfl, rfl⟩ (wa_pre wa_nil hK hN) rfl hl.1 rfl (Nat.le_of_ble_eq_true rfl) nd_CB_best_1 hCS ?_
    refine wi_if_ne (tgt := 9) hx hb (by decide) nd_CB_best_4 rfl (fun _ => ?_) (fun h => absurd h (by decide))
    refine lv_aload_n hx hb nd_CB_best_9 rfl (lv_at hl 0 rfl) ?_
    refine va_get (D := D) (C := nr_CB) (T := nt_CB) (N := 4) hx hb htg tf_CB hown hK hP 0 rfl rfl 3 (by decide) (htg _ tm_125) (fun _ h => h) rfl nd_CB_best_10 ?_
    refine lv_iload_n hx hb nd_CB_best_13 rfl (lv_at hl 1 rfl) ?_
    refine wi_aald (v := (a0.1 0)) hx hb hK hP 2 2 rfl rfl rfl (by omega) (by omega) (hm0) nd_CB_best_14 ?_
    refine lv_astore_n hx hb nd_CB_best_15 rfl hl (by decide) rfl (fun ls hl => ?_)
    have hl : lv_has ls 7 [(2, .ref (a0.1 0)), (0, .ref (q 0)), (1, .int (nI (0)))] := hl
    refine wi_ic hx hb (a := 0) nd_CB_best_16 ?_
    refine lv_istore_n hx hb nd_CB_best_17 rfl hl (by decide) rfl (fun ls hl => ?_)
    have hl : lv_has ls 7 [(3, .int (nI (0))), (2, .ref (a0.1 0)), (0, .ref (q 0)), (1, .int (nI (0)))] := hl
    refine wi_ic hx hb (a := 0) nd_CB_best_18 ?_
    refine lv_istore hx hb nd_CB_best_19 hl (by decide) rfl (fun ls hl => ?_)
    have hl : lv_has ls 7 [(4, .int (nI (0))), (3, .int (nI (0))), (2, .ref (a0.1 0)), (0, .ref (q 0)), (1, .int (nI (0)))] := hl
    refine wi_ic hx hb (a := 0) nd_CB_best_21 ?_
    refine lv_istore hx hb nd_CB_best_22 hl (by decide) rfl (fun ls hl => ?_)
    have hl : lv_has ls 7 [(5, .int (nI (0))), (4, .int (nI (0))), (3, .int (nI (0))), (2, .ref (a0.1 0)), (0, .ref (q 0)), (1, .int (nI (0)))] := hl
    have hl : lv_has ls 7 [(5, .int (nI (0))), (4, .int (nI (0))), (3, .int (nI (0))), (2, .ref (a0.1 0)), (0, .ref (q 0))] := lv_sub hl [0, 1, 2, 3, 4] rfl
    refine lp_CB_best0 cI cG cM q n hn1 hn mr a0 a1 hm0 hm1 w y (fun e he => (hI.1 e he).1) hx hb hml htg hown hK hN hA hRf hRl hCS (fun ls H locs t0 t1 hI0 hI1 hl hP hD hS => ?_) (n + 1) 0 t0 t1 ls s0.heap [] (by omega) (by omega) hI0 hI1 hl hP hD hS
    refine lv_iload_n hx hb nd_CB_best_76 rfl (lv_at hl 0 rfl) ?_
    have hsp : sp_best n y (nI 0) = nI (gb_ n y.1 (ma_r n y.2.1) n).2 := by unfold sp_best; simp only [sw_0, tn_0]; simp [cb_m]
    exact wb_iret (w, t0, t1) hx hb hr hk hAe (by rw [hsp]; exact ⟨rfl, hI.1, hI0, hI1⟩) hP hD hS nd_CB_best_77
  · subst hw1
    refine wc_S (n := 1) hx hb hml hown htg (c_CB_isMatroid l D _ (nI 1) (nI 1) (fun _ => rfl) (fun h => absurd (Or.inr rfl) h)) tm_141 tm_139 tm_140 tm_1 (by decide +kernel) ⟨⟨Nat.le_trans (by decide) hRf, Nat.le_trans (by decide) hRl⟩, rfl, rfl⟩ (wa_pre wa_nil hK hN) rfl hl.1 rfl (Nat.le_of_ble_eq_true rfl) nd_CB_best_1 hCS ?_
    refine wi_if_ne (tgt := 9) hx hb (by decide) nd_CB_best_4 rfl (fun _ => ?_) (fun h => absurd h (by decide))
    refine lv_aload_n hx hb nd_CB_best_9 rfl (lv_at hl 0 rfl) ?_
    refine va_get (D := D) (C := nr_CB) (T := nt_CB) (N := 4) hx hb htg tf_CB hown hK hP 0 rfl rfl 3 (by decide) (htg _ tm_125) (fun _ h => h) rfl nd_CB_best_10 ?_
    refine lv_iload_n hx hb nd_CB_best_13 rfl (lv_at hl 1 rfl) ?_
    refine wi_aald (v := (a1.1 0)) hx hb hK hP 2 2 rfl rfl rfl (by omega) (by omega) (hm1) nd_CB_best_14 ?_
    refine lv_astore_n hx hb nd_CB_best_15 rfl hl (by decide) rfl (fun ls hl => ?_)
    have hl : lv_has ls 7 [(2, .ref (a1.1 0)), (0, .ref (q 0)), (1, .int (nI (1)))] := hl
    refine wi_ic hx hb (a := 0) nd_CB_best_16 ?_
    refine lv_istore_n hx hb nd_CB_best_17 rfl hl (by decide) rfl (fun ls hl => ?_)
    have hl : lv_has ls 7 [(3, .int (nI (0))), (2, .ref (a1.1 0)), (0, .ref (q 0)), (1, .int (nI (1)))] := hl
    refine wi_ic hx hb (a := 0) nd_CB_best_18 ?_
    refine lv_istore hx hb nd_CB_best_19 hl (by decide) rfl (fun ls hl => ?_)
    have hl : lv_has ls 7 [(4, .int (nI (0))), (3, .int (nI (0))), (2, .ref (a1.1 0)), (0, .ref (q 0)), (1, .int (nI (1)))] := hl
    refine wi_ic hx hb (a := 0) nd_CB_best_21 ?_
    refine lv_istore hx hb nd_CB_best_22 hl (by decide) rfl (fun ls hl => ?_)
    have hl : lv_has ls 7 [(5, .int (nI (0))), (4, .int (nI (0))), (3, .int (nI (0))), (2, .ref (a1.1 0)), (0, .ref (q 0)), (1, .int (nI (1)))] := hl
    have hl : lv_has ls 7 [(5, .int (nI (0))), (4, .int (nI (0))), (3, .int (nI (0))), (2, .ref (a1.1 0)), (0, .ref (q 0))] := lv_sub hl [0, 1, 2, 3, 4] rfl
    refine lp_CB_best1 cI cG cM q n hn1 hn mr a0 a1 hm0 hm1 w y (fun e he => (hI.1 e he).1) hx hb hml htg hown hK hN hA hRf hRl hCS (fun ls H locs t0 t1 hI0 hI1 hl hP hD hS => ?_) (n + 1) 0 t0 t1 ls s0.heap [] (by omega) (by omega) hI0 hI1 hl hP hD hS
    refine lv_iload_n hx hb nd_CB_best_76 rfl (lv_at hl 0 rfl) ?_
    have hsp : sp_best n y (nI 1) = nI (gb_ n y.1 (ma_r n y.2.2) n).2 := by unfold sp_best; simp only [sw_1, tn_1]; simp [cb_m]
    exact wb_iret (w, t0, t1) hx hb hr hk hAe (by rw [hsp]; exact ⟨rfl, hI.1, hI0, hI1⟩) hP hD hS nd_CB_best_77
  · refine wc_S (n := 1) hx hb hml hown htg (c_CB_isMatroid l D _ wh (nI 0) (fun h => absurd h (fun z => z.elim (fun z => hw1.1 (z.trans nI_0.symm)) hw1.2)) (fun _ => rfl)) tm_141 tm_139 tm_140 tm_1 (by decide +kernel) ⟨⟨Nat.le_trans (by decide) hRf, Nat.le_trans (by decide) hRl⟩, rfl, rfl⟩ (wa_pre wa_nil hK hN) rfl hl.1 rfl (Nat.le_of_ble_eq_true rfl) nd_CB_best_1 hCS ?_
    refine wi_if_ne (tgt := 9) hx hb (by decide) nd_CB_best_4 rfl (fun h => absurd h (by decide)) (fun _ => ?_)
    refine lv_iconst (v := -1) hx hb nd_CB_best_7 (by decide) ?_
    have hsp : sp_best n y wh = -1 := by unfold sp_best; simp [sw_n hw1]
    exact wb_iret (w, t0, t1) hx hb hr hk hAe (by rw [hsp]; exact ⟨rfl, hI⟩) hP hD hS nd_CB_best_8
theorem nd_CB_circuit_0 : decode nc_CB_circuit 0 = .ok (.iload_n 1, 1) := by decide +kernel
theorem nd_CB_circuit_1 : decode nc_CB_circuit 1 = .ok (.invokestatic 29, 3) := by decide +kernel
theorem nd_CB_circuit_4 : decode nc_CB_circuit 4 = .ok (.ifCond .eq 19, 3) := by decide +kernel
theorem nd_CB_circuit_7 : decode nc_CB_circuit 7 = .ok (.aload_n 0, 1) := by decide +kernel
theorem nd_CB_circuit_8 : decode nc_CB_circuit 8 = .ok (.iload_n 2, 1) := by decide +kernel
theorem nd_CB_circuit_9 : decode nc_CB_circuit 9 = .ok (.invokevirtual 70, 3) := by decide +kernel
theorem nd_CB_circuit_12 : decode nc_CB_circuit 12 = .ok (.ifCond .eq 11, 3) := by decide +kernel
theorem nd_CB_circuit_15 : decode nc_CB_circuit 15 = .ok (.aload_n 0, 1) := by decide +kernel
theorem nd_CB_circuit_16 : decode nc_CB_circuit 16 = .ok (.iload_n 3, 1) := by decide +kernel
theorem nd_CB_circuit_17 : decode nc_CB_circuit 17 = .ok (.invokevirtual 43, 3) := by decide +kernel
theorem nd_CB_circuit_20 : decode nc_CB_circuit 20 = .ok (.ifCond .ne 5, 3) := by decide +kernel
theorem nd_CB_circuit_23 : decode nc_CB_circuit 23 = .ok (.iconst (-1), 1) := by decide +kernel
theorem nd_CB_circuit_24 : decode nc_CB_circuit 24 = .ok (.ireturn, 1) := by decide +kernel
theorem nd_CB_circuit_25 : decode nc_CB_circuit 25 = .ok (.aload_n 0, 1) := by decide +kernel
theorem nd_CB_circuit_26 : decode nc_CB_circuit 26 = .ok (.getfield 25, 3) := by decide +kernel
theorem nd_CB_circuit_29 : decode nc_CB_circuit 29 = .ok (.iload_n 1, 1) := by decide +kernel
theorem nd_CB_circuit_30 : decode nc_CB_circuit 30 = .ok (.aaload, 1) := by decide +kernel
theorem nd_CB_circuit_31 : decode nc_CB_circuit 31 = .ok (.astore 4, 2) := by decide +kernel
theorem nd_CB_circuit_33 : decode nc_CB_circuit 33 = .ok (.iload_n 2, 1) := by decide +kernel
theorem nd_CB_circuit_34 : decode nc_CB_circuit 34 = .ok (.iconst 1, 1) := by decide +kernel
theorem nd_CB_circuit_35 : decode nc_CB_circuit 35 = .ok (.iload_n 3, 1) := by decide +kernel
theorem nd_CB_circuit_36 : decode nc_CB_circuit 36 = .ok (.ishl, 1) := by decide +kernel
theorem nd_CB_circuit_37 : decode nc_CB_circuit 37 = .ok (.ior, 1) := by decide +kernel
theorem nd_CB_circuit_38 : decode nc_CB_circuit 38 = .ok (.istore 5, 2) := by decide +kernel
theorem nd_CB_circuit_40 : decode nc_CB_circuit 40 = .ok (.iload_n 2, 1) := by decide +kernel
theorem nd_CB_circuit_41 : decode nc_CB_circuit 41 = .ok (.iload_n 3, 1) := by decide +kernel
theorem nd_CB_circuit_42 : decode nc_CB_circuit 42 = .ok (.invokestatic 80, 3) := by decide +kernel
theorem nd_CB_circuit_45 : decode nc_CB_circuit 45 = .ok (.ifCond .ne 22, 3) := by decide +kernel
theorem nd_CB_circuit_48 : decode nc_CB_circuit 48 = .ok (.aload 4, 2) := by decide +kernel
theorem nd_CB_circuit_50 : decode nc_CB_circuit 50 = .ok (.iload_n 2, 1) := by decide +kernel
theorem nd_CB_circuit_51 : decode nc_CB_circuit 51 = .ok (.invokevirtual 73, 3) := by decide +kernel
theorem nd_CB_circuit_54 : decode nc_CB_circuit 54 = .ok (.ifCond .eq 13, 3) := by decide +kernel
theorem nd_CB_circuit_57 : decode nc_CB_circuit 57 = .ok (.aload 4, 2) := by decide +kernel
theorem nd_CB_circuit_59 : decode nc_CB_circuit 59 = .ok (.iload 5, 2) := by decide +kernel
theorem nd_CB_circuit_61 : decode nc_CB_circuit 61 = .ok (.invokevirtual 73, 3) := by decide +kernel
theorem nd_CB_circuit_64 : decode nc_CB_circuit 64 = .ok (.ifCond .eq 5, 3) := by decide +kernel
theorem nd_CB_circuit_67 : decode nc_CB_circuit 67 = .ok (.iconst 0, 1) := by decide +kernel
theorem nd_CB_circuit_68 : decode nc_CB_circuit 68 = .ok (.ireturn, 1) := by decide +kernel
theorem nd_CB_circuit_69 : decode nc_CB_circuit 69 = .ok (.iconst 1, 1) := by decide +kernel
theorem nd_CB_circuit_70 : decode nc_CB_circuit 70 = .ok (.iload_n 3, 1) := by decide +kernel
theorem nd_CB_circuit_71 : decode nc_CB_circuit 71 = .ok (.ishl, 1) := by decide +kernel
theorem nd_CB_circuit_72 : decode nc_CB_circuit 72 = .ok (.istore 6, 2) := by decide +kernel
theorem nd_CB_circuit_74 : decode nc_CB_circuit 74 = .ok (.iconst 0, 1) := by decide +kernel
theorem nd_CB_circuit_75 : decode nc_CB_circuit 75 = .ok (.istore 7, 2) := by decide +kernel
theorem nd_CB_circuit_77 : decode nc_CB_circuit 77 = .ok (.iload 7, 2) := by decide +kernel
theorem nd_CB_circuit_79 : decode nc_CB_circuit 79 = .ok (.aload_n 0, 1) := by decide +kernel
theorem nd_CB_circuit_80 : decode nc_CB_circuit 80 = .ok (.getfield 9, 3) := by decide +kernel
theorem nd_CB_circuit_83 : decode nc_CB_circuit 83 = .ok (.if_icmp .ge 44, 3) := by decide +kernel
theorem nd_CB_circuit_86 : decode nc_CB_circuit 86 = .ok (.iload_n 2, 1) := by decide +kernel
theorem nd_CB_circuit_87 : decode nc_CB_circuit 87 = .ok (.iload 7, 2) := by decide +kernel
theorem nd_CB_circuit_89 : decode nc_CB_circuit 89 = .ok (.invokestatic 80, 3) := by decide +kernel
theorem nd_CB_circuit_92 : decode nc_CB_circuit 92 = .ok (.ifCond .eq 29, 3) := by decide +kernel
theorem nd_CB_circuit_95 : decode nc_CB_circuit 95 = .ok (.aload 4, 2) := by decide +kernel
theorem nd_CB_circuit_97 : decode nc_CB_circuit 97 = .ok (.iload 5, 2) := by decide +kernel
theorem nd_CB_circuit_99 : decode nc_CB_circuit 99 = .ok (.iconst 1, 1) := by decide +kernel
theorem nd_CB_circuit_100 : decode nc_CB_circuit 100 = .ok (.iload 7, 2) := by decide +kernel
theorem nd_CB_circuit_102 : decode nc_CB_circuit 102 = .ok (.ishl, 1) := by decide +kernel
theorem nd_CB_circuit_103 : decode nc_CB_circuit 103 = .ok (.iconst (-1), 1) := by decide +kernel
theorem nd_CB_circuit_104 : decode nc_CB_circuit 104 = .ok (.ixor, 1) := by decide +kernel
theorem nd_CB_circuit_105 : decode nc_CB_circuit 105 = .ok (.iand, 1) := by decide +kernel
theorem nd_CB_circuit_106 : decode nc_CB_circuit 106 = .ok (.invokevirtual 73, 3) := by decide +kernel
theorem nd_CB_circuit_109 : decode nc_CB_circuit 109 = .ok (.ifCond .eq 12, 3) := by decide +kernel
theorem nd_CB_circuit_112 : decode nc_CB_circuit 112 = .ok (.iload 6, 2) := by decide +kernel
theorem nd_CB_circuit_114 : decode nc_CB_circuit 114 = .ok (.iconst 1, 1) := by decide +kernel
theorem nd_CB_circuit_115 : decode nc_CB_circuit 115 = .ok (.iload 7, 2) := by decide +kernel
theorem nd_CB_circuit_117 : decode nc_CB_circuit 117 = .ok (.ishl, 1) := by decide +kernel
theorem nd_CB_circuit_118 : decode nc_CB_circuit 118 = .ok (.ior, 1) := by decide +kernel
theorem nd_CB_circuit_119 : decode nc_CB_circuit 119 = .ok (.istore 6, 2) := by decide +kernel
theorem nd_CB_circuit_121 : decode nc_CB_circuit 121 = .ok (.iinc 7 1, 3) := by decide +kernel
theorem nd_CB_circuit_124 : decode nc_CB_circuit 124 = .ok (.goto (-47), 3) := by decide +kernel
theorem nd_CB_circuit_127 : decode nc_CB_circuit 127 = .ok (.iload 6, 2) := by decide +kernel
theorem nd_CB_circuit_129 : decode nc_CB_circuit 129 = .ok (.ireturn, 1) := by decide +kernel
set_option maxRecDepth 20000 in
theorem lp_CB_circuit0 {p : Program} {l : Launch} {e0 : Env} {R : Room} {s0 : State} {m : MethodId} {args : Array Value} {below : List Frame} {meth : Method} {c : Code} {cells slots : Nat} {Q : State → Prop} {D : va_G} {A : Nat → Prop} (cI cG cM : ClassId) (q : Nat → Nat) (n : Nat) (hn1 : 1 ≤ n) (hn : n ≤ 10) (mr : Nat → Option Nat) (a0 a1 : ma_A) (hm0 : mr 0 = some (a0.1 0)) (hm1 : mr 1 = some (a1.1 0)) (w : Nat → Int32) (y : cb_Y) (hWy : ∀ e, e < n → w e = y.1 e) (s e : Nat) (hs : s < 2 ^ n) (he : e < n)  (hx : p.tables.exec = Jvm.exec) (hb : c.code = nc_CB_circuit) (hml : c.maxLocals = 8) (htg : ∀ w ∈ tg_, w.before args s0 = true) (hown : s0.vm.findClass ny_CB_circuit.cls = some m.cls) (hK : va_K D cl_all (ty_all cI cG cM) s0) (hN : tn_K s0) (hA : ∀ q : Nat, s0.heap.size ≤ q → A q) (hRf : 6 ≤ R.frames) (hRl : 133 ≤ R.locals) (hCS : cells ≤ R.cells ∧ slots ≤ R.slots) (kx : ∀ (ls : Array Slot) (H : Heap) (locs : List Loc) (t0 : ma_S) (t1 : ma_S), (ma_I n y.2.1 t0) → (ma_I n y.2.2 t1) → lv_has ls 8 [(6, .int (nI (cq_ (ma_r n y.2.1) n s e n)))] → va_P D cl_all ([((q 0), .inr (0, [.int (nI (n)), .int (nI (2 ^ n - 1)), .ref (q 1), .ref (q 2)])), ((q 1), .inl (cI, n, .inl w)), ((q 2), .inl (cM, 2, .inr (.inr (.inr (.inr mr)))))] ++ (mw_ cI cG a0 n t0 ++ (mw_ cI cG a1 n t1 ++ []))) H → va_D A ([((q 0), .inr (0, [.int (nI (n)), .int (nI (2 ^ n - 1)), .ref (q 1), .ref (q 2)])), ((q 1), .inl (cI, n, .inl w)), ((q 2), .inl (cM, 2, .inr (.inr (.inr (.inr mr)))))] ++ (mw_ cI cG a0 n t0 ++ (mw_ cI cG a1 n t1 ++ []))) → va_S A s0.heap H locs → W p l e0 R s0 m args below meth c H locs cells slots Q (F0 m 127 ls [])) : ∀ (f : Nat) (k : Nat) (t0 : ma_S) (t1 : ma_S) (ls : Array Slot) (H : Heap) (locs : List Loc), n - k < f → (k ≤ n) → (ma_I n y.2.1 t0) → (ma_I n y.2.2 t1) → lv_has ls 8 [(7, .int (nI (k))), (6, .int (nI (cq_ (ma_r n y.2.1) n s e k))), (5, .int (nI (s ||| 2 ^ e))), (4, .ref (a0.1 0)), (0, .ref (q 0)), (2, .int (nI (s)))] → va_P D cl_all ([((q 0), .inr (0, [.int (nI (n)), .int (nI (2 ^ n - 1)), .ref (q 1), .ref (q 2)])), ((q 1), .inl (cI, n, .inl w)), ((q 2), .inl (cM, 2, .inr (.inr (.inr (.inr mr)))))] ++ (mw_ cI cG a0 n t0 ++ (mw_ cI cG a1 n t1 ++ []))) H → va_D A ([((q 0), .inr (0, [.int (nI (n)), .int (nI (2 ^ n - 1)), .ref (q 1), .ref (q 2)])), ((q 1), .inl (cI, n, .inl w)), ((q 2), .inl (cM, 2, .inr (.inr (.inr (.inr mr)))))] ++ (mw_ cI cG a0 n t0 ++ (mw_ cI cG a1 n t1 ++ []))) → va_S A s0.heap H locs → W p l e0 R s0 m args below meth c H locs cells slots Q (F0 m 77 ls []) := by
  intro f
  induction f with
  | zero => intro k t0 t1 ls H locs hfu; omega
  | succ f ih =>
    intro k t0 t1 ls H locs hfu hk9 hI0 hI1 hl hP hD hS
    have h2n : 2 ^ n ≤ 1024 := Nat.pow_le_pow_right (by omega) hn
    have h2p : 1 ≤ 2 ^ n := Nat.one_le_two_pow
    refine lv_iload hx hb nd_CB_circuit_77 (lv_at hl 0 rfl) ?_
    refine lv_aload_n hx hb nd_CB_circuit_79 rfl (lv_at hl 4 rfl) ?_
    refine va_get (D := D) (C := nr_CB) (T := nt_CB) (N := 4) hx hb htg tf_CB hown hK hP 0 rfl rfl 0 (by decide) (htg _ tm_122) (fun _ h => h) rfl nd_CB_circuit_80 ?_
    refine wi_icmp_ge (tgt := 127) hx hb (by omega) (by omega) nd_CB_circuit_83 rfl (fun hc83 => ?_) (fun hc83 => ?_)
    · have hl : lv_has ls 8 [(6, .int (nI (cq_ (ma_r n y.2.1) n s e k)))] := lv_sub hl [1] rfl
      have hin : k = n := by omega
      exact kx ls H locs t0 t1 hI0 hI1 (by simpa only [hin] using hl) hP hD hS
    · refine lv_iload_n hx hb nd_CB_circuit_86 rfl (lv_at hl 5 rfl) ?_
      refine lv_iload hx hb nd_CB_circuit_87 (lv_at hl 0 rfl) ?_
      refine wc_S (n := 2) hx hb hml hown htg (c_CB_has l D _ s k (by omega) (by omega)) tm_272 tm_323 tm_271 tm_1 (by decide +kernel) ⟨⟨Nat.le_trans (by decide) hRf, Nat.le_trans (by decide) hRl⟩, rfl, rfl⟩ (wa_pre wa_nil hK hN) rfl hl.1 rfl (Nat.le_of_ble_eq_true rfl) nd_CB_circuit_89 hCS ?_
      have hbt89 := mt_bt_lt s k
      refine wi_if_eq (tgt := 121) hx hb (by omega) nd_CB_circuit_92 rfl (fun hc92 => ?_) (fun hc92 => ?_)
      · refine lv_iinc (k := 0) (v := nI (k + 1)) hx hb nd_CB_circuit_121 hl rfl (wi_inc _ 1) (by decide) rfl (fun ls hl => ?_)
        have hl : lv_has ls 8 [(7, .int (nI (k + 1))), (6, .int (nI (cq_ (ma_r n y.2.1) n s e k))), (5, .int (nI (s ||| 2 ^ e))), (4, .ref (a0.1 0)), (0, .ref (q 0)), (2, .int (nI (s)))] := hl
        refine lv_goto (tgt := 77) hx hb nd_CB_circuit_124 rfl ?_
        have hl : lv_has ls 8 [(7, .int (nI (k + 1))), (6, .int (nI (cq_ (ma_r n y.2.1) n s e k))), (5, .int (nI (s ||| 2 ^ e))), (4, .ref (a0.1 0)), (0, .ref (q 0)), (2, .int (nI (s)))] := lv_sub hl [0, 1, 2, 3, 4, 5] rfl
        have hq : cq_ (ma_r n y.2.1) n s e (k + 1) = cq_ (ma_r n y.2.1) n s e k := if_neg (fun z => by rw [mt_bt_f.mp hc92] at z; cases z.1)
        exact ih (k + 1) t0 t1 ls H locs (by omega) (by omega) hI0 hI1 (by rw [hq]; exact hl) hP hD hS
      · refine lv_aload hx hb nd_CB_circuit_95 (lv_at hl 3 rfl) ?_
        refine lv_iload hx hb nd_CB_circuit_97 (lv_at hl 2 rfl) ?_
        refine wi_ic hx hb (a := 1) nd_CB_circuit_99 ?_
        refine lv_iload hx hb nd_CB_circuit_100 (lv_at hl 0 rfl) ?_
        refine wi_ishl1 hx hb (by omega) nd_CB_circuit_102 ?_
        refine lv_iconst (v := -1) hx hb nd_CB_circuit_103 (by decide) ?_
        refine lv_ixor hx hb nd_CB_circuit_104 ?_
        have hkb : (s ||| 2 ^ e).testBit k = true := by rw [Nat.testBit_or, mt_bt_n.mp hc92]; rfl
        refine lv_iand hx hb nd_CB_circuit_105 ?_
        refine wi_top (bs_rm (mt_orlt hs he) (by omega) (show k < n by omega)) ?_
        rw [if_pos hkb]
        refine wd_Vi (C := nr_MA) (n := 1) (X := [((q 0), .inr (0, [.int (nI (n)), .int (nI (2 ^ n - 1)), .ref (q 1), .ref (q 2)])), ((q 1), .inl (cI, n, .inl w)), ((q 2), .inl (cM, 2, .inr (.inr (.inr (.inr mr)))))]) (Y := mw_ cI cG a0 n t0) (Z := (mw_ cI cG a1 n t1 ++ [])) hx hb hml hown htg (c_MA_isIndependent l D cI cG cM a0 n hn t0.1 t0.2.1 t0.2.2.1 t0.2.2.2.1 t0.2.2.2.2.1 t0.2.2.2.2.2 y.2.1 hI0 ((s ||| 2 ^ e) ^^^ 2 ^ k) (mt_xorlt (mt_orlt hs he) (show k < n by omega)) _) tm_259 tm_256 tm_257 tm_258 tm_2 (by decide +kernel) ⟨⟨Nat.le_trans (by decide) hRf, Nat.le_trans (by decide) hRl⟩, rfl, rfl⟩ hP hD hS hA hK hN (va_recv (q0 := 0) (ci := 1) hK (wm_P (X := [((q 0), .inr (0, [.int (nI (n)), .int (nI (2 ^ n - 1)), .ref (q 1), .ref (q 2)])), ((q 1), .inl (cI, n, .inl w)), ((q 2), .inl (cM, 2, .inr (.inr (.inr (.inr mr)))))]) (Y := mw_ cI cG a0 n t0) (Z := (mw_ cI cG a1 n t1 ++ [])) hP).2.1 rfl rfl) rfl hl.1 rfl (Nat.le_of_ble_eq_true rfl) nd_CB_circuit_106 hCS (fun v106 u106 H locs hp106 hP hD hS => ?_)
        have hP : va_P D cl_all ([((q 0), .inr (0, [.int (nI (n)), .int (nI (2 ^ n - 1)), .ref (q 1), .ref (q 2)])), ((q 1), .inl (cI, n, .inl w)), ((q 2), .inl (cM, 2, .inr (.inr (.inr (.inr mr)))))] ++ (mw_ cI cG a0 n u106 ++ (mw_ cI cG a1 n t1 ++ []))) H := hP
        have hD : va_D A ([((q 0), .inr (0, [.int (nI (n)), .int (nI (2 ^ n - 1)), .ref (q 1), .ref (q 2)])), ((q 1), .inl (cI, n, .inl w)), ((q 2), .inl (cM, 2, .inr (.inr (.inr (.inr mr)))))] ++ (mw_ cI cG a0 n u106 ++ (mw_ cI cG a1 n t1 ++ []))) := hD
        refine lv_if_eq (tgt := 121) hx hb nd_CB_circuit_109 rfl (fun hc109 => ?_) (fun hc109 => ?_)
        · refine lv_iinc (k := 0) (v := nI (k + 1)) hx hb nd_CB_circuit_121 hl rfl (wi_inc _ 1) (by decide) rfl (fun ls hl => ?_)
          have hl : lv_has ls 8 [(7, .int (nI (k + 1))), (6, .int (nI (cq_ (ma_r n y.2.1) n s e k))), (5, .int (nI (s ||| 2 ^ e))), (4, .ref (a0.1 0)), (0, .ref (q 0)), (2, .int (nI (s)))] := hl
          refine lv_goto (tgt := 77) hx hb nd_CB_circuit_124 rfl ?_
          have hl : lv_has ls 8 [(7, .int (nI (k + 1))), (6, .int (nI (cq_ (ma_r n y.2.1) n s e k))), (5, .int (nI (s ||| 2 ^ e))), (4, .ref (a0.1 0)), (0, .ref (q 0)), (2, .int (nI (s)))] := lv_sub hl [0, 1, 2, 3, 4, 5] rfl
          have hq : cq_ (ma_r n y.2.1) n s e (k + 1) = cq_ (ma_r n y.2.1) n s e k := if_neg (fun z => nI_ne0 (n := 1) (by omega) (by omega) ((hp106.1 z.2).symm.trans hc109))
          exact ih (k + 1) u106 t1 ls H locs (by omega) (by omega) hp106.2.2 hI1 (by rw [hq]; exact hl) hP hD hS
        · refine lv_iload hx hb nd_CB_circuit_112 (lv_at hl 1 rfl) ?_
          refine wi_ic hx hb (a := 1) nd_CB_circuit_114 ?_
          refine lv_iload hx hb nd_CB_circuit_115 (lv_at hl 0 rfl) ?_
          refine wi_ishl1 hx hb (by omega) nd_CB_circuit_117 ?_
          refine wi_ior hx hb nd_CB_circuit_118 ?_
          refine lv_istore hx hb nd_CB_circuit_119 hl (by decide) rfl (fun ls hl => ?_)
          have hl : lv_has ls 8 [(6, .int (nI ((cq_ (ma_r n y.2.1) n s e k) ||| (2 ^ k)))), (7, .int (nI (k))), (5, .int (nI (s ||| 2 ^ e))), (4, .ref (a0.1 0)), (0, .ref (q 0)), (2, .int (nI (s)))] := hl
          refine lv_iinc (k := 1) (v := nI (k + 1)) hx hb nd_CB_circuit_121 hl rfl (wi_inc _ 1) (by decide) rfl (fun ls hl => ?_)
          have hl : lv_has ls 8 [(7, .int (nI (k + 1))), (6, .int (nI ((cq_ (ma_r n y.2.1) n s e k) ||| (2 ^ k)))), (5, .int (nI (s ||| 2 ^ e))), (4, .ref (a0.1 0)), (0, .ref (q 0)), (2, .int (nI (s)))] := hl
          refine lv_goto (tgt := 77) hx hb nd_CB_circuit_124 rfl ?_
          have hl : lv_has ls 8 [(7, .int (nI (k + 1))), (6, .int (nI ((cq_ (ma_r n y.2.1) n s e k) ||| (2 ^ k)))), (5, .int (nI (s ||| 2 ^ e))), (4, .ref (a0.1 0)), (0, .ref (q 0)), (2, .int (nI (s)))] := lv_sub hl [0, 1, 2, 3, 4, 5] rfl
          have hq : cq_ (ma_r n y.2.1) n s e (k + 1) = cq_ (ma_r n y.2.1) n s e k ||| 2 ^ k := if_pos ⟨mt_bt_n.mp hc92, Classical.byContradiction fun z => hc109 ((hp106.2.1 z).trans nI_0)⟩
          exact ih (k + 1) u106 t1 ls H locs (by omega) (by omega) hp106.2.2 hI1 (by rw [hq]; exact hl) hP hD hS
set_option maxRecDepth 20000 in
theorem lp_CB_circuit1 {p : Program} {l : Launch} {e0 : Env} {R : Room} {s0 : State} {m : MethodId} {args : Array Value} {below : List Frame} {meth : Method} {c : Code} {cells slots : Nat} {Q : State → Prop} {D : va_G} {A : Nat → Prop} (cI cG cM : ClassId) (q : Nat → Nat) (n : Nat) (hn1 : 1 ≤ n) (hn : n ≤ 10) (mr : Nat → Option Nat) (a0 a1 : ma_A) (hm0 : mr 0 = some (a0.1 0)) (hm1 : mr 1 = some (a1.1 0)) (w : Nat → Int32) (y : cb_Y) (hWy : ∀ e, e < n → w e = y.1 e) (s e : Nat) (hs : s < 2 ^ n) (he : e < n)  (hx : p.tables.exec = Jvm.exec) (hb : c.code = nc_CB_circuit) (hml : c.maxLocals = 8) (htg : ∀ w ∈ tg_, w.before args s0 = true) (hown : s0.vm.findClass ny_CB_circuit.cls = some m.cls) (hK : va_K D cl_all (ty_all cI cG cM) s0) (hN : tn_K s0) (hA : ∀ q : Nat, s0.heap.size ≤ q → A q) (hRf : 6 ≤ R.frames) (hRl : 133 ≤ R.locals) (hCS : cells ≤ R.cells ∧ slots ≤ R.slots) (kx : ∀ (ls : Array Slot) (H : Heap) (locs : List Loc) (t0 : ma_S) (t1 : ma_S), (ma_I n y.2.1 t0) → (ma_I n y.2.2 t1) → lv_has ls 8 [(6, .int (nI (cq_ (ma_r n y.2.2) n s e n)))] → va_P D cl_all ([((q 0), .inr (0, [.int (nI (n)), .int (nI (2 ^ n - 1)), .ref (q 1), .ref (q 2)])), ((q 1), .inl (cI, n, .inl w)), ((q 2), .inl (cM, 2, .inr (.inr (.inr (.inr mr)))))] ++ (mw_ cI cG a0 n t0 ++ (mw_ cI cG a1 n t1 ++ []))) H → va_D A ([((q 0), .inr (0, [.int (nI (n)), .int (nI (2 ^ n - 1)), .ref (q 1), .ref (q 2)])), ((q 1), .inl (cI, n, .inl w)), ((q 2), .inl (cM, 2, .inr (.inr (.inr (.inr mr)))))] ++ (mw_ cI cG a0 n t0 ++ (mw_ cI cG a1 n t1 ++ []))) → va_S A s0.heap H locs → W p l e0 R s0 m args below meth c H locs cells slots Q (F0 m 127 ls [])) : ∀ (f : Nat) (k : Nat) (t0 : ma_S) (t1 : ma_S) (ls : Array Slot) (H : Heap) (locs : List Loc), n - k < f → (k ≤ n) → (ma_I n y.2.1 t0) → (ma_I n y.2.2 t1) → lv_has ls 8 [(7, .int (nI (k))), (6, .int (nI (cq_ (ma_r n y.2.2) n s e k))), (5, .int (nI (s ||| 2 ^ e))), (4, .ref (a1.1 0)), (0, .ref (q 0)), (2, .int (nI (s)))] → va_P D cl_all ([((q 0), .inr (0, [.int (nI (n)), .int (nI (2 ^ n - 1)), .ref (q 1), .ref (q 2)])), ((q 1), .inl (cI, n, .inl w)), ((q 2), .inl (cM, 2, .inr (.inr (.inr (.inr mr)))))] ++ (mw_ cI cG a0 n t0 ++ (mw_ cI cG a1 n t1 ++ []))) H → va_D A ([((q 0), .inr (0, [.int (nI (n)), .int (nI (2 ^ n - 1)), .ref (q 1), .ref (q 2)])), ((q 1), .inl (cI, n, .inl w)), ((q 2), .inl (cM, 2, .inr (.inr (.inr (.inr mr)))))] ++ (mw_ cI cG a0 n t0 ++ (mw_ cI cG a1 n t1 ++ []))) → va_S A s0.heap H locs → W p l e0 R s0 m args below meth c H locs cells slots Q (F0 m 77 ls []) := by
  intro f
  induction f with
  | zero => intro k t0 t1 ls H locs hfu; omega
  | succ f ih =>
    intro k t0 t1 ls H locs hfu hk9 hI0 hI1 hl hP hD hS
    have h2n : 2 ^ n ≤ 1024 := Nat.pow_le_pow_right (by omega) hn
    have h2p : 1 ≤ 2 ^ n := Nat.one_le_two_pow
    refine lv_iload hx hb nd_CB_circuit_77 (lv_at hl 0 rfl) ?_
    refine lv_aload_n hx hb nd_CB_circuit_79 rfl (lv_at hl 4 rfl) ?_
    refine va_get (D := D) (C := nr_CB) (T := nt_CB) (N := 4) hx hb htg tf_CB hown hK hP 0 rfl rfl 0 (by decide) (htg _ tm_122) (fun _ h => h) rfl nd_CB_circuit_80 ?_
    refine wi_icmp_ge (tgt := 127) hx hb (by omega) (by omega) nd_CB_circuit_83 rfl (fun hc83 => ?_) (fun hc83 => ?_)
    · have hl : lv_has ls 8 [(6, .int (nI (cq_ (ma_r n y.2.2) n s e k)))] := lv_sub hl [1] rfl
      have hin : k = n := by omega
      exact kx ls H locs t0 t1 hI0 hI1 (by simpa only [hin] using hl) hP hD hS
    · refine lv_iload_n hx hb nd_CB_circuit_86 rfl (lv_at hl 5 rfl) ?_
      refine lv_iload hx hb nd_CB_circuit_87 (lv_at hl 0 rfl) ?_
      refine wc_S (n := 2) hx hb hml hown htg (c_CB_has l D _ s k (by omega) (by omega)) tm_272 tm_323 tm_271 tm_1 (by decide +kernel) ⟨⟨Nat.le_trans (by decide) hRf, Nat.le_trans (by decide) hRl⟩, rfl, rfl⟩ (wa_pre wa_nil hK hN) rfl hl.1 rfl (Nat.le_of_ble_eq_true rfl) nd_CB_circuit_89 hCS ?_
      have hbt89 := mt_bt_lt s k
      refine wi_if_eq (tgt := 121) hx hb (by omega) nd_CB_circuit_92 rfl (fun hc92 => ?_) (fun hc92 => ?_)
      · refine lv_iinc (k := 0) (v := nI (k + 1)) hx hb nd_CB_circuit_121 hl rfl (wi_inc _ 1) (by decide) rfl (fun ls hl => ?_)
        have hl : lv_has ls 8 [(7, .int (nI (k + 1))), (6, .int (nI (cq_ (ma_r n y.2.2) n s e k))), (5, .int (nI (s ||| 2 ^ e))), (4, .ref (a1.1 0)), (0, .ref (q 0)), (2, .int (nI (s)))] := hl
        refine lv_goto (tgt := 77) hx hb nd_CB_circuit_124 rfl ?_
        have hl : lv_has ls 8 [(7, .int (nI (k + 1))), (6, .int (nI (cq_ (ma_r n y.2.2) n s e k))), (5, .int (nI (s ||| 2 ^ e))), (4, .ref (a1.1 0)), (0, .ref (q 0)), (2, .int (nI (s)))] := lv_sub hl [0, 1, 2, 3, 4, 5] rfl
        have hq : cq_ (ma_r n y.2.2) n s e (k + 1) = cq_ (ma_r n y.2.2) n s e k := if_neg (fun z => by rw [mt_bt_f.mp hc92] at z; cases z.1)
        exact ih (k + 1) t0 t1 ls H locs (by omega) (by omega) hI0 hI1 (by rw [hq]; exact hl) hP hD hS
      · refine lv_aload hx hb nd_CB_circuit_95 (lv_at hl 3 rfl) ?_
        refine lv_iload hx hb nd_CB_circuit_97 (lv_at hl 2 rfl) ?_
        refine wi_ic hx hb (a := 1) nd_CB_circuit_99 ?_
        refine lv_iload hx hb nd_CB_circuit_100 (lv_at hl 0 rfl) ?_
        refine wi_ishl1 hx hb (by omega) nd_CB_circuit_102 ?_
        refine lv_iconst (v := -1) hx hb nd_CB_circuit_103 (by decide) ?_
        refine lv_ixor hx hb nd_CB_circuit_104 ?_
        have hkb : (s ||| 2 ^ e).testBit k = true := by rw [Nat.testBit_or, mt_bt_n.mp hc92]; rfl
        refine lv_iand hx hb nd_CB_circuit_105 ?_
        refine wi_top (bs_rm (mt_orlt hs he) (by omega) (show k < n by omega)) ?_
        rw [if_pos hkb]
        rw [← List.append_assoc] at hP hD
        refine wd_Vi (C := nr_MA) (n := 1) (X := ([((q 0), .inr (0, [.int (nI (n)), .int (nI (2 ^ n - 1)), .ref (q 1), .ref (q 2)])), ((q 1), .inl (cI, n, .inl w)), ((q 2), .inl (cM, 2, .inr (.inr (.inr (.inr mr)))))] ++ mw_ cI cG a0 n t0)) (Y := mw_ cI cG a1 n t1) (Z := []) hx hb hml hown htg (c_MA_isIndependent l D cI cG cM a1 n hn t1.1 t1.2.1 t1.2.2.1 t1.2.2.2.1 t1.2.2.2.2.1 t1.2.2.2.2.2 y.2.2 hI1 ((s ||| 2 ^ e) ^^^ 2 ^ k) (mt_xorlt (mt_orlt hs he) (show k < n by omega)) _) tm_259 tm_256 tm_257 tm_258 tm_2 (by decide +kernel) ⟨⟨Nat.le_trans (by decide) hRf, Nat.le_trans (by decide) hRl⟩, rfl, rfl⟩ hP hD hS hA hK hN (va_recv (q0 := 0) (ci := 1) hK (wm_P (X := ([((q 0), .inr (0, [.int (nI (n)), .int (nI (2 ^ n - 1)), .ref (q 1), .ref (q 2)])), ((q 1), .inl (cI, n, .inl w)), ((q 2), .inl (cM, 2, .inr (.inr (.inr (.inr mr)))))] ++ mw_ cI cG a0 n t0)) (Y := mw_ cI cG a1 n t1) (Z := []) hP).2.1 rfl rfl) rfl hl.1 rfl (Nat.le_of_ble_eq_true rfl) nd_CB_circuit_106 hCS (fun v106 u106 H locs hp106 hP hD hS => ?_)
        rw [List.append_assoc] at hP hD
        have hP : va_P D cl_all ([((q 0), .inr (0, [.int (nI (n)), .int (nI (2 ^ n - 1)), .ref (q 1), .ref (q 2)])), ((q 1), .inl (cI, n, .inl w)), ((q 2), .inl (cM, 2, .inr (.inr (.inr (.inr mr)))))] ++ (mw_ cI cG a0 n t0 ++ (mw_ cI cG a1 n u106 ++ []))) H := hP
        have hD : va_D A ([((q 0), .inr (0, [.int (nI (n)), .int (nI (2 ^ n - 1)), .ref (q 1), .ref (q 2)])), ((q 1), .inl (cI, n, .inl w)), ((q 2), .inl (cM, 2, .inr (.inr (.inr (.inr mr)))))] ++ (mw_ cI cG a0 n t0 ++ (mw_ cI cG a1 n u106 ++ []))) := hD
        refine lv_if_eq (tgt := 121) hx hb nd_CB_circuit_109 rfl (fun hc109 => ?_) (fun hc109 => ?_)
        · refine lv_iinc (k := 0) (v := nI (k + 1)) hx hb nd_CB_circuit_121 hl rfl (wi_inc _ 1) (by decide) rfl (fun ls hl => ?_)
          have hl : lv_has ls 8 [(7, .int (nI (k + 1))), (6, .int (nI (cq_ (ma_r n y.2.2) n s e k))), (5, .int (nI (s ||| 2 ^ e))), (4, .ref (a1.1 0)), (0, .ref (q 0)), (2, .int (nI (s)))] := hl
          refine lv_goto (tgt := 77) hx hb nd_CB_circuit_124 rfl ?_
          have hl : lv_has ls 8 [(7, .int (nI (k + 1))), (6, .int (nI (cq_ (ma_r n y.2.2) n s e k))), (5, .int (nI (s ||| 2 ^ e))), (4, .ref (a1.1 0)), (0, .ref (q 0)), (2, .int (nI (s)))] := lv_sub hl [0, 1, 2, 3, 4, 5] rfl
          have hq : cq_ (ma_r n y.2.2) n s e (k + 1) = cq_ (ma_r n y.2.2) n s e k := if_neg (fun z => nI_ne0 (n := 1) (by omega) (by omega) ((hp106.1 z.2).symm.trans hc109))
          exact ih (k + 1) t0 u106 ls H locs (by omega) (by omega) hI0 hp106.2.2 (by rw [hq]; exact hl) hP hD hS
        · refine lv_iload hx hb nd_CB_circuit_112 (lv_at hl 1 rfl) ?_
          refine wi_ic hx hb (a := 1) nd_CB_circuit_114 ?_
          refine lv_iload hx hb nd_CB_circuit_115 (lv_at hl 0 rfl) ?_
          refine wi_ishl1 hx hb (by omega) nd_CB_circuit_117 ?_
          refine wi_ior hx hb nd_CB_circuit_118 ?_
          refine lv_istore hx hb nd_CB_circuit_119 hl (by decide) rfl (fun ls hl => ?_)
          have hl : lv_has ls 8 [(6, .int (nI ((cq_ (ma_r n y.2.2) n s e k) ||| (2 ^ k)))), (7, .int (nI (k))), (5, .int (nI (s ||| 2 ^ e))), (4, .ref (a1.1 0)), (0, .ref (q 0)), (2, .int (nI (s)))] := hl
          refine lv_iinc (k := 1) (v := nI (k + 1)) hx hb nd_CB_circuit_121 hl rfl (wi_inc _ 1) (by decide) rfl (fun ls hl => ?_)
          have hl : lv_has ls 8 [(7, .int (nI (k + 1))), (6, .int (nI ((cq_ (ma_r n y.2.2) n s e k) ||| (2 ^ k)))), (5, .int (nI (s ||| 2 ^ e))), (4, .ref (a1.1 0)), (0, .ref (q 0)), (2, .int (nI (s)))] := hl
          refine lv_goto (tgt := 77) hx hb nd_CB_circuit_124 rfl ?_
          have hl : lv_has ls 8 [(7, .int (nI (k + 1))), (6, .int (nI ((cq_ (ma_r n y.2.2) n s e k) ||| (2 ^ k)))), (5, .int (nI (s ||| 2 ^ e))), (4, .ref (a1.1 0)), (0, .ref (q 0)), (2, .int (nI (s)))] := lv_sub hl [0, 1, 2, 3, 4, 5] rfl
          have hq : cq_ (ma_r n y.2.2) n s e (k + 1) = cq_ (ma_r n y.2.2) n s e k ||| 2 ^ k := if_pos ⟨mt_bt_n.mp hc92, Classical.byContradiction fun z => hc109 ((hp106.2.1 z).trans nI_0)⟩
          exact ih (k + 1) t0 u106 ls H locs (by omega) (by omega) hI0 hp106.2.2 (by rw [hq]; exact hl) hP hD hS
set_option maxRecDepth 20000 in
theorem c_CB_circuit (l : Launch) (D : va_G) (cI cG cM : ClassId)  (q : Nat → Nat) (n : Nat) (hn1 : 1 ≤ n) (hn : n ≤ 10) (mr : Nat → Option Nat) (a0 a1 : ma_A) (hm0 : mr 0 = some (a0.1 0)) (hm1 : mr 1 = some (a1.1 0)) (w : Nat → Int32) (t0 t1 : ma_S) (y : cb_Y) (hI : cb_I n y (w, t0, t1)) (wh s e : Int32) (sz : Nat) : wb_Mi l ny_CB_circuit nc_CB_circuit 8 (some .int) ({ frames := 6, cells := 0, slots := 0, locals := 133 }) D (ty_all cI cG cM) (cw_ cI cG cM q n mr a0 a1 (w, t0, t1)) sz [.ref (q 0), .int (wh), .int (s), .int (e)] (fun (v : Int32) (u : cb_S) => v = sp_circuit n y wh s e ∧ cb_I n y u) (fun u : cb_S => cw_ cI cG cM q n mr a0 a1 u) := by
  refine wb_start (S := cb_S) (by decide) (Nat.le_of_ble_eq_true rfl) ?_
  intro p e0 s0 m below meth c ls A hx hb hr hml htg hown hk hP hK hN hl hAe hsz hD hA
  have hl : lv_has ls 8 [(0, .ref (q 0)), (1, .int (wh)), (2, .int (s)), (3, .int (e))] := hl
  have hP : va_P D cl_all ([((q 0), .inr (0, [.int (nI (n)), .int (nI (2 ^ n - 1)), .ref (q 1), .ref (q 2)])), ((q 1), .inl (cI, n, .inl w)), ((q 2), .inl (cM, 2, .inr (.inr (.inr (.inr mr)))))] ++ (mw_ cI cG a0 n t0 ++ (mw_ cI cG a1 n t1 ++ []))) s0.heap := hP
  have hD : va_D A ([((q 0), .inr (0, [.int (nI (n)), .int (nI (2 ^ n - 1)), .ref (q 1), .ref (q 2)])), ((q 1), .inl (cI, n, .inl w)), ((q 2), .inl (cM, 2, .inr (.inr (.inr (.inr mr)))))] ++ (mw_ cI cG a0 n t0 ++ (mw_ cI cG a1 n t1 ++ []))) := hD
  have hS : va_S A s0.heap s0.heap [] := va_S.rf
  have hRf : 6 ≤ ({ frames := 6, cells := 0, slots := 0, locals := 133 } : Room).frames := Nat.le_refl _
  have hRl : 133 ≤ ({ frames := 6, cells := 0, slots := 0, locals := 133 } : Room).locals := Nat.le_refl _
  have hCS : 0 ≤ ({ frames := 6, cells := 0, slots := 0, locals := 133 } : Room).cells ∧ 0 ≤ ({ frames := 6, cells := 0, slots := 0, locals := 133 } : Room).slots := ⟨Nat.zero_le _, Nat.zero_le _⟩
  have h2n : 2 ^ n ≤ 1024 := Nat.pow_le_pow_right (by omega) hn
  have h2p : 1 ≤ 2 ^ n := Nat.one_le_two_pow
  have hI0 : ma_I n y.2.1 t0 := hI.2.1
  have hI1 : ma_I n y.2.2 t1 := hI.2.2
  refine lv_iload_n hx hb nd_CB_circuit_0 rfl (lv_at hl 1 rfl) ?_
  rcases sm_which wh with hw1 | hw1 | hw1
  · subst hw1
    refine wc_S (n := 1) hx hb hml hown htg (c_CB_isMatroid l D _ (nI 0) (nI 1) (fun _ => rfl) (fun h => absurd (Or.inl nI_0) h)) tm_141 tm_139 tm_140 tm_1 (by decide +kernel) ⟨⟨Nat.le_trans (by decide) hRf, Nat.le_trans (by decide) hRl⟩, rfl, rfl⟩ (wa_pre wa_nil hK hN) rfl hl.1 rfl (Nat.le_of_ble_eq_true rfl) nd_CB_circuit_1 hCS ?_
    refine wi_if_eq (tgt := 23) hx hb (by decide) nd_CB_circuit_4 rfl (fun h => absurd h (by decide)) (fun _ => ?_)
    refine lv_aload_n hx hb nd_CB_circuit_7 rfl (lv_at hl 0 rfl) ?_
    refine lv_iload_n hx hb nd_CB_circuit_8 rfl (lv_at hl 2 rfl) ?_
    by_cases hq9 : ¬ s < 0 ∧ ¬ nI (2 ^ n - 1) < s
    · obtain ⟨s1, h_s1, rfl⟩ := sm_upto (by omega) hq9
      refine wc_V (C := nr_CB) (n := 1) hx hb hml hown htg (c_CB_isSet l D _ (q 0) (q 1) (q 2) n (nI s1) (nI 1) (fun _ => rfl) (fun h => absurd hq9 h)) tm_255 tm_252 tm_254 tp_3 tm_1 (by decide +kernel) ⟨⟨Nat.le_trans (by decide) hRf, Nat.le_trans (by decide) hRl⟩, rfl, rfl⟩ (wa_pre (hP.sub [0] rfl) hK hN) (va_recv (q0 := 0) (ci := 0) hK hP rfl rfl) rfl hl.1 rfl (Nat.le_of_ble_eq_true rfl) nd_CB_circuit_9 hCS ?_
      refine wi_if_eq (tgt := 23) hx hb (by decide) nd_CB_circuit_12 rfl (fun h => absurd h (by decide)) (fun _ => ?_)
      refine lv_aload_n hx hb nd_CB_circuit_15 rfl (lv_at hl 0 rfl) ?_
      refine lv_iload_n hx hb nd_CB_circuit_16 rfl (lv_at hl 3 rfl) ?_
      by_cases hq17 : ¬ e < 0 ∧ ¬ nI n ≤ e
      · obtain ⟨e1, h_e1, rfl⟩ := sm_elem (by omega) hq17
        refine wc_V (C := nr_CB) (n := 1) hx hb hml hown htg (c_CB_isElement l D _ (q 0) (q 1) (q 2) n (nI e1) (nI 1) (fun _ => rfl) (fun h => absurd hq17 h)) tm_177 tm_174 tm_176 tp_2 tm_1 (by decide +kernel) ⟨⟨Nat.le_trans (by decide) hRf, Nat.le_trans (by decide) hRl⟩, rfl, rfl⟩ (wa_pre (hP.sub [0] rfl) hK hN) (va_recv (q0 := 0) (ci := 0) hK hP rfl rfl) rfl hl.1 rfl (Nat.le_of_ble_eq_true rfl) nd_CB_circuit_17 hCS ?_
        refine wi_if_ne (tgt := 25) hx hb (by decide) nd_CB_circuit_20 rfl (fun _ => ?_) (fun h => absurd h (by decide))
        refine lv_aload_n hx hb nd_CB_circuit_25 rfl (lv_at hl 0 rfl) ?_
        refine va_get (D := D) (C := nr_CB) (T := nt_CB) (N := 4) hx hb htg tf_CB hown hK hP 0 rfl rfl 3 (by decide) (htg _ tm_125) (fun _ h => h) rfl nd_CB_circuit_26 ?_
        refine lv_iload_n hx hb nd_CB_circuit_29 rfl (lv_at hl 1 rfl) ?_
        refine wi_aald (v := (a0.1 0)) hx hb hK hP 2 2 rfl rfl rfl (by omega) (by omega) (hm0) nd_CB_circuit_30 ?_
        refine lv_astore hx hb nd_CB_circuit_31 hl (by decide) rfl (fun ls hl => ?_)
        have hl : lv_has ls 8 [(4, .ref (a0.1 0)), (0, .ref (q 0)), (1, .int (nI (0))), (2, .int (nI (s1))), (3, .int (nI (e1)))] := hl
        refine lv_iload_n hx hb nd_CB_circuit_33 rfl (lv_at hl 3 rfl) ?_
        refine wi_ic hx hb (a := 1) nd_CB_circuit_34 ?_
        refine lv_iload_n hx hb nd_CB_circuit_35 rfl (lv_at hl 4 rfl) ?_
        refine wi_ishl1 hx hb (by omega) nd_CB_circuit_36 ?_
        refine wi_ior hx hb nd_CB_circuit_37 ?_
        refine lv_istore hx hb nd_CB_circuit_38 hl (by decide) rfl (fun ls hl => ?_)
        have hl : lv_has ls 8 [(5, .int (nI (s1 ||| (2 ^ e1)))), (4, .ref (a0.1 0)), (0, .ref (q 0)), (1, .int (nI (0))), (2, .int (nI (s1))), (3, .int (nI (e1)))] := hl
        refine lv_iload_n hx hb nd_CB_circuit_40 rfl (lv_at hl 4 rfl) ?_
        refine lv_iload_n hx hb nd_CB_circuit_41 rfl (lv_at hl 5 rfl) ?_
        refine wc_S (n := 2) hx hb hml hown htg (c_CB_has l D _ s1 e1 (by omega) (by omega)) tm_272 tm_323 tm_271 tm_1 (by decide +kernel) ⟨⟨Nat.le_trans (by decide) hRf, Nat.le_trans (by decide) hRl⟩, rfl, rfl⟩ (wa_pre wa_nil hK hN) rfl hl.1 rfl (Nat.le_of_ble_eq_true rfl) nd_CB_circuit_42 hCS ?_
        have hbt42 := mt_bt_lt s1 e1
        refine wi_if_ne (tgt := 67) hx hb (by omega) nd_CB_circuit_45 rfl (fun hc45 => ?_) (fun hc45 => ?_)
        · refine wi_ic hx hb (a := 0) nd_CB_circuit_67 ?_
          have hsp : sp_circuit n y (nI (0)) (nI (s1)) (nI (e1)) = nI 0 := by unfold sp_circuit; simp only [sw_0, sr_t h_s1 (show 2 ^ n - 1 < 2 ^ 31 by omega), sz_t h_e1 (show n < 2 ^ 31 by omega), tn_0, tn_nI (show s1 < 2 ^ 31 by omega), tn_nI (show e1 < 2 ^ 31 by omega)]; simp only [cb_m]; exact if_pos (Or.inl (mt_bt_n.mp hc45))
          exact wb_iret ((w, t0, t1)) hx hb hr hk hAe (by rw [hsp]; exact ⟨rfl, ⟨hI.1, hI0, hI1⟩⟩) hP hD hS nd_CB_circuit_68
        · refine lv_aload hx hb nd_CB_circuit_48 (lv_at hl 1 rfl) ?_
          refine lv_iload_n hx hb nd_CB_circuit_50 rfl (lv_at hl 4 rfl) ?_
          refine wd_Vi (C := nr_MA) (n := 1) (X := [((q 0), .inr (0, [.int (nI (n)), .int (nI (2 ^ n - 1)), .ref (q 1), .ref (q 2)])), ((q 1), .inl (cI, n, .inl w)), ((q 2), .inl (cM, 2, .inr (.inr (.inr (.inr mr)))))]) (Y := mw_ cI cG a0 n t0) (Z := (mw_ cI cG a1 n t1 ++ [])) hx hb hml hown htg (c_MA_isIndependent l D cI cG cM a0 n hn t0.1 t0.2.1 t0.2.2.1 t0.2.2.2.1 t0.2.2.2.2.1 t0.2.2.2.2.2 y.2.1 hI0 s1 (by omega) _) tm_259 tm_256 tm_257 tm_258 tm_2 (by decide +kernel) ⟨⟨Nat.le_trans (by decide) hRf, Nat.le_trans (by decide) hRl⟩, rfl, rfl⟩ hP hD hS hA hK hN (va_recv (q0 := 0) (ci := 1) hK (wm_P (X := [((q 0), .inr (0, [.int (nI (n)), .int (nI (2 ^ n - 1)), .ref (q 1), .ref (q 2)])), ((q 1), .inl (cI, n, .inl w)), ((q 2), .inl (cM, 2, .inr (.inr (.inr (.inr mr)))))]) (Y := mw_ cI cG a0 n t0) (Z := (mw_ cI cG a1 n t1 ++ [])) hP).2.1 rfl rfl) rfl hl.1 rfl (Nat.le_of_ble_eq_true rfl) nd_CB_circuit_51 hCS (fun v51 u51 H locs hp51 hP hD hS => ?_)
          have hP : va_P D cl_all ([((q 0), .inr (0, [.int (nI (n)), .int (nI (2 ^ n - 1)), .ref (q 1), .ref (q 2)])), ((q 1), .inl (cI, n, .inl w)), ((q 2), .inl (cM, 2, .inr (.inr (.inr (.inr mr)))))] ++ (mw_ cI cG a0 n u51 ++ (mw_ cI cG a1 n t1 ++ []))) H := hP
          have hD : va_D A ([((q 0), .inr (0, [.int (nI (n)), .int (nI (2 ^ n - 1)), .ref (q 1), .ref (q 2)])), ((q 1), .inl (cI, n, .inl w)), ((q 2), .inl (cM, 2, .inr (.inr (.inr (.inr mr)))))] ++ (mw_ cI cG a0 n u51 ++ (mw_ cI cG a1 n t1 ++ []))) := hD
          refine lv_if_eq (tgt := 67) hx hb nd_CB_circuit_54 rfl (fun hc54 => ?_) (fun hc54 => ?_)
          · refine wi_ic hx hb (a := 0) nd_CB_circuit_67 ?_
            have hsp : sp_circuit n y (nI (0)) (nI (s1)) (nI (e1)) = nI 0 := by unfold sp_circuit; simp only [sw_0, sr_t h_s1 (show 2 ^ n - 1 < 2 ^ 31 by omega), sz_t h_e1 (show n < 2 ^ 31 by omega), tn_0, tn_nI (show s1 < 2 ^ 31 by omega), tn_nI (show e1 < 2 ^ 31 by omega)]; simp only [cb_m]; exact if_pos (Or.inr (Or.inl (fun q => nI_ne0 (n := 1) (by omega) (by omega) ((hp51.1 q).symm.trans hc54))))
            exact wb_iret ((w, u51, t1)) hx hb hr hk hAe (by rw [hsp]; exact ⟨rfl, ⟨hI.1, hp51.2.2, hI1⟩⟩) hP hD hS nd_CB_circuit_68
          · refine lv_aload hx hb nd_CB_circuit_57 (lv_at hl 1 rfl) ?_
            refine lv_iload hx hb nd_CB_circuit_59 (lv_at hl 0 rfl) ?_
            refine wd_Vi (C := nr_MA) (n := 1) (X := [((q 0), .inr (0, [.int (nI (n)), .int (nI (2 ^ n - 1)), .ref (q 1), .ref (q 2)])), ((q 1), .inl (cI, n, .inl w)), ((q 2), .inl (cM, 2, .inr (.inr (.inr (.inr mr)))))]) (Y := mw_ cI cG a0 n u51) (Z := (mw_ cI cG a1 n t1 ++ [])) hx hb hml hown htg (c_MA_isIndependent l D cI cG cM a0 n hn u51.1 u51.2.1 u51.2.2.1 u51.2.2.2.1 u51.2.2.2.2.1 u51.2.2.2.2.2 y.2.1 hp51.2.2 (s1 ||| (2 ^ e1)) (mt_orlt (show s1 < 2 ^ n by omega) (by omega)) _) tm_259 tm_256 tm_257 tm_258 tm_2 (by decide +kernel) ⟨⟨Nat.le_trans (by decide) hRf, Nat.le_trans (by decide) hRl⟩, rfl, rfl⟩ hP hD hS hA hK hN (va_recv (q0 := 0) (ci := 1) hK (wm_P (X := [((q 0), .inr (0, [.int (nI (n)), .int (nI (2 ^ n - 1)), .ref (q 1), .ref (q 2)])), ((q 1), .inl (cI, n, .inl w)), ((q 2), .inl (cM, 2, .inr (.inr (.inr (.inr mr)))))]) (Y := mw_ cI cG a0 n u51) (Z := (mw_ cI cG a1 n t1 ++ [])) hP).2.1 rfl rfl) rfl hl.1 rfl (Nat.le_of_ble_eq_true rfl) nd_CB_circuit_61 hCS (fun v61 u61 H locs hp61 hP hD hS => ?_)
            have hP : va_P D cl_all ([((q 0), .inr (0, [.int (nI (n)), .int (nI (2 ^ n - 1)), .ref (q 1), .ref (q 2)])), ((q 1), .inl (cI, n, .inl w)), ((q 2), .inl (cM, 2, .inr (.inr (.inr (.inr mr)))))] ++ (mw_ cI cG a0 n u61 ++ (mw_ cI cG a1 n t1 ++ []))) H := hP
            have hD : va_D A ([((q 0), .inr (0, [.int (nI (n)), .int (nI (2 ^ n - 1)), .ref (q 1), .ref (q 2)])), ((q 1), .inl (cI, n, .inl w)), ((q 2), .inl (cM, 2, .inr (.inr (.inr (.inr mr)))))] ++ (mw_ cI cG a0 n u61 ++ (mw_ cI cG a1 n t1 ++ []))) := hD
            refine lv_if_eq (tgt := 69) hx hb nd_CB_circuit_64 rfl (fun hc64 => ?_) (fun hc64 => ?_)
            · refine wi_ic hx hb (a := 1) nd_CB_circuit_69 ?_
              refine lv_iload_n hx hb nd_CB_circuit_70 rfl (lv_at hl 5 rfl) ?_
              refine wi_ishl1 hx hb (by omega) nd_CB_circuit_71 ?_
              refine lv_istore hx hb nd_CB_circuit_72 hl (by decide) rfl (fun ls hl => ?_)
              have hl : lv_has ls 8 [(6, .int (nI (2 ^ e1))), (5, .int (nI (s1 ||| (2 ^ e1)))), (4, .ref (a0.1 0)), (0, .ref (q 0)), (1, .int (nI (0))), (2, .int (nI (s1))), (3, .int (nI (e1)))] := hl
              refine wi_ic hx hb (a := 0) nd_CB_circuit_74 ?_
              refine lv_istore hx hb nd_CB_circuit_75 hl (by decide) rfl (fun ls hl => ?_)
              have hl : lv_has ls 8 [(7, .int (nI (0))), (6, .int (nI (2 ^ e1))), (5, .int (nI (s1 ||| (2 ^ e1)))), (4, .ref (a0.1 0)), (0, .ref (q 0)), (1, .int (nI (0))), (2, .int (nI (s1))), (3, .int (nI (e1)))] := hl
              have hcond : ¬ (s1.testBit e1 = true ∨ ¬ ma_r n y.2.1 s1 = mt_cd n s1 ∨ ma_r n y.2.1 (s1 ||| 2 ^ e1) = mt_cd n (s1 ||| 2 ^ e1)) := fun z => z.elim (fun z => by have := mt_bt_t.mpr z; omega) (fun z => z.elim (fun z => z (Classical.byContradiction fun q => hc54 ((hp51.2.1 q).trans nI_0))) (fun z => nI_ne0 (n := 1) (by omega) (by omega) ((hp61.1 z).symm.trans hc64)))
              have hl : lv_has ls 8 [(7, .int (nI (0))), (6, .int (nI (2 ^ e1))), (5, .int (nI (s1 ||| (2 ^ e1)))), (4, .ref (a0.1 0)), (0, .ref (q 0)), (2, .int (nI (s1)))] := lv_sub hl [0, 1, 2, 3, 4, 6] rfl
              refine lp_CB_circuit0 cI cG cM q n hn1 hn mr a0 a1 hm0 hm1 w y (fun e he => (hI.1 e he).1) s1 e1 (by omega) (by omega) hx hb hml htg hown hK hN hA hRf hRl hCS (fun ls H locs t0 t1 hI0 hI1 hl hP hD hS => ?_) (n + 1) 0 u61 t1 ls H locs (by omega) (by omega) hp61.2.2 hI1 hl hP hD hS
              refine lv_iload hx hb nd_CB_circuit_127 (lv_at hl 0 rfl) ?_
              have hsp : sp_circuit n y (nI 0) (nI s1) (nI e1) = nI (cq_ (ma_r n y.2.1) n s1 e1 n) := by unfold sp_circuit; simp only [sw_0, sr_t h_s1 (show 2 ^ n - 1 < 2 ^ 31 by omega), sz_t h_e1 (show n < 2 ^ 31 by omega), tn_0, tn_nI (show s1 < 2 ^ 31 by omega), tn_nI (show e1 < 2 ^ 31 by omega)]; simp only [cb_m]; exact if_neg hcond
              exact wb_iret (w, t0, t1) hx hb hr hk hAe (by rw [hsp]; exact ⟨rfl, hI.1, hI0, hI1⟩) hP hD hS nd_CB_circuit_129
            · refine wi_ic hx hb (a := 0) nd_CB_circuit_67 ?_
              have hsp : sp_circuit n y (nI (0)) (nI (s1)) (nI (e1)) = nI 0 := by unfold sp_circuit; simp only [sw_0, sr_t h_s1 (show 2 ^ n - 1 < 2 ^ 31 by omega), sz_t h_e1 (show n < 2 ^ 31 by omega), tn_0, tn_nI (show s1 < 2 ^ 31 by omega), tn_nI (show e1 < 2 ^ 31 by omega)]; simp only [cb_m]; exact if_pos (Or.inr (Or.inr (Classical.byContradiction fun q => hc64 ((hp61.2.1 q).trans nI_0))))
              exact wb_iret ((w, u61, t1)) hx hb hr hk hAe (by rw [hsp]; exact ⟨rfl, ⟨hI.1, hp61.2.2, hI1⟩⟩) hP hD hS nd_CB_circuit_68
      · refine wc_V (C := nr_CB) (n := 1) hx hb hml hown htg (c_CB_isElement l D _ (q 0) (q 1) (q 2) n e (nI 0) (fun h => absurd h hq17) (fun _ => rfl)) tm_177 tm_174 tm_176 tp_2 tm_1 (by decide +kernel) ⟨⟨Nat.le_trans (by decide) hRf, Nat.le_trans (by decide) hRl⟩, rfl, rfl⟩ (wa_pre (hP.sub [0] rfl) hK hN) (va_recv (q0 := 0) (ci := 0) hK hP rfl rfl) rfl hl.1 rfl (Nat.le_of_ble_eq_true rfl) nd_CB_circuit_17 hCS ?_
        refine wi_if_ne (tgt := 25) hx hb (by decide) nd_CB_circuit_20 rfl (fun h => absurd h (by decide)) (fun _ => ?_)
        refine lv_iconst (v := -1) hx hb nd_CB_circuit_23 (by decide) ?_
        have hsp : sp_circuit n y (nI (0)) (nI (s1)) e = -1 := by unfold sp_circuit; simp [sz_f hn1 (show n < 2 ^ 31 by omega) hq17]
        exact wb_iret (w, t0, t1) hx hb hr hk hAe (by rw [hsp]; exact ⟨rfl, hI⟩) hP hD hS nd_CB_circuit_24
    · refine wc_V (C := nr_CB) (n := 1) hx hb hml hown htg (c_CB_isSet l D _ (q 0) (q 1) (q 2) n s (nI 0) (fun h => absurd h hq9) (fun _ => rfl)) tm_255 tm_252 tm_254 tp_3 tm_1 (by decide +kernel) ⟨⟨Nat.le_trans (by decide) hRf, Nat.le_trans (by decide) hRl⟩, rfl, rfl⟩ (wa_pre (hP.sub [0] rfl) hK hN) (va_recv (q0 := 0) (ci := 0) hK hP rfl rfl) rfl hl.1 rfl (Nat.le_of_ble_eq_true rfl) nd_CB_circuit_9 hCS ?_
      refine wi_if_eq (tgt := 23) hx hb (by decide) nd_CB_circuit_12 rfl (fun _ => ?_) (fun h => absurd h (by decide))
      refine lv_iconst (v := -1) hx hb nd_CB_circuit_23 (by decide) ?_
      have hsp : sp_circuit n y (nI (0)) s e = -1 := by unfold sp_circuit; simp [sr_f hq9]
      exact wb_iret (w, t0, t1) hx hb hr hk hAe (by rw [hsp]; exact ⟨rfl, hI⟩) hP hD hS nd_CB_circuit_24
  · subst hw1
    refine wc_S (n := 1) hx hb hml hown htg (c_CB_isMatroid l D _ (nI 1) (nI 1) (fun _ => rfl) (fun h => absurd (Or.inr rfl) h)) tm_141 tm_139 tm_140 tm_1 (by decide +kernel) ⟨⟨Nat.le_trans (by decide) hRf, Nat.le_trans (by decide) hRl⟩, rfl, rfl⟩ (wa_pre wa_nil hK hN) rfl hl.1 rfl (Nat.le_of_ble_eq_true rfl) nd_CB_circuit_1 hCS ?_
    refine wi_if_eq (tgt := 23) hx hb (by decide) nd_CB_circuit_4 rfl (fun h => absurd h (by decide)) (fun _ => ?_)
    refine lv_aload_n hx hb nd_CB_circuit_7 rfl (lv_at hl 0 rfl) ?_
    refine lv_iload_n hx hb nd_CB_circuit_8 rfl (lv_at hl 2 rfl) ?_
    by_cases hq9 : ¬ s < 0 ∧ ¬ nI (2 ^ n - 1) < s
    · obtain ⟨s1, h_s1, rfl⟩ := sm_upto (by omega) hq9
      refine wc_V (C := nr_CB) (n := 1) hx hb hml hown htg (c_CB_isSet l D _ (q 0) (q 1) (q 2) n (nI s1) (nI 1) (fun _ => rfl) (fun h => absurd hq9 h)) tm_255 tm_252 tm_254 tp_3 tm_1 (by decide +kernel) ⟨⟨Nat.le_trans (by decide) hRf, Nat.le_trans (by decide) hRl⟩, rfl, rfl⟩ (wa_pre (hP.sub [0] rfl) hK hN) (va_recv (q0 := 0) (ci := 0) hK hP rfl rfl) rfl hl.1 rfl (Nat.le_of_ble_eq_true rfl) nd_CB_circuit_9 hCS ?_
      refine wi_if_eq (tgt := 23) hx hb (by decide) nd_CB_circuit_12 rfl (fun h => absurd h (by decide)) (fun _ => ?_)
      refine lv_aload_n hx hb nd_CB_circuit_15 rfl (lv_at hl 0 rfl) ?_
      refine lv_iload_n hx hb nd_CB_circuit_16 rfl (lv_at hl 3 rfl) ?_
      by_cases hq17 : ¬ e < 0 ∧ ¬ nI n ≤ e
      · obtain ⟨e1, h_e1, rfl⟩ := sm_elem (by omega) hq17
        refine wc_V (C := nr_CB) (n := 1) hx hb hml hown htg (c_CB_isElement l D _ (q 0) (q 1) (q 2) n (nI e1) (nI 1) (fun _ => rfl) (fun h => absurd hq17 h)) tm_177 tm_174 tm_176 tp_2 tm_1 (by decide +kernel) ⟨⟨Nat.le_trans (by decide) hRf, Nat.le_trans (by decide) hRl⟩, rfl, rfl⟩ (wa_pre (hP.sub [0] rfl) hK hN) (va_recv (q0 := 0) (ci := 0) hK hP rfl rfl) rfl hl.1 rfl (Nat.le_of_ble_eq_true rfl) nd_CB_circuit_17 hCS ?_
        refine wi_if_ne (tgt := 25) hx hb (by decide) nd_CB_circuit_20 rfl (fun _ => ?_) (fun h => absurd h (by decide))
        refine lv_aload_n hx hb nd_CB_circuit_25 rfl (lv_at hl 0 rfl) ?_
        refine va_get (D := D) (C := nr_CB) (T := nt_CB) (N := 4) hx hb htg tf_CB hown hK hP 0 rfl rfl 3 (by decide) (htg _ tm_125) (fun _ h => h) rfl nd_CB_circuit_26 ?_
        refine lv_iload_n hx hb nd_CB_circuit_29 rfl (lv_at hl 1 rfl) ?_
        refine wi_aald (v := (a1.1 0)) hx hb hK hP 2 2 rfl rfl rfl (by omega) (by omega) (hm1) nd_CB_circuit_30 ?_
        refine lv_astore hx hb nd_CB_circuit_31 hl (by decide) rfl (fun ls hl => ?_)
        have hl : lv_has ls 8 [(4, .ref (a1.1 0)), (0, .ref (q 0)), (1, .int (nI (1))), (2, .int (nI (s1))), (3, .int (nI (e1)))] := hl
        refine lv_iload_n hx hb nd_CB_circuit_33 rfl (lv_at hl 3 rfl) ?_
        refine wi_ic hx hb (a := 1) nd_CB_circuit_34 ?_
        refine lv_iload_n hx hb nd_CB_circuit_35 rfl (lv_at hl 4 rfl) ?_
        refine wi_ishl1 hx hb (by omega) nd_CB_circuit_36 ?_
        refine wi_ior hx hb nd_CB_circuit_37 ?_
        refine lv_istore hx hb nd_CB_circuit_38 hl (by decide) rfl (fun ls hl => ?_)
        have hl : lv_has ls 8 [(5, .int (nI (s1 ||| (2 ^ e1)))), (4, .ref (a1.1 0)), (0, .ref (q 0)), (1, .int (nI (1))), (2, .int (nI (s1))), (3, .int (nI (e1)))] := hl
        refine lv_iload_n hx hb nd_CB_circuit_40 rfl (lv_at hl 4 rfl) ?_
        refine lv_iload_n hx hb nd_CB_circuit_41 rfl (lv_at hl 5 rfl) ?_
        refine wc_S (n := 2) hx hb hml hown htg (c_CB_has l D _ s1 e1 (by omega) (by omega)) tm_272 tm_323 tm_271 tm_1 (by decide +kernel) ⟨⟨Nat.le_trans (by decide) hRf, Nat.le_trans (by decide) hRl⟩, rfl, rfl⟩ (wa_pre wa_nil hK hN) rfl hl.1 rfl (Nat.le_of_ble_eq_true rfl) nd_CB_circuit_42 hCS ?_
        have hbt42 := mt_bt_lt s1 e1
        refine wi_if_ne (tgt := 67) hx hb (by omega) nd_CB_circuit_45 rfl (fun hc45 => ?_) (fun hc45 => ?_)
        · refine wi_ic hx hb (a := 0) nd_CB_circuit_67 ?_
          have hsp : sp_circuit n y (nI (1)) (nI (s1)) (nI (e1)) = nI 0 := by unfold sp_circuit; simp only [sw_1, sr_t h_s1 (show 2 ^ n - 1 < 2 ^ 31 by omega), sz_t h_e1 (show n < 2 ^ 31 by omega), tn_1, tn_nI (show s1 < 2 ^ 31 by omega), tn_nI (show e1 < 2 ^ 31 by omega)]; simp only [cb_m]; exact if_pos (Or.inl (mt_bt_n.mp hc45))
          exact wb_iret ((w, t0, t1)) hx hb hr hk hAe (by rw [hsp]; exact ⟨rfl, ⟨hI.1, hI0, hI1⟩⟩) hP hD hS nd_CB_circuit_68
        · refine lv_aload hx hb nd_CB_circuit_48 (lv_at hl 1 rfl) ?_
          refine lv_iload_n hx hb nd_CB_circuit_50 rfl (lv_at hl 4 rfl) ?_
          rw [← List.append_assoc] at hP hD
          refine wd_Vi (C := nr_MA) (n := 1) (X := ([((q 0), .inr (0, [.int (nI (n)), .int (nI (2 ^ n - 1)), .ref (q 1), .ref (q 2)])), ((q 1), .inl (cI, n, .inl w)), ((q 2), .inl (cM, 2, .inr (.inr (.inr (.inr mr)))))] ++ mw_ cI cG a0 n t0)) (Y := mw_ cI cG a1 n t1) (Z := []) hx hb hml hown htg (c_MA_isIndependent l D cI cG cM a1 n hn t1.1 t1.2.1 t1.2.2.1 t1.2.2.2.1 t1.2.2.2.2.1 t1.2.2.2.2.2 y.2.2 hI1 s1 (by omega) _) tm_259 tm_256 tm_257 tm_258 tm_2 (by decide +kernel) ⟨⟨Nat.le_trans (by decide) hRf, Nat.le_trans (by decide) hRl⟩, rfl, rfl⟩ hP hD hS hA hK hN (va_recv (q0 := 0) (ci := 1) hK (wm_P (X := ([((q 0), .inr (0, [.int (nI (n)), .int (nI (2 ^ n - 1)), .ref (q 1), .ref (q 2)])), ((q 1), .inl (cI, n, .inl w)), ((q 2), .inl (cM, 2, .inr (.inr (.inr (.inr mr)))))] ++ mw_ cI cG a0 n t0)) (Y := mw_ cI cG a1 n t1) (Z := []) hP).2.1 rfl rfl) rfl hl.1 rfl (Nat.le_of_ble_eq_true rfl) nd_CB_circuit_51 hCS (fun v51 u51 H locs hp51 hP hD hS => ?_)
          rw [List.append_assoc] at hP hD
          have hP : va_P D cl_all ([((q 0), .inr (0, [.int (nI (n)), .int (nI (2 ^ n - 1)), .ref (q 1), .ref (q 2)])), ((q 1), .inl (cI, n, .inl w)), ((q 2), .inl (cM, 2, .inr (.inr (.inr (.inr mr)))))] ++ (mw_ cI cG a0 n t0 ++ (mw_ cI cG a1 n u51 ++ []))) H := hP
          have hD : va_D A ([((q 0), .inr (0, [.int (nI (n)), .int (nI (2 ^ n - 1)), .ref (q 1), .ref (q 2)])), ((q 1), .inl (cI, n, .inl w)), ((q 2), .inl (cM, 2, .inr (.inr (.inr (.inr mr)))))] ++ (mw_ cI cG a0 n t0 ++ (mw_ cI cG a1 n u51 ++ []))) := hD
          refine lv_if_eq (tgt := 67) hx hb nd_CB_circuit_54 rfl (fun hc54 => ?_) (fun hc54 => ?_)
          · refine wi_ic hx hb (a := 0) nd_CB_circuit_67 ?_
            have hsp : sp_circuit n y (nI (1)) (nI (s1)) (nI (e1)) = nI 0 := by unfold sp_circuit; simp only [sw_1, sr_t h_s1 (show 2 ^ n - 1 < 2 ^ 31 by omega), sz_t h_e1 (show n < 2 ^ 31 by omega), tn_1, tn_nI (show s1 < 2 ^ 31 by omega), tn_nI (show e1 < 2 ^ 31 by omega)]; simp only [cb_m]; exact if_pos (Or.inr (Or.inl (fun q => nI_ne0 (n := 1) (by omega) (by omega) ((hp51.1 q).symm.trans hc54))))
            exact wb_iret ((w, t0, u51)) hx hb hr hk hAe (by rw [hsp]; exact ⟨rfl, ⟨hI.1, hI0, hp51.2.2⟩⟩) hP hD hS nd_CB_circuit_68
          · refine lv_aload hx hb nd_CB_circuit_57 (lv_at hl 1 rfl) ?_
            refine lv_iload hx hb nd_CB_circuit_59 (lv_at hl 0 rfl) ?_
            rw [← List.append_assoc] at hP hD
            refine wd_Vi (C := nr_MA) (n := 1) (X := ([((q 0), .inr (0, [.int (nI (n)), .int (nI (2 ^ n - 1)), .ref (q 1), .ref (q 2)])), ((q 1), .inl (cI, n, .inl w)), ((q 2), .inl (cM, 2, .inr (.inr (.inr (.inr mr)))))] ++ mw_ cI cG a0 n t0)) (Y := mw_ cI cG a1 n u51) (Z := []) hx hb hml hown htg (c_MA_isIndependent l D cI cG cM a1 n hn u51.1 u51.2.1 u51.2.2.1 u51.2.2.2.1 u51.2.2.2.2.1 u51.2.2.2.2.2 y.2.2 hp51.2.2 (s1 ||| (2 ^ e1)) (mt_orlt (show s1 < 2 ^ n by omega) (by omega)) _) tm_259 tm_256 tm_257 tm_258 tm_2 (by decide +kernel) ⟨⟨Nat.le_trans (by decide) hRf, Nat.le_trans (by decide) hRl⟩, rfl, rfl⟩ hP hD hS hA hK hN (va_recv (q0 := 0) (ci := 1) hK (wm_P (X := ([((q 0), .inr (0, [.int (nI (n)), .int (nI (2 ^ n - 1)), .ref (q 1), .ref (q 2)])), ((q 1), .inl (cI, n, .inl w)), ((q 2), .inl (cM, 2, .inr (.inr (.inr (.inr mr)))))] ++ mw_ cI cG a0 n t0)) (Y := mw_ cI cG a1 n u51) (Z := []) hP).2.1 rfl rfl) rfl hl.1 rfl (Nat.le_of_ble_eq_true rfl) nd_CB_circuit_61 hCS (fun v61 u61 H locs hp61 hP hD hS => ?_)
            rw [List.append_assoc] at hP hD
            have hP : va_P D cl_all ([((q 0), .inr (0, [.int (nI (n)), .int (nI (2 ^ n - 1)), .ref (q 1), .ref (q 2)])), ((q 1), .inl (cI, n, .inl w)), ((q 2), .inl (cM, 2, .inr (.inr (.inr (.inr mr)))))] ++ (mw_ cI cG a0 n t0 ++ (mw_ cI cG a1 n u61 ++ []))) H := hP
            have hD : va_D A ([((q 0), .inr (0, [.int (nI (n)), .int (nI (2 ^ n - 1)), .ref (q 1), .ref (q 2)])), ((q 1), .inl (cI, n, .inl w)), ((q 2), .inl (cM, 2, .inr (.inr (.inr (.inr mr)))))] ++ (mw_ cI cG a0 n t0 ++ (mw_ cI cG a1 n u61 ++ []))) := hD
            refine lv_if_eq (tgt := 69) hx hb nd_CB_circuit_64 rfl (fun hc64 => ?_) (fun hc64 => ?_)
            · refine wi_ic hx hb (a := 1) nd_CB_circuit_69 ?_
              refine lv_iload_n hx hb nd_CB_circuit_70 rfl (lv_at hl 5 rfl) ?_
              refine wi_ishl1 hx hb (by omega) nd_CB_circuit_71 ?_
              refine lv_istore hx hb nd_CB_circuit_72 hl (by decide) rfl (fun ls hl => ?_)
              have hl : lv_has ls 8 [(6, .int (nI (2 ^ e1))), (5, .int (nI (s1 ||| (2 ^ e1)))), (4, .ref (a1.1 0)), (0, .ref (q 0)), (1, .int (nI (1))), (2, .int (nI (s1))), (3, .int (nI (e1)))] := hl
              refine wi_ic hx hb (a := 0) nd_CB_circuit_74 ?_
              refine lv_istore hx hb nd_CB_circuit_75 hl (by decide) rfl (fun ls hl => ?_)
              have hl : lv_has ls 8 [(7, .int (nI (0))), (6, .int (nI (2 ^ e1))), (5, .int (nI (s1 ||| (2 ^ e1)))), (4, .ref (a1.1 0)), (0, .ref (q 0)), (1, .int (nI (1))), (2, .int (nI (s1))), (3, .int (nI (e1)))] := hl
              have hcond : ¬ (s1.testBit e1 = true ∨ ¬ ma_r n y.2.2 s1 = mt_cd n s1 ∨ ma_r n y.2.2 (s1 ||| 2 ^ e1) = mt_cd n (s1 ||| 2 ^ e1)) := fun z => z.elim (fun z => by have := mt_bt_t.mpr z; omega) (fun z => z.elim (fun z => z (Classical.byContradiction fun q => hc54 ((hp51.2.1 q).trans nI_0))) (fun z => nI_ne0 (n := 1) (by omega) (by omega) ((hp61.1 z).symm.trans hc64)))
              have hl : lv_has ls 8 [(7, .int (nI (0))), (6, .int (nI (2 ^ e1))), (5, .int (nI (s1 ||| (2 ^ e1)))), (4, .ref (a1.1 0)), (0, .ref (q 0)), (2, .int (nI (s1)))] := lv_sub hl [0, 1, 2, 3, 4, 6] rfl
              refine lp_CB_circuit1 cI cG cM q n hn1 hn mr a0 a1 hm0 hm1 w y (fun e he => (hI.1 e he).1) s1 e1 (by omega) (by omega) hx hb hml htg hown hK hN hA hRf hRl hCS (fun ls H locs t0 t1 hI0 hI1 hl hP hD hS => ?_) (n + 1) 0 t0 u61 ls H locs (by omega) (by omega) hI0 hp61.2.2 hl hP hD hS
              refine lv_iload hx hb nd_CB_circuit_127 (lv_at hl 0 rfl) ?_
              have hsp : sp_circuit n y (nI 1) (nI s1) (nI e1) = nI (cq_ (ma_r n y.2.2) n s1 e1 n) := by unfold sp_circuit; simp only [sw_1, sr_t h_s1 (show 2 ^ n - 1 < 2 ^ 31 by omega), sz_t h_e1 (show n < 2 ^ 31 by omega), tn_1, tn_nI (show s1 < 2 ^ 31 by omega), tn_nI (show e1 < 2 ^ 31 by omega)]; simp only [cb_m]; exact if_neg hcond
              exact wb_iret (w, t0, t1) hx hb hr hk hAe (by rw [hsp]; exact ⟨rfl, hI.1, hI0, hI1⟩) hP hD hS nd_CB_circuit_129
            · refine wi_ic hx hb (a := 0) nd_CB_circuit_67 ?_
              have hsp : sp_circuit n y (nI (1)) (nI (s1)) (nI (e1)) = nI 0 := by unfold sp_circuit; simp only [sw_1, sr_t h_s1 (show 2 ^ n - 1 < 2 ^ 31 by omega), sz_t h_e1 (show n < 2 ^ 31 by omega), tn_1, tn_nI (show s1 < 2 ^ 31 by omega), tn_nI (show e1 < 2 ^ 31 by omega)]; simp only [cb_m]; exact if_pos (Or.inr (Or.inr (Classical.byContradiction fun q => hc64 ((hp61.2.1 q).trans nI_0))))
              exact wb_iret ((w, t0, u61)) hx hb hr hk hAe (by rw [hsp]; exact ⟨rfl, ⟨hI.1, hI0, hp61.2.2⟩⟩) hP hD hS nd_CB_circuit_68
      · refine wc_V (C := nr_CB) (n := 1) hx hb hml hown htg (c_CB_isElement l D _ (q 0) (q 1) (q 2) n e (nI 0) (fun h => absurd h hq17) (fun _ => rfl)) tm_177 tm_174 tm_176 tp_2 tm_1 (by decide +kernel) ⟨⟨Nat.le_trans (by decide) hRf, Nat.le_trans (by decide) hRl⟩, rfl, rfl⟩ (wa_pre (hP.sub [0] rfl) hK hN) (va_recv (q0 := 0) (ci := 0) hK hP rfl rfl) rfl hl.1 rfl (Nat.le_of_ble_eq_true rfl) nd_CB_circuit_17 hCS ?_
        refine wi_if_ne (tgt := 25) hx hb (by decide) nd_CB_circuit_20 rfl (fun h => absurd h (by decide)) (fun _ => ?_)
        refine lv_iconst (v := -1) hx hb nd_CB_circuit_23 (by decide) ?_
        have hsp : sp_circuit n y (nI (1)) (nI (s1)) e = -1 := by unfold sp_circuit; simp [sz_f hn1 (show n < 2 ^ 31 by omega) hq17]
        exact wb_iret (w, t0, t1) hx hb hr hk hAe (by rw [hsp]; exact ⟨rfl, hI⟩) hP hD hS nd_CB_circuit_24
    · refine wc_V (C := nr_CB) (n := 1) hx hb hml hown htg (c_CB_isSet l D _ (q 0) (q 1) (q 2) n s (nI 0) (fun h => absurd h hq9) (fun _ => rfl)) tm_255 tm_252 tm_254 tp_3 tm_1 (by decide +kernel) ⟨⟨Nat.le_trans (by decide) hRf, Nat.le_trans (by decide) hRl⟩, rfl, rfl⟩ (wa_pre (hP.sub [0] rfl) hK hN) (va_recv (q0 := 0) (ci := 0) hK hP rfl rfl) rfl hl.1 rfl (Nat.le_of_ble_eq_true rfl) nd_CB_circuit_9 hCS ?_
      refine wi_if_eq (tgt := 23) hx hb (by decide) nd_CB_circuit_12 rfl (fun _ => ?_) (fun h => absurd h (by decide))
      refine lv_iconst (v := -1) hx hb nd_CB_circuit_23 (by decide) ?_
      have hsp : sp_circuit n y (nI (1)) s e = -1 := by unfold sp_circuit; simp [sr_f hq9]
      exact wb_iret (w, t0, t1) hx hb hr hk hAe (by rw [hsp]; exact ⟨rfl, hI⟩) hP hD hS nd_CB_circuit_24
  · refine wc_S (n := 1) hx hb hml hown htg (c_CB_isMatroid l D _ wh (nI 0) (fun h => absurd h (fun z => z.elim (fun z => hw1.1 (z.trans nI_0.symm)) hw1.2)) (fun _ => rfl)) tm_141 tm_139 tm_140 tm_1 (by decide +kernel) ⟨⟨Nat.le_trans (by decide) hRf, Nat.le_trans (by decide) hRl⟩, rfl, rfl⟩ (wa_pre wa_nil hK hN) rfl hl.1 rfl (Nat.le_of_ble_eq_true rfl) nd_CB_circuit_1 hCS ?_
    refine wi_if_eq (tgt := 23) hx hb (by decide) nd_CB_circuit_4 rfl (fun _ => ?_) (fun h => absurd h (by decide))
    refine lv_iconst (v := -1) hx hb nd_CB_circuit_23 (by decide) ?_
    have hsp : sp_circuit n y wh s e = -1 := by unfold sp_circuit; simp [sw_n hw1]
    exact wb_iret (w, t0, t1) hx hb hr hk hAe (by rw [hsp]; exact ⟨rfl, hI⟩) hP hD hS nd_CB_circuit_24
