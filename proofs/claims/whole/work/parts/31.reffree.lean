/-! The reference: freeColumns, isFree. -/
theorem ml_mn_n {p : Int} (h1 : 1 < p) (col : Nat → Nat → Int) (s k : Nat) : (fun Q => ((ml_mn p col k s Q).toNat : Int)) = ml_mn p col k s := by
  funext Q
  exact Int.toNat_of_nonneg (ml_mn_rg h1 col s k Q).1
theorem ml_mn_t {p : Int} {col : Nat → Nat → Int} {s k : Nat} (h : s.testBit k = true) (Q : Nat) : ml_mn p col (k + 1) s Q = ml_wj (col k) (ml_mn p col k s) Q % p := by
  simp only [ml_mn, h, if_true]
theorem ml_mn_f {p : Int} {col : Nat → Nat → Int} {s k : Nat} (h : s.testBit k = false) : ml_mn p col (k + 1) s = ml_mn p col k s := by
  simp [ml_mn, h]
theorem nd_CM_freeColumns_0 : decode nc_CM_freeColumns 0 = .ok (.iconst 0, 1) := by decide +kernel
theorem nd_CM_freeColumns_1 : decode nc_CM_freeColumns 1 = .ok (.istore_n 3, 1) := by decide +kernel
theorem nd_CM_freeColumns_2 : decode nc_CM_freeColumns 2 = .ok (.iload_n 3, 1) := by decide +kernel
theorem nd_CM_freeColumns_3 : decode nc_CM_freeColumns 3 = .ok (.bipush 16, 2) := by decide +kernel
theorem nd_CM_freeColumns_5 : decode nc_CM_freeColumns 5 = .ok (.if_icmp .ge 24, 3) := by decide +kernel
theorem nd_CM_freeColumns_8 : decode nc_CM_freeColumns 8 = .ok (.aload_n 0, 1) := by decide +kernel
theorem nd_CM_freeColumns_9 : decode nc_CM_freeColumns 9 = .ok (.getfield 40, 3) := by decide +kernel
theorem nd_CM_freeColumns_12 : decode nc_CM_freeColumns 12 = .ok (.iload_n 3, 1) := by decide +kernel
theorem nd_CM_freeColumns_13 : decode nc_CM_freeColumns 13 = .ok (.iload_n 3, 1) := by decide +kernel
theorem nd_CM_freeColumns_14 : decode nc_CM_freeColumns 14 = .ok (.ifCond .ne 7, 3) := by decide +kernel
theorem nd_CM_freeColumns_17 : decode nc_CM_freeColumns 17 = .ok (.iconst 1, 1) := by decide +kernel
theorem nd_CM_freeColumns_18 : decode nc_CM_freeColumns 18 = .ok (.goto 4, 3) := by decide +kernel
theorem nd_CM_freeColumns_21 : decode nc_CM_freeColumns 21 = .ok (.iconst 0, 1) := by decide +kernel
theorem nd_CM_freeColumns_22 : decode nc_CM_freeColumns 22 = .ok (.iastore, 1) := by decide +kernel
theorem nd_CM_freeColumns_23 : decode nc_CM_freeColumns 23 = .ok (.iinc 3 1, 3) := by decide +kernel
theorem nd_CM_freeColumns_26 : decode nc_CM_freeColumns 26 = .ok (.goto (-24), 3) := by decide +kernel
theorem nd_CM_freeColumns_29 : decode nc_CM_freeColumns 29 = .ok (.iconst 0, 1) := by decide +kernel
theorem nd_CM_freeColumns_30 : decode nc_CM_freeColumns 30 = .ok (.istore_n 3, 1) := by decide +kernel
theorem nd_CM_freeColumns_31 : decode nc_CM_freeColumns 31 = .ok (.iload_n 3, 1) := by decide +kernel
theorem nd_CM_freeColumns_32 : decode nc_CM_freeColumns 32 = .ok (.aload_n 0, 1) := by decide +kernel
theorem nd_CM_freeColumns_33 : decode nc_CM_freeColumns 33 = .ok (.getfield 49, 3) := by decide +kernel
theorem nd_CM_freeColumns_36 : decode nc_CM_freeColumns 36 = .ok (.if_icmp .ge 24, 3) := by decide +kernel
theorem nd_CM_freeColumns_39 : decode nc_CM_freeColumns 39 = .ok (.iload_n 2, 1) := by decide +kernel
theorem nd_CM_freeColumns_40 : decode nc_CM_freeColumns 40 = .ok (.iload_n 3, 1) := by decide +kernel
theorem nd_CM_freeColumns_41 : decode nc_CM_freeColumns 41 = .ok (.ishr, 1) := by decide +kernel
theorem nd_CM_freeColumns_42 : decode nc_CM_freeColumns 42 = .ok (.iconst 1, 1) := by decide +kernel
theorem nd_CM_freeColumns_43 : decode nc_CM_freeColumns 43 = .ok (.iand, 1) := by decide +kernel
theorem nd_CM_freeColumns_44 : decode nc_CM_freeColumns 44 = .ok (.iconst 1, 1) := by decide +kernel
theorem nd_CM_freeColumns_45 : decode nc_CM_freeColumns 45 = .ok (.if_icmp .ne 9, 3) := by decide +kernel
theorem nd_CM_freeColumns_48 : decode nc_CM_freeColumns 48 = .ok (.aload_n 0, 1) := by decide +kernel
theorem nd_CM_freeColumns_49 : decode nc_CM_freeColumns 49 = .ok (.iload_n 1, 1) := by decide +kernel
theorem nd_CM_freeColumns_50 : decode nc_CM_freeColumns 50 = .ok (.iload_n 3, 1) := by decide +kernel
theorem nd_CM_freeColumns_51 : decode nc_CM_freeColumns 51 = .ok (.invokevirtual 66, 3) := by decide +kernel
theorem nd_CM_freeColumns_54 : decode nc_CM_freeColumns 54 = .ok (.iinc 3 1, 3) := by decide +kernel
theorem nd_CM_freeColumns_57 : decode nc_CM_freeColumns 57 = .ok (.goto (-26), 3) := by decide +kernel
theorem nd_CM_freeColumns_60 : decode nc_CM_freeColumns 60 = .ok (.iconst 0, 1) := by decide +kernel
theorem nd_CM_freeColumns_61 : decode nc_CM_freeColumns 61 = .ok (.istore_n 3, 1) := by decide +kernel
theorem nd_CM_freeColumns_62 : decode nc_CM_freeColumns 62 = .ok (.iconst 0, 1) := by decide +kernel
theorem nd_CM_freeColumns_63 : decode nc_CM_freeColumns 63 = .ok (.istore 4, 2) := by decide +kernel
theorem nd_CM_freeColumns_65 : decode nc_CM_freeColumns 65 = .ok (.iload 4, 2) := by decide +kernel
theorem nd_CM_freeColumns_67 : decode nc_CM_freeColumns 67 = .ok (.bipush 16, 2) := by decide +kernel
theorem nd_CM_freeColumns_69 : decode nc_CM_freeColumns 69 = .ok (.if_icmp .ge 29, 3) := by decide +kernel
theorem nd_CM_freeColumns_72 : decode nc_CM_freeColumns 72 = .ok (.iload_n 3, 1) := by decide +kernel
theorem nd_CM_freeColumns_73 : decode nc_CM_freeColumns 73 = .ok (.ifCond .ne 13, 3) := by decide +kernel
theorem nd_CM_freeColumns_76 : decode nc_CM_freeColumns 76 = .ok (.aload_n 0, 1) := by decide +kernel
theorem nd_CM_freeColumns_77 : decode nc_CM_freeColumns 77 = .ok (.getfield 40, 3) := by decide +kernel
theorem nd_CM_freeColumns_80 : decode nc_CM_freeColumns 80 = .ok (.iload 4, 2) := by decide +kernel
theorem nd_CM_freeColumns_82 : decode nc_CM_freeColumns 82 = .ok (.iaload, 1) := by decide +kernel
theorem nd_CM_freeColumns_83 : decode nc_CM_freeColumns 83 = .ok (.ifCond .eq 7, 3) := by decide +kernel
theorem nd_CM_freeColumns_86 : decode nc_CM_freeColumns 86 = .ok (.iconst 1, 1) := by decide +kernel
theorem nd_CM_freeColumns_87 : decode nc_CM_freeColumns 87 = .ok (.goto 4, 3) := by decide +kernel
theorem nd_CM_freeColumns_90 : decode nc_CM_freeColumns 90 = .ok (.iconst 0, 1) := by decide +kernel
theorem nd_CM_freeColumns_91 : decode nc_CM_freeColumns 91 = .ok (.istore_n 3, 1) := by decide +kernel
theorem nd_CM_freeColumns_92 : decode nc_CM_freeColumns 92 = .ok (.iinc 4 1, 3) := by decide +kernel
theorem nd_CM_freeColumns_95 : decode nc_CM_freeColumns 95 = .ok (.goto (-30), 3) := by decide +kernel
theorem nd_CM_freeColumns_98 : decode nc_CM_freeColumns 98 = .ok (.iload_n 3, 1) := by decide +kernel
theorem nd_CM_freeColumns_99 : decode nc_CM_freeColumns 99 = .ok (.ireturn, 1) := by decide +kernel
set_option maxRecDepth 20000 in
theorem lp_CM_freeColumns1 {p : Program} {l : Launch} {e0 : Env} {R : Room} {s0 : State} {m : MethodId} {args : Array Value} {below : List Frame} {meth : Method} {c : Code} {cells slots : Nat} {Qq : State → Prop} {D : va_G} {A : Nat → Prop} (cI cG cM : ClassId) (q : Nat → Nat) (n : Nat) (hn1 : 1 ≤ n) (hn : n ≤ 10) (g : rf_S) (w s : Nat)  (hx : p.tables.exec = Jvm.exec) (hb : c.code = nc_CM_freeColumns) (hml : c.maxLocals = 5) (htg : ∀ w ∈ tg_, w.before args s0 = true) (hown : s0.vm.findClass ny_CM_freeColumns.cls = some m.cls) (hK : va_K D cl_all (ty_all cI cG cM) s0) (hN : tn_K s0) (hA : ∀ q : Nat, s0.heap.size ≤ q → A q) (hRf : 1 ≤ R.frames) (hRl : 27 ≤ R.locals) (hCS : cells ≤ R.cells ∧ slots ≤ R.slots) (kx : ∀ (ls : Array Slot) (H : Heap) (locs : List Loc) (f : Nat → Int32), (∀ Q', Q' < 16 → f Q' = nI (if Q' = 0 then 1 else 0)) → lv_has ls 5 [(0, .ref (q 0)), (1, .int (nI (w))), (2, .int (nI (s)))] → va_P D cl_all ([((q 0), .inr (6, [.int (nI (n)), .ref (q 2), .ref (q 3), .ref (q 4), .ref (q 5), .ref (q 6), .ref (q 7), .ref (q 8), .ref (q 9), .ref (q 10), .ref (q 11), .ref (q 12), .ref (q 13), .ref (q 14)])), ((q 2), .inl (cI, 10, .inl (g 0))), ((q 3), .inl (cI, 2, .inl (g 1))), ((q 4), .inl (cI, 2, .inl (g 2))), ((q 5), .inl (cI, 2, .inl (g 3))), ((q 6), .inl (cI, 20, .inl (g 4))), ((q 7), .inl (cI, 20, .inl (g 5))), ((q 8), .inl (cI, 20, .inl (g 6))), ((q 9), .inl (cI, 8, .inl (g 7))), ((q 10), .inl (cI, 80, .inl (g 8))), ((q 11), .inl (cI, 8, .inl (g 9))), ((q 12), .inl (cI, 16, .inl f)), ((q 13), .inl (cI, 16, .inl (g 11))), ((q 14), .inl (cI, 2048, .inl (g 12)))]) H → va_D A ([((q 0), .inr (6, [.int (nI (n)), .ref (q 2), .ref (q 3), .ref (q 4), .ref (q 5), .ref (q 6), .ref (q 7), .ref (q 8), .ref (q 9), .ref (q 10), .ref (q 11), .ref (q 12), .ref (q 13), .ref (q 14)])), ((q 2), .inl (cI, 10, .inl (g 0))), ((q 3), .inl (cI, 2, .inl (g 1))), ((q 4), .inl (cI, 2, .inl (g 2))), ((q 5), .inl (cI, 2, .inl (g 3))), ((q 6), .inl (cI, 20, .inl (g 4))), ((q 7), .inl (cI, 20, .inl (g 5))), ((q 8), .inl (cI, 20, .inl (g 6))), ((q 9), .inl (cI, 8, .inl (g 7))), ((q 10), .inl (cI, 80, .inl (g 8))), ((q 11), .inl (cI, 8, .inl (g 9))), ((q 12), .inl (cI, 16, .inl f)), ((q 13), .inl (cI, 16, .inl (g 11))), ((q 14), .inl (cI, 2048, .inl (g 12)))]) → va_S A s0.heap H locs → W p l e0 R s0 m args below meth c H locs cells slots Qq (F0 m 29 ls [])) : ∀ (fuel : Nat) (Q : Nat) (f : Nat → Int32) (ls : Array Slot) (H : Heap) (locs : List Loc), 16 - Q < fuel → (Q ≤ 16) → (∀ Q', Q' < Q → f Q' = nI (if Q' = 0 then 1 else 0)) → lv_has ls 5 [(3, .int (nI (Q))), (0, .ref (q 0)), (1, .int (nI (w))), (2, .int (nI (s)))] → va_P D cl_all ([((q 0), .inr (6, [.int (nI (n)), .ref (q 2), .ref (q 3), .ref (q 4), .ref (q 5), .ref (q 6), .ref (q 7), .ref (q 8), .ref (q 9), .ref (q 10), .ref (q 11), .ref (q 12), .ref (q 13), .ref (q 14)])), ((q 2), .inl (cI, 10, .inl (g 0))), ((q 3), .inl (cI, 2, .inl (g 1))), ((q 4), .inl (cI, 2, .inl (g 2))), ((q 5), .inl (cI, 2, .inl (g 3))), ((q 6), .inl (cI, 20, .inl (g 4))), ((q 7), .inl (cI, 20, .inl (g 5))), ((q 8), .inl (cI, 20, .inl (g 6))), ((q 9), .inl (cI, 8, .inl (g 7))), ((q 10), .inl (cI, 80, .inl (g 8))), ((q 11), .inl (cI, 8, .inl (g 9))), ((q 12), .inl (cI, 16, .inl f)), ((q 13), .inl (cI, 16, .inl (g 11))), ((q 14), .inl (cI, 2048, .inl (g 12)))]) H → va_D A ([((q 0), .inr (6, [.int (nI (n)), .ref (q 2), .ref (q 3), .ref (q 4), .ref (q 5), .ref (q 6), .ref (q 7), .ref (q 8), .ref (q 9), .ref (q 10), .ref (q 11), .ref (q 12), .ref (q 13), .ref (q 14)])), ((q 2), .inl (cI, 10, .inl (g 0))), ((q 3), .inl (cI, 2, .inl (g 1))), ((q 4), .inl (cI, 2, .inl (g 2))), ((q 5), .inl (cI, 2, .inl (g 3))), ((q 6), .inl (cI, 20, .inl (g 4))), ((q 7), .inl (cI, 20, .inl (g 5))), ((q 8), .inl (cI, 20, .inl (g 6))), ((q 9), .inl (cI, 8, .inl (g 7))), ((q 10), .inl (cI, 80, .inl (g 8))), ((q 11), .inl (cI, 8, .inl (g 9))), ((q 12), .inl (cI, 16, .inl f)), ((q 13), .inl (cI, 16, .inl (g 11))), ((q 14), .inl (cI, 2048, .inl (g 12)))]) → va_S A s0.heap H locs → W p l e0 R s0 m args below meth c H locs cells slots Qq (F0 m 2 ls []) := by
  intro fuel
  induction fuel with
  | zero => intro Q f ls H locs hfu; omega
  | succ fuel ih =>
    intro Q f ls H locs hfu hQ hf hl hP hD hS
    have h2n : 2 ^ n ≤ 1024 := Nat.pow_le_pow_right (by omega) hn
    have h2p : 1 ≤ 2 ^ n := Nat.one_le_two_pow
    refine lv_iload_n hx hb nd_CM_freeColumns_2 rfl (lv_at hl 0 rfl) ?_
    refine lv_bipush (v := nI 16) hx hb nd_CM_freeColumns_3 (by decide) ?_
    refine wi_icmp_ge (tgt := 29) hx hb (by omega) (by omega) nd_CM_freeColumns_5 rfl (fun hc5 => ?_) (fun hc5 => ?_)
    · have hl : lv_has ls 5 [(0, .ref (q 0)), (1, .int (nI (w))), (2, .int (nI (s)))] := lv_sub hl [1, 2, 3] rfl
      exact kx ls H locs f (fun Q' hq => hf Q' (by omega)) hl hP hD hS
    · refine lv_aload_n hx hb nd_CM_freeColumns_8 rfl (lv_at hl 1 rfl) ?_
      refine va_get (D := D) (C := nr_CM) (T := nt_CM) (N := 14) hx hb htg tf_CM hown hK hP 0 rfl rfl 11 (by decide) (htg _ tm_394) (fun _ h => h) rfl nd_CM_freeColumns_9 ?_
      refine lv_iload_n hx hb nd_CM_freeColumns_12 rfl (lv_at hl 0 rfl) ?_
      refine lv_iload_n hx hb nd_CM_freeColumns_13 rfl (lv_at hl 0 rfl) ?_
      refine wi_if_ne (tgt := 21) hx hb (by omega) nd_CM_freeColumns_14 rfl (fun hc14 => ?_) (fun hc14 => ?_)
      · refine wi_ic hx hb (a := 0) nd_CM_freeColumns_21 ?_
        refine wi_iast hx hb hK hP hD hS 11 0 rfl rfl (by omega) (by omega) nd_CM_freeColumns_22 (fun H locs hP hD hS => ?_)
        have hP : va_P D cl_all ([((q 0), .inr (6, [.int (nI (n)), .ref (q 2), .ref (q 3), .ref (q 4), .ref (q 5), .ref (q 6), .ref (q 7), .ref (q 8), .ref (q 9), .ref (q 10), .ref (q 11), .ref (q 12), .ref (q 13), .ref (q 14)])), ((q 2), .inl (cI, 10, .inl (g 0))), ((q 3), .inl (cI, 2, .inl (g 1))), ((q 4), .inl (cI, 2, .inl (g 2))), ((q 5), .inl (cI, 2, .inl (g 3))), ((q 6), .inl (cI, 20, .inl (g 4))), ((q 7), .inl (cI, 20, .inl (g 5))), ((q 8), .inl (cI, 20, .inl (g 6))), ((q 9), .inl (cI, 8, .inl (g 7))), ((q 10), .inl (cI, 80, .inl (g 8))), ((q 11), .inl (cI, 8, .inl (g 9))), ((q 12), .inl (cI, 16, .inl (upd f Q (nI (0))))), ((q 13), .inl (cI, 16, .inl (g 11))), ((q 14), .inl (cI, 2048, .inl (g 12)))]) H := hP
        have hD : va_D A ([((q 0), .inr (6, [.int (nI (n)), .ref (q 2), .ref (q 3), .ref (q 4), .ref (q 5), .ref (q 6), .ref (q 7), .ref (q 8), .ref (q 9), .ref (q 10), .ref (q 11), .ref (q 12), .ref (q 13), .ref (q 14)])), ((q 2), .inl (cI, 10, .inl (g 0))), ((q 3), .inl (cI, 2, .inl (g 1))), ((q 4), .inl (cI, 2, .inl (g 2))), ((q 5), .inl (cI, 2, .inl (g 3))), ((q 6), .inl (cI, 20, .inl (g 4))), ((q 7), .inl (cI, 20, .inl (g 5))), ((q 8), .inl (cI, 20, .inl (g 6))), ((q 9), .inl (cI, 8, .inl (g 7))), ((q 10), .inl (cI, 80, .inl (g 8))), ((q 11), .inl (cI, 8, .inl (g 9))), ((q 12), .inl (cI, 16, .inl (upd f Q (nI (0))))), ((q 13), .inl (cI, 16, .inl (g 11))), ((q 14), .inl (cI, 2048, .inl (g 12)))]) := hD
        refine lv_iinc (k := 0) (v := nI (Q + 1)) hx hb nd_CM_freeColumns_23 hl rfl (wi_inc _ 1) (by decide) rfl (fun ls hl => ?_)
        have hl : lv_has ls 5 [(3, .int (nI (Q + 1))), (0, .ref (q 0)), (1, .int (nI (w))), (2, .int (nI (s)))] := hl
        refine lv_goto (tgt := 2) hx hb nd_CM_freeColumns_26 rfl ?_
        have hl : lv_has ls 5 [(3, .int (nI (Q + 1))), (0, .ref (q 0)), (1, .int (nI (w))), (2, .int (nI (s)))] := lv_sub hl [0, 1, 2, 3] rfl
        exact ih (Q + 1) (upd f Q (nI (0))) ls H locs (by omega) (by omega) (fun Q' hq => if q : Q' = Q then by rw [q, upd_at, if_neg hc14] else by rw [upd_ne q]; exact hf Q' (by omega)) hl hP hD hS
      · refine wi_ic hx hb (a := 1) nd_CM_freeColumns_17 ?_
        refine lv_goto (tgt := 22) hx hb nd_CM_freeColumns_18 rfl ?_
        refine wi_iast hx hb hK hP hD hS 11 0 rfl rfl (by omega) (by omega) nd_CM_freeColumns_22 (fun H locs hP hD hS => ?_)
        have hP : va_P D cl_all ([((q 0), .inr (6, [.int (nI (n)), .ref (q 2), .ref (q 3), .ref (q 4), .ref (q 5), .ref (q 6), .ref (q 7), .ref (q 8), .ref (q 9), .ref (q 10), .ref (q 11), .ref (q 12), .ref (q 13), .ref (q 14)])), ((q 2), .inl (cI, 10, .inl (g 0))), ((q 3), .inl (cI, 2, .inl (g 1))), ((q 4), .inl (cI, 2, .inl (g 2))), ((q 5), .inl (cI, 2, .inl (g 3))), ((q 6), .inl (cI, 20, .inl (g 4))), ((q 7), .inl (cI, 20, .inl (g 5))), ((q 8), .inl (cI, 20, .inl (g 6))), ((q 9), .inl (cI, 8, .inl (g 7))), ((q 10), .inl (cI, 80, .inl (g 8))), ((q 11), .inl (cI, 8, .inl (g 9))), ((q 12), .inl (cI, 16, .inl (upd f Q (nI (1))))), ((q 13), .inl (cI, 16, .inl (g 11))), ((q 14), .inl (cI, 2048, .inl (g 12)))]) H := hP
        have hD : va_D A ([((q 0), .inr (6, [.int (nI (n)), .ref (q 2), .ref (q 3), .ref (q 4), .ref (q 5), .ref (q 6), .ref (q 7), .ref (q 8), .ref (q 9), .ref (q 10), .ref (q 11), .ref (q 12), .ref (q 13), .ref (q 14)])), ((q 2), .inl (cI, 10, .inl (g 0))), ((q 3), .inl (cI, 2, .inl (g 1))), ((q 4), .inl (cI, 2, .inl (g 2))), ((q 5), .inl (cI, 2, .inl (g 3))), ((q 6), .inl (cI, 20, .inl (g 4))), ((q 7), .inl (cI, 20, .inl (g 5))), ((q 8), .inl (cI, 20, .inl (g 6))), ((q 9), .inl (cI, 8, .inl (g 7))), ((q 10), .inl (cI, 80, .inl (g 8))), ((q 11), .inl (cI, 8, .inl (g 9))), ((q 12), .inl (cI, 16, .inl (upd f Q (nI (1))))), ((q 13), .inl (cI, 16, .inl (g 11))), ((q 14), .inl (cI, 2048, .inl (g 12)))]) := hD
        refine lv_iinc (k := 0) (v := nI (Q + 1)) hx hb nd_CM_freeColumns_23 hl rfl (wi_inc _ 1) (by decide) rfl (fun ls hl => ?_)
        have hl : lv_has ls 5 [(3, .int (nI (Q + 1))), (0, .ref (q 0)), (1, .int (nI (w))), (2, .int (nI (s)))] := hl
        refine lv_goto (tgt := 2) hx hb nd_CM_freeColumns_26 rfl ?_
        have hl : lv_has ls 5 [(3, .int (nI (Q + 1))), (0, .ref (q 0)), (1, .int (nI (w))), (2, .int (nI (s)))] := lv_sub hl [0, 1, 2, 3] rfl
        exact ih (Q + 1) (upd f Q (nI (1))) ls H locs (by omega) (by omega) (fun Q' hq => if q : Q' = Q then by rw [q, upd_at, if_pos hc14] else by rw [upd_ne q]; exact hf Q' (by omega)) hl hP hD hS
set_option maxRecDepth 20000 in
theorem lp_CM_freeColumns2 {p : Program} {l : Launch} {e0 : Env} {R : Room} {s0 : State} {m : MethodId} {args : Array Value} {below : List Frame} {meth : Method} {c : Code} {cells slots : Nat} {Qq : State → Prop} {D : va_G} {A : Nat → Prop} (cI cG cM : ClassId) (q : Nat → Nat) (n : Nat) (hn1 : 1 ≤ n) (hn : n ≤ 10) (g : rf_S) (w md : Nat) (hw : w < 2) (hmd : md = 2 ∨ md = 3 ∨ md = 5 ∨ md = 7) (hmo : g 3 w = nI md) (col : Nat → Nat → Nat) (hco : ∀ e, e < n → ∀ i, i < 4 → g 8 (40 * w + 4 * e + i) = nI (col e i)) (hcl : ∀ e, e < n → ∀ i, i < 4 → col e i < md) (s : Nat) (hs : s < 2 ^ n)  (hx : p.tables.exec = Jvm.exec) (hb : c.code = nc_CM_freeColumns) (hml : c.maxLocals = 5) (htg : ∀ w ∈ tg_, w.before args s0 = true) (hown : s0.vm.findClass ny_CM_freeColumns.cls = some m.cls) (hK : va_K D cl_all (ty_all cI cG cM) s0) (hN : tn_K s0) (hA : ∀ q : Nat, s0.heap.size ≤ q → A q) (hRf : 1 ≤ R.frames) (hRl : 27 ≤ R.locals) (hCS : cells ≤ R.cells ∧ slots ≤ R.slots) (kx : ∀ (ls : Array Slot) (H : Heap) (locs : List Loc) (h : rf_S), (∀ j, ¬ j = 10 → ¬ j = 11 → h j = g j) → (∀ Q, Q < 16 → h 10 Q = nI ((ml_mn (md : Int) (fun e i => (col e i : Int)) n s Q).toNat)) → lv_has ls 5 [(0, .ref (q 0)), (1, .int (nI (w))), (2, .int (nI (s)))] → va_P D cl_all ([((q 0), .inr (6, [.int (nI (n)), .ref (q 2), .ref (q 3), .ref (q 4), .ref (q 5), .ref (q 6), .ref (q 7), .ref (q 8), .ref (q 9), .ref (q 10), .ref (q 11), .ref (q 12), .ref (q 13), .ref (q 14)])), ((q 2), .inl (cI, 10, .inl (h 0))), ((q 3), .inl (cI, 2, .inl (h 1))), ((q 4), .inl (cI, 2, .inl (h 2))), ((q 5), .inl (cI, 2, .inl (h 3))), ((q 6), .inl (cI, 20, .inl (h 4))), ((q 7), .inl (cI, 20, .inl (h 5))), ((q 8), .inl (cI, 20, .inl (h 6))), ((q 9), .inl (cI, 8, .inl (h 7))), ((q 10), .inl (cI, 80, .inl (h 8))), ((q 11), .inl (cI, 8, .inl (h 9))), ((q 12), .inl (cI, 16, .inl (h 10))), ((q 13), .inl (cI, 16, .inl (h 11))), ((q 14), .inl (cI, 2048, .inl (h 12)))]) H → va_D A ([((q 0), .inr (6, [.int (nI (n)), .ref (q 2), .ref (q 3), .ref (q 4), .ref (q 5), .ref (q 6), .ref (q 7), .ref (q 8), .ref (q 9), .ref (q 10), .ref (q 11), .ref (q 12), .ref (q 13), .ref (q 14)])), ((q 2), .inl (cI, 10, .inl (h 0))), ((q 3), .inl (cI, 2, .inl (h 1))), ((q 4), .inl (cI, 2, .inl (h 2))), ((q 5), .inl (cI, 2, .inl (h 3))), ((q 6), .inl (cI, 20, .inl (h 4))), ((q 7), .inl (cI, 20, .inl (h 5))), ((q 8), .inl (cI, 20, .inl (h 6))), ((q 9), .inl (cI, 8, .inl (h 7))), ((q 10), .inl (cI, 80, .inl (h 8))), ((q 11), .inl (cI, 8, .inl (h 9))), ((q 12), .inl (cI, 16, .inl (h 10))), ((q 13), .inl (cI, 16, .inl (h 11))), ((q 14), .inl (cI, 2048, .inl (h 12)))]) → va_S A s0.heap H locs → W p l e0 R s0 m args below meth c H locs cells slots Qq (F0 m 60 ls [])) : ∀ (fuel : Nat) (e : Nat) (h : rf_S) (ls : Array Slot) (H : Heap) (locs : List Loc), n - e < fuel → (e ≤ n) → (∀ j, ¬ j = 10 → ¬ j = 11 → h j = g j) → (∀ Q, Q < 16 → h 10 Q = nI ((ml_mn (md : Int) (fun e i => (col e i : Int)) e s Q).toNat)) → lv_has ls 5 [(3, .int (nI (e))), (0, .ref (q 0)), (1, .int (nI (w))), (2, .int (nI (s)))] → va_P D cl_all ([((q 0), .inr (6, [.int (nI (n)), .ref (q 2), .ref (q 3), .ref (q 4), .ref (q 5), .ref (q 6), .ref (q 7), .ref (q 8), .ref (q 9), .ref (q 10), .ref (q 11), .ref (q 12), .ref (q 13), .ref (q 14)])), ((q 2), .inl (cI, 10, .inl (h 0))), ((q 3), .inl (cI, 2, .inl (h 1))), ((q 4), .inl (cI, 2, .inl (h 2))), ((q 5), .inl (cI, 2, .inl (h 3))), ((q 6), .inl (cI, 20, .inl (h 4))), ((q 7), .inl (cI, 20, .inl (h 5))), ((q 8), .inl (cI, 20, .inl (h 6))), ((q 9), .inl (cI, 8, .inl (h 7))), ((q 10), .inl (cI, 80, .inl (h 8))), ((q 11), .inl (cI, 8, .inl (h 9))), ((q 12), .inl (cI, 16, .inl (h 10))), ((q 13), .inl (cI, 16, .inl (h 11))), ((q 14), .inl (cI, 2048, .inl (h 12)))]) H → va_D A ([((q 0), .inr (6, [.int (nI (n)), .ref (q 2), .ref (q 3), .ref (q 4), .ref (q 5), .ref (q 6), .ref (q 7), .ref (q 8), .ref (q 9), .ref (q 10), .ref (q 11), .ref (q 12), .ref (q 13), .ref (q 14)])), ((q 2), .inl (cI, 10, .inl (h 0))), ((q 3), .inl (cI, 2, .inl (h 1))), ((q 4), .inl (cI, 2, .inl (h 2))), ((q 5), .inl (cI, 2, .inl (h 3))), ((q 6), .inl (cI, 20, .inl (h 4))), ((q 7), .inl (cI, 20, .inl (h 5))), ((q 8), .inl (cI, 20, .inl (h 6))), ((q 9), .inl (cI, 8, .inl (h 7))), ((q 10), .inl (cI, 80, .inl (h 8))), ((q 11), .inl (cI, 8, .inl (h 9))), ((q 12), .inl (cI, 16, .inl (h 10))), ((q 13), .inl (cI, 16, .inl (h 11))), ((q 14), .inl (cI, 2048, .inl (h 12)))]) → va_S A s0.heap H locs → W p l e0 R s0 m args below meth c H locs cells slots Qq (F0 m 31 ls []) := by
  intro fuel
  induction fuel with
  | zero => intro e h ls H locs hfu; omega
  | succ fuel ih =>
    intro e h ls H locs hfu he hk9 hm hl hP hD hS
    have h2n : 2 ^ n ≤ 1024 := Nat.pow_le_pow_right (by omega) hn
    have h2p : 1 ≤ 2 ^ n := Nat.one_le_two_pow
    refine lv_iload_n hx hb nd_CM_freeColumns_31 rfl (lv_at hl 0 rfl) ?_
    refine lv_aload_n hx hb nd_CM_freeColumns_32 rfl (lv_at hl 1 rfl) ?_
    refine va_get (D := D) (C := nr_CM) (T := nt_CM) (N := 14) hx hb htg tf_CM hown hK hP 0 rfl rfl 0 (by decide) (htg _ tm_383) (fun _ h => h) rfl nd_CM_freeColumns_33 ?_
    refine wi_icmp_ge (tgt := 60) hx hb (by omega) (by omega) nd_CM_freeColumns_36 rfl (fun hc36 => ?_) (fun hc36 => ?_)
    · have hl : lv_has ls 5 [(0, .ref (q 0)), (1, .int (nI (w))), (2, .int (nI (s)))] := lv_sub hl [1, 2, 3] rfl
      exact kx ls H locs h hk9 (by rw [show n = e by omega]; exact hm) hl hP hD hS
    · refine lv_iload_n hx hb nd_CM_freeColumns_39 rfl (lv_at hl 3 rfl) ?_
      refine lv_iload_n hx hb nd_CM_freeColumns_40 rfl (lv_at hl 0 rfl) ?_
      refine wi_ishr hx hb (by omega) (by omega) nd_CM_freeColumns_41 ?_
      refine wi_ic hx hb (a := 1) nd_CM_freeColumns_42 ?_
      refine wi_bit hx hb nd_CM_freeColumns_43 ?_
      have hbt43 := mt_bt_lt s e
      refine wi_ic hx hb (a := 1) nd_CM_freeColumns_44 ?_
      refine wi_icmp_ne (tgt := 54) hx hb (by omega) (by omega) nd_CM_freeColumns_45 rfl (fun hc45 => ?_) (fun hc45 => ?_)
      · refine lv_iinc (k := 0) (v := nI (e + 1)) hx hb nd_CM_freeColumns_54 hl rfl (wi_inc _ 1) (by decide) rfl (fun ls hl => ?_)
        have hl : lv_has ls 5 [(3, .int (nI (e + 1))), (0, .ref (q 0)), (1, .int (nI (w))), (2, .int (nI (s)))] := hl
        refine lv_goto (tgt := 31) hx hb nd_CM_freeColumns_57 rfl ?_
        have hl : lv_has ls 5 [(3, .int (nI (e + 1))), (0, .ref (q 0)), (1, .int (nI (w))), (2, .int (nI (s)))] := lv_sub hl [0, 1, 2, 3] rfl
        exact ih (e + 1) h ls H locs (by omega) (by omega) hk9 (by rw [ml_mn_f (mt_bt_f.mp (by omega))]; exact hm) hl hP hD hS
      · refine lv_aload_n hx hb nd_CM_freeColumns_48 rfl (lv_at hl 1 rfl) ?_
        refine lv_iload_n hx hb nd_CM_freeColumns_49 rfl (lv_at hl 2 rfl) ?_
        refine lv_iload_n hx hb nd_CM_freeColumns_50 rfl (lv_at hl 0 rfl) ?_
        refine wd_Vv0 (C := nr_CM) (n := 2) (Y := rf_ cI q n h) hx hb hml hown htg (c_CM_join l D cI cG cM q n hn1 hn h w e md hw (by omega) hmd ((congrFun (hk9 3 (by omega) (by omega)) w).trans hmo) (fun i => col e i) (fun Q => (ml_mn (md : Int) (fun e i => (col e i : Int)) e s Q).toNat) (fun i hi => (congrFun (hk9 8 (by omega) (by omega)) _).trans (hco e (by omega) i hi)) hm (fun i hi => hcl e (by omega) i hi) (fun Q _ => by have := ml_mn_rg (p := (md : Int)) (by omega) (fun e i => (col e i : Int)) s e Q; omega) _) tm_505 tm_502 tm_504 tp_19 tm_9 (by decide +kernel) ⟨⟨Nat.le_trans (by decide) hRf, Nat.le_trans (by decide) hRl⟩, rfl, rfl⟩ hP hD hS hA hK hN (va_recv (q0 := 0) (ci := 6) hK hP rfl rfl) rfl hl.1 rfl (Nat.le_of_ble_eq_true rfl) nd_CM_freeColumns_51 hCS (fun u51 H locs hp51 hP hD hS => ?_)
        have hP : va_P D cl_all ([((q 0), .inr (6, [.int (nI (n)), .ref (q 2), .ref (q 3), .ref (q 4), .ref (q 5), .ref (q 6), .ref (q 7), .ref (q 8), .ref (q 9), .ref (q 10), .ref (q 11), .ref (q 12), .ref (q 13), .ref (q 14)])), ((q 2), .inl (cI, 10, .inl (u51 0))), ((q 3), .inl (cI, 2, .inl (u51 1))), ((q 4), .inl (cI, 2, .inl (u51 2))), ((q 5), .inl (cI, 2, .inl (u51 3))), ((q 6), .inl (cI, 20, .inl (u51 4))), ((q 7), .inl (cI, 20, .inl (u51 5))), ((q 8), .inl (cI, 20, .inl (u51 6))), ((q 9), .inl (cI, 8, .inl (u51 7))), ((q 10), .inl (cI, 80, .inl (u51 8))), ((q 11), .inl (cI, 8, .inl (u51 9))), ((q 12), .inl (cI, 16, .inl (u51 10))), ((q 13), .inl (cI, 16, .inl (u51 11))), ((q 14), .inl (cI, 2048, .inl (u51 12)))]) H := hP
        have hD : va_D A ([((q 0), .inr (6, [.int (nI (n)), .ref (q 2), .ref (q 3), .ref (q 4), .ref (q 5), .ref (q 6), .ref (q 7), .ref (q 8), .ref (q 9), .ref (q 10), .ref (q 11), .ref (q 12), .ref (q 13), .ref (q 14)])), ((q 2), .inl (cI, 10, .inl (u51 0))), ((q 3), .inl (cI, 2, .inl (u51 1))), ((q 4), .inl (cI, 2, .inl (u51 2))), ((q 5), .inl (cI, 2, .inl (u51 3))), ((q 6), .inl (cI, 20, .inl (u51 4))), ((q 7), .inl (cI, 20, .inl (u51 5))), ((q 8), .inl (cI, 20, .inl (u51 6))), ((q 9), .inl (cI, 8, .inl (u51 7))), ((q 10), .inl (cI, 80, .inl (u51 8))), ((q 11), .inl (cI, 8, .inl (u51 9))), ((q 12), .inl (cI, 16, .inl (u51 10))), ((q 13), .inl (cI, 16, .inl (u51 11))), ((q 14), .inl (cI, 2048, .inl (u51 12)))]) := hD
        refine lv_iinc (k := 0) (v := nI (e + 1)) hx hb nd_CM_freeColumns_54 hl rfl (wi_inc _ 1) (by decide) rfl (fun ls hl => ?_)
        have hl : lv_has ls 5 [(3, .int (nI (e + 1))), (0, .ref (q 0)), (1, .int (nI (w))), (2, .int (nI (s)))] := hl
        refine lv_goto (tgt := 31) hx hb nd_CM_freeColumns_57 rfl ?_
        have hl : lv_has ls 5 [(3, .int (nI (e + 1))), (0, .ref (q 0)), (1, .int (nI (w))), (2, .int (nI (s)))] := lv_sub hl [0, 1, 2, 3] rfl
        exact ih (e + 1) u51 ls H locs (by omega) (by omega) (fun j h1 h2 => (hp51.2 j h1 h2).trans (hk9 j h1 h2)) (fun Q hQ => by rw [ml_mn_t (mt_bt_t.mp (by omega)), hp51.1 Q hQ, ml_mn_n (by omega)]) hl hP hD hS
set_option maxRecDepth 20000 in
theorem lp_CM_freeColumns3 {p : Program} {l : Launch} {e0 : Env} {R : Room} {s0 : State} {m : MethodId} {args : Array Value} {below : List Frame} {meth : Method} {c : Code} {cells slots : Nat} {Qq : State → Prop} {D : va_G} {A : Nat → Prop} (cI cG cM : ClassId) (q : Nat → Nat) (n : Nat) (hn1 : 1 ≤ n) (hn : n ≤ 10) (g : rf_S) (mm : Nat → Nat) (hmm : ∀ Q, Q < 16 → g 10 Q = nI (mm Q)) (hmb : ∀ Q, Q < 16 → mm Q < 7)  (hx : p.tables.exec = Jvm.exec) (hb : c.code = nc_CM_freeColumns) (hml : c.maxLocals = 5) (htg : ∀ w ∈ tg_, w.before args s0 = true) (hown : s0.vm.findClass ny_CM_freeColumns.cls = some m.cls) (hK : va_K D cl_all (ty_all cI cG cM) s0) (hN : tn_K s0) (hA : ∀ q : Nat, s0.heap.size ≤ q → A q) (hRf : 1 ≤ R.frames) (hRl : 27 ≤ R.locals) (hCS : cells ≤ R.cells ∧ slots ≤ R.slots) (kx : ∀ (ls : Array Slot) (H : Heap) (locs : List Loc), lv_has ls 5 [(3, .int (nI (fd_ mm 16)))] → va_P D cl_all ([((q 0), .inr (6, [.int (nI (n)), .ref (q 2), .ref (q 3), .ref (q 4), .ref (q 5), .ref (q 6), .ref (q 7), .ref (q 8), .ref (q 9), .ref (q 10), .ref (q 11), .ref (q 12), .ref (q 13), .ref (q 14)])), ((q 2), .inl (cI, 10, .inl (g 0))), ((q 3), .inl (cI, 2, .inl (g 1))), ((q 4), .inl (cI, 2, .inl (g 2))), ((q 5), .inl (cI, 2, .inl (g 3))), ((q 6), .inl (cI, 20, .inl (g 4))), ((q 7), .inl (cI, 20, .inl (g 5))), ((q 8), .inl (cI, 20, .inl (g 6))), ((q 9), .inl (cI, 8, .inl (g 7))), ((q 10), .inl (cI, 80, .inl (g 8))), ((q 11), .inl (cI, 8, .inl (g 9))), ((q 12), .inl (cI, 16, .inl (g 10))), ((q 13), .inl (cI, 16, .inl (g 11))), ((q 14), .inl (cI, 2048, .inl (g 12)))]) H → va_D A ([((q 0), .inr (6, [.int (nI (n)), .ref (q 2), .ref (q 3), .ref (q 4), .ref (q 5), .ref (q 6), .ref (q 7), .ref (q 8), .ref (q 9), .ref (q 10), .ref (q 11), .ref (q 12), .ref (q 13), .ref (q 14)])), ((q 2), .inl (cI, 10, .inl (g 0))), ((q 3), .inl (cI, 2, .inl (g 1))), ((q 4), .inl (cI, 2, .inl (g 2))), ((q 5), .inl (cI, 2, .inl (g 3))), ((q 6), .inl (cI, 20, .inl (g 4))), ((q 7), .inl (cI, 20, .inl (g 5))), ((q 8), .inl (cI, 20, .inl (g 6))), ((q 9), .inl (cI, 8, .inl (g 7))), ((q 10), .inl (cI, 80, .inl (g 8))), ((q 11), .inl (cI, 8, .inl (g 9))), ((q 12), .inl (cI, 16, .inl (g 10))), ((q 13), .inl (cI, 16, .inl (g 11))), ((q 14), .inl (cI, 2048, .inl (g 12)))]) → va_S A s0.heap H locs → W p l e0 R s0 m args below meth c H locs cells slots Qq (F0 m 98 ls [])) : ∀ (fuel : Nat) (Q : Nat) (ls : Array Slot) (H : Heap) (locs : List Loc), 16 - Q < fuel → (Q ≤ 16) → lv_has ls 5 [(4, .int (nI (Q))), (3, .int (nI (fd_ mm Q))), (0, .ref (q 0))] → va_P D cl_all ([((q 0), .inr (6, [.int (nI (n)), .ref (q 2), .ref (q 3), .ref (q 4), .ref (q 5), .ref (q 6), .ref (q 7), .ref (q 8), .ref (q 9), .ref (q 10), .ref (q 11), .ref (q 12), .ref (q 13), .ref (q 14)])), ((q 2), .inl (cI, 10, .inl (g 0))), ((q 3), .inl (cI, 2, .inl (g 1))), ((q 4), .inl (cI, 2, .inl (g 2))), ((q 5), .inl (cI, 2, .inl (g 3))), ((q 6), .inl (cI, 20, .inl (g 4))), ((q 7), .inl (cI, 20, .inl (g 5))), ((q 8), .inl (cI, 20, .inl (g 6))), ((q 9), .inl (cI, 8, .inl (g 7))), ((q 10), .inl (cI, 80, .inl (g 8))), ((q 11), .inl (cI, 8, .inl (g 9))), ((q 12), .inl (cI, 16, .inl (g 10))), ((q 13), .inl (cI, 16, .inl (g 11))), ((q 14), .inl (cI, 2048, .inl (g 12)))]) H → va_D A ([((q 0), .inr (6, [.int (nI (n)), .ref (q 2), .ref (q 3), .ref (q 4), .ref (q 5), .ref (q 6), .ref (q 7), .ref (q 8), .ref (q 9), .ref (q 10), .ref (q 11), .ref (q 12), .ref (q 13), .ref (q 14)])), ((q 2), .inl (cI, 10, .inl (g 0))), ((q 3), .inl (cI, 2, .inl (g 1))), ((q 4), .inl (cI, 2, .inl (g 2))), ((q 5), .inl (cI, 2, .inl (g 3))), ((q 6), .inl (cI, 20, .inl (g 4))), ((q 7), .inl (cI, 20, .inl (g 5))), ((q 8), .inl (cI, 20, .inl (g 6))), ((q 9), .inl (cI, 8, .inl (g 7))), ((q 10), .inl (cI, 80, .inl (g 8))), ((q 11), .inl (cI, 8, .inl (g 9))), ((q 12), .inl (cI, 16, .inl (g 10))), ((q 13), .inl (cI, 16, .inl (g 11))), ((q 14), .inl (cI, 2048, .inl (g 12)))]) → va_S A s0.heap H locs → W p l e0 R s0 m args below meth c H locs cells slots Qq (F0 m 65 ls []) := by
  intro fuel
  induction fuel with
  | zero => intro Q ls H locs hfu; omega
  | succ fuel ih =>
    intro Q ls H locs hfu hQ hl hP hD hS
    have h2n : 2 ^ n ≤ 1024 := Nat.pow_le_pow_right (by omega) hn
    have h2p : 1 ≤ 2 ^ n := Nat.one_le_two_pow
    have hf01 := fd_01 mm Q
    refine lv_iload hx hb nd_CM_freeColumns_65 (lv_at hl 0 rfl) ?_
    refine lv_bipush (v := nI 16) hx hb nd_CM_freeColumns_67 (by decide) ?_
    refine wi_icmp_ge (tgt := 98) hx hb (by omega) (by omega) nd_CM_freeColumns_69 rfl (fun hc69 => ?_) (fun hc69 => ?_)
    · have hl : lv_has ls 5 [(3, .int (nI (fd_ mm Q)))] := lv_sub hl [1] rfl
      have hQe : Q = 16 := by omega
      exact kx ls H locs (by simpa only [hQe] using hl) hP hD hS
    · refine lv_iload_n hx hb nd_CM_freeColumns_72 rfl (lv_at hl 1 rfl) ?_
      refine wi_if_ne (tgt := 86) hx hb (by omega) nd_CM_freeColumns_73 rfl (fun hc73 => ?_) (fun hc73 => ?_)
      · refine wi_ic hx hb (a := 1) nd_CM_freeColumns_86 ?_
        refine lv_goto (tgt := 91) hx hb nd_CM_freeColumns_87 rfl ?_
        refine lv_istore_n hx hb nd_CM_freeColumns_91 rfl hl (by decide) rfl (fun ls hl => ?_)
        have hl : lv_has ls 5 [(3, .int (nI (1))), (4, .int (nI (Q))), (0, .ref (q 0))] := hl
        refine lv_iinc (k := 1) (v := nI (Q + 1)) hx hb nd_CM_freeColumns_92 hl rfl (wi_inc _ 1) (by decide) rfl (fun ls hl => ?_)
        have hl : lv_has ls 5 [(4, .int (nI (Q + 1))), (3, .int (nI (1))), (0, .ref (q 0))] := hl
        refine lv_goto (tgt := 65) hx hb nd_CM_freeColumns_95 rfl ?_
        have hl : lv_has ls 5 [(4, .int (nI (Q + 1))), (3, .int (nI (1))), (0, .ref (q 0))] := lv_sub hl [0, 1, 2] rfl
        have hfd : fd_ mm (Q + 1) = 1 := if_neg (fun z => hc73 z.1)
        exact ih (Q + 1) ls H locs (by omega) (by omega) (by rw [hfd]; exact hl) hP hD hS
      · have hmq := hmb Q (by omega)
        refine lv_aload_n hx hb nd_CM_freeColumns_76 rfl (lv_at hl 2 rfl) ?_
        refine va_get (D := D) (C := nr_CM) (T := nt_CM) (N := 14) hx hb htg tf_CM hown hK hP 0 rfl rfl 11 (by decide) (htg _ tm_394) (fun _ h => h) rfl nd_CM_freeColumns_77 ?_
        refine lv_iload hx hb nd_CM_freeColumns_80 (lv_at hl 0 rfl) ?_
        refine wi_iald hx hb hK hP 11 0 rfl rfl (by omega) (by omega) nd_CM_freeColumns_82 ?_
        refine wi_top (hmm Q (by omega)) ?_
        refine wi_if_eq (tgt := 90) hx hb (by omega) nd_CM_freeColumns_83 rfl (fun hc83 => ?_) (fun hc83 => ?_)
        · refine wi_ic hx hb (a := 0) nd_CM_freeColumns_90 ?_
          refine lv_istore_n hx hb nd_CM_freeColumns_91 rfl hl (by decide) rfl (fun ls hl => ?_)
          have hl : lv_has ls 5 [(3, .int (nI (0))), (4, .int (nI (Q))), (0, .ref (q 0))] := hl
          refine lv_iinc (k := 1) (v := nI (Q + 1)) hx hb nd_CM_freeColumns_92 hl rfl (wi_inc _ 1) (by decide) rfl (fun ls hl => ?_)
          have hl : lv_has ls 5 [(4, .int (nI (Q + 1))), (3, .int (nI (0))), (0, .ref (q 0))] := hl
          refine lv_goto (tgt := 65) hx hb nd_CM_freeColumns_95 rfl ?_
          have hl : lv_has ls 5 [(4, .int (nI (Q + 1))), (3, .int (nI (0))), (0, .ref (q 0))] := lv_sub hl [0, 1, 2] rfl
          have hfd : fd_ mm (Q + 1) = 0 := if_pos ⟨by omega, hc83⟩
          exact ih (Q + 1) ls H locs (by omega) (by omega) (by rw [hfd]; exact hl) hP hD hS
        · refine wi_ic hx hb (a := 1) nd_CM_freeColumns_86 ?_
          refine lv_goto (tgt := 91) hx hb nd_CM_freeColumns_87 rfl ?_
          refine lv_istore_n hx hb nd_CM_freeColumns_91 rfl hl (by decide) rfl (fun ls hl => ?_)
          have hl : lv_has ls 5 [(3, .int (nI (1))), (4, .int (nI (Q))), (0, .ref (q 0))] := hl
          refine lv_iinc (k := 1) (v := nI (Q + 1)) hx hb nd_CM_freeColumns_92 hl rfl (wi_inc _ 1) (by decide) rfl (fun ls hl => ?_)
          have hl : lv_has ls 5 [(4, .int (nI (Q + 1))), (3, .int (nI (1))), (0, .ref (q 0))] := hl
          refine lv_goto (tgt := 65) hx hb nd_CM_freeColumns_95 rfl ?_
          have hl : lv_has ls 5 [(4, .int (nI (Q + 1))), (3, .int (nI (1))), (0, .ref (q 0))] := lv_sub hl [0, 1, 2] rfl
          have hfd : fd_ mm (Q + 1) = 1 := if_neg (fun z => hc83 z.2)
          exact ih (Q + 1) ls H locs (by omega) (by omega) (by rw [hfd]; exact hl) hP hD hS
set_option maxRecDepth 20000 in
theorem c_CM_freeColumns (l : Launch) (D : va_G) (cI cG cM : ClassId)  (q : Nat → Nat) (n : Nat) (hn1 : 1 ≤ n) (hn : n ≤ 10) (g : rf_S) (w md : Nat) (hw : w < 2) (hmd : md = 2 ∨ md = 3 ∨ md = 5 ∨ md = 7) (hmo : g 3 w = nI md) (col : Nat → Nat → Nat) (hco : ∀ e, e < n → ∀ i, i < 4 → g 8 (40 * w + 4 * e + i) = nI (col e i)) (hcl : ∀ e, e < n → ∀ i, i < 4 → col e i < md) (s : Nat) (hs : s < 2 ^ n)  (sz : Nat) : wb_Mi l ny_CM_freeColumns nc_CM_freeColumns 5 (some .boolean) ({ frames := 1, cells := 0, slots := 0, locals := 27 }) D (ty_all cI cG cM) (rf_ cI q n g) sz [.ref (q 0), .int (nI (w)), .int (nI (s))] (fun (v : Int32) (u : rf_S) => ((∃ Q, Q < 16 ∧ ml_mn (md : Int) (fun e i => (col e i : Int)) n s Q ≠ 0) → v = nI 1) ∧ (¬ (∃ Q, Q < 16 ∧ ml_mn (md : Int) (fun e i => (col e i : Int)) n s Q ≠ 0) → v = nI 0) ∧ ∀ j, ¬ j = 10 → ¬ j = 11 → u j = g j) (fun u : rf_S => rf_ cI q n u) := by
  refine wb_start (S := rf_S) (by decide) (Nat.le_of_ble_eq_true rfl) ?_
  intro p e0 s0 m below meth c ls A hx hb hr hml htg hown hk hP hK hN hl hAe hsz hD hA
  have hl : lv_has ls 5 [(0, .ref (q 0)), (1, .int (nI (w))), (2, .int (nI (s)))] := hl
  have hP : va_P D cl_all ([((q 0), .inr (6, [.int (nI (n)), .ref (q 2), .ref (q 3), .ref (q 4), .ref (q 5), .ref (q 6), .ref (q 7), .ref (q 8), .ref (q 9), .ref (q 10), .ref (q 11), .ref (q 12), .ref (q 13), .ref (q 14)])), ((q 2), .inl (cI, 10, .inl (g 0))), ((q 3), .inl (cI, 2, .inl (g 1))), ((q 4), .inl (cI, 2, .inl (g 2))), ((q 5), .inl (cI, 2, .inl (g 3))), ((q 6), .inl (cI, 20, .inl (g 4))), ((q 7), .inl (cI, 20, .inl (g 5))), ((q 8), .inl (cI, 20, .inl (g 6))), ((q 9), .inl (cI, 8, .inl (g 7))), ((q 10), .inl (cI, 80, .inl (g 8))), ((q 11), .inl (cI, 8, .inl (g 9))), ((q 12), .inl (cI, 16, .inl (g 10))), ((q 13), .inl (cI, 16, .inl (g 11))), ((q 14), .inl (cI, 2048, .inl (g 12)))]) s0.heap := hP
  have hD : va_D A ([((q 0), .inr (6, [.int (nI (n)), .ref (q 2), .ref (q 3), .ref (q 4), .ref (q 5), .ref (q 6), .ref (q 7), .ref (q 8), .ref (q 9), .ref (q 10), .ref (q 11), .ref (q 12), .ref (q 13), .ref (q 14)])), ((q 2), .inl (cI, 10, .inl (g 0))), ((q 3), .inl (cI, 2, .inl (g 1))), ((q 4), .inl (cI, 2, .inl (g 2))), ((q 5), .inl (cI, 2, .inl (g 3))), ((q 6), .inl (cI, 20, .inl (g 4))), ((q 7), .inl (cI, 20, .inl (g 5))), ((q 8), .inl (cI, 20, .inl (g 6))), ((q 9), .inl (cI, 8, .inl (g 7))), ((q 10), .inl (cI, 80, .inl (g 8))), ((q 11), .inl (cI, 8, .inl (g 9))), ((q 12), .inl (cI, 16, .inl (g 10))), ((q 13), .inl (cI, 16, .inl (g 11))), ((q 14), .inl (cI, 2048, .inl (g 12)))]) := hD
  have hS : va_S A s0.heap s0.heap [] := va_S.rf
  have hRf : 1 ≤ ({ frames := 1, cells := 0, slots := 0, locals := 27 } : Room).frames := Nat.le_refl _
  have hRl : 27 ≤ ({ frames := 1, cells := 0, slots := 0, locals := 27 } : Room).locals := Nat.le_refl _
  have hCS : 0 ≤ ({ frames := 1, cells := 0, slots := 0, locals := 27 } : Room).cells ∧ 0 ≤ ({ frames := 1, cells := 0, slots := 0, locals := 27 } : Room).slots := ⟨Nat.zero_le _, Nat.zero_le _⟩
  have h2n : 2 ^ n ≤ 1024 := Nat.pow_le_pow_right (by omega) hn
  have h2p : 1 ≤ 2 ^ n := Nat.one_le_two_pow
  refine wi_ic hx hb (a := 0) nd_CM_freeColumns_0 ?_
  refine lv_istore_n hx hb nd_CM_freeColumns_1 rfl hl (by decide) rfl (fun ls hl => ?_)
  have hl : lv_has ls 5 [(3, .int (nI (0))), (0, .ref (q 0)), (1, .int (nI (w))), (2, .int (nI (s)))] := hl
  have hl : lv_has ls 5 [(3, .int (nI (0))), (0, .ref (q 0)), (1, .int (nI (w))), (2, .int (nI (s)))] := lv_sub hl [0, 1, 2, 3] rfl
  refine lp_CM_freeColumns1 cI cG cM q n hn1 hn g w s hx hb hml htg hown hK hN hA hRf hRl hCS (fun ls H locs f hf hl hP hD hS => ?_) 17 0 (g 10) ls s0.heap [] (by omega) (by omega) (fun Q hq => by omega) hl hP hD hS
  refine wi_ic hx hb (a := 0) nd_CM_freeColumns_29 ?_
  refine lv_istore_n hx hb nd_CM_freeColumns_30 rfl hl (by decide) rfl (fun ls hl => ?_)
  have hl : lv_has ls 5 [(3, .int (nI (0))), (0, .ref (q 0)), (1, .int (nI (w))), (2, .int (nI (s)))] := hl
  have hl : lv_has ls 5 [(3, .int (nI (0))), (0, .ref (q 0)), (1, .int (nI (w))), (2, .int (nI (s)))] := lv_sub hl [0, 1, 2, 3] rfl
  refine lp_CM_freeColumns2 cI cG cM q n hn1 hn g w md hw hmd hmo col hco hcl s hs hx hb hml htg hown hK hN hA hRf hRl hCS (fun ls H locs h hk9 hm hl hP hD hS => ?_) (n + 1) 0 (va_up g 10 f) ls H locs (by omega) (by omega) (fun j h1 h2 => if_neg h1) (fun Q hQ => by show f Q = _; rw [hf Q hQ]; simp only [ml_mn]; split <;> rfl) hl hP hD hS
  refine wi_ic hx hb (a := 0) nd_CM_freeColumns_60 ?_
  refine lv_istore_n hx hb nd_CM_freeColumns_61 rfl hl (by decide) rfl (fun ls hl => ?_)
  have hl : lv_has ls 5 [(3, .int (nI (0))), (0, .ref (q 0)), (1, .int (nI (w))), (2, .int (nI (s)))] := hl
  refine wi_ic hx hb (a := 0) nd_CM_freeColumns_62 ?_
  refine lv_istore hx hb nd_CM_freeColumns_63 hl (by decide) rfl (fun ls hl => ?_)
  have hl : lv_has ls 5 [(4, .int (nI (0))), (3, .int (nI (0))), (0, .ref (q 0)), (1, .int (nI (w))), (2, .int (nI (s)))] := hl
  have hl : lv_has ls 5 [(4, .int (nI (0))), (3, .int (nI (0))), (0, .ref (q 0))] := lv_sub hl [0, 1, 2] rfl
  have hrg := fun Q => ml_mn_rg (p := (md : Int)) (by omega) (fun e i => (col e i : Int)) s n Q
  refine lp_CM_freeColumns3 cI cG cM q n hn1 hn h (fun Q => (ml_mn (md : Int) (fun e i => (col e i : Int)) n s Q).toNat) hm (fun Q hQ => by have := hrg Q; show (ml_mn (md : Int) (fun e i => (col e i : Int)) n s Q).toNat < 7; omega) hx hb hml htg hown hK hN hA hRf hRl hCS (fun ls H locs hl hP hD hS => ?_) 17 0 ls H locs (by omega) (by omega) hl hP hD hS
  refine lv_iload_n hx hb nd_CM_freeColumns_98 rfl (lv_at hl 0 rfl) ?_
  have hz := fd_z (fun Q => (ml_mn (md : Int) (fun e i => (col e i : Int)) n s Q).toNat) 16
  rcases fd_01 (fun Q => (ml_mn (md : Int) (fun e i => (col e i : Int)) n s Q).toNat) 16 with h0 | h0
  · refine wi_top (congrArg nI h0) ?_
    exact wb_zret h hx hb hr hk rfl hAe ⟨fun z => by obtain ⟨Q, hQ, hne⟩ := z; have := hz.mp h0 Q hQ; have := hrg Q; have h8 : (ml_mn (md : Int) (fun e i => (col e i : Int)) n s Q).toNat = 0 := hz.mp h0 Q hQ; omega, fun _ => rfl, hk9⟩ hP hD hS nd_CM_freeColumns_99
  · refine wi_top (congrArg nI h0) ?_
    exact wb_zret h hx hb hr hk rfl hAe ⟨fun _ => rfl, fun z => absurd (hz.mpr (fun Q hQ => by have h9 : ml_mn (md : Int) (fun e i => (col e i : Int)) n s Q = 0 := Classical.byContradiction fun q => z ⟨Q, hQ, q⟩; show (ml_mn (md : Int) (fun e i => (col e i : Int)) n s Q).toNat = 0; rw [h9]; rfl)) (by omega), hk9⟩ hP hD hS nd_CM_freeColumns_99
theorem nd_CM_isFree_0 : decode nc_CM_isFree 0 = .ok (.aload_n 0, 1) := by decide +kernel
theorem nd_CM_isFree_1 : decode nc_CM_isFree 1 = .ok (.getfield 13, 3) := by decide +kernel
theorem nd_CM_isFree_4 : decode nc_CM_isFree 4 = .ok (.iload_n 1, 1) := by decide +kernel
theorem nd_CM_isFree_5 : decode nc_CM_isFree 5 = .ok (.iaload, 1) := by decide +kernel
theorem nd_CM_isFree_6 : decode nc_CM_isFree 6 = .ok (.ifCond .ne 22, 3) := by decide +kernel
theorem nd_CM_isFree_9 : decode nc_CM_isFree 9 = .ok (.iload_n 2, 1) := by decide +kernel
theorem nd_CM_isFree_10 : decode nc_CM_isFree 10 = .ok (.invokestatic 69, 3) := by decide +kernel
theorem nd_CM_isFree_13 : decode nc_CM_isFree 13 = .ok (.aload_n 0, 1) := by decide +kernel
theorem nd_CM_isFree_14 : decode nc_CM_isFree 14 = .ok (.getfield 16, 3) := by decide +kernel
theorem nd_CM_isFree_17 : decode nc_CM_isFree 17 = .ok (.iload_n 1, 1) := by decide +kernel
theorem nd_CM_isFree_18 : decode nc_CM_isFree 18 = .ok (.iaload, 1) := by decide +kernel
theorem nd_CM_isFree_19 : decode nc_CM_isFree 19 = .ok (.if_icmp .gt 7, 3) := by decide +kernel
theorem nd_CM_isFree_22 : decode nc_CM_isFree 22 = .ok (.iconst 1, 1) := by decide +kernel
theorem nd_CM_isFree_23 : decode nc_CM_isFree 23 = .ok (.goto 4, 3) := by decide +kernel
theorem nd_CM_isFree_26 : decode nc_CM_isFree 26 = .ok (.iconst 0, 1) := by decide +kernel
theorem nd_CM_isFree_27 : decode nc_CM_isFree 27 = .ok (.ireturn, 1) := by decide +kernel
theorem nd_CM_isFree_28 : decode nc_CM_isFree 28 = .ok (.aload_n 0, 1) := by decide +kernel
theorem nd_CM_isFree_29 : decode nc_CM_isFree 29 = .ok (.getfield 13, 3) := by decide +kernel
theorem nd_CM_isFree_32 : decode nc_CM_isFree 32 = .ok (.iload_n 1, 1) := by decide +kernel
theorem nd_CM_isFree_33 : decode nc_CM_isFree 33 = .ok (.iaload, 1) := by decide +kernel
theorem nd_CM_isFree_34 : decode nc_CM_isFree 34 = .ok (.iconst 1, 1) := by decide +kernel
theorem nd_CM_isFree_35 : decode nc_CM_isFree 35 = .ok (.if_icmp .ne 12, 3) := by decide +kernel
theorem nd_CM_isFree_38 : decode nc_CM_isFree 38 = .ok (.aload_n 0, 1) := by decide +kernel
theorem nd_CM_isFree_39 : decode nc_CM_isFree 39 = .ok (.iload_n 1, 1) := by decide +kernel
theorem nd_CM_isFree_40 : decode nc_CM_isFree 40 = .ok (.iload_n 2, 1) := by decide +kernel
theorem nd_CM_isFree_41 : decode nc_CM_isFree 41 = .ok (.invokevirtual 73, 3) := by decide +kernel
theorem nd_CM_isFree_44 : decode nc_CM_isFree 44 = .ok (.goto 28, 3) := by decide +kernel
theorem nd_CM_isFree_47 : decode nc_CM_isFree 47 = .ok (.aload_n 0, 1) := by decide +kernel
theorem nd_CM_isFree_48 : decode nc_CM_isFree 48 = .ok (.getfield 13, 3) := by decide +kernel
theorem nd_CM_isFree_51 : decode nc_CM_isFree 51 = .ok (.iload_n 1, 1) := by decide +kernel
theorem nd_CM_isFree_52 : decode nc_CM_isFree 52 = .ok (.iaload, 1) := by decide +kernel
theorem nd_CM_isFree_53 : decode nc_CM_isFree 53 = .ok (.iconst 2, 1) := by decide +kernel
theorem nd_CM_isFree_54 : decode nc_CM_isFree 54 = .ok (.if_icmp .ne 12, 3) := by decide +kernel
theorem nd_CM_isFree_57 : decode nc_CM_isFree 57 = .ok (.aload_n 0, 1) := by decide +kernel
theorem nd_CM_isFree_58 : decode nc_CM_isFree 58 = .ok (.iload_n 1, 1) := by decide +kernel
theorem nd_CM_isFree_59 : decode nc_CM_isFree 59 = .ok (.iload_n 2, 1) := by decide +kernel
theorem nd_CM_isFree_60 : decode nc_CM_isFree 60 = .ok (.invokevirtual 77, 3) := by decide +kernel
theorem nd_CM_isFree_63 : decode nc_CM_isFree 63 = .ok (.goto 9, 3) := by decide +kernel
theorem nd_CM_isFree_66 : decode nc_CM_isFree 66 = .ok (.aload_n 0, 1) := by decide +kernel
theorem nd_CM_isFree_67 : decode nc_CM_isFree 67 = .ok (.iload_n 1, 1) := by decide +kernel
theorem nd_CM_isFree_68 : decode nc_CM_isFree 68 = .ok (.iload_n 2, 1) := by decide +kernel
theorem nd_CM_isFree_69 : decode nc_CM_isFree 69 = .ok (.invokevirtual 80, 3) := by decide +kernel
theorem nd_CM_isFree_72 : decode nc_CM_isFree 72 = .ok (.ireturn, 1) := by decide +kernel
set_option maxRecDepth 20000 in
theorem c_CM_isFree (l : Launch) (D : va_G) (cI cG cM : ClassId)  (q : Nat → Nat) (n : Nat) (hn1 : 1 ≤ n) (hn : n ≤ 10) (g : rf_S) (y : cb_Y) (hI : rf_I n y g) (w s : Nat) (hw : w < 2) (hs : s < 2 ^ n)  (sz : Nat) : wb_Mi l ny_CM_isFree nc_CM_isFree 3 (some .boolean) ({ frames := 2, cells := 0, slots := 0, locals := 51 }) D (ty_all cI cG cM) (rf_ cI q n g) sz [.ref (q 0), .int (nI (w)), .int (nI (s))] (fun (v : Int32) (u : rf_S) => (ma_r n (cb_m y w) s = mt_cd n s → v = nI 1) ∧ (¬ ma_r n (cb_m y w) s = mt_cd n s → v = nI 0) ∧ ∀ j, (j < 9 ∨ j = 12) → u j = g j) (fun u : rf_S => rf_ cI q n u) := by
  refine wb_start (S := rf_S) (by decide) (Nat.le_of_ble_eq_true rfl) ?_
  intro p e0 s0 m below meth c ls A hx hb hr hml htg hown hk hP hK hN hl hAe hsz hD hA
  have hl : lv_has ls 3 [(0, .ref (q 0)), (1, .int (nI (w))), (2, .int (nI (s)))] := hl
  have hP : va_P D cl_all ([((q 0), .inr (6, [.int (nI (n)), .ref (q 2), .ref (q 3), .ref (q 4), .ref (q 5), .ref (q 6), .ref (q 7), .ref (q 8), .ref (q 9), .ref (q 10), .ref (q 11), .ref (q 12), .ref (q 13), .ref (q 14)])), ((q 2), .inl (cI, 10, .inl (g 0))), ((q 3), .inl (cI, 2, .inl (g 1))), ((q 4), .inl (cI, 2, .inl (g 2))), ((q 5), .inl (cI, 2, .inl (g 3))), ((q 6), .inl (cI, 20, .inl (g 4))), ((q 7), .inl (cI, 20, .inl (g 5))), ((q 8), .inl (cI, 20, .inl (g 6))), ((q 9), .inl (cI, 8, .inl (g 7))), ((q 10), .inl (cI, 80, .inl (g 8))), ((q 11), .inl (cI, 8, .inl (g 9))), ((q 12), .inl (cI, 16, .inl (g 10))), ((q 13), .inl (cI, 16, .inl (g 11))), ((q 14), .inl (cI, 2048, .inl (g 12)))]) s0.heap := hP
  have hD : va_D A ([((q 0), .inr (6, [.int (nI (n)), .ref (q 2), .ref (q 3), .ref (q 4), .ref (q 5), .ref (q 6), .ref (q 7), .ref (q 8), .ref (q 9), .ref (q 10), .ref (q 11), .ref (q 12), .ref (q 13), .ref (q 14)])), ((q 2), .inl (cI, 10, .inl (g 0))), ((q 3), .inl (cI, 2, .inl (g 1))), ((q 4), .inl (cI, 2, .inl (g 2))), ((q 5), .inl (cI, 2, .inl (g 3))), ((q 6), .inl (cI, 20, .inl (g 4))), ((q 7), .inl (cI, 20, .inl (g 5))), ((q 8), .inl (cI, 20, .inl (g 6))), ((q 9), .inl (cI, 8, .inl (g 7))), ((q 10), .inl (cI, 80, .inl (g 8))), ((q 11), .inl (cI, 8, .inl (g 9))), ((q 12), .inl (cI, 16, .inl (g 10))), ((q 13), .inl (cI, 16, .inl (g 11))), ((q 14), .inl (cI, 2048, .inl (g 12)))]) := hD
  have hS : va_S A s0.heap s0.heap [] := va_S.rf
  have hRf : 2 ≤ ({ frames := 2, cells := 0, slots := 0, locals := 51 } : Room).frames := Nat.le_refl _
  have hRl : 51 ≤ ({ frames := 2, cells := 0, slots := 0, locals := 51 } : Room).locals := Nat.le_refl _
  have hCS : 0 ≤ ({ frames := 2, cells := 0, slots := 0, locals := 51 } : Room).cells ∧ 0 ≤ ({ frames := 2, cells := 0, slots := 0, locals := 51 } : Room).slots := ⟨Nat.zero_le _, Nat.zero_le _⟩
  have h2n : 2 ^ n ≤ 1024 := Nat.pow_le_pow_right (by omega) hn
  have h2p : 1 ≤ 2 ^ n := Nat.one_le_two_pow
  have hk3l := ma_v3 (hI.2 w hw).1
  refine lv_aload_n hx hb nd_CM_isFree_0 rfl (lv_at hl 0 rfl) ?_
  refine va_get (D := D) (C := nr_CM) (T := nt_CM) (N := 14) hx hb htg tf_CM hown hK hP 0 rfl rfl 2 (by decide) (htg _ tm_385) (fun _ h => h) rfl nd_CM_isFree_1 ?_
  refine lv_iload_n hx hb nd_CM_isFree_4 rfl (lv_at hl 1 rfl) ?_
  refine wi_iald hx hb hK hP 2 0 rfl rfl (by omega) (by omega) nd_CM_isFree_5 ?_
  refine wi_top ((hI.2 w hw).2.1) ?_
  refine wi_if_ne (tgt := 28) hx hb (by omega) nd_CM_isFree_6 rfl (fun hc6 => ?_) (fun hc6 => ?_)
  · refine lv_aload_n hx hb nd_CM_isFree_28 rfl (lv_at hl 0 rfl) ?_
    refine va_get (D := D) (C := nr_CM) (T := nt_CM) (N := 14) hx hb htg tf_CM hown hK hP 0 rfl rfl 2 (by decide) (htg _ tm_385) (fun _ h => h) rfl nd_CM_isFree_29 ?_
    refine lv_iload_n hx hb nd_CM_isFree_32 rfl (lv_at hl 1 rfl) ?_
    refine wi_iald hx hb hK hP 2 0 rfl rfl (by omega) (by omega) nd_CM_isFree_33 ?_
    refine wi_top ((hI.2 w hw).2.1) ?_
    refine wi_ic hx hb (a := 1) nd_CM_isFree_34 ?_
    refine wi_icmp_ne (tgt := 47) hx hb (by omega) (by omega) nd_CM_isFree_35 rfl (fun hc35 => ?_) (fun hc35 => ?_)
    · refine lv_aload_n hx hb nd_CM_isFree_47 rfl (lv_at hl 0 rfl) ?_
      refine va_get (D := D) (C := nr_CM) (T := nt_CM) (N := 14) hx hb htg tf_CM hown hK hP 0 rfl rfl 2 (by decide) (htg _ tm_385) (fun _ h => h) rfl nd_CM_isFree_48 ?_
      refine lv_iload_n hx hb nd_CM_isFree_51 rfl (lv_at hl 1 rfl) ?_
      refine wi_iald hx hb hK hP 2 0 rfl rfl (by omega) (by omega) nd_CM_isFree_52 ?_
      refine wi_top ((hI.2 w hw).2.1) ?_
      refine wi_ic hx hb (a := 2) nd_CM_isFree_53 ?_
      refine wi_icmp_ne (tgt := 66) hx hb (by omega) (by omega) nd_CM_isFree_54 rfl (fun hc54 => ?_) (fun hc54 => ?_)
      · have hk3 : (cb_m y w).1 = 3 := by omega
        refine lv_aload_n hx hb nd_CM_isFree_66 rfl (lv_at hl 0 rfl) ?_
        refine lv_iload_n hx hb nd_CM_isFree_67 rfl (lv_at hl 1 rfl) ?_
        refine lv_iload_n hx hb nd_CM_isFree_68 rfl (lv_at hl 2 rfl) ?_
        refine wd_Vi0 (C := nr_CM) (n := 2) (Y := rf_ cI q n g) hx hb hml hown htg (c_CM_freeColumns l D cI cG cM q n hn1 hn g w (cb_m y w).2.2.2.2.2.2.1 hw (va_k3 (hI.2 w hw).1 hk3).1 (rf_k3 (hI.2 w hw).2 hk3).1 (cb_m y w).2.2.2.2.2.2.2 (rf_k3 (hI.2 w hw).2 hk3).2 (va_k3 (hI.2 w hw).1 hk3).2 s hs _) tm_501 tm_498 tm_500 tp_18 tm_9 (by decide +kernel) ⟨⟨Nat.le_trans (by decide) hRf, Nat.le_trans (by decide) hRl⟩, rfl, rfl⟩ hP hD hS hA hK hN (va_recv (q0 := 0) (ci := 6) hK hP rfl rfl) rfl hl.1 rfl (Nat.le_of_ble_eq_true rfl) nd_CM_isFree_69 hCS (fun v69 u69 H locs hp69 hP hD hS => ?_)
        have hP : va_P D cl_all ([((q 0), .inr (6, [.int (nI (n)), .ref (q 2), .ref (q 3), .ref (q 4), .ref (q 5), .ref (q 6), .ref (q 7), .ref (q 8), .ref (q 9), .ref (q 10), .ref (q 11), .ref (q 12), .ref (q 13), .ref (q 14)])), ((q 2), .inl (cI, 10, .inl (u69 0))), ((q 3), .inl (cI, 2, .inl (u69 1))), ((q 4), .inl (cI, 2, .inl (u69 2))), ((q 5), .inl (cI, 2, .inl (u69 3))), ((q 6), .inl (cI, 20, .inl (u69 4))), ((q 7), .inl (cI, 20, .inl (u69 5))), ((q 8), .inl (cI, 20, .inl (u69 6))), ((q 9), .inl (cI, 8, .inl (u69 7))), ((q 10), .inl (cI, 80, .inl (u69 8))), ((q 11), .inl (cI, 8, .inl (u69 9))), ((q 12), .inl (cI, 16, .inl (u69 10))), ((q 13), .inl (cI, 16, .inl (u69 11))), ((q 14), .inl (cI, 2048, .inl (u69 12)))]) H := hP
        have hD : va_D A ([((q 0), .inr (6, [.int (nI (n)), .ref (q 2), .ref (q 3), .ref (q 4), .ref (q 5), .ref (q 6), .ref (q 7), .ref (q 8), .ref (q 9), .ref (q 10), .ref (q 11), .ref (q 12), .ref (q 13), .ref (q 14)])), ((q 2), .inl (cI, 10, .inl (u69 0))), ((q 3), .inl (cI, 2, .inl (u69 1))), ((q 4), .inl (cI, 2, .inl (u69 2))), ((q 5), .inl (cI, 2, .inl (u69 3))), ((q 6), .inl (cI, 20, .inl (u69 4))), ((q 7), .inl (cI, 20, .inl (u69 5))), ((q 8), .inl (cI, 20, .inl (u69 6))), ((q 9), .inl (cI, 8, .inl (u69 7))), ((q 10), .inl (cI, 80, .inl (u69 8))), ((q 11), .inl (cI, 8, .inl (u69 9))), ((q 12), .inl (cI, 16, .inl (u69 10))), ((q 13), .inl (cI, 16, .inl (u69 11))), ((q 14), .inl (cI, 2048, .inl (u69 12)))]) := hD
        have hif : ma_r n (cb_m y w) s = mt_cd n s ↔ ∃ Q, Q < 16 ∧ ml_mn ((cb_m y w).2.2.2.2.2.2.1 : Int) (fun e i => ((cb_m y w).2.2.2.2.2.2.2 e i : Int)) n s Q ≠ 0 := by rw [ma_r3 hk3]; exact ml_ind (ml_pr_4 (va_k3 (hI.2 w hw).1 hk3).1) (by have := (va_k3 (hI.2 w hw).1 hk3).1; omega) (fun e he i hi => by have := (va_k3 (hI.2 w hw).1 hk3).2 e he i hi; omega) s
        by_cases hz : ∃ Q, Q < 16 ∧ ml_mn ((cb_m y w).2.2.2.2.2.2.1 : Int) (fun e i => ((cb_m y w).2.2.2.2.2.2.2 e i : Int)) n s Q ≠ 0
        · refine wi_top (hp69.1 hz) ?_
          exact wb_zret u69 hx hb hr hk rfl hAe ⟨fun _ => rfl, fun z => absurd (hif.mpr hz) z, fun j h => hp69.2.2 j (by omega) (by omega)⟩ hP hD hS nd_CM_isFree_72
        · refine wi_top (hp69.2.1 hz) ?_
          exact wb_zret u69 hx hb hr hk rfl hAe ⟨fun z => absurd (hif.mp z) hz, fun _ => rfl, fun j h => hp69.2.2 j (by omega) (by omega)⟩ hP hD hS nd_CM_isFree_72
      · refine lv_aload_n hx hb nd_CM_isFree_57 rfl (lv_at hl 0 rfl) ?_
        refine lv_iload_n hx hb nd_CM_isFree_58 rfl (lv_at hl 1 rfl) ?_
        refine lv_iload_n hx hb nd_CM_isFree_59 rfl (lv_at hl 2 rfl) ?_
        refine wd_Vi0 (C := nr_CM) (n := 2) (Y := rf_ cI q n g) hx hb hml hown htg (c_CM_underCaps l D cI cG cM q n hn1 hn g w hw (cb_m y w).2.2.2.2.1 (cb_m y w).2.2.2.2.2.1 (rf_k2 (hI.2 w hw).2 hc54).1 (va_k2 (hI.2 w hw).1 hc54).1 (rf_k2 (hI.2 w hw).2 hc54).2 (va_k2 (hI.2 w hw).1 hc54).2 s hs _) tm_497 tm_494 tm_496 tp_17 tm_9 (by decide +kernel) ⟨⟨Nat.le_trans (by decide) hRf, Nat.le_trans (by decide) hRl⟩, rfl, rfl⟩ hP hD hS hA hK hN (va_recv (q0 := 0) (ci := 6) hK hP rfl rfl) rfl hl.1 rfl (Nat.le_of_ble_eq_true rfl) nd_CM_isFree_60 hCS (fun v60 u60 H locs hp60 hP hD hS => ?_)
        have hP : va_P D cl_all ([((q 0), .inr (6, [.int (nI (n)), .ref (q 2), .ref (q 3), .ref (q 4), .ref (q 5), .ref (q 6), .ref (q 7), .ref (q 8), .ref (q 9), .ref (q 10), .ref (q 11), .ref (q 12), .ref (q 13), .ref (q 14)])), ((q 2), .inl (cI, 10, .inl (u60 0))), ((q 3), .inl (cI, 2, .inl (u60 1))), ((q 4), .inl (cI, 2, .inl (u60 2))), ((q 5), .inl (cI, 2, .inl (u60 3))), ((q 6), .inl (cI, 20, .inl (u60 4))), ((q 7), .inl (cI, 20, .inl (u60 5))), ((q 8), .inl (cI, 20, .inl (u60 6))), ((q 9), .inl (cI, 8, .inl (u60 7))), ((q 10), .inl (cI, 80, .inl (u60 8))), ((q 11), .inl (cI, 8, .inl (u60 9))), ((q 12), .inl (cI, 16, .inl (u60 10))), ((q 13), .inl (cI, 16, .inl (u60 11))), ((q 14), .inl (cI, 2048, .inl (u60 12)))]) H := hP
        have hD : va_D A ([((q 0), .inr (6, [.int (nI (n)), .ref (q 2), .ref (q 3), .ref (q 4), .ref (q 5), .ref (q 6), .ref (q 7), .ref (q 8), .ref (q 9), .ref (q 10), .ref (q 11), .ref (q 12), .ref (q 13), .ref (q 14)])), ((q 2), .inl (cI, 10, .inl (u60 0))), ((q 3), .inl (cI, 2, .inl (u60 1))), ((q 4), .inl (cI, 2, .inl (u60 2))), ((q 5), .inl (cI, 2, .inl (u60 3))), ((q 6), .inl (cI, 20, .inl (u60 4))), ((q 7), .inl (cI, 20, .inl (u60 5))), ((q 8), .inl (cI, 20, .inl (u60 6))), ((q 9), .inl (cI, 8, .inl (u60 7))), ((q 10), .inl (cI, 80, .inl (u60 8))), ((q 11), .inl (cI, 8, .inl (u60 9))), ((q 12), .inl (cI, 16, .inl (u60 10))), ((q 13), .inl (cI, 16, .inl (u60 11))), ((q 14), .inl (cI, 2048, .inl (u60 12)))]) := hD
        refine lv_goto (tgt := 72) hx hb nd_CM_isFree_63 rfl ?_
        have hif : ma_r n (cb_m y w) s = mt_cd n s ↔ ∀ c, c < 4 → mt_cc (cb_m y w).2.2.2.2.1 c n s ≤ (cb_m y w).2.2.2.2.2.1 c := by rw [ma_r2 hc54]; exact mt_C_ind (va_k2 (hI.2 w hw).1 hc54).1 s
        by_cases hz : ∀ c, c < 4 → mt_cc (cb_m y w).2.2.2.2.1 c n s ≤ (cb_m y w).2.2.2.2.2.1 c
        · refine wi_top (hp60.1 hz) ?_
          exact wb_zret u60 hx hb hr hk rfl hAe ⟨fun _ => rfl, fun z => absurd (hif.mpr hz) z, fun j _ => congrFun hp60.2.2 j⟩ hP hD hS nd_CM_isFree_72
        · refine wi_top (hp60.2.1 hz) ?_
          exact wb_zret u60 hx hb hr hk rfl hAe ⟨fun z => absurd (hif.mp z) hz, fun _ => rfl, fun j _ => congrFun hp60.2.2 j⟩ hP hD hS nd_CM_isFree_72
    · refine lv_aload_n hx hb nd_CM_isFree_38 rfl (lv_at hl 0 rfl) ?_
      refine lv_iload_n hx hb nd_CM_isFree_39 rfl (lv_at hl 1 rfl) ?_
      refine lv_iload_n hx hb nd_CM_isFree_40 rfl (lv_at hl 2 rfl) ?_
      refine wd_Vi0 (C := nr_CM) (n := 2) (Y := rf_ cI q n g) hx hb hml hown htg (c_CM_noRing l D cI cG cM q n hn1 hn g w hw (cb_m y w).2.2.1 (cb_m y w).2.2.2.1 (rf_k1 (hI.2 w hw).2 hc35) (va_k1 (hI.2 w hw).1 hc35) s hs _) tm_493 tm_490 tm_492 tp_16 tm_9 (by decide +kernel) ⟨⟨Nat.le_trans (by decide) hRf, Nat.le_trans (by decide) hRl⟩, rfl, rfl⟩ hP hD hS hA hK hN (va_recv (q0 := 0) (ci := 6) hK hP rfl rfl) rfl hl.1 rfl (Nat.le_of_ble_eq_true rfl) nd_CM_isFree_41 hCS (fun v41 u41 H locs hp41 hP hD hS => ?_)
      have hP : va_P D cl_all ([((q 0), .inr (6, [.int (nI (n)), .ref (q 2), .ref (q 3), .ref (q 4), .ref (q 5), .ref (q 6), .ref (q 7), .ref (q 8), .ref (q 9), .ref (q 10), .ref (q 11), .ref (q 12), .ref (q 13), .ref (q 14)])), ((q 2), .inl (cI, 10, .inl (u41 0))), ((q 3), .inl (cI, 2, .inl (u41 1))), ((q 4), .inl (cI, 2, .inl (u41 2))), ((q 5), .inl (cI, 2, .inl (u41 3))), ((q 6), .inl (cI, 20, .inl (u41 4))), ((q 7), .inl (cI, 20, .inl (u41 5))), ((q 8), .inl (cI, 20, .inl (u41 6))), ((q 9), .inl (cI, 8, .inl (u41 7))), ((q 10), .inl (cI, 80, .inl (u41 8))), ((q 11), .inl (cI, 8, .inl (u41 9))), ((q 12), .inl (cI, 16, .inl (u41 10))), ((q 13), .inl (cI, 16, .inl (u41 11))), ((q 14), .inl (cI, 2048, .inl (u41 12)))]) H := hP
      have hD : va_D A ([((q 0), .inr (6, [.int (nI (n)), .ref (q 2), .ref (q 3), .ref (q 4), .ref (q 5), .ref (q 6), .ref (q 7), .ref (q 8), .ref (q 9), .ref (q 10), .ref (q 11), .ref (q 12), .ref (q 13), .ref (q 14)])), ((q 2), .inl (cI, 10, .inl (u41 0))), ((q 3), .inl (cI, 2, .inl (u41 1))), ((q 4), .inl (cI, 2, .inl (u41 2))), ((q 5), .inl (cI, 2, .inl (u41 3))), ((q 6), .inl (cI, 20, .inl (u41 4))), ((q 7), .inl (cI, 20, .inl (u41 5))), ((q 8), .inl (cI, 20, .inl (u41 6))), ((q 9), .inl (cI, 8, .inl (u41 7))), ((q 10), .inl (cI, 80, .inl (u41 8))), ((q 11), .inl (cI, 8, .inl (u41 9))), ((q 12), .inl (cI, 16, .inl (u41 10))), ((q 13), .inl (cI, 16, .inl (u41 11))), ((q 14), .inl (cI, 2048, .inl (u41 12)))]) := hD
      refine lv_goto (tgt := 72) hx hb nd_CM_isFree_44 rfl ?_
      have hif : ma_r n (cb_m y w) s = mt_cd n s ↔ mg_it n (cb_m y w).2.2.1 (cb_m y w).2.2.2.1 (n + 1) s = 0 := by rw [ma_r1 hc35]; exact mg_ind (va_k1 (hI.2 w hw).1 hc35) hs
      by_cases hz : mg_it n (cb_m y w).2.2.1 (cb_m y w).2.2.2.1 (n + 1) s = 0
      · refine wi_top (hp41.1 hz) ?_
        exact wb_zret u41 hx hb hr hk rfl hAe ⟨fun _ => rfl, fun z => absurd (hif.mpr hz) z, fun j h => hp41.2.2 j (by omega)⟩ hP hD hS nd_CM_isFree_72
      · refine wi_top (hp41.2.1 hz) ?_
        exact wb_zret u41 hx hb hr hk rfl hAe ⟨fun z => absurd (hif.mp z) hz, fun _ => rfl, fun j h => hp41.2.2 j (by omega)⟩ hP hD hS nd_CM_isFree_72
  · refine lv_iload_n hx hb nd_CM_isFree_9 rfl (lv_at hl 2 rfl) ?_
    refine wc_S (n := 1) hx hb hml hown htg (c_CM_sizeOf l D cI cG cM s (by omega)) tm_489 tm_487 tm_488 tm_9 (by decide +kernel) ⟨⟨Nat.le_trans (by decide) hRf, Nat.le_trans (by decide) hRl⟩, rfl, rfl⟩ (wa_pre wa_nil hK hN) rfl hl.1 rfl (Nat.le_of_ble_eq_true rfl) nd_CM_isFree_10 hCS ?_
    have hcd10 := mt_cd_le 10 s
    have hk0 := va_k0 (hI.2 w hw).1 hc6
    refine lv_aload_n hx hb nd_CM_isFree_13 rfl (lv_at hl 0 rfl) ?_
    refine va_get (D := D) (C := nr_CM) (T := nt_CM) (N := 14) hx hb htg tf_CM hown hK hP 0 rfl rfl 3 (by decide) (htg _ tm_386) (fun _ h => h) rfl nd_CM_isFree_14 ?_
    refine lv_iload_n hx hb nd_CM_isFree_17 rfl (lv_at hl 1 rfl) ?_
    refine wi_iald hx hb hK hP 3 0 rfl rfl (by omega) (by omega) nd_CM_isFree_18 ?_
    refine wi_top (rf_k0 (hI.2 w hw).2 hc6) ?_
    refine wi_icmp_gt (tgt := 26) hx hb (by omega) (by omega) nd_CM_isFree_19 rfl (fun hc19 => ?_) (fun hc19 => ?_)
    · refine wi_ic hx hb (a := 0) nd_CM_isFree_26 ?_
      exact wb_zret g hx hb hr hk rfl hAe ⟨fun z => by rw [ma_r0 hc6] at z; have := (mt_U_ind n _ s).mp z; rw [← bs_cd10 hn hs] at this; omega, fun _ => rfl, fun _ _ => rfl⟩ hP hD hS nd_CM_isFree_27
    · refine wi_ic hx hb (a := 1) nd_CM_isFree_22 ?_
      refine lv_goto (tgt := 27) hx hb nd_CM_isFree_23 rfl ?_
      exact wb_zret g hx hb hr hk rfl hAe ⟨fun _ => rfl, fun z => absurd (by rw [ma_r0 hc6]; exact (mt_U_ind n _ s).mpr (by rw [← bs_cd10 hn hs]; omega)) z, fun _ _ => rfl⟩ hP hD hS nd_CM_isFree_27
