/-! Methods that only read, with loops. -/
abbrev ty_all (cI cG cM : ClassId) : List (ClassId × FieldType) := [(cI, .int), (cG, .array .int), (cM, .object "CommonBases$Matroid")]
def ms_W (w : Nat → Int32) : Nat → Nat → Int32
  | 0, _ => 0
  | k + 1, s => if s.testBit k = true then ms_W w k s + w k else ms_W w k s
theorem ms_Wf {w : Nat → Int32} {k s : Nat} (h : mt_bt s k = 0) : ms_W w (k + 1) s = ms_W w k s := by
  show (if s.testBit k = true then ms_W w k s + w k else ms_W w k s) = _
  rw [mt_bt_f.mp h]; rfl
theorem ms_Wt {w : Nat → Int32} {k s : Nat} (h : mt_bt s k = 1) : ms_W w (k + 1) s = ms_W w k s + w k := by
  show (if s.testBit k = true then ms_W w k s + w k else ms_W w k s) = _
  rw [mt_bt_t.mp h]; rfl
def ms_F (w : Nat → Int32) (t : Nat) : Nat → Nat
  | 0 => 0
  | k + 1 => if k = 0 then 0 else if mt_bt t k = 0 ∧ (mt_bt t (ms_F w t k) = 1 ∨ w (ms_F w t k) < w k) then k else ms_F w t k
theorem ms_F_lt (w : Nat → Int32) (t k : Nat) (h : 1 ≤ k) : ms_F w t k < k := by
  induction k with
  | zero => omega
  | succ k ih =>
    simp only [ms_F]
    by_cases h0 : k = 0
    · simp [h0]
    · rw [if_neg h0]
      split
      · omega
      · have := ih (by omega); omega
theorem ms_F_1 (w : Nat → Int32) (t : Nat) : ms_F w t 1 = 0 := rfl
theorem ms_Fy {w : Nat → Int32} {t k : Nat} (h0 : 1 ≤ k) (h : mt_bt t k = 0) (h2 : mt_bt t (ms_F w t k) = 1 ∨ w (ms_F w t k) < w k) : ms_F w t (k + 1) = k := by
  simp only [ms_F]
  rw [if_neg (by omega), if_pos ⟨h, h2⟩]
theorem ms_Fn {w : Nat → Int32} {t k : Nat} (h0 : 1 ≤ k) (h : ¬ (mt_bt t k = 0 ∧ (mt_bt t (ms_F w t k) = 1 ∨ w (ms_F w t k) < w k))) : ms_F w t (k + 1) = ms_F w t k := by
  simp only [ms_F]
  rw [if_neg (by omega), if_neg h]
theorem nd_CM_sizeOf_0 : decode nc_CM_sizeOf 0 = .ok (.iconst 0, 1) := by decide +kernel
theorem nd_CM_sizeOf_1 : decode nc_CM_sizeOf 1 = .ok (.istore_n 1, 1) := by decide +kernel
theorem nd_CM_sizeOf_2 : decode nc_CM_sizeOf 2 = .ok (.iconst 0, 1) := by decide +kernel
theorem nd_CM_sizeOf_3 : decode nc_CM_sizeOf 3 = .ok (.istore_n 2, 1) := by decide +kernel
theorem nd_CM_sizeOf_4 : decode nc_CM_sizeOf 4 = .ok (.iload_n 2, 1) := by decide +kernel
theorem nd_CM_sizeOf_5 : decode nc_CM_sizeOf 5 = .ok (.bipush 10, 2) := by decide +kernel
theorem nd_CM_sizeOf_7 : decode nc_CM_sizeOf 7 = .ok (.if_icmp .ge 17, 3) := by decide +kernel
theorem nd_CM_sizeOf_10 : decode nc_CM_sizeOf 10 = .ok (.iload_n 1, 1) := by decide +kernel
theorem nd_CM_sizeOf_11 : decode nc_CM_sizeOf 11 = .ok (.iload_n 0, 1) := by decide +kernel
theorem nd_CM_sizeOf_12 : decode nc_CM_sizeOf 12 = .ok (.iload_n 2, 1) := by decide +kernel
theorem nd_CM_sizeOf_13 : decode nc_CM_sizeOf 13 = .ok (.ishr, 1) := by decide +kernel
theorem nd_CM_sizeOf_14 : decode nc_CM_sizeOf 14 = .ok (.iconst 1, 1) := by decide +kernel
theorem nd_CM_sizeOf_15 : decode nc_CM_sizeOf 15 = .ok (.iand, 1) := by decide +kernel
theorem nd_CM_sizeOf_16 : decode nc_CM_sizeOf 16 = .ok (.iadd, 1) := by decide +kernel
theorem nd_CM_sizeOf_17 : decode nc_CM_sizeOf 17 = .ok (.istore_n 1, 1) := by decide +kernel
theorem nd_CM_sizeOf_18 : decode nc_CM_sizeOf 18 = .ok (.iinc 2 1, 3) := by decide +kernel
theorem nd_CM_sizeOf_21 : decode nc_CM_sizeOf 21 = .ok (.goto (-17), 3) := by decide +kernel
theorem nd_CM_sizeOf_24 : decode nc_CM_sizeOf 24 = .ok (.iload_n 1, 1) := by decide +kernel
theorem nd_CM_sizeOf_25 : decode nc_CM_sizeOf 25 = .ok (.ireturn, 1) := by decide +kernel
set_option maxRecDepth 20000 in
theorem lp_CM_sizeOf {p : Program} {l : Launch} {e0 : Env} {R : Room} {s0 : State} {m : MethodId} {args : Array Value} {below : List Frame} {meth : Method} {c : Code} {H : Heap} {locs : List Loc} {cells slots : Nat} {Q : State → Prop} {D : va_G} (cI cG cM : ClassId) (s : Nat) (hs : s < 2 ^ 31) (hx : p.tables.exec = Jvm.exec) (hb : c.code = nc_CM_sizeOf) (hml : c.maxLocals = 3) (htg : ∀ w ∈ tg_, w.before args s0 = true) (hown : s0.vm.findClass ny_CM_sizeOf.cls = some m.cls) (hK : va_K D cl_all (ty_all cI cG cM) s0) (hN : tn_K s0) (hRf : 0 ≤ R.frames) (hRl : 0 ≤ R.locals) (hCS : cells ≤ R.cells ∧ slots ≤ R.slots) (kx : ∀ (ls : Array Slot), lv_has ls 3 [(1, .int (nI (mt_cd 10 s)))] → W p l e0 R s0 m args below meth c H locs cells slots Q (F0 m 24 ls [])) : ∀ (f : Nat) (i : Nat) (ls : Array Slot), 10 - i < f → i ≤ 10 → lv_has ls 3 [(2, .int (nI (i))), (1, .int (nI (mt_cd i s))), (0, .int (nI (s)))] → W p l e0 R s0 m args below meth c H locs cells slots Q (F0 m 4 ls []) := by
  intro f
  induction f with
  | zero => intro i ls hf; omega
  | succ f ih =>
    intro i ls hf hi hl
    refine lv_iload_n hx hb nd_CM_sizeOf_4 rfl (lv_at hl 0 rfl) ?_
    refine lv_bipush (v := nI 10) hx hb nd_CM_sizeOf_5 (by decide) ?_
    refine wi_icmp_ge (tgt := 24) hx hb (by omega) (by omega) nd_CM_sizeOf_7 rfl (fun hc7 => ?_) (fun hc7 => ?_)
    · have hl : lv_has ls 3 [(1, .int (nI (mt_cd i s)))] := lv_sub hl [1] rfl
      have hi10 : i = 10 := by omega
      subst hi10
      exact kx ls hl
    · refine lv_iload_n hx hb nd_CM_sizeOf_10 rfl (lv_at hl 1 rfl) ?_
      refine lv_iload_n hx hb nd_CM_sizeOf_11 rfl (lv_at hl 2 rfl) ?_
      refine lv_iload_n hx hb nd_CM_sizeOf_12 rfl (lv_at hl 0 rfl) ?_
      refine wi_ishr hx hb (by omega) (by omega) nd_CM_sizeOf_13 ?_
      refine wi_ic hx hb (a := 1) nd_CM_sizeOf_14 ?_
      refine wi_bit hx hb nd_CM_sizeOf_15 ?_
      have hbt15 := mt_bt_lt s i
      refine wi_iadd hx hb nd_CM_sizeOf_16 ?_
      refine lv_istore_n hx hb nd_CM_sizeOf_17 rfl hl (by decide) rfl (fun ls hl => ?_)
      have hl : lv_has ls 3 [(1, .int (nI ((mt_cd i s) + (mt_bt s i)))), (2, .int (nI (i))), (0, .int (nI (s)))] := hl
      refine lv_iinc (k := 1) (v := nI (i + 1)) hx hb nd_CM_sizeOf_18 hl rfl (wi_inc _ 1) (by decide) rfl (fun ls hl => ?_)
      have hl : lv_has ls 3 [(2, .int (nI (i + 1))), (1, .int (nI ((mt_cd i s) + (mt_bt s i)))), (0, .int (nI (s)))] := hl
      refine lv_goto (tgt := 4) hx hb nd_CM_sizeOf_21 rfl ?_
      have hl : lv_has ls 3 [(2, .int (nI (i + 1))), (1, .int (nI ((mt_cd i s) + (mt_bt s i)))), (0, .int (nI (s)))] := lv_sub hl [0, 1, 2] rfl
      exact ih _ ls (by omega) (by omega) hl
set_option maxRecDepth 20000 in
theorem c_CM_sizeOf (l : Launch) (D : va_G) (cI cG cM : ClassId) (s : Nat) (hs : s < 2 ^ 31) : wa_M l ny_CM_sizeOf nc_CM_sizeOf 3 (some .int) ({ frames := 0, cells := 0, slots := 0, locals := 0 }) D (ty_all cI cG cM) ([]) [.int (nI (s))] (nI (mt_cd 10 s)) := by
  refine wa_start (by decide) (Nat.le_of_ble_eq_true rfl) ?_
  intro p e0 s0 m below meth c ls hx hb hr hml htg hown hk hP hK hN hl
  have hl : lv_has ls 3 [(0, .int (nI (s)))] := hl
  have hRf : 0 ≤ ({ frames := 0, cells := 0, slots := 0, locals := 0 } : Room).frames := Nat.le_refl _
  have hRl : 0 ≤ ({ frames := 0, cells := 0, slots := 0, locals := 0 } : Room).locals := Nat.le_refl _
  have hCS : 0 ≤ ({ frames := 0, cells := 0, slots := 0, locals := 0 } : Room).cells ∧ 0 ≤ ({ frames := 0, cells := 0, slots := 0, locals := 0 } : Room).slots := ⟨Nat.zero_le _, Nat.zero_le _⟩
  refine wi_ic hx hb (a := 0) nd_CM_sizeOf_0 ?_
  refine lv_istore_n hx hb nd_CM_sizeOf_1 rfl hl (by decide) rfl (fun ls hl => ?_)
  have hl : lv_has ls 3 [(1, .int (nI (0))), (0, .int (nI (s)))] := hl
  refine wi_ic hx hb (a := 0) nd_CM_sizeOf_2 ?_
  refine lv_istore_n hx hb nd_CM_sizeOf_3 rfl hl (by decide) rfl (fun ls hl => ?_)
  have hl : lv_has ls 3 [(2, .int (nI (0))), (1, .int (nI (0))), (0, .int (nI (s)))] := hl
  have hl : lv_has ls 3 [(2, .int (nI (0))), (1, .int (nI (0))), (0, .int (nI (s)))] := lv_sub hl [0, 1, 2] rfl
  refine lp_CM_sizeOf cI cG cM s hs hx hb hml htg hown hK hN hRf hRl hCS (fun ls hl => ?_) 11 0 ls (by omega) (by omega) hl
  refine lv_iload_n hx hb nd_CM_sizeOf_24 rfl (lv_at hl 0 rfl) ?_
  exact wa_iret hx hb hr hk (rfl) nd_CM_sizeOf_25
theorem nd_CB_sumOfWeights_0 : decode nc_CB_sumOfWeights 0 = .ok (.iconst 0, 1) := by decide +kernel
theorem nd_CB_sumOfWeights_1 : decode nc_CB_sumOfWeights 1 = .ok (.istore_n 2, 1) := by decide +kernel
theorem nd_CB_sumOfWeights_2 : decode nc_CB_sumOfWeights 2 = .ok (.iconst 0, 1) := by decide +kernel
theorem nd_CB_sumOfWeights_3 : decode nc_CB_sumOfWeights 3 = .ok (.istore_n 3, 1) := by decide +kernel
theorem nd_CB_sumOfWeights_4 : decode nc_CB_sumOfWeights 4 = .ok (.iload_n 3, 1) := by decide +kernel
theorem nd_CB_sumOfWeights_5 : decode nc_CB_sumOfWeights 5 = .ok (.aload_n 0, 1) := by decide +kernel
theorem nd_CB_sumOfWeights_6 : decode nc_CB_sumOfWeights 6 = .ok (.getfield 9, 3) := by decide +kernel
theorem nd_CB_sumOfWeights_9 : decode nc_CB_sumOfWeights 9 = .ok (.if_icmp .ge 26, 3) := by decide +kernel
theorem nd_CB_sumOfWeights_12 : decode nc_CB_sumOfWeights 12 = .ok (.iload_n 1, 1) := by decide +kernel
theorem nd_CB_sumOfWeights_13 : decode nc_CB_sumOfWeights 13 = .ok (.iload_n 3, 1) := by decide +kernel
theorem nd_CB_sumOfWeights_14 : decode nc_CB_sumOfWeights 14 = .ok (.invokestatic 80, 3) := by decide +kernel
theorem nd_CB_sumOfWeights_17 : decode nc_CB_sumOfWeights 17 = .ok (.ifCond .eq 12, 3) := by decide +kernel
theorem nd_CB_sumOfWeights_20 : decode nc_CB_sumOfWeights 20 = .ok (.iload_n 2, 1) := by decide +kernel
theorem nd_CB_sumOfWeights_21 : decode nc_CB_sumOfWeights 21 = .ok (.aload_n 0, 1) := by decide +kernel
theorem nd_CB_sumOfWeights_22 : decode nc_CB_sumOfWeights 22 = .ok (.getfield 16, 3) := by decide +kernel
theorem nd_CB_sumOfWeights_25 : decode nc_CB_sumOfWeights 25 = .ok (.iload_n 3, 1) := by decide +kernel
theorem nd_CB_sumOfWeights_26 : decode nc_CB_sumOfWeights 26 = .ok (.iaload, 1) := by decide +kernel
theorem nd_CB_sumOfWeights_27 : decode nc_CB_sumOfWeights 27 = .ok (.iadd, 1) := by decide +kernel
theorem nd_CB_sumOfWeights_28 : decode nc_CB_sumOfWeights 28 = .ok (.istore_n 2, 1) := by decide +kernel
theorem nd_CB_sumOfWeights_29 : decode nc_CB_sumOfWeights 29 = .ok (.iinc 3 1, 3) := by decide +kernel
theorem nd_CB_sumOfWeights_32 : decode nc_CB_sumOfWeights 32 = .ok (.goto (-28), 3) := by decide +kernel
theorem nd_CB_sumOfWeights_35 : decode nc_CB_sumOfWeights 35 = .ok (.iload_n 2, 1) := by decide +kernel
theorem nd_CB_sumOfWeights_36 : decode nc_CB_sumOfWeights 36 = .ok (.ireturn, 1) := by decide +kernel
set_option maxRecDepth 20000 in
theorem lp_CB_sumOfWeights {p : Program} {l : Launch} {e0 : Env} {R : Room} {s0 : State} {m : MethodId} {args : Array Value} {below : List Frame} {meth : Method} {c : Code} {H : Heap} {locs : List Loc} {cells slots : Nat} {Q : State → Prop} {D : va_G} (cI cG cM : ClassId) (q0 q1 q2 n : Nat) (hn : n ≤ 10) (w : Nat → Int32) (s : Nat) (hs : s < 2 ^ 31) (hx : p.tables.exec = Jvm.exec) (hb : c.code = nc_CB_sumOfWeights) (hml : c.maxLocals = 4) (htg : ∀ w ∈ tg_, w.before args s0 = true) (hown : s0.vm.findClass ny_CB_sumOfWeights.cls = some m.cls) (hK : va_K D cl_all (ty_all cI cG cM) s0) (hN : tn_K s0) (hP : va_P D cl_all ([(q0, .inr (0, [.int (nI (n)), .int (nI (2 ^ n - 1)), .ref q1, .ref q2])), (q1, .inl (cI, n, .inl w))]) H) (hRf : 1 ≤ R.frames) (hRl : 21 ≤ R.locals) (hCS : cells ≤ R.cells ∧ slots ≤ R.slots) (kx : ∀ (ls : Array Slot), lv_has ls 4 [(2, .int (ms_W w n s))] → W p l e0 R s0 m args below meth c H locs cells slots Q (F0 m 35 ls [])) : ∀ (f : Nat) (i : Nat) (ls : Array Slot), n - i < f → i ≤ n → lv_has ls 4 [(3, .int (nI (i))), (2, .int (ms_W w i s)), (0, .ref q0), (1, .int (nI (s)))] → W p l e0 R s0 m args below meth c H locs cells slots Q (F0 m 4 ls []) := by
  intro f
  induction f with
  | zero => intro i ls hf; omega
  | succ f ih =>
    intro i ls hf hi hl
    refine lv_iload_n hx hb nd_CB_sumOfWeights_4 rfl (lv_at hl 0 rfl) ?_
    refine lv_aload_n hx hb nd_CB_sumOfWeights_5 rfl (lv_at hl 2 rfl) ?_
    refine va_get (D := D) (C := nr_CB) (T := nt_CB) (N := 4) hx hb htg tf_CB hown hK hP 0 rfl rfl 0 (by decide) (htg _ tm_122) (fun _ h => h) rfl nd_CB_sumOfWeights_6 ?_
    refine wi_icmp_ge (tgt := 35) hx hb (by omega) (by omega) nd_CB_sumOfWeights_9 rfl (fun hc9 => ?_) (fun hc9 => ?_)
    · have hl : lv_has ls 4 [(2, .int (ms_W w i s))] := lv_sub hl [1] rfl
      have hin : i = n := by omega
      subst hin
      exact kx ls hl
    · refine lv_iload_n hx hb nd_CB_sumOfWeights_12 rfl (lv_at hl 3 rfl) ?_
      refine lv_iload_n hx hb nd_CB_sumOfWeights_13 rfl (lv_at hl 0 rfl) ?_
      refine wc_S (n := 2) hx hb hml hown htg (c_CB_has l D _ s i (by omega) (by omega)) tm_272 tm_323 tm_271 tm_1 (by decide +kernel) ⟨⟨Nat.le_trans (by decide) hRf, Nat.le_trans (by decide) hRl⟩, rfl, rfl⟩ (wa_pre wa_nil hK hN) rfl hl.1 rfl (Nat.le_of_ble_eq_true rfl) nd_CB_sumOfWeights_14 hCS ?_
      have hbt14 := mt_bt_lt s i
      refine wi_if_eq (tgt := 29) hx hb (by omega) nd_CB_sumOfWeights_17 rfl (fun hc17 => ?_) (fun hc17 => ?_)
      · refine lv_iinc (k := 0) (v := nI (i + 1)) hx hb nd_CB_sumOfWeights_29 hl rfl (wi_inc _ 1) (by decide) rfl (fun ls hl => ?_)
        have hl : lv_has ls 4 [(3, .int (nI (i + 1))), (2, .int (ms_W w i s)), (0, .ref q0), (1, .int (nI (s)))] := hl
        refine lv_goto (tgt := 4) hx hb nd_CB_sumOfWeights_32 rfl ?_
        have hl : lv_has ls 4 [(3, .int (nI (i + 1))), (2, .int (ms_W w i s)), (0, .ref q0), (1, .int (nI (s)))] := lv_sub hl [0, 1, 2, 3] rfl
        exact ih (i + 1) ls (by omega) (by omega) (by rw [ms_Wf (by omega)]; exact hl)
      · refine lv_iload_n hx hb nd_CB_sumOfWeights_20 rfl (lv_at hl 1 rfl) ?_
        refine lv_aload_n hx hb nd_CB_sumOfWeights_21 rfl (lv_at hl 2 rfl) ?_
        refine va_get (D := D) (C := nr_CB) (T := nt_CB) (N := 4) hx hb htg tf_CB hown hK hP 0 rfl rfl 2 (by decide) (htg _ tm_124) (fun _ h => h) rfl nd_CB_sumOfWeights_22 ?_
        refine lv_iload_n hx hb nd_CB_sumOfWeights_25 rfl (lv_at hl 0 rfl) ?_
        refine wi_iald hx hb hK hP 1 0 rfl rfl (by omega) (by omega) nd_CB_sumOfWeights_26 ?_
        refine lv_iadd hx hb nd_CB_sumOfWeights_27 ?_
        refine lv_istore_n hx hb nd_CB_sumOfWeights_28 rfl hl (by decide) rfl (fun ls hl => ?_)
        have hl : lv_has ls 4 [(2, .int ((ms_W w i s + w i))), (3, .int (nI (i))), (0, .ref q0), (1, .int (nI (s)))] := hl
        refine lv_iinc (k := 1) (v := nI (i + 1)) hx hb nd_CB_sumOfWeights_29 hl rfl (wi_inc _ 1) (by decide) rfl (fun ls hl => ?_)
        have hl : lv_has ls 4 [(3, .int (nI (i + 1))), (2, .int ((ms_W w i s + w i))), (0, .ref q0), (1, .int (nI (s)))] := hl
        refine lv_goto (tgt := 4) hx hb nd_CB_sumOfWeights_32 rfl ?_
        have hl : lv_has ls 4 [(3, .int (nI (i + 1))), (2, .int ((ms_W w i s + w i))), (0, .ref q0), (1, .int (nI (s)))] := lv_sub hl [0, 1, 2, 3] rfl
        exact ih (i + 1) ls (by omega) (by omega) (by rw [ms_Wt (by omega)]; exact hl)
set_option maxRecDepth 20000 in
theorem c_CB_sumOfWeights (l : Launch) (D : va_G) (cI cG cM : ClassId) (q0 q1 q2 n : Nat) (hn : n ≤ 10) (w : Nat → Int32) (s : Nat) (hs : s < 2 ^ 31) : wa_M l ny_CB_sumOfWeights nc_CB_sumOfWeights 4 (some .int) ({ frames := 1, cells := 0, slots := 0, locals := 21 }) D (ty_all cI cG cM) ([(q0, .inr (0, [.int (nI (n)), .int (nI (2 ^ n - 1)), .ref q1, .ref q2])), (q1, .inl (cI, n, .inl w))]) [.ref q0, .int (nI (s))] (ms_W w n s) := by
  refine wa_start (by decide) (Nat.le_of_ble_eq_true rfl) ?_
  intro p e0 s0 m below meth c ls hx hb hr hml htg hown hk hP hK hN hl
  have hl : lv_has ls 4 [(0, .ref q0), (1, .int (nI (s)))] := hl
  have hRf : 1 ≤ ({ frames := 1, cells := 0, slots := 0, locals := 21 } : Room).frames := Nat.le_refl _
  have hRl : 21 ≤ ({ frames := 1, cells := 0, slots := 0, locals := 21 } : Room).locals := Nat.le_refl _
  have hCS : 0 ≤ ({ frames := 1, cells := 0, slots := 0, locals := 21 } : Room).cells ∧ 0 ≤ ({ frames := 1, cells := 0, slots := 0, locals := 21 } : Room).slots := ⟨Nat.zero_le _, Nat.zero_le _⟩
  refine wi_ic hx hb (a := 0) nd_CB_sumOfWeights_0 ?_
  refine lv_istore_n hx hb nd_CB_sumOfWeights_1 rfl hl (by decide) rfl (fun ls hl => ?_)
  have hl : lv_has ls 4 [(2, .int (nI (0))), (0, .ref q0), (1, .int (nI (s)))] := hl
  refine wi_ic hx hb (a := 0) nd_CB_sumOfWeights_2 ?_
  refine lv_istore_n hx hb nd_CB_sumOfWeights_3 rfl hl (by decide) rfl (fun ls hl => ?_)
  have hl : lv_has ls 4 [(3, .int (nI (0))), (2, .int (nI (0))), (0, .ref q0), (1, .int (nI (s)))] := hl
  have hl : lv_has ls 4 [(3, .int (nI (0))), (2, .int (nI (0))), (0, .ref q0), (1, .int (nI (s)))] := lv_sub hl [0, 1, 2, 3] rfl
  refine lp_CB_sumOfWeights cI cG cM q0 q1 q2 n hn w s hs hx hb hml htg hown hK hN hP hRf hRl hCS (fun ls hl => ?_) (n + 1) 0 ls (by omega) (by omega) hl
  refine lv_iload_n hx hb nd_CB_sumOfWeights_35 rfl (lv_at hl 0 rfl) ?_
  exact wa_iret hx hb hr hk (rfl) nd_CB_sumOfWeights_36
theorem nd_CM_heaviness_0 : decode nc_CM_heaviness 0 = .ok (.iconst 0, 1) := by decide +kernel
theorem nd_CM_heaviness_1 : decode nc_CM_heaviness 1 = .ok (.istore_n 2, 1) := by decide +kernel
theorem nd_CM_heaviness_2 : decode nc_CM_heaviness 2 = .ok (.iconst 0, 1) := by decide +kernel
theorem nd_CM_heaviness_3 : decode nc_CM_heaviness 3 = .ok (.istore_n 3, 1) := by decide +kernel
theorem nd_CM_heaviness_4 : decode nc_CM_heaviness 4 = .ok (.iload_n 3, 1) := by decide +kernel
theorem nd_CM_heaviness_5 : decode nc_CM_heaviness 5 = .ok (.aload_n 0, 1) := by decide +kernel
theorem nd_CM_heaviness_6 : decode nc_CM_heaviness 6 = .ok (.getfield 49, 3) := by decide +kernel
theorem nd_CM_heaviness_9 : decode nc_CM_heaviness 9 = .ok (.if_icmp .ge 31, 3) := by decide +kernel
theorem nd_CM_heaviness_12 : decode nc_CM_heaviness 12 = .ok (.iload_n 1, 1) := by decide +kernel
theorem nd_CM_heaviness_13 : decode nc_CM_heaviness 13 = .ok (.iload_n 3, 1) := by decide +kernel
theorem nd_CM_heaviness_14 : decode nc_CM_heaviness 14 = .ok (.ishr, 1) := by decide +kernel
theorem nd_CM_heaviness_15 : decode nc_CM_heaviness 15 = .ok (.iconst 1, 1) := by decide +kernel
theorem nd_CM_heaviness_16 : decode nc_CM_heaviness 16 = .ok (.iand, 1) := by decide +kernel
theorem nd_CM_heaviness_17 : decode nc_CM_heaviness 17 = .ok (.iconst 1, 1) := by decide +kernel
theorem nd_CM_heaviness_18 : decode nc_CM_heaviness 18 = .ok (.if_icmp .ne 14, 3) := by decide +kernel
theorem nd_CM_heaviness_21 : decode nc_CM_heaviness 21 = .ok (.iload_n 2, 1) := by decide +kernel
theorem nd_CM_heaviness_22 : decode nc_CM_heaviness 22 = .ok (.aload_n 0, 1) := by decide +kernel
theorem nd_CM_heaviness_23 : decode nc_CM_heaviness 23 = .ok (.getfield 7, 3) := by decide +kernel
theorem nd_CM_heaviness_26 : decode nc_CM_heaviness 26 = .ok (.iload_n 3, 1) := by decide +kernel
theorem nd_CM_heaviness_27 : decode nc_CM_heaviness 27 = .ok (.iaload, 1) := by decide +kernel
theorem nd_CM_heaviness_28 : decode nc_CM_heaviness 28 = .ok (.iadd, 1) := by decide +kernel
theorem nd_CM_heaviness_29 : decode nc_CM_heaviness 29 = .ok (.goto 4, 3) := by decide +kernel
theorem nd_CM_heaviness_32 : decode nc_CM_heaviness 32 = .ok (.iload_n 2, 1) := by decide +kernel
theorem nd_CM_heaviness_33 : decode nc_CM_heaviness 33 = .ok (.istore_n 2, 1) := by decide +kernel
theorem nd_CM_heaviness_34 : decode nc_CM_heaviness 34 = .ok (.iinc 3 1, 3) := by decide +kernel
theorem nd_CM_heaviness_37 : decode nc_CM_heaviness 37 = .ok (.goto (-33), 3) := by decide +kernel
theorem nd_CM_heaviness_40 : decode nc_CM_heaviness 40 = .ok (.iload_n 2, 1) := by decide +kernel
theorem nd_CM_heaviness_41 : decode nc_CM_heaviness 41 = .ok (.ireturn, 1) := by decide +kernel
set_option maxRecDepth 20000 in
theorem lp_CM_heaviness {p : Program} {l : Launch} {e0 : Env} {R : Room} {s0 : State} {m : MethodId} {args : Array Value} {below : List Frame} {meth : Method} {c : Code} {H : Heap} {locs : List Loc} {cells slots : Nat} {Q : State → Prop} {D : va_G} (cI cG cM : ClassId) (q : Nat → Nat) (n : Nat) (hn : n ≤ 10) (w : Nat → Int32) (s : Nat) (hs : s < 2 ^ 31) (hx : p.tables.exec = Jvm.exec) (hb : c.code = nc_CM_heaviness) (hml : c.maxLocals = 4) (htg : ∀ w ∈ tg_, w.before args s0 = true) (hown : s0.vm.findClass ny_CM_heaviness.cls = some m.cls) (hK : va_K D cl_all (ty_all cI cG cM) s0) (hN : tn_K s0) (hP : va_P D cl_all ([((q 0), .inr (6, [.int (nI (n)), .ref (q 2), .ref (q 3), .ref (q 4), .ref (q 5), .ref (q 6), .ref (q 7), .ref (q 8), .ref (q 9), .ref (q 10), .ref (q 11), .ref (q 12), .ref (q 13), .ref (q 14)])), ((q 2), .inl (cI, 10, .inl w))]) H) (hRf : 0 ≤ R.frames) (hRl : 0 ≤ R.locals) (hCS : cells ≤ R.cells ∧ slots ≤ R.slots) (kx : ∀ (ls : Array Slot), lv_has ls 4 [(2, .int (ms_W w n s))] → W p l e0 R s0 m args below meth c H locs cells slots Q (F0 m 40 ls [])) : ∀ (f : Nat) (i : Nat) (ls : Array Slot), n - i < f → i ≤ n → lv_has ls 4 [(3, .int (nI (i))), (2, .int (ms_W w i s)), (0, .ref (q 0)), (1, .int (nI (s)))] → W p l e0 R s0 m args below meth c H locs cells slots Q (F0 m 4 ls []) := by
  intro f
  induction f with
  | zero => intro i ls hf; omega
  | succ f ih =>
    intro i ls hf hi hl
    refine lv_iload_n hx hb nd_CM_heaviness_4 rfl (lv_at hl 0 rfl) ?_
    refine lv_aload_n hx hb nd_CM_heaviness_5 rfl (lv_at hl 2 rfl) ?_
    refine va_get (D := D) (C := nr_CM) (T := nt_CM) (N := 14) hx hb htg tf_CM hown hK hP 0 rfl rfl 0 (by decide) (htg _ tm_383) (fun _ h => h) rfl nd_CM_heaviness_6 ?_
    refine wi_icmp_ge (tgt := 40) hx hb (by omega) (by omega) nd_CM_heaviness_9 rfl (fun hc9 => ?_) (fun hc9 => ?_)
    · have hl : lv_has ls 4 [(2, .int (ms_W w i s))] := lv_sub hl [1] rfl
      have hin : i = n := by omega
      subst hin
      exact kx ls hl
    · refine lv_iload_n hx hb nd_CM_heaviness_12 rfl (lv_at hl 3 rfl) ?_
      refine lv_iload_n hx hb nd_CM_heaviness_13 rfl (lv_at hl 0 rfl) ?_
      refine wi_ishr hx hb (by omega) (by omega) nd_CM_heaviness_14 ?_
      refine wi_ic hx hb (a := 1) nd_CM_heaviness_15 ?_
      refine wi_bit hx hb nd_CM_heaviness_16 ?_
      have hbt16 := mt_bt_lt s i
      refine wi_ic hx hb (a := 1) nd_CM_heaviness_17 ?_
      refine wi_icmp_ne (tgt := 32) hx hb (by omega) (by omega) nd_CM_heaviness_18 rfl (fun hc18 => ?_) (fun hc18 => ?_)
      · refine lv_iload_n hx hb nd_CM_heaviness_32 rfl (lv_at hl 1 rfl) ?_
        refine lv_istore_n hx hb nd_CM_heaviness_33 rfl hl (by decide) rfl (fun ls hl => ?_)
        have hl : lv_has ls 4 [(2, .int (ms_W w i s)), (3, .int (nI (i))), (0, .ref (q 0)), (1, .int (nI (s)))] := hl
        refine lv_iinc (k := 1) (v := nI (i + 1)) hx hb nd_CM_heaviness_34 hl rfl (wi_inc _ 1) (by decide) rfl (fun ls hl => ?_)
        have hl : lv_has ls 4 [(3, .int (nI (i + 1))), (2, .int (ms_W w i s)), (0, .ref (q 0)), (1, .int (nI (s)))] := hl
        refine lv_goto (tgt := 4) hx hb nd_CM_heaviness_37 rfl ?_
        have hl : lv_has ls 4 [(3, .int (nI (i + 1))), (2, .int (ms_W w i s)), (0, .ref (q 0)), (1, .int (nI (s)))] := lv_sub hl [0, 1, 2, 3] rfl
        exact ih (i + 1) ls (by omega) (by omega) (by rw [ms_Wf (by omega)]; exact hl)
      · refine lv_iload_n hx hb nd_CM_heaviness_21 rfl (lv_at hl 1 rfl) ?_
        refine lv_aload_n hx hb nd_CM_heaviness_22 rfl (lv_at hl 2 rfl) ?_
        refine va_get (D := D) (C := nr_CM) (T := nt_CM) (N := 14) hx hb htg tf_CM hown hK hP 0 rfl rfl 1 (by decide) (htg _ tm_384) (fun _ h => h) rfl nd_CM_heaviness_23 ?_
        refine lv_iload_n hx hb nd_CM_heaviness_26 rfl (lv_at hl 0 rfl) ?_
        refine wi_iald hx hb hK hP 1 0 rfl rfl (by omega) (by omega) nd_CM_heaviness_27 ?_
        refine lv_iadd hx hb nd_CM_heaviness_28 ?_
        refine lv_goto (tgt := 33) hx hb nd_CM_heaviness_29 rfl ?_
        refine lv_istore_n hx hb nd_CM_heaviness_33 rfl hl (by decide) rfl (fun ls hl => ?_)
        have hl : lv_has ls 4 [(2, .int ((ms_W w i s + w i))), (3, .int (nI (i))), (0, .ref (q 0)), (1, .int (nI (s)))] := hl
        refine lv_iinc (k := 1) (v := nI (i + 1)) hx hb nd_CM_heaviness_34 hl rfl (wi_inc _ 1) (by decide) rfl (fun ls hl => ?_)
        have hl : lv_has ls 4 [(3, .int (nI (i + 1))), (2, .int ((ms_W w i s + w i))), (0, .ref (q 0)), (1, .int (nI (s)))] := hl
        refine lv_goto (tgt := 4) hx hb nd_CM_heaviness_37 rfl ?_
        have hl : lv_has ls 4 [(3, .int (nI (i + 1))), (2, .int ((ms_W w i s + w i))), (0, .ref (q 0)), (1, .int (nI (s)))] := lv_sub hl [0, 1, 2, 3] rfl
        exact ih (i + 1) ls (by omega) (by omega) (by rw [ms_Wt (by omega)]; exact hl)
set_option maxRecDepth 20000 in
theorem c_CM_heaviness (l : Launch) (D : va_G) (cI cG cM : ClassId) (q : Nat → Nat) (n : Nat) (hn : n ≤ 10) (w : Nat → Int32) (s : Nat) (hs : s < 2 ^ 31) : wa_M l ny_CM_heaviness nc_CM_heaviness 4 (some .int) ({ frames := 0, cells := 0, slots := 0, locals := 0 }) D (ty_all cI cG cM) ([((q 0), .inr (6, [.int (nI (n)), .ref (q 2), .ref (q 3), .ref (q 4), .ref (q 5), .ref (q 6), .ref (q 7), .ref (q 8), .ref (q 9), .ref (q 10), .ref (q 11), .ref (q 12), .ref (q 13), .ref (q 14)])), ((q 2), .inl (cI, 10, .inl w))]) [.ref (q 0), .int (nI (s))] (ms_W w n s) := by
  refine wa_start (by decide) (Nat.le_of_ble_eq_true rfl) ?_
  intro p e0 s0 m below meth c ls hx hb hr hml htg hown hk hP hK hN hl
  have hl : lv_has ls 4 [(0, .ref (q 0)), (1, .int (nI (s)))] := hl
  have hRf : 0 ≤ ({ frames := 0, cells := 0, slots := 0, locals := 0 } : Room).frames := Nat.le_refl _
  have hRl : 0 ≤ ({ frames := 0, cells := 0, slots := 0, locals := 0 } : Room).locals := Nat.le_refl _
  have hCS : 0 ≤ ({ frames := 0, cells := 0, slots := 0, locals := 0 } : Room).cells ∧ 0 ≤ ({ frames := 0, cells := 0, slots := 0, locals := 0 } : Room).slots := ⟨Nat.zero_le _, Nat.zero_le _⟩
  refine wi_ic hx hb (a := 0) nd_CM_heaviness_0 ?_
  refine lv_istore_n hx hb nd_CM_heaviness_1 rfl hl (by decide) rfl (fun ls hl => ?_)
  have hl : lv_has ls 4 [(2, .int (nI (0))), (0, .ref (q 0)), (1, .int (nI (s)))] := hl
  refine wi_ic hx hb (a := 0) nd_CM_heaviness_2 ?_
  refine lv_istore_n hx hb nd_CM_heaviness_3 rfl hl (by decide) rfl (fun ls hl => ?_)
  have hl : lv_has ls 4 [(3, .int (nI (0))), (2, .int (nI (0))), (0, .ref (q 0)), (1, .int (nI (s)))] := hl
  have hl : lv_has ls 4 [(3, .int (nI (0))), (2, .int (nI (0))), (0, .ref (q 0)), (1, .int (nI (s)))] := lv_sub hl [0, 1, 2, 3] rfl
  refine lp_CM_heaviness cI cG cM q n hn w s hs hx hb hml htg hown hK hN hP hRf hRl hCS (fun ls hl => ?_) (n + 1) 0 ls (by omega) (by omega) hl
  refine lv_iload_n hx hb nd_CM_heaviness_40 rfl (lv_at hl 0 rfl) ?_
  exact wa_iret hx hb hr hk (rfl) nd_CM_heaviness_41
theorem nd_CB_firstInOrder_0 : decode nc_CB_firstInOrder 0 = .ok (.iconst 0, 1) := by decide +kernel
theorem nd_CB_firstInOrder_1 : decode nc_CB_firstInOrder 1 = .ok (.istore_n 2, 1) := by decide +kernel
theorem nd_CB_firstInOrder_2 : decode nc_CB_firstInOrder 2 = .ok (.iconst 1, 1) := by decide +kernel
theorem nd_CB_firstInOrder_3 : decode nc_CB_firstInOrder 3 = .ok (.istore_n 3, 1) := by decide +kernel
theorem nd_CB_firstInOrder_4 : decode nc_CB_firstInOrder 4 = .ok (.iload_n 3, 1) := by decide +kernel
theorem nd_CB_firstInOrder_5 : decode nc_CB_firstInOrder 5 = .ok (.aload_n 0, 1) := by decide +kernel
theorem nd_CB_firstInOrder_6 : decode nc_CB_firstInOrder 6 = .ok (.getfield 9, 3) := by decide +kernel
theorem nd_CB_firstInOrder_9 : decode nc_CB_firstInOrder 9 = .ok (.if_icmp .ge 42, 3) := by decide +kernel
theorem nd_CB_firstInOrder_12 : decode nc_CB_firstInOrder 12 = .ok (.iload_n 1, 1) := by decide +kernel
theorem nd_CB_firstInOrder_13 : decode nc_CB_firstInOrder 13 = .ok (.iload_n 3, 1) := by decide +kernel
theorem nd_CB_firstInOrder_14 : decode nc_CB_firstInOrder 14 = .ok (.invokestatic 80, 3) := by decide +kernel
theorem nd_CB_firstInOrder_17 : decode nc_CB_firstInOrder 17 = .ok (.ifCond .ne 28, 3) := by decide +kernel
theorem nd_CB_firstInOrder_20 : decode nc_CB_firstInOrder 20 = .ok (.iload_n 1, 1) := by decide +kernel
theorem nd_CB_firstInOrder_21 : decode nc_CB_firstInOrder 21 = .ok (.iload_n 2, 1) := by decide +kernel
theorem nd_CB_firstInOrder_22 : decode nc_CB_firstInOrder 22 = .ok (.invokestatic 80, 3) := by decide +kernel
theorem nd_CB_firstInOrder_25 : decode nc_CB_firstInOrder 25 = .ok (.ifCond .ne 18, 3) := by decide +kernel
theorem nd_CB_firstInOrder_28 : decode nc_CB_firstInOrder 28 = .ok (.aload_n 0, 1) := by decide +kernel
theorem nd_CB_firstInOrder_29 : decode nc_CB_firstInOrder 29 = .ok (.getfield 16, 3) := by decide +kernel
theorem nd_CB_firstInOrder_32 : decode nc_CB_firstInOrder 32 = .ok (.iload_n 3, 1) := by decide +kernel
theorem nd_CB_firstInOrder_33 : decode nc_CB_firstInOrder 33 = .ok (.iaload, 1) := by decide +kernel
theorem nd_CB_firstInOrder_34 : decode nc_CB_firstInOrder 34 = .ok (.aload_n 0, 1) := by decide +kernel
theorem nd_CB_firstInOrder_35 : decode nc_CB_firstInOrder 35 = .ok (.getfield 16, 3) := by decide +kernel
theorem nd_CB_firstInOrder_38 : decode nc_CB_firstInOrder 38 = .ok (.iload_n 2, 1) := by decide +kernel
theorem nd_CB_firstInOrder_39 : decode nc_CB_firstInOrder 39 = .ok (.iaload, 1) := by decide +kernel
theorem nd_CB_firstInOrder_40 : decode nc_CB_firstInOrder 40 = .ok (.if_icmp .le 5, 3) := by decide +kernel
theorem nd_CB_firstInOrder_43 : decode nc_CB_firstInOrder 43 = .ok (.iload_n 3, 1) := by decide +kernel
theorem nd_CB_firstInOrder_44 : decode nc_CB_firstInOrder 44 = .ok (.istore_n 2, 1) := by decide +kernel
theorem nd_CB_firstInOrder_45 : decode nc_CB_firstInOrder 45 = .ok (.iinc 3 1, 3) := by decide +kernel
theorem nd_CB_firstInOrder_48 : decode nc_CB_firstInOrder 48 = .ok (.goto (-44), 3) := by decide +kernel
theorem nd_CB_firstInOrder_51 : decode nc_CB_firstInOrder 51 = .ok (.iload_n 2, 1) := by decide +kernel
theorem nd_CB_firstInOrder_52 : decode nc_CB_firstInOrder 52 = .ok (.ireturn, 1) := by decide +kernel
set_option maxRecDepth 20000 in
theorem lp_CB_firstInOrder {p : Program} {l : Launch} {e0 : Env} {R : Room} {s0 : State} {m : MethodId} {args : Array Value} {below : List Frame} {meth : Method} {c : Code} {H : Heap} {locs : List Loc} {cells slots : Nat} {Q : State → Prop} {D : va_G} (cI cG cM : ClassId) (q0 q1 q2 n : Nat) (hn : n ≤ 10) (w : Nat → Int32) (t : Nat) (ht : t < 2 ^ 31) (hx : p.tables.exec = Jvm.exec) (hb : c.code = nc_CB_firstInOrder) (hml : c.maxLocals = 4) (htg : ∀ w ∈ tg_, w.before args s0 = true) (hown : s0.vm.findClass ny_CB_firstInOrder.cls = some m.cls) (hK : va_K D cl_all (ty_all cI cG cM) s0) (hN : tn_K s0) (hP : va_P D cl_all ([(q0, .inr (0, [.int (nI (n)), .int (nI (2 ^ n - 1)), .ref q1, .ref q2])), (q1, .inl (cI, n, .inl w))]) H) (hRf : 1 ≤ R.frames) (hRl : 21 ≤ R.locals) (hCS : cells ≤ R.cells ∧ slots ≤ R.slots) (kx : ∀ (ls : Array Slot), lv_has ls 4 [(2, .int (nI (ms_F w t n)))] → W p l e0 R s0 m args below meth c H locs cells slots Q (F0 m 51 ls [])) : ∀ (f : Nat) (i : Nat) (ls : Array Slot), n - i < f → i ≤ n → 1 ≤ i → lv_has ls 4 [(3, .int (nI (i))), (2, .int (nI (ms_F w t i))), (0, .ref q0), (1, .int (nI (t)))] → W p l e0 R s0 m args below meth c H locs cells slots Q (F0 m 4 ls []) := by
  intro f
  induction f with
  | zero => intro i ls hf; omega
  | succ f ih =>
    intro i ls hf hi hi1 hl
    have hF := ms_F_lt w t i hi1
    refine lv_iload_n hx hb nd_CB_firstInOrder_4 rfl (lv_at hl 0 rfl) ?_
    refine lv_aload_n hx hb nd_CB_firstInOrder_5 rfl (lv_at hl 2 rfl) ?_
    refine va_get (D := D) (C := nr_CB) (T := nt_CB) (N := 4) hx hb htg tf_CB hown hK hP 0 rfl rfl 0 (by decide) (htg _ tm_122) (fun _ h => h) rfl nd_CB_firstInOrder_6 ?_
    refine wi_icmp_ge (tgt := 51) hx hb (by omega) (by omega) nd_CB_firstInOrder_9 rfl (fun hc9 => ?_) (fun hc9 => ?_)
    · have hl : lv_has ls 4 [(2, .int (nI (ms_F w t i)))] := lv_sub hl [1] rfl
      have hin : i = n := by omega
      subst hin
      exact kx ls hl
    · refine lv_iload_n hx hb nd_CB_firstInOrder_12 rfl (lv_at hl 3 rfl) ?_
      refine lv_iload_n hx hb nd_CB_firstInOrder_13 rfl (lv_at hl 0 rfl) ?_
      refine wc_S (n := 2) hx hb hml hown htg (c_CB_has l D _ t i (by omega) (by omega)) tm_272 tm_323 tm_271 tm_1 (by decide +kernel) ⟨⟨Nat.le_trans (by decide) hRf, Nat.le_trans (by decide) hRl⟩, rfl, rfl⟩ (wa_pre wa_nil hK hN) rfl hl.1 rfl (Nat.le_of_ble_eq_true rfl) nd_CB_firstInOrder_14 hCS ?_
      have hbt14 := mt_bt_lt t i
      refine wi_if_ne (tgt := 45) hx hb (by omega) nd_CB_firstInOrder_17 rfl (fun hc17 => ?_) (fun hc17 => ?_)
      · refine lv_iinc (k := 0) (v := nI (i + 1)) hx hb nd_CB_firstInOrder_45 hl rfl (wi_inc _ 1) (by decide) rfl (fun ls hl => ?_)
        have hl : lv_has ls 4 [(3, .int (nI (i + 1))), (2, .int (nI (ms_F w t i))), (0, .ref q0), (1, .int (nI (t)))] := hl
        refine lv_goto (tgt := 4) hx hb nd_CB_firstInOrder_48 rfl ?_
        have hl : lv_has ls 4 [(3, .int (nI (i + 1))), (2, .int (nI (ms_F w t i))), (0, .ref q0), (1, .int (nI (t)))] := lv_sub hl [0, 1, 2, 3] rfl
        exact ih (i + 1) ls (by omega) (by omega) (by omega) (by rw [ms_Fn hi1 (fun z => by omega)]; exact hl)
      · refine lv_iload_n hx hb nd_CB_firstInOrder_20 rfl (lv_at hl 3 rfl) ?_
        refine lv_iload_n hx hb nd_CB_firstInOrder_21 rfl (lv_at hl 1 rfl) ?_
        refine wc_S (n := 2) hx hb hml hown htg (c_CB_has l D _ t (ms_F w t i) (by omega) (by omega)) tm_272 tm_323 tm_271 tm_1 (by decide +kernel) ⟨⟨Nat.le_trans (by decide) hRf, Nat.le_trans (by decide) hRl⟩, rfl, rfl⟩ (wa_pre wa_nil hK hN) rfl hl.1 rfl (Nat.le_of_ble_eq_true rfl) nd_CB_firstInOrder_22 hCS ?_
        have hbt22 := mt_bt_lt t (ms_F w t i)
        refine wi_if_ne (tgt := 43) hx hb (by omega) nd_CB_firstInOrder_25 rfl (fun hc25 => ?_) (fun hc25 => ?_)
        · refine lv_iload_n hx hb nd_CB_firstInOrder_43 rfl (lv_at hl 0 rfl) ?_
          refine lv_istore_n hx hb nd_CB_firstInOrder_44 rfl hl (by decide) rfl (fun ls hl => ?_)
          have hl : lv_has ls 4 [(2, .int (nI (i))), (3, .int (nI (i))), (0, .ref q0), (1, .int (nI (t)))] := hl
          refine lv_iinc (k := 1) (v := nI (i + 1)) hx hb nd_CB_firstInOrder_45 hl rfl (wi_inc _ 1) (by decide) rfl (fun ls hl => ?_)
          have hl : lv_has ls 4 [(3, .int (nI (i + 1))), (2, .int (nI (i))), (0, .ref q0), (1, .int (nI (t)))] := hl
          refine lv_goto (tgt := 4) hx hb nd_CB_firstInOrder_48 rfl ?_
          have hl : lv_has ls 4 [(3, .int (nI (i + 1))), (2, .int (nI (i))), (0, .ref q0), (1, .int (nI (t)))] := lv_sub hl [0, 1, 2, 3] rfl
          exact ih (i + 1) ls (by omega) (by omega) (by omega) (by rw [ms_Fy hi1 (by omega) (Or.inl (by omega))]; exact hl)
        · refine lv_aload_n hx hb nd_CB_firstInOrder_28 rfl (lv_at hl 2 rfl) ?_
          refine va_get (D := D) (C := nr_CB) (T := nt_CB) (N := 4) hx hb htg tf_CB hown hK hP 0 rfl rfl 2 (by decide) (htg _ tm_124) (fun _ h => h) rfl nd_CB_firstInOrder_29 ?_
          refine lv_iload_n hx hb nd_CB_firstInOrder_32 rfl (lv_at hl 0 rfl) ?_
          refine wi_iald hx hb hK hP 1 0 rfl rfl (by omega) (by omega) nd_CB_firstInOrder_33 ?_
          refine lv_aload_n hx hb nd_CB_firstInOrder_34 rfl (lv_at hl 2 rfl) ?_
          refine va_get (D := D) (C := nr_CB) (T := nt_CB) (N := 4) hx hb htg tf_CB hown hK hP 0 rfl rfl 2 (by decide) (htg _ tm_124) (fun _ h => h) rfl nd_CB_firstInOrder_35 ?_
          refine lv_iload_n hx hb nd_CB_firstInOrder_38 rfl (lv_at hl 1 rfl) ?_
          refine wi_iald hx hb hK hP 1 0 rfl rfl (by omega) (by omega) nd_CB_firstInOrder_39 ?_
          refine lv_icmp_le (tgt := 45) hx hb nd_CB_firstInOrder_40 rfl (fun hc40 => ?_) (fun hc40 => ?_)
          · refine lv_iinc (k := 0) (v := nI (i + 1)) hx hb nd_CB_firstInOrder_45 hl rfl (wi_inc _ 1) (by decide) rfl (fun ls hl => ?_)
            have hl : lv_has ls 4 [(3, .int (nI (i + 1))), (2, .int (nI (ms_F w t i))), (0, .ref q0), (1, .int (nI (t)))] := hl
            refine lv_goto (tgt := 4) hx hb nd_CB_firstInOrder_48 rfl ?_
            have hl : lv_has ls 4 [(3, .int (nI (i + 1))), (2, .int (nI (ms_F w t i))), (0, .ref q0), (1, .int (nI (t)))] := lv_sub hl [0, 1, 2, 3] rfl
            exact ih (i + 1) ls (by omega) (by omega) (by omega) (by rw [ms_Fn hi1 (fun z => z.2.elim (fun z => by omega) (fun z => Int32.not_lt.mpr hc40 z))]; exact hl)
          · refine lv_iload_n hx hb nd_CB_firstInOrder_43 rfl (lv_at hl 0 rfl) ?_
            refine lv_istore_n hx hb nd_CB_firstInOrder_44 rfl hl (by decide) rfl (fun ls hl => ?_)
            have hl : lv_has ls 4 [(2, .int (nI (i))), (3, .int (nI (i))), (0, .ref q0), (1, .int (nI (t)))] := hl
            refine lv_iinc (k := 1) (v := nI (i + 1)) hx hb nd_CB_firstInOrder_45 hl rfl (wi_inc _ 1) (by decide) rfl (fun ls hl => ?_)
            have hl : lv_has ls 4 [(3, .int (nI (i + 1))), (2, .int (nI (i))), (0, .ref q0), (1, .int (nI (t)))] := hl
            refine lv_goto (tgt := 4) hx hb nd_CB_firstInOrder_48 rfl ?_
            have hl : lv_has ls 4 [(3, .int (nI (i + 1))), (2, .int (nI (i))), (0, .ref q0), (1, .int (nI (t)))] := lv_sub hl [0, 1, 2, 3] rfl
            exact ih (i + 1) ls (by omega) (by omega) (by omega) (by rw [ms_Fy hi1 (by omega) (Or.inr (Int32.not_le.mp hc40))]; exact hl)
set_option maxRecDepth 20000 in
theorem c_CB_firstInOrder (l : Launch) (D : va_G) (cI cG cM : ClassId) (q0 q1 q2 n : Nat) (hn : n ≤ 10) (w : Nat → Int32) (hn1 : 1 ≤ n) (t : Nat) (ht : t < 2 ^ 31) : wa_M l ny_CB_firstInOrder nc_CB_firstInOrder 4 (some .int) ({ frames := 1, cells := 0, slots := 0, locals := 21 }) D (ty_all cI cG cM) ([(q0, .inr (0, [.int (nI (n)), .int (nI (2 ^ n - 1)), .ref q1, .ref q2])), (q1, .inl (cI, n, .inl w))]) [.ref q0, .int (nI (t))] (nI (ms_F w t n)) := by
  refine wa_start (by decide) (Nat.le_of_ble_eq_true rfl) ?_
  intro p e0 s0 m below meth c ls hx hb hr hml htg hown hk hP hK hN hl
  have hl : lv_has ls 4 [(0, .ref q0), (1, .int (nI (t)))] := hl
  have hRf : 1 ≤ ({ frames := 1, cells := 0, slots := 0, locals := 21 } : Room).frames := Nat.le_refl _
  have hRl : 21 ≤ ({ frames := 1, cells := 0, slots := 0, locals := 21 } : Room).locals := Nat.le_refl _
  have hCS : 0 ≤ ({ frames := 1, cells := 0, slots := 0, locals := 21 } : Room).cells ∧ 0 ≤ ({ frames := 1, cells := 0, slots := 0, locals := 21 } : Room).slots := ⟨Nat.zero_le _, Nat.zero_le _⟩
  refine wi_ic hx hb (a := 0) nd_CB_firstInOrder_0 ?_
  refine lv_istore_n hx hb nd_CB_firstInOrder_1 rfl hl (by decide) rfl (fun ls hl => ?_)
  have hl : lv_has ls 4 [(2, .int (nI (0))), (0, .ref q0), (1, .int (nI (t)))] := hl
  refine wi_ic hx hb (a := 1) nd_CB_firstInOrder_2 ?_
  refine lv_istore_n hx hb nd_CB_firstInOrder_3 rfl hl (by decide) rfl (fun ls hl => ?_)
  have hl : lv_has ls 4 [(3, .int (nI (1))), (2, .int (nI (0))), (0, .ref q0), (1, .int (nI (t)))] := hl
  have hl : lv_has ls 4 [(3, .int (nI (1))), (2, .int (nI (0))), (0, .ref q0), (1, .int (nI (t)))] := lv_sub hl [0, 1, 2, 3] rfl
  refine lp_CB_firstInOrder cI cG cM q0 q1 q2 n hn w t ht hx hb hml htg hown hK hN hP hRf hRl hCS (fun ls hl => ?_) (n + 1) 1 ls (by omega) (by omega) (by omega) hl
  refine lv_iload_n hx hb nd_CB_firstInOrder_51 rfl (lv_at hl 0 rfl) ?_
  exact wa_iret hx hb hr hk (rfl) nd_CB_firstInOrder_52
theorem nd_CM_tableFree_0 : decode nc_CM_tableFree 0 = .ok (.aload_n 0, 1) := by decide +kernel
theorem nd_CM_tableFree_1 : decode nc_CM_tableFree 1 = .ok (.getfield 46, 3) := by decide +kernel
theorem nd_CM_tableFree_4 : decode nc_CM_tableFree 4 = .ok (.sipush 1024, 3) := by decide +kernel
theorem nd_CM_tableFree_7 : decode nc_CM_tableFree 7 = .ok (.iload_n 1, 1) := by decide +kernel
theorem nd_CM_tableFree_8 : decode nc_CM_tableFree 8 = .ok (.imul, 1) := by decide +kernel
theorem nd_CM_tableFree_9 : decode nc_CM_tableFree 9 = .ok (.iload_n 2, 1) := by decide +kernel
theorem nd_CM_tableFree_10 : decode nc_CM_tableFree 10 = .ok (.iadd, 1) := by decide +kernel
theorem nd_CM_tableFree_11 : decode nc_CM_tableFree 11 = .ok (.iaload, 1) := by decide +kernel
theorem nd_CM_tableFree_12 : decode nc_CM_tableFree 12 = .ok (.iload_n 2, 1) := by decide +kernel
theorem nd_CM_tableFree_13 : decode nc_CM_tableFree 13 = .ok (.invokestatic 69, 3) := by decide +kernel
theorem nd_CM_tableFree_16 : decode nc_CM_tableFree 16 = .ok (.if_icmp .ne 7, 3) := by decide +kernel
theorem nd_CM_tableFree_19 : decode nc_CM_tableFree 19 = .ok (.iconst 1, 1) := by decide +kernel
theorem nd_CM_tableFree_20 : decode nc_CM_tableFree 20 = .ok (.goto 4, 3) := by decide +kernel
theorem nd_CM_tableFree_23 : decode nc_CM_tableFree 23 = .ok (.iconst 0, 1) := by decide +kernel
theorem nd_CM_tableFree_24 : decode nc_CM_tableFree 24 = .ok (.ireturn, 1) := by decide +kernel
set_option maxRecDepth 20000 in
theorem c_CM_tableFree (l : Launch) (D : va_G) (cI cG cM : ClassId) (q : Nat → Nat) (n : Nat) (r : Nat → Int32) (w s : Nat) (hw : w < 2) (hs : s < 1024) (b : Int32) (h1 : r (1024 * w + s) = nI (mt_cd 10 s) → b = 1) (h0 : ¬ r (1024 * w + s) = nI (mt_cd 10 s) → b = 0) : wa_M l ny_CM_tableFree nc_CM_tableFree 3 (some .boolean) ({ frames := 1, cells := 0, slots := 0, locals := 22 }) D (ty_all cI cG cM) ([((q 0), .inr (6, [.int (nI (n)), .ref (q 2), .ref (q 3), .ref (q 4), .ref (q 5), .ref (q 6), .ref (q 7), .ref (q 8), .ref (q 9), .ref (q 10), .ref (q 11), .ref (q 12), .ref (q 13), .ref (q 14)])), ((q 14), .inl (cI, 2048, .inl r))]) [.ref (q 0), .int (nI (w)), .int (nI (s))] (b) := by
  refine wa_start (by decide) (Nat.le_of_ble_eq_true rfl) ?_
  intro p e0 s0 m below meth c ls hx hb hr hml htg hown hk hP hK hN hl
  have hl : lv_has ls 3 [(0, .ref (q 0)), (1, .int (nI (w))), (2, .int (nI (s)))] := hl
  have hRf : 1 ≤ ({ frames := 1, cells := 0, slots := 0, locals := 22 } : Room).frames := Nat.le_refl _
  have hRl : 22 ≤ ({ frames := 1, cells := 0, slots := 0, locals := 22 } : Room).locals := Nat.le_refl _
  have hCS : 0 ≤ ({ frames := 1, cells := 0, slots := 0, locals := 22 } : Room).cells ∧ 0 ≤ ({ frames := 1, cells := 0, slots := 0, locals := 22 } : Room).slots := ⟨Nat.zero_le _, Nat.zero_le _⟩
  refine lv_aload_n hx hb nd_CM_tableFree_0 rfl (lv_at hl 0 rfl) ?_
  refine va_get (D := D) (C := nr_CM) (T := nt_CM) (N := 14) hx hb htg tf_CM hown hK hP 0 rfl rfl 13 (by decide) (htg _ tm_396) (fun _ h => h) rfl nd_CM_tableFree_1 ?_
  refine lv_sipush (v := nI 1024) hx hb nd_CM_tableFree_4 (by decide) ?_
  refine lv_iload_n hx hb nd_CM_tableFree_7 rfl (lv_at hl 1 rfl) ?_
  refine wi_imul hx hb nd_CM_tableFree_8 ?_
  refine lv_iload_n hx hb nd_CM_tableFree_9 rfl (lv_at hl 2 rfl) ?_
  refine wi_iadd hx hb nd_CM_tableFree_10 ?_
  refine wi_iald hx hb hK hP 1 0 rfl rfl (by omega) (by omega) nd_CM_tableFree_11 ?_
  refine lv_iload_n hx hb nd_CM_tableFree_12 rfl (lv_at hl 2 rfl) ?_
  refine wc_S (n := 1) hx hb hml hown htg (c_CM_sizeOf l D cI cG cM s (by omega)) tm_489 tm_487 tm_488 tm_9 (by decide +kernel) ⟨⟨Nat.le_trans (by decide) hRf, Nat.le_trans (by decide) hRl⟩, rfl, rfl⟩ (wa_pre wa_nil hK hN) rfl hl.1 rfl (Nat.le_of_ble_eq_true rfl) nd_CM_tableFree_13 hCS ?_
  refine lv_icmp_ne (tgt := 23) hx hb nd_CM_tableFree_16 rfl (fun hc16 => ?_) (fun hc16 => ?_)
  · refine wi_ic hx hb (a := 0) nd_CM_tableFree_23 ?_
    exact wa_zret hx hb hr hk rfl ((h0 hc16).symm) nd_CM_tableFree_24
  · refine wi_ic hx hb (a := 1) nd_CM_tableFree_19 ?_
    refine lv_goto (tgt := 24) hx hb nd_CM_tableFree_20 rfl ?_
    exact wa_zret hx hb hr hk rfl ((h1 hc16).symm) nd_CM_tableFree_24
