/-! Clearing; CLASSES. -/
theorem rw_open {X Z : va_W} {cA : ClassId} {k : Nat} {re : Nat → Nat} {M : Nat → Nat → Int32} {n e : Nat} (h : e < n) : X ++ (rw_R cA k re M n ++ Z) = (X ++ ((List.range n).take e).map (fun e => (re e, .inl (cA, k, .inl (M e))))) ++ ([(re e, .inl (cA, k, .inl (M e)))] ++ (((List.range n).drop (e + 1)).map (fun e => (re e, .inl (cA, k, .inl (M e)))) ++ Z)) := by
  rw [rw_cut h]
  simp only [List.append_assoc]
theorem rw_close {X Z : va_W} {cA : ClassId} {k : Nat} {re : Nat → Nat} {M : Nat → Nat → Int32} {n e : Nat} (h : e < n) (r : Nat → Int32) : (X ++ ((List.range n).take e).map (fun e => (re e, .inl (cA, k, .inl (M e))))) ++ ([(re e, .inl (cA, k, .inl r))] ++ (((List.range n).drop (e + 1)).map (fun e => (re e, .inl (cA, k, .inl (M e)))) ++ Z)) = X ++ (rw_R cA k re (va_up M e r) n ++ Z) := by
  rw [← rw_uncut h r]
  simp only [List.append_assoc]
theorem rw_openR {X Z B : va_W} {cA : ClassId} {k : Nat} {re : Nat → Nat} {M : Nat → Nat → Int32} {n e : Nat} (h : e < n) : X ++ (B ++ (rw_R cA k re M n ++ Z)) = (X ++ (B ++ ((List.range n).take e).map (fun e => (re e, .inl (cA, k, .inl (M e)))))) ++ ([(re e, .inl (cA, k, .inl (M e)))] ++ (((List.range n).drop (e + 1)).map (fun e => (re e, .inl (cA, k, .inl (M e)))) ++ Z)) := by
  rw [rw_cut h]
  simp only [List.append_assoc]
theorem rw_closeR {X Z B : va_W} {cA : ClassId} {k : Nat} {re : Nat → Nat} {M : Nat → Nat → Int32} {n e : Nat} (h : e < n) (r : Nat → Int32) : (X ++ (B ++ ((List.range n).take e).map (fun e => (re e, .inl (cA, k, .inl (M e)))))) ++ ([(re e, .inl (cA, k, .inl r))] ++ (((List.range n).drop (e + 1)).map (fun e => (re e, .inl (cA, k, .inl (M e)))) ++ Z)) = X ++ (B ++ (rw_R cA k re (va_up M e r) n ++ Z)) := by
  rw [← rw_uncut h r]
  simp only [List.append_assoc]
theorem nd_GK_clear_0 : decode nc_GK_clear 0 = .ok (.iconst 0, 1) := by decide +kernel
theorem nd_GK_clear_1 : decode nc_GK_clear 1 = .ok (.istore_n 1, 1) := by decide +kernel
theorem nd_GK_clear_2 : decode nc_GK_clear 2 = .ok (.iload_n 1, 1) := by decide +kernel
theorem nd_GK_clear_3 : decode nc_GK_clear 3 = .ok (.aload_n 0, 1) := by decide +kernel
theorem nd_GK_clear_4 : decode nc_GK_clear 4 = .ok (.getfield 17, 3) := by decide +kernel
theorem nd_GK_clear_7 : decode nc_GK_clear 7 = .ok (.arraylength, 1) := by decide +kernel
theorem nd_GK_clear_8 : decode nc_GK_clear 8 = .ok (.if_icmp .ge 19, 3) := by decide +kernel
theorem nd_GK_clear_11 : decode nc_GK_clear 11 = .ok (.aload_n 0, 1) := by decide +kernel
theorem nd_GK_clear_12 : decode nc_GK_clear 12 = .ok (.getfield 17, 3) := by decide +kernel
theorem nd_GK_clear_15 : decode nc_GK_clear 15 = .ok (.iload_n 1, 1) := by decide +kernel
theorem nd_GK_clear_16 : decode nc_GK_clear 16 = .ok (.aaload, 1) := by decide +kernel
theorem nd_GK_clear_17 : decode nc_GK_clear 17 = .ok (.iconst 0, 1) := by decide +kernel
theorem nd_GK_clear_18 : decode nc_GK_clear 18 = .ok (.invokestatic 20, 3) := by decide +kernel
theorem nd_GK_clear_21 : decode nc_GK_clear 21 = .ok (.iinc 1 1, 3) := by decide +kernel
theorem nd_GK_clear_24 : decode nc_GK_clear 24 = .ok (.goto (-22), 3) := by decide +kernel
theorem nd_GK_clear_27 : decode nc_GK_clear 27 = .ok (.return_, 1) := by decide +kernel
set_option maxRecDepth 20000 in
theorem lp_GK_clear {p : Program} {l : Launch} {e0 : Env} {R : Room} {s0 : State} {m : MethodId} {args : Array Value} {below : List Frame} {meth : Method} {c : Code} {cells slots : Nat} {Q : State → Prop} {D : va_G} {A : Nat → Prop} (cI cG cM : ClassId) (g0 g1 g2 n : Nat) (hn : n ≤ 10) (re : Nat → Nat) (g : Nat → Int32)  (hx : p.tables.exec = Jvm.exec) (hb : c.code = nc_GK_clear) (hml : c.maxLocals = 2) (htg : ∀ w ∈ tg_, w.before args s0 = true) (hown : s0.vm.findClass ny_GK_clear.cls = some m.cls) (hK : va_K D cl_all (ty_all cI cG cM) s0) (hN : tn_K s0) (hA : ∀ q : Nat, s0.heap.size ≤ q → A q) (hRf : 1 ≤ R.frames) (hRl : 23 ≤ R.locals) (hCS : cells ≤ R.cells ∧ slots ≤ R.slots) (kx : ∀ (ls : Array Slot) (H : Heap) (locs : List Loc) (M : Nat → Nat → Int32), (∀ e, e < n → ∀ j, j < 2 → M e j = nI 0) → lv_has ls 2 [(0, .ref g0)] → va_P D cl_all ([(g0, .inr (3, [.ref g2, .ref g1])), (g1, .inl (cI, 8, .inl g)), (g2, .inl (cG, n, .inr (.inr (.inr (.inr (fun i => if i < n then some (re i) else none))))))] ++ (rw_R cI 2 re M n ++ [])) H → va_D A ([(g0, .inr (3, [.ref g2, .ref g1])), (g1, .inl (cI, 8, .inl g)), (g2, .inl (cG, n, .inr (.inr (.inr (.inr (fun i => if i < n then some (re i) else none))))))] ++ (rw_R cI 2 re M n ++ [])) → va_S A s0.heap H locs → W p l e0 R s0 m args below meth c H locs cells slots Q (F0 m 27 ls [])) : ∀ (f : Nat) (i : Nat) (M : Nat → Nat → Int32) (ls : Array Slot) (H : Heap) (locs : List Loc), n - i < f → (i ≤ n) → (∀ e, e < i → ∀ j, j < 2 → M e j = nI 0) → lv_has ls 2 [(1, .int (nI (i))), (0, .ref g0)] → va_P D cl_all ([(g0, .inr (3, [.ref g2, .ref g1])), (g1, .inl (cI, 8, .inl g)), (g2, .inl (cG, n, .inr (.inr (.inr (.inr (fun i => if i < n then some (re i) else none))))))] ++ (rw_R cI 2 re M n ++ [])) H → va_D A ([(g0, .inr (3, [.ref g2, .ref g1])), (g1, .inl (cI, 8, .inl g)), (g2, .inl (cG, n, .inr (.inr (.inr (.inr (fun i => if i < n then some (re i) else none))))))] ++ (rw_R cI 2 re M n ++ [])) → va_S A s0.heap H locs → W p l e0 R s0 m args below meth c H locs cells slots Q (F0 m 2 ls []) := by
  intro f
  induction f with
  | zero => intro i M ls H locs hfu; omega
  | succ f ih =>
    intro i M ls H locs hfu hi hM hl hP hD hS
    refine lv_iload_n hx hb nd_GK_clear_2 rfl (lv_at hl 0 rfl) ?_
    refine lv_aload_n hx hb nd_GK_clear_3 rfl (lv_at hl 1 rfl) ?_
    refine va_get (D := D) (C := nr_GK) (T := nt_GK) (N := 2) hx hb htg tf_GK hown hK hP 0 rfl rfl 0 (by decide) (htg _ tm_51) (fun _ h => h) rfl nd_GK_clear_4 ?_
    refine va_alen (v := nI (n)) hx hb hK hP 2 1 rfl rfl rfl nd_GK_clear_7 ?_
    refine wi_icmp_ge (tgt := 27) hx hb (by omega) (by omega) nd_GK_clear_8 rfl (fun hc8 => ?_) (fun hc8 => ?_)
    · have hl : lv_has ls 2 [(0, .ref g0)] := lv_sub hl [1] rfl
      exact kx ls H locs M (fun e he => hM e (by omega)) hl hP hD hS
    · refine lv_aload_n hx hb nd_GK_clear_11 rfl (lv_at hl 1 rfl) ?_
      refine va_get (D := D) (C := nr_GK) (T := nt_GK) (N := 2) hx hb htg tf_GK hown hK hP 0 rfl rfl 0 (by decide) (htg _ tm_51) (fun _ h => h) rfl nd_GK_clear_12 ?_
      refine lv_iload_n hx hb nd_GK_clear_15 rfl (lv_at hl 0 rfl) ?_
      refine wi_aald (v := (re i)) hx hb hK hP 2 1 rfl rfl rfl (by omega) (by omega) (if_pos (by omega)) nd_GK_clear_16 ?_
      refine wi_ic hx hb (a := 0) nd_GK_clear_17 ?_
      rw [rw_open (re := re) (e := i) (by omega)] at hP hD
      refine wd_Sv (n := 2) (Y := [(re i, .inl (cI, 2, .inl (M i)))]) hx hb hml hown htg (c_AR_fill l D cI cG cM (re i) 2 (by omega) (M i) (nI (0)) _) tm_99 tm_169 tm_98 tm_8 (by decide +kernel) ⟨⟨Nat.le_trans (by decide) hRf, Nat.le_trans (by decide) hRl⟩, rfl, rfl⟩ hP hD hS hA hK hN rfl hl.1 rfl (Nat.le_of_ble_eq_true rfl) nd_GK_clear_18 hCS (fun u18 H locs hp18 hP hD hS => ?_)
      rw [rw_close (by omega)] at hP hD
      have hP : va_P D cl_all ([(g0, .inr (3, [.ref g2, .ref g1])), (g1, .inl (cI, 8, .inl g)), (g2, .inl (cG, n, .inr (.inr (.inr (.inr (fun i => if i < n then some (re i) else none))))))] ++ (rw_R cI 2 re (va_up M i u18) n ++ [])) H := hP
      have hD : va_D A ([(g0, .inr (3, [.ref g2, .ref g1])), (g1, .inl (cI, 8, .inl g)), (g2, .inl (cG, n, .inr (.inr (.inr (.inr (fun i => if i < n then some (re i) else none))))))] ++ (rw_R cI 2 re (va_up M i u18) n ++ [])) := hD
      refine lv_iinc (k := 0) (v := nI (i + 1)) hx hb nd_GK_clear_21 hl rfl (wi_inc _ 1) (by decide) rfl (fun ls hl => ?_)
      have hl : lv_has ls 2 [(1, .int (nI (i + 1))), (0, .ref g0)] := hl
      refine lv_goto (tgt := 2) hx hb nd_GK_clear_24 rfl ?_
      have hl : lv_has ls 2 [(1, .int (nI (i + 1))), (0, .ref g0)] := lv_sub hl [0, 1] rfl
      exact ih (i + 1) (va_up M i u18) ls H locs (by omega) (by omega) (fun e he j hj => if q : e = i then by rw [q, va_up_self]; exact hp18 j hj else by rw [va_up_ne _ _ q]; exact hM e (by omega) j hj) hl hP hD hS
set_option maxRecDepth 20000 in
theorem c_GK_clear (l : Launch) (D : va_G) (cI cG cM : ClassId)  (g0 g1 g2 n : Nat) (hn : n ≤ 10) (re : Nat → Nat) (g : Nat → Int32) (M : Nat → Nat → Int32) (sz : Nat) : wb_Mv l ny_GK_clear nc_GK_clear 2 ({ frames := 1, cells := 0, slots := 0, locals := 23 }) D (ty_all cI cG cM) ([(g0, .inr (3, [.ref g2, .ref g1])), (g1, .inl (cI, 8, .inl g)), (g2, .inl (cG, n, .inr (.inr (.inr (.inr (fun i => if i < n then some (re i) else none))))))] ++ (rw_R cI 2 re M n ++ [])) sz [.ref g0] (fun u : Nat → Nat → Int32 => ∀ e, e < n → ∀ j, j < 2 → u e j = nI 0) (fun u : Nat → Nat → Int32 => [(g0, .inr (3, [.ref g2, .ref g1])), (g1, .inl (cI, 8, .inl g)), (g2, .inl (cG, n, .inr (.inr (.inr (.inr (fun i => if i < n then some (re i) else none))))))] ++ (rw_R cI 2 re u n ++ [])) := by
  refine wb_start (S := Nat → Nat → Int32) (by decide) (Nat.le_of_ble_eq_true rfl) ?_
  intro p e0 s0 m below meth c ls A hx hb hr hml htg hown hk hP hK hN hl hAe hsz hD hA
  have hl : lv_has ls 2 [(0, .ref g0)] := hl
  have hS : va_S A s0.heap s0.heap [] := va_S.rf
  have hRf : 1 ≤ ({ frames := 1, cells := 0, slots := 0, locals := 23 } : Room).frames := Nat.le_refl _
  have hRl : 23 ≤ ({ frames := 1, cells := 0, slots := 0, locals := 23 } : Room).locals := Nat.le_refl _
  have hCS : 0 ≤ ({ frames := 1, cells := 0, slots := 0, locals := 23 } : Room).cells ∧ 0 ≤ ({ frames := 1, cells := 0, slots := 0, locals := 23 } : Room).slots := ⟨Nat.zero_le _, Nat.zero_le _⟩
  refine wi_ic hx hb (a := 0) nd_GK_clear_0 ?_
  refine lv_istore_n hx hb nd_GK_clear_1 rfl hl (by decide) rfl (fun ls hl => ?_)
  have hl : lv_has ls 2 [(1, .int (nI (0))), (0, .ref g0)] := hl
  have hl : lv_has ls 2 [(1, .int (nI (0))), (0, .ref g0)] := lv_sub hl [0, 1] rfl
  refine lp_GK_clear cI cG cM g0 g1 g2 n hn re g hx hb hml htg hown hK hN hA hRf hRl hCS (fun ls H locs M hM hl hP hD hS => ?_) (n + 1) 0 M ls s0.heap [] (by omega) (by omega) (fun e he => by omega) hl hP hD hS
  exact wb_vret (M) hx hb hr hk hAe (hM) hP hD hS nd_GK_clear_27
theorem nd_CK_clear_0 : decode nc_CK_clear 0 = .ok (.aload_n 0, 1) := by decide +kernel
theorem nd_CK_clear_1 : decode nc_CK_clear 1 = .ok (.getfield 18, 3) := by decide +kernel
theorem nd_CK_clear_4 : decode nc_CK_clear 4 = .ok (.iconst 0, 1) := by decide +kernel
theorem nd_CK_clear_5 : decode nc_CK_clear 5 = .ok (.invokestatic 21, 3) := by decide +kernel
theorem nd_CK_clear_8 : decode nc_CK_clear 8 = .ok (.aload_n 0, 1) := by decide +kernel
theorem nd_CK_clear_9 : decode nc_CK_clear 9 = .ok (.getfield 9, 3) := by decide +kernel
theorem nd_CK_clear_12 : decode nc_CK_clear 12 = .ok (.iconst 0, 1) := by decide +kernel
theorem nd_CK_clear_13 : decode nc_CK_clear 13 = .ok (.invokestatic 21, 3) := by decide +kernel
theorem nd_CK_clear_16 : decode nc_CK_clear 16 = .ok (.return_, 1) := by decide +kernel
set_option maxRecDepth 20000 in
theorem c_CK_clear (l : Launch) (D : va_G) (cI cG cM : ClassId)  (c0 c1 c2 c3 n : Nat) (hn : n ≤ 10) (cap cnt cls : Nat → Int32) (sz : Nat) : wb_Mv l ny_CK_clear nc_CK_clear 1 ({ frames := 1, cells := 0, slots := 0, locals := 23 }) D (ty_all cI cG cM) ([(c0, .inr (4, [.ref c3, .ref c1, .ref c2])), (c1, .inl (cI, 4, .inl cap)), (c2, .inl (cI, 4, .inl cnt)), (c3, .inl (cI, n, .inl cls))]) sz [.ref c0] (fun u : (Nat → Int32) × (Nat → Int32) => (∀ j, j < n → u.1 j = nI 0) ∧ ∀ j, j < 4 → u.2 j = nI 0) (fun u : (Nat → Int32) × (Nat → Int32) => [(c0, .inr (4, [.ref c3, .ref c1, .ref c2])), (c1, .inl (cI, 4, .inl u.2)), (c2, .inl (cI, 4, .inl cnt)), (c3, .inl (cI, n, .inl u.1))]) := by
  refine wb_start (S := (Nat → Int32) × (Nat → Int32)) (by decide) (Nat.le_of_ble_eq_true rfl) ?_
  intro p e0 s0 m below meth c ls A hx hb hr hml htg hown hk hP hK hN hl hAe hsz hD hA
  have hl : lv_has ls 1 [(0, .ref c0)] := hl
  have hS : va_S A s0.heap s0.heap [] := va_S.rf
  have hRf : 1 ≤ ({ frames := 1, cells := 0, slots := 0, locals := 23 } : Room).frames := Nat.le_refl _
  have hRl : 23 ≤ ({ frames := 1, cells := 0, slots := 0, locals := 23 } : Room).locals := Nat.le_refl _
  have hCS : 0 ≤ ({ frames := 1, cells := 0, slots := 0, locals := 23 } : Room).cells ∧ 0 ≤ ({ frames := 1, cells := 0, slots := 0, locals := 23 } : Room).slots := ⟨Nat.zero_le _, Nat.zero_le _⟩
  refine lv_aload_n hx hb nd_CK_clear_0 rfl (lv_at hl 0 rfl) ?_
  refine va_get (D := D) (C := nr_CK) (T := nt_CK) (N := 3) hx hb htg tf_CK hown hK hP 0 rfl rfl 0 (by decide) (htg _ tm_65) (fun _ h => h) rfl nd_CK_clear_1 ?_
  refine wi_ic hx hb (a := 0) nd_CK_clear_4 ?_
  refine wd_Sv (n := 2) (X := [(c0, .inr (4, [.ref c3, .ref c1, .ref c2])), (c1, .inl (cI, 4, .inl cap)), (c2, .inl (cI, 4, .inl cnt))]) (Y := [(c3, .inl (cI, n, .inl cls))]) (Z := []) hx hb hml hown htg (c_AR_fill l D cI cG cM c3 n (by omega) cls (nI (0)) _) tm_99 tm_194 tm_98 tm_8 (by decide +kernel) ⟨⟨Nat.le_trans (by decide) hRf, Nat.le_trans (by decide) hRl⟩, rfl, rfl⟩ hP hD hS hA hK hN rfl hl.1 rfl (Nat.le_of_ble_eq_true rfl) nd_CK_clear_5 hCS (fun u5 H locs hp5 hP hD hS => ?_)
  have hP : va_P D cl_all ([(c0, .inr (4, [.ref c3, .ref c1, .ref c2])), (c1, .inl (cI, 4, .inl cap)), (c2, .inl (cI, 4, .inl cnt)), (c3, .inl (cI, n, .inl u5))]) H := hP
  have hD : va_D A ([(c0, .inr (4, [.ref c3, .ref c1, .ref c2])), (c1, .inl (cI, 4, .inl cap)), (c2, .inl (cI, 4, .inl cnt)), (c3, .inl (cI, n, .inl u5))]) := hD
  refine lv_aload_n hx hb nd_CK_clear_8 rfl (lv_at hl 0 rfl) ?_
  refine va_get (D := D) (C := nr_CK) (T := nt_CK) (N := 3) hx hb htg tf_CK hown hK hP 0 rfl rfl 1 (by decide) (htg _ tm_67) (fun _ h => h) rfl nd_CK_clear_9 ?_
  refine wi_ic hx hb (a := 0) nd_CK_clear_12 ?_
  refine wd_Sv (n := 2) (X := [(c0, .inr (4, [.ref c3, .ref c1, .ref c2]))]) (Y := [(c1, .inl (cI, 4, .inl cap))]) (Z := [(c2, .inl (cI, 4, .inl cnt)), (c3, .inl (cI, n, .inl u5))]) hx hb hml hown htg (c_AR_fill l D cI cG cM c1 4 (by omega) cap (nI (0)) _) tm_99 tm_194 tm_98 tm_8 (by decide +kernel) ⟨⟨Nat.le_trans (by decide) hRf, Nat.le_trans (by decide) hRl⟩, rfl, rfl⟩ hP hD hS hA hK hN rfl hl.1 rfl (Nat.le_of_ble_eq_true rfl) nd_CK_clear_13 hCS (fun u13 H locs hp13 hP hD hS => ?_)
  have hP : va_P D cl_all ([(c0, .inr (4, [.ref c3, .ref c1, .ref c2])), (c1, .inl (cI, 4, .inl u13)), (c2, .inl (cI, 4, .inl cnt)), (c3, .inl (cI, n, .inl u5))]) H := hP
  have hD : va_D A ([(c0, .inr (4, [.ref c3, .ref c1, .ref c2])), (c1, .inl (cI, 4, .inl u13)), (c2, .inl (cI, 4, .inl cnt)), (c3, .inl (cI, n, .inl u5))]) := hD
  exact wb_vret ((u5, u13)) hx hb hr hk hAe (⟨hp5, hp13⟩) hP hD hS nd_CK_clear_16
theorem nd_CK_findRank_0 : decode nc_CK_findRank 0 = .ok (.aload_n 0, 1) := by decide +kernel
theorem nd_CK_findRank_1 : decode nc_CK_findRank 1 = .ok (.getfield 15, 3) := by decide +kernel
theorem nd_CK_findRank_4 : decode nc_CK_findRank 4 = .ok (.iconst 0, 1) := by decide +kernel
theorem nd_CK_findRank_5 : decode nc_CK_findRank 5 = .ok (.invokestatic 21, 3) := by decide +kernel
theorem nd_CK_findRank_8 : decode nc_CK_findRank 8 = .ok (.iconst 0, 1) := by decide +kernel
theorem nd_CK_findRank_9 : decode nc_CK_findRank 9 = .ok (.istore_n 2, 1) := by decide +kernel
theorem nd_CK_findRank_10 : decode nc_CK_findRank 10 = .ok (.iload_n 2, 1) := by decide +kernel
theorem nd_CK_findRank_11 : decode nc_CK_findRank 11 = .ok (.aload_n 0, 1) := by decide +kernel
theorem nd_CK_findRank_12 : decode nc_CK_findRank 12 = .ok (.getfield 18, 3) := by decide +kernel
theorem nd_CK_findRank_15 : decode nc_CK_findRank 15 = .ok (.arraylength, 1) := by decide +kernel
theorem nd_CK_findRank_16 : decode nc_CK_findRank 16 = .ok (.if_icmp .ge 32, 3) := by decide +kernel
theorem nd_CK_findRank_19 : decode nc_CK_findRank 19 = .ok (.iload_n 1, 1) := by decide +kernel
theorem nd_CK_findRank_20 : decode nc_CK_findRank 20 = .ok (.iload_n 2, 1) := by decide +kernel
theorem nd_CK_findRank_21 : decode nc_CK_findRank 21 = .ok (.invokestatic 27, 3) := by decide +kernel
theorem nd_CK_findRank_24 : decode nc_CK_findRank 24 = .ok (.ifCond .eq 18, 3) := by decide +kernel
theorem nd_CK_findRank_27 : decode nc_CK_findRank 27 = .ok (.aload_n 0, 1) := by decide +kernel
theorem nd_CK_findRank_28 : decode nc_CK_findRank 28 = .ok (.getfield 15, 3) := by decide +kernel
theorem nd_CK_findRank_31 : decode nc_CK_findRank 31 = .ok (.aload_n 0, 1) := by decide +kernel
theorem nd_CK_findRank_32 : decode nc_CK_findRank 32 = .ok (.getfield 18, 3) := by decide +kernel
theorem nd_CK_findRank_35 : decode nc_CK_findRank 35 = .ok (.iload_n 2, 1) := by decide +kernel
theorem nd_CK_findRank_36 : decode nc_CK_findRank 36 = .ok (.iaload, 1) := by decide +kernel
theorem nd_CK_findRank_37 : decode nc_CK_findRank 37 = .ok (.dup2, 1) := by decide +kernel
theorem nd_CK_findRank_38 : decode nc_CK_findRank 38 = .ok (.iaload, 1) := by decide +kernel
theorem nd_CK_findRank_39 : decode nc_CK_findRank 39 = .ok (.iconst 1, 1) := by decide +kernel
theorem nd_CK_findRank_40 : decode nc_CK_findRank 40 = .ok (.iadd, 1) := by decide +kernel
theorem nd_CK_findRank_41 : decode nc_CK_findRank 41 = .ok (.iastore, 1) := by decide +kernel
theorem nd_CK_findRank_42 : decode nc_CK_findRank 42 = .ok (.iinc 2 1, 3) := by decide +kernel
theorem nd_CK_findRank_45 : decode nc_CK_findRank 45 = .ok (.goto (-35), 3) := by decide +kernel
theorem nd_CK_findRank_48 : decode nc_CK_findRank 48 = .ok (.iconst 0, 1) := by decide +kernel
theorem nd_CK_findRank_49 : decode nc_CK_findRank 49 = .ok (.istore_n 2, 1) := by decide +kernel
theorem nd_CK_findRank_50 : decode nc_CK_findRank 50 = .ok (.iconst 0, 1) := by decide +kernel
theorem nd_CK_findRank_51 : decode nc_CK_findRank 51 = .ok (.istore_n 3, 1) := by decide +kernel
theorem nd_CK_findRank_52 : decode nc_CK_findRank 52 = .ok (.iload_n 3, 1) := by decide +kernel
theorem nd_CK_findRank_53 : decode nc_CK_findRank 53 = .ok (.iconst 4, 1) := by decide +kernel
theorem nd_CK_findRank_54 : decode nc_CK_findRank 54 = .ok (.if_icmp .ge 27, 3) := by decide +kernel
theorem nd_CK_findRank_57 : decode nc_CK_findRank 57 = .ok (.iload_n 2, 1) := by decide +kernel
theorem nd_CK_findRank_58 : decode nc_CK_findRank 58 = .ok (.aload_n 0, 1) := by decide +kernel
theorem nd_CK_findRank_59 : decode nc_CK_findRank 59 = .ok (.getfield 15, 3) := by decide +kernel
theorem nd_CK_findRank_62 : decode nc_CK_findRank 62 = .ok (.iload_n 3, 1) := by decide +kernel
theorem nd_CK_findRank_63 : decode nc_CK_findRank 63 = .ok (.iaload, 1) := by decide +kernel
theorem nd_CK_findRank_64 : decode nc_CK_findRank 64 = .ok (.aload_n 0, 1) := by decide +kernel
theorem nd_CK_findRank_65 : decode nc_CK_findRank 65 = .ok (.getfield 9, 3) := by decide +kernel
theorem nd_CK_findRank_68 : decode nc_CK_findRank 68 = .ok (.iload_n 3, 1) := by decide +kernel
theorem nd_CK_findRank_69 : decode nc_CK_findRank 69 = .ok (.iaload, 1) := by decide +kernel
theorem nd_CK_findRank_70 : decode nc_CK_findRank 70 = .ok (.invokestatic 31, 3) := by decide +kernel
theorem nd_CK_findRank_73 : decode nc_CK_findRank 73 = .ok (.iadd, 1) := by decide +kernel
theorem nd_CK_findRank_74 : decode nc_CK_findRank 74 = .ok (.istore_n 2, 1) := by decide +kernel
theorem nd_CK_findRank_75 : decode nc_CK_findRank 75 = .ok (.iinc 3 1, 3) := by decide +kernel
theorem nd_CK_findRank_78 : decode nc_CK_findRank 78 = .ok (.goto (-26), 3) := by decide +kernel
theorem nd_CK_findRank_81 : decode nc_CK_findRank 81 = .ok (.iload_n 2, 1) := by decide +kernel
theorem nd_CK_findRank_82 : decode nc_CK_findRank 82 = .ok (.ireturn, 1) := by decide +kernel
set_option maxRecDepth 20000 in
theorem lp_CK_findRank_10 {p : Program} {l : Launch} {e0 : Env} {R : Room} {s0 : State} {m : MethodId} {args : Array Value} {below : List Frame} {meth : Method} {c : Code} {cells slots : Nat} {Q : State → Prop} {D : va_G} {A : Nat → Prop} (cI cG cM : ClassId) (c0 c1 c2 c3 n : Nat) (hn : n ≤ 10) (cls cap : Nat → Nat) (fc fk : Nat → Int32) (hc : ∀ e, e < n → fc e = nI (cls e)) (hc4 : ∀ e, e < n → cls e < 4) (hk4 : ∀ c, c < 4 → fk c = nI (cap c)) (hkb : ∀ c, c < 4 → cap c ≤ 10) (s : Nat) (hs : s < 1024)  (hx : p.tables.exec = Jvm.exec) (hb : c.code = nc_CK_findRank) (hml : c.maxLocals = 4) (htg : ∀ w ∈ tg_, w.before args s0 = true) (hown : s0.vm.findClass ny_CK_findRank.cls = some m.cls) (hK : va_K D cl_all (ty_all cI cG cM) s0) (hN : tn_K s0) (hA : ∀ q : Nat, s0.heap.size ≤ q → A q) (hRf : 1 ≤ R.frames) (hRl : 23 ≤ R.locals) (hCS : cells ≤ R.cells ∧ slots ≤ R.slots) (kx : ∀ (ls : Array Slot) (H : Heap) (locs : List Loc) (g : Nat → Int32), (∀ c, c < 4 → g c = nI (mt_cc cls c n s)) → lv_has ls 4 [(0, .ref c0), (1, .int (nI (s)))] → va_P D cl_all ([(c0, .inr (4, [.ref c3, .ref c1, .ref c2])), (c1, .inl (cI, 4, .inl fk)), (c2, .inl (cI, 4, .inl g)), (c3, .inl (cI, n, .inl fc))]) H → va_D A ([(c0, .inr (4, [.ref c3, .ref c1, .ref c2])), (c1, .inl (cI, 4, .inl fk)), (c2, .inl (cI, 4, .inl g)), (c3, .inl (cI, n, .inl fc))]) → va_S A s0.heap H locs → W p l e0 R s0 m args below meth c H locs cells slots Q (F0 m 48 ls [])) : ∀ (f : Nat) (e : Nat) (g : Nat → Int32) (ls : Array Slot) (H : Heap) (locs : List Loc), n - e < f → (e ≤ n) → (∀ c, c < 4 → g c = nI (mt_cc cls c e s)) → lv_has ls 4 [(2, .int (nI (e))), (0, .ref c0), (1, .int (nI (s)))] → va_P D cl_all ([(c0, .inr (4, [.ref c3, .ref c1, .ref c2])), (c1, .inl (cI, 4, .inl fk)), (c2, .inl (cI, 4, .inl g)), (c3, .inl (cI, n, .inl fc))]) H → va_D A ([(c0, .inr (4, [.ref c3, .ref c1, .ref c2])), (c1, .inl (cI, 4, .inl fk)), (c2, .inl (cI, 4, .inl g)), (c3, .inl (cI, n, .inl fc))]) → va_S A s0.heap H locs → W p l e0 R s0 m args below meth c H locs cells slots Q (F0 m 10 ls []) := by
  intro f
  induction f with
  | zero => intro e g ls H locs hfu; omega
  | succ f ih =>
    intro e g ls H locs hfu he hn4 hl hP hD hS
    refine lv_iload_n hx hb nd_CK_findRank_10 rfl (lv_at hl 0 rfl) ?_
    refine lv_aload_n hx hb nd_CK_findRank_11 rfl (lv_at hl 1 rfl) ?_
    refine va_get (D := D) (C := nr_CK) (T := nt_CK) (N := 3) hx hb htg tf_CK hown hK hP 0 rfl rfl 0 (by decide) (htg _ tm_65) (fun _ h => h) rfl nd_CK_findRank_12 ?_
    refine va_alen (v := nI (n)) hx hb hK hP 3 0 rfl rfl rfl nd_CK_findRank_15 ?_
    refine wi_icmp_ge (tgt := 48) hx hb (by omega) (by omega) nd_CK_findRank_16 rfl (fun hc16 => ?_) (fun hc16 => ?_)
    · have hl : lv_has ls 4 [(0, .ref c0), (1, .int (nI (s)))] := lv_sub hl [1, 2] rfl
      have hin : e = n := by omega
      exact kx ls H locs g (by simpa only [hin] using hn4) hl hP hD hS
    · have hce := hc4 e (by omega)
      refine lv_iload_n hx hb nd_CK_findRank_19 rfl (lv_at hl 2 rfl) ?_
      refine lv_iload_n hx hb nd_CK_findRank_20 rfl (lv_at hl 0 rfl) ?_
      refine wc_SN (n := 2) hx hb hml hown htg (c_CB_has l D _ s e (by omega) (by omega)) tm_272 (tn_270 hN) tm_271 tm_1 (by decide +kernel) ⟨⟨Nat.le_trans (by decide) hRf, Nat.le_trans (by decide) hRl⟩, rfl, rfl⟩ (wa_pre wa_nil hK hN) rfl hl.1 rfl (Nat.le_of_ble_eq_true rfl) nd_CK_findRank_21 hCS ?_
      have hbt21 := mt_bt_lt s e
      refine wi_if_eq (tgt := 42) hx hb (by omega) nd_CK_findRank_24 rfl (fun hc24 => ?_) (fun hc24 => ?_)
      · refine lv_iinc (k := 0) (v := nI (e + 1)) hx hb nd_CK_findRank_42 hl rfl (wi_inc _ 1) (by decide) rfl (fun ls hl => ?_)
        have hl : lv_has ls 4 [(2, .int (nI (e + 1))), (0, .ref c0), (1, .int (nI (s)))] := hl
        refine lv_goto (tgt := 10) hx hb nd_CK_findRank_45 rfl ?_
        have hl : lv_has ls 4 [(2, .int (nI (e + 1))), (0, .ref c0), (1, .int (nI (s)))] := lv_sub hl [0, 1, 2] rfl
        exact ih (e + 1) g ls H locs (by omega) (by omega) (fun c h4 => by rw [hn4 c h4, mt_cc_bt]; simp [hc24]) hl hP hD hS
      · have hbe : mt_bt s e = 1 := by omega
        refine lv_aload_n hx hb nd_CK_findRank_27 rfl (lv_at hl 1 rfl) ?_
        refine va_get (D := D) (C := nr_CK) (T := nt_CK) (N := 3) hx hb htg tf_CK hown hK hP 0 rfl rfl 2 (by decide) (htg _ tm_69) (fun _ h => h) rfl nd_CK_findRank_28 ?_
        refine lv_aload_n hx hb nd_CK_findRank_31 rfl (lv_at hl 1 rfl) ?_
        refine va_get (D := D) (C := nr_CK) (T := nt_CK) (N := 3) hx hb htg tf_CK hown hK hP 0 rfl rfl 0 (by decide) (htg _ tm_65) (fun _ h => h) rfl nd_CK_findRank_32 ?_
        refine lv_iload_n hx hb nd_CK_findRank_35 rfl (lv_at hl 0 rfl) ?_
        refine wi_iald hx hb hK hP 3 0 rfl rfl (by omega) (by omega) nd_CK_findRank_36 ?_
        refine wi_top (hc e (by omega)) ?_
        refine lv_dup2_11 hx hb nd_CK_findRank_37 rfl rfl ?_
        refine wi_iald hx hb hK hP 2 0 rfl rfl (by omega) (by omega) nd_CK_findRank_38 ?_
        refine wi_top (hn4 (cls e) (by omega)) ?_
        refine wi_ic hx hb (a := 1) nd_CK_findRank_39 ?_
        refine wi_iadd hx hb nd_CK_findRank_40 ?_
        refine wi_iast hx hb hK hP hD hS 2 0 rfl rfl (by omega) (by omega) nd_CK_findRank_41 (fun H locs hP hD hS => ?_)
        have hP : va_P D cl_all ([(c0, .inr (4, [.ref c3, .ref c1, .ref c2])), (c1, .inl (cI, 4, .inl fk)), (c2, .inl (cI, 4, .inl (upd g (cls e) (nI ((mt_cc cls (cls e) e s) + 1))))), (c3, .inl (cI, n, .inl fc))]) H := hP
        have hD : va_D A ([(c0, .inr (4, [.ref c3, .ref c1, .ref c2])), (c1, .inl (cI, 4, .inl fk)), (c2, .inl (cI, 4, .inl (upd g (cls e) (nI ((mt_cc cls (cls e) e s) + 1))))), (c3, .inl (cI, n, .inl fc))]) := hD
        refine lv_iinc (k := 0) (v := nI (e + 1)) hx hb nd_CK_findRank_42 hl rfl (wi_inc _ 1) (by decide) rfl (fun ls hl => ?_)
        have hl : lv_has ls 4 [(2, .int (nI (e + 1))), (0, .ref c0), (1, .int (nI (s)))] := hl
        refine lv_goto (tgt := 10) hx hb nd_CK_findRank_45 rfl ?_
        have hl : lv_has ls 4 [(2, .int (nI (e + 1))), (0, .ref c0), (1, .int (nI (s)))] := lv_sub hl [0, 1, 2] rfl
        exact ih (e + 1) _ ls H locs (by omega) (by omega) (fun c h4 => by rw [mt_cc_bt]; by_cases q : c = cls e <;> simp [upd, q, hbe]; rw [hn4 c h4]; simp [show ¬ cls e = c from fun z => q z.symm]) hl hP hD hS
set_option maxRecDepth 20000 in
theorem lp_CK_findRank_52 {p : Program} {l : Launch} {e0 : Env} {R : Room} {s0 : State} {m : MethodId} {args : Array Value} {below : List Frame} {meth : Method} {c : Code} {H : Heap} {locs : List Loc} {cells slots : Nat} {Q : State → Prop} {D : va_G} (cI cG cM : ClassId) (c0 c1 c2 c3 n : Nat) (hn : n ≤ 10) (cls cap : Nat → Nat) (fc fk : Nat → Int32) (hc : ∀ e, e < n → fc e = nI (cls e)) (hc4 : ∀ e, e < n → cls e < 4) (hk4 : ∀ c, c < 4 → fk c = nI (cap c)) (hkb : ∀ c, c < 4 → cap c ≤ 10) (s : Nat) (hs : s < 1024) (g : Nat → Int32) (hn4 : ∀ c, c < 4 → g c = nI (mt_cc cls c n s))  (hx : p.tables.exec = Jvm.exec) (hb : c.code = nc_CK_findRank) (hml : c.maxLocals = 4) (htg : ∀ w ∈ tg_, w.before args s0 = true) (hown : s0.vm.findClass ny_CK_findRank.cls = some m.cls) (hK : va_K D cl_all (ty_all cI cG cM) s0) (hN : tn_K s0) (hP : va_P D cl_all ([(c0, .inr (4, [.ref c3, .ref c1, .ref c2])), (c1, .inl (cI, 4, .inl fk)), (c2, .inl (cI, 4, .inl g)), (c3, .inl (cI, n, .inl fc))]) H) (hRf : 1 ≤ R.frames) (hRl : 23 ≤ R.locals) (hCS : cells ≤ R.cells ∧ slots ≤ R.slots) (kx : ∀ (ls : Array Slot), lv_has ls 4 [(2, .int (nI (mt_C n cls cap s)))] → W p l e0 R s0 m args below meth c H locs cells slots Q (F0 m 81 ls [])) : ∀ (f : Nat) (i : Nat) (ls : Array Slot), 4 - i < f → (i ≤ 4) → lv_has ls 4 [(3, .int (nI (i))), (2, .int (nI (ms_S (fun c => min (mt_cc cls c n s) (cap c)) i))), (0, .ref c0)] → W p l e0 R s0 m args below meth c H locs cells slots Q (F0 m 52 ls []) := by
  intro f
  induction f with
  | zero => intro i ls hfu; omega
  | succ f ih =>
    intro i ls hfu hi hl
    refine lv_iload_n hx hb nd_CK_findRank_52 rfl (lv_at hl 0 rfl) ?_
    refine wi_ic hx hb (a := 4) nd_CK_findRank_53 ?_
    refine wi_icmp_ge (tgt := 81) hx hb (by omega) (by omega) nd_CK_findRank_54 rfl (fun hc54 => ?_) (fun hc54 => ?_)
    · have hl : lv_has ls 4 [(2, .int (nI (ms_S (fun c => min (mt_cc cls c n s) (cap c)) i)))] := lv_sub hl [1] rfl
      have hin : i = 4 := by omega
      exact kx ls (by rw [← ms_S4]; simpa only [hin] using hl)
    · have hkb2 := hkb i (by omega)
      have hcb2 := mt_cc_le cls i n s
      refine lv_iload_n hx hb nd_CK_findRank_57 rfl (lv_at hl 1 rfl) ?_
      refine lv_aload_n hx hb nd_CK_findRank_58 rfl (lv_at hl 2 rfl) ?_
      refine va_get (D := D) (C := nr_CK) (T := nt_CK) (N := 3) hx hb htg tf_CK hown hK hP 0 rfl rfl 2 (by decide) (htg _ tm_69) (fun _ h => h) rfl nd_CK_findRank_59 ?_
      refine lv_iload_n hx hb nd_CK_findRank_62 rfl (lv_at hl 0 rfl) ?_
      refine wi_iald hx hb hK hP 2 0 rfl rfl (by omega) (by omega) nd_CK_findRank_63 ?_
      refine wi_top (hn4 i (by omega)) ?_
      refine lv_aload_n hx hb nd_CK_findRank_64 rfl (lv_at hl 2 rfl) ?_
      refine va_get (D := D) (C := nr_CK) (T := nt_CK) (N := 3) hx hb htg tf_CK hown hK hP 0 rfl rfl 1 (by decide) (htg _ tm_67) (fun _ h => h) rfl nd_CK_findRank_65 ?_
      refine lv_iload_n hx hb nd_CK_findRank_68 rfl (lv_at hl 0 rfl) ?_
      refine wi_iald hx hb hK hP 1 0 rfl rfl (by omega) (by omega) nd_CK_findRank_69 ?_
      refine wi_top (hk4 i (by omega)) ?_
      refine va_mmin hx hb (hml.trans hl.1.symm) hown (htg _ tm_273) (htg _ tm_274) (htg _ tm_10) (htg _ tm_275) (Nat.le_trans (by decide) hRf) (Nat.le_trans (Nat.le_of_ble_eq_true rfl) hRl) hCS.1 hCS.2 nd_CK_findRank_70 ?_
      refine wi_top (wi_min (mt_cc cls i n s) (cap i) (by omega) (by omega)) ?_
      refine wi_iadd hx hb nd_CK_findRank_73 ?_
      refine lv_istore_n hx hb nd_CK_findRank_74 rfl hl (by decide) rfl (fun ls hl => ?_)
      have hl : lv_has ls 4 [(2, .int (nI ((ms_S (fun c => min (mt_cc cls c n s) (cap c)) i) + (min (mt_cc cls i n s) (cap i))))), (3, .int (nI (i))), (0, .ref c0)] := hl
      refine lv_iinc (k := 1) (v := nI (i + 1)) hx hb nd_CK_findRank_75 hl rfl (wi_inc _ 1) (by decide) rfl (fun ls hl => ?_)
      have hl : lv_has ls 4 [(3, .int (nI (i + 1))), (2, .int (nI ((ms_S (fun c => min (mt_cc cls c n s) (cap c)) i) + (min (mt_cc cls i n s) (cap i))))), (0, .ref c0)] := hl
      refine lv_goto (tgt := 52) hx hb nd_CK_findRank_78 rfl ?_
      have hl : lv_has ls 4 [(3, .int (nI (i + 1))), (2, .int (nI ((ms_S (fun c => min (mt_cc cls c n s) (cap c)) i) + (min (mt_cc cls i n s) (cap i))))), (0, .ref c0)] := lv_sub hl [0, 1, 2] rfl
      exact ih _ ls (by omega) (by omega) hl
set_option maxRecDepth 20000 in
theorem c_CK_findRank (l : Launch) (D : va_G) (cI cG cM : ClassId)  (c0 c1 c2 c3 n : Nat) (hn : n ≤ 10) (cnt : Nat → Int32) (cls cap : Nat → Nat) (fc fk : Nat → Int32) (hc : ∀ e, e < n → fc e = nI (cls e)) (hc4 : ∀ e, e < n → cls e < 4) (hk4 : ∀ c, c < 4 → fk c = nI (cap c)) (hkb : ∀ c, c < 4 → cap c ≤ 10) (s : Nat) (hs : s < 1024)  (sz : Nat) : wb_Mi l ny_CK_findRank nc_CK_findRank 4 (some .int) ({ frames := 1, cells := 0, slots := 0, locals := 23 }) D (ty_all cI cG cM) ([(c0, .inr (4, [.ref c3, .ref c1, .ref c2])), (c1, .inl (cI, 4, .inl fk)), (c2, .inl (cI, 4, .inl cnt)), (c3, .inl (cI, n, .inl fc))]) sz [.ref c0, .int (nI (s))] (fun (v : Int32) (u : Nat → Int32) => v = nI (mt_C n cls cap s)) (fun u : Nat → Int32 => [(c0, .inr (4, [.ref c3, .ref c1, .ref c2])), (c1, .inl (cI, 4, .inl fk)), (c2, .inl (cI, 4, .inl u)), (c3, .inl (cI, n, .inl fc))]) := by
  refine wb_start (S := Nat → Int32) (by decide) (Nat.le_of_ble_eq_true rfl) ?_
  intro p e0 s0 m below meth c ls A hx hb hr hml htg hown hk hP hK hN hl hAe hsz hD hA
  have hl : lv_has ls 4 [(0, .ref c0), (1, .int (nI (s)))] := hl
  have hS : va_S A s0.heap s0.heap [] := va_S.rf
  have hRf : 1 ≤ ({ frames := 1, cells := 0, slots := 0, locals := 23 } : Room).frames := Nat.le_refl _
  have hRl : 23 ≤ ({ frames := 1, cells := 0, slots := 0, locals := 23 } : Room).locals := Nat.le_refl _
  have hCS : 0 ≤ ({ frames := 1, cells := 0, slots := 0, locals := 23 } : Room).cells ∧ 0 ≤ ({ frames := 1, cells := 0, slots := 0, locals := 23 } : Room).slots := ⟨Nat.zero_le _, Nat.zero_le _⟩
  refine lv_aload_n hx hb nd_CK_findRank_0 rfl (lv_at hl 0 rfl) ?_
  refine va_get (D := D) (C := nr_CK) (T := nt_CK) (N := 3) hx hb htg tf_CK hown hK hP 0 rfl rfl 2 (by decide) (htg _ tm_69) (fun _ h => h) rfl nd_CK_findRank_1 ?_
  refine wi_ic hx hb (a := 0) nd_CK_findRank_4 ?_
  refine wd_Sv (n := 2) (X := [(c0, .inr (4, [.ref c3, .ref c1, .ref c2])), (c1, .inl (cI, 4, .inl fk))]) (Y := [(c2, .inl (cI, 4, .inl cnt))]) (Z := [(c3, .inl (cI, n, .inl fc))]) hx hb hml hown htg (c_AR_fill l D cI cG cM c2 4 (by omega) cnt (nI (0)) _) tm_99 tm_194 tm_98 tm_8 (by decide +kernel) ⟨⟨Nat.le_trans (by decide) hRf, Nat.le_trans (by decide) hRl⟩, rfl, rfl⟩ hP hD hS hA hK hN rfl hl.1 rfl (Nat.le_of_ble_eq_true rfl) nd_CK_findRank_5 hCS (fun u5 H locs hp5 hP hD hS => ?_)
  have hP : va_P D cl_all ([(c0, .inr (4, [.ref c3, .ref c1, .ref c2])), (c1, .inl (cI, 4, .inl fk)), (c2, .inl (cI, 4, .inl u5)), (c3, .inl (cI, n, .inl fc))]) H := hP
  have hD : va_D A ([(c0, .inr (4, [.ref c3, .ref c1, .ref c2])), (c1, .inl (cI, 4, .inl fk)), (c2, .inl (cI, 4, .inl u5)), (c3, .inl (cI, n, .inl fc))]) := hD
  refine wi_ic hx hb (a := 0) nd_CK_findRank_8 ?_
  refine lv_istore_n hx hb nd_CK_findRank_9 rfl hl (by decide) rfl (fun ls hl => ?_)
  have hl : lv_has ls 4 [(2, .int (nI (0))), (0, .ref c0), (1, .int (nI (s)))] := hl
  have hl : lv_has ls 4 [(2, .int (nI (0))), (0, .ref c0), (1, .int (nI (s)))] := lv_sub hl [0, 1, 2] rfl
  refine lp_CK_findRank_10 cI cG cM c0 c1 c2 c3 n hn cls cap fc fk hc hc4 hk4 hkb s hs hx hb hml htg hown hK hN hA hRf hRl hCS (fun ls H locs g hn4 hl hP hD hS => ?_) (n + 1) 0 u5 ls H locs (by omega) (by omega) (fun c h4 => hp5 c h4) hl hP hD hS
  refine wi_ic hx hb (a := 0) nd_CK_findRank_48 ?_
  refine lv_istore_n hx hb nd_CK_findRank_49 rfl hl (by decide) rfl (fun ls hl => ?_)
  have hl : lv_has ls 4 [(2, .int (nI (0))), (0, .ref c0), (1, .int (nI (s)))] := hl
  refine wi_ic hx hb (a := 0) nd_CK_findRank_50 ?_
  refine lv_istore_n hx hb nd_CK_findRank_51 rfl hl (by decide) rfl (fun ls hl => ?_)
  have hl : lv_has ls 4 [(3, .int (nI (0))), (2, .int (nI (0))), (0, .ref c0), (1, .int (nI (s)))] := hl
  have hl : lv_has ls 4 [(3, .int (nI (0))), (2, .int (nI (0))), (0, .ref c0)] := lv_sub hl [0, 1, 2] rfl
  refine lp_CK_findRank_52 cI cG cM c0 c1 c2 c3 n hn cls cap fc fk hc hc4 hk4 hkb s hs g hn4 hx hb hml htg hown hK hN hP hRf hRl hCS (fun ls hl => ?_) 5 0 ls (by omega) (by omega) hl
  refine lv_iload_n hx hb nd_CK_findRank_81 rfl (lv_at hl 0 rfl) ?_
  exact wb_iret (g) hx hb hr hk hAe (rfl) hP hD hS nd_CK_findRank_82
