/-! GRAPHIC and CLASSES: their ranks; clearing. -/
theorem mg_s0 {fr to : Nat → Nat} {k s : Nat} (h : mt_bt s k = 0) : mg_gl fr to (k + 1) s = mg_gl fr to k s := by
  simp only [mg_gl]
  rw [if_neg (fun q => by rw [mt_bt_f.mp h] at q; cases q.1)]
theorem mg_s1 {fr to : Nat → Nat} {k s : Nat} (h : (mg_gl fr to k s).1 (fr k) = (mg_gl fr to k s).1 (to k)) : mg_gl fr to (k + 1) s = mg_gl fr to k s := by
  simp only [mg_gl]
  rw [if_neg (fun q => q.2 h)]
theorem mg_s2 {fr to : Nat → Nat} {k s : Nat} (hb : ¬ mt_bt s k = 0) (h : ¬ (mg_gl fr to k s).1 (fr k) = (mg_gl fr to k s).1 (to k)) : mg_gl fr to (k + 1) s = (fun v => if (mg_gl fr to k s).1 v = (mg_gl fr to k s).1 (to k) then (mg_gl fr to k s).1 (fr k) else (mg_gl fr to k s).1 v, (mg_gl fr to k s).2 + 1) := by
  simp only [mg_gl]
  rw [if_pos ⟨mt_bt_n.mp hb, h⟩]
theorem mt_cc_bt (cls : Nat → Nat) (c k s : Nat) : mt_cc cls c (k + 1) s = mt_cc cls c k s + (if mt_bt s k = 1 ∧ cls k = c then 1 else 0) := by
  simp only [mt_cc, mt_bt_t]
def ms_S (a : Nat → Nat) : Nat → Nat
  | 0 => 0
  | k + 1 => ms_S a k + a k
theorem ms_S4 (n : Nat) (cls cap : Nat → Nat) (s : Nat) : ms_S (fun c => min (mt_cc cls c n s) (cap c)) 4 = mt_C n cls cap s := by
  simp only [ms_S, mt_C]
  omega
theorem mt_cc_le (cls : Nat → Nat) (c n s : Nat) : mt_cc cls c n s ≤ n := by
  induction n with
  | zero => exact Nat.le_refl _
  | succ k ih => simp only [mt_cc]; split <;> omega
theorem nd_GK_findRank_0 : decode nc_GK_findRank 0 = .ok (.iconst 0, 1) := by decide +kernel
theorem nd_GK_findRank_1 : decode nc_GK_findRank 1 = .ok (.istore_n 2, 1) := by decide +kernel
theorem nd_GK_findRank_2 : decode nc_GK_findRank 2 = .ok (.iload_n 2, 1) := by decide +kernel
theorem nd_GK_findRank_3 : decode nc_GK_findRank 3 = .ok (.bipush 8, 2) := by decide +kernel
theorem nd_GK_findRank_5 : decode nc_GK_findRank 5 = .ok (.if_icmp .ge 16, 3) := by decide +kernel
theorem nd_GK_findRank_8 : decode nc_GK_findRank 8 = .ok (.aload_n 0, 1) := by decide +kernel
theorem nd_GK_findRank_9 : decode nc_GK_findRank 9 = .ok (.getfield 9, 3) := by decide +kernel
theorem nd_GK_findRank_12 : decode nc_GK_findRank 12 = .ok (.iload_n 2, 1) := by decide +kernel
theorem nd_GK_findRank_13 : decode nc_GK_findRank 13 = .ok (.iload_n 2, 1) := by decide +kernel
theorem nd_GK_findRank_14 : decode nc_GK_findRank 14 = .ok (.iastore, 1) := by decide +kernel
theorem nd_GK_findRank_15 : decode nc_GK_findRank 15 = .ok (.iinc 2 1, 3) := by decide +kernel
theorem nd_GK_findRank_18 : decode nc_GK_findRank 18 = .ok (.goto (-16), 3) := by decide +kernel
theorem nd_GK_findRank_21 : decode nc_GK_findRank 21 = .ok (.iconst 0, 1) := by decide +kernel
theorem nd_GK_findRank_22 : decode nc_GK_findRank 22 = .ok (.istore_n 2, 1) := by decide +kernel
theorem nd_GK_findRank_23 : decode nc_GK_findRank 23 = .ok (.iconst 0, 1) := by decide +kernel
theorem nd_GK_findRank_24 : decode nc_GK_findRank 24 = .ok (.istore_n 3, 1) := by decide +kernel
theorem nd_GK_findRank_25 : decode nc_GK_findRank 25 = .ok (.iload_n 3, 1) := by decide +kernel
theorem nd_GK_findRank_26 : decode nc_GK_findRank 26 = .ok (.aload_n 0, 1) := by decide +kernel
theorem nd_GK_findRank_27 : decode nc_GK_findRank 27 = .ok (.getfield 17, 3) := by decide +kernel
theorem nd_GK_findRank_30 : decode nc_GK_findRank 30 = .ok (.arraylength, 1) := by decide +kernel
theorem nd_GK_findRank_31 : decode nc_GK_findRank 31 = .ok (.if_icmp .ge 53, 3) := by decide +kernel
theorem nd_GK_findRank_34 : decode nc_GK_findRank 34 = .ok (.iload_n 1, 1) := by decide +kernel
theorem nd_GK_findRank_35 : decode nc_GK_findRank 35 = .ok (.iload_n 3, 1) := by decide +kernel
theorem nd_GK_findRank_36 : decode nc_GK_findRank 36 = .ok (.invokestatic 26, 3) := by decide +kernel
theorem nd_GK_findRank_39 : decode nc_GK_findRank 39 = .ok (.ifCond .eq 39, 3) := by decide +kernel
theorem nd_GK_findRank_42 : decode nc_GK_findRank 42 = .ok (.aload_n 0, 1) := by decide +kernel
theorem nd_GK_findRank_43 : decode nc_GK_findRank 43 = .ok (.aload_n 0, 1) := by decide +kernel
theorem nd_GK_findRank_44 : decode nc_GK_findRank 44 = .ok (.getfield 9, 3) := by decide +kernel
theorem nd_GK_findRank_47 : decode nc_GK_findRank 47 = .ok (.aload_n 0, 1) := by decide +kernel
theorem nd_GK_findRank_48 : decode nc_GK_findRank 48 = .ok (.getfield 17, 3) := by decide +kernel
theorem nd_GK_findRank_51 : decode nc_GK_findRank 51 = .ok (.iload_n 3, 1) := by decide +kernel
theorem nd_GK_findRank_52 : decode nc_GK_findRank 52 = .ok (.aaload, 1) := by decide +kernel
theorem nd_GK_findRank_53 : decode nc_GK_findRank 53 = .ok (.iconst 0, 1) := by decide +kernel
theorem nd_GK_findRank_54 : decode nc_GK_findRank 54 = .ok (.iaload, 1) := by decide +kernel
theorem nd_GK_findRank_55 : decode nc_GK_findRank 55 = .ok (.iaload, 1) := by decide +kernel
theorem nd_GK_findRank_56 : decode nc_GK_findRank 56 = .ok (.aload_n 0, 1) := by decide +kernel
theorem nd_GK_findRank_57 : decode nc_GK_findRank 57 = .ok (.getfield 9, 3) := by decide +kernel
theorem nd_GK_findRank_60 : decode nc_GK_findRank 60 = .ok (.aload_n 0, 1) := by decide +kernel
theorem nd_GK_findRank_61 : decode nc_GK_findRank 61 = .ok (.getfield 17, 3) := by decide +kernel
theorem nd_GK_findRank_64 : decode nc_GK_findRank 64 = .ok (.iload_n 3, 1) := by decide +kernel
theorem nd_GK_findRank_65 : decode nc_GK_findRank 65 = .ok (.aaload, 1) := by decide +kernel
theorem nd_GK_findRank_66 : decode nc_GK_findRank 66 = .ok (.iconst 1, 1) := by decide +kernel
theorem nd_GK_findRank_67 : decode nc_GK_findRank 67 = .ok (.iaload, 1) := by decide +kernel
theorem nd_GK_findRank_68 : decode nc_GK_findRank 68 = .ok (.iaload, 1) := by decide +kernel
theorem nd_GK_findRank_69 : decode nc_GK_findRank 69 = .ok (.invokevirtual 30, 3) := by decide +kernel
theorem nd_GK_findRank_72 : decode nc_GK_findRank 72 = .ok (.ifCond .eq 6, 3) := by decide +kernel
theorem nd_GK_findRank_75 : decode nc_GK_findRank 75 = .ok (.iinc 2 1, 3) := by decide +kernel
theorem nd_GK_findRank_78 : decode nc_GK_findRank 78 = .ok (.iinc 3 1, 3) := by decide +kernel
theorem nd_GK_findRank_81 : decode nc_GK_findRank 81 = .ok (.goto (-56), 3) := by decide +kernel
theorem nd_GK_findRank_84 : decode nc_GK_findRank 84 = .ok (.iload_n 2, 1) := by decide +kernel
theorem nd_GK_findRank_85 : decode nc_GK_findRank 85 = .ok (.ireturn, 1) := by decide +kernel
set_option maxRecDepth 20000 in
theorem lp_GK_findRank_2 {p : Program} {l : Launch} {e0 : Env} {R : Room} {s0 : State} {m : MethodId} {args : Array Value} {below : List Frame} {meth : Method} {c : Code} {cells slots : Nat} {Q : State → Prop} {D : va_G} {A : Nat → Prop} (cI cG cM : ClassId) (g0 g1 g2 n : Nat) (hn : n ≤ 10) (re : Nat → Nat) (E : Nat → Nat → Int32) (s : Nat)  (hx : p.tables.exec = Jvm.exec) (hb : c.code = nc_GK_findRank) (hml : c.maxLocals = 4) (htg : ∀ w ∈ tg_, w.before args s0 = true) (hown : s0.vm.findClass ny_GK_findRank.cls = some m.cls) (hK : va_K D cl_all (ty_all cI cG cM) s0) (hN : tn_K s0) (hA : ∀ q : Nat, s0.heap.size ≤ q → A q) (hRf : 1 ≤ R.frames) (hRl : 23 ≤ R.locals) (hCS : cells ≤ R.cells ∧ slots ≤ R.slots) (kx : ∀ (ls : Array Slot) (H : Heap) (locs : List Loc) (g : Nat → Int32), (∀ j, j < 8 → g j = nI j) → lv_has ls 4 [(0, .ref g0), (1, .int (nI (s)))] → va_P D cl_all ([(g0, .inr (3, [.ref g2, .ref g1])), (g1, .inl (cI, 8, .inl g)), (g2, .inl (cG, n, .inr (.inr (.inr (.inr (fun i => if i < n then some (re i) else none))))))] ++ (rw_R cI 2 re E n ++ [])) H → va_D A ([(g0, .inr (3, [.ref g2, .ref g1])), (g1, .inl (cI, 8, .inl g)), (g2, .inl (cG, n, .inr (.inr (.inr (.inr (fun i => if i < n then some (re i) else none))))))] ++ (rw_R cI 2 re E n ++ [])) → va_S A s0.heap H locs → W p l e0 R s0 m args below meth c H locs cells slots Q (F0 m 21 ls [])) : ∀ (f : Nat) (i : Nat) (g : Nat → Int32) (ls : Array Slot) (H : Heap) (locs : List Loc), 8 - i < f → (i ≤ 8) → (∀ j, j < i → g j = nI j) → lv_has ls 4 [(2, .int (nI (i))), (0, .ref g0), (1, .int (nI (s)))] → va_P D cl_all ([(g0, .inr (3, [.ref g2, .ref g1])), (g1, .inl (cI, 8, .inl g)), (g2, .inl (cG, n, .inr (.inr (.inr (.inr (fun i => if i < n then some (re i) else none))))))] ++ (rw_R cI 2 re E n ++ [])) H → va_D A ([(g0, .inr (3, [.ref g2, .ref g1])), (g1, .inl (cI, 8, .inl g)), (g2, .inl (cG, n, .inr (.inr (.inr (.inr (fun i => if i < n then some (re i) else none))))))] ++ (rw_R cI 2 re E n ++ [])) → va_S A s0.heap H locs → W p l e0 R s0 m args below meth c H locs cells slots Q (F0 m 2 ls []) := by
  intro f
  induction f with
  | zero => intro i g ls H locs hfu; omega
  | succ f ih =>
    intro i g ls H locs hfu hi hg hl hP hD hS
    refine lv_iload_n hx hb nd_GK_findRank_2 rfl (lv_at hl 0 rfl) ?_
    refine lv_bipush (v := nI 8) hx hb nd_GK_findRank_3 (by decide) ?_
    refine wi_icmp_ge (tgt := 21) hx hb (by omega) (by omega) nd_GK_findRank_5 rfl (fun hc5 => ?_) (fun hc5 => ?_)
    · have hl : lv_has ls 4 [(0, .ref g0), (1, .int (nI (s)))] := lv_sub hl [1, 2] rfl
      exact kx ls H locs g (fun j hj => hg j (by omega)) hl hP hD hS
    · refine lv_aload_n hx hb nd_GK_findRank_8 rfl (lv_at hl 1 rfl) ?_
      refine va_get (D := D) (C := nr_GK) (T := nt_GK) (N := 2) hx hb htg tf_GK hown hK hP 0 rfl rfl 1 (by decide) (htg _ tm_53) (fun _ h => h) rfl nd_GK_findRank_9 ?_
      refine lv_iload_n hx hb nd_GK_findRank_12 rfl (lv_at hl 0 rfl) ?_
      refine lv_iload_n hx hb nd_GK_findRank_13 rfl (lv_at hl 0 rfl) ?_
      refine wi_iast hx hb hK hP hD hS 1 0 rfl rfl (by omega) (by omega) nd_GK_findRank_14 (fun H locs hP hD hS => ?_)
      have hP : va_P D cl_all ([(g0, .inr (3, [.ref g2, .ref g1])), (g1, .inl (cI, 8, .inl (upd g i (nI (i))))), (g2, .inl (cG, n, .inr (.inr (.inr (.inr (fun i => if i < n then some (re i) else none))))))] ++ (rw_R cI 2 re E n ++ [])) H := hP
      have hD : va_D A ([(g0, .inr (3, [.ref g2, .ref g1])), (g1, .inl (cI, 8, .inl (upd g i (nI (i))))), (g2, .inl (cG, n, .inr (.inr (.inr (.inr (fun i => if i < n then some (re i) else none))))))] ++ (rw_R cI 2 re E n ++ [])) := hD
      refine lv_iinc (k := 0) (v := nI (i + 1)) hx hb nd_GK_findRank_15 hl rfl (wi_inc _ 1) (by decide) rfl (fun ls hl => ?_)
      have hl : lv_has ls 4 [(2, .int (nI (i + 1))), (0, .ref g0), (1, .int (nI (s)))] := hl
      refine lv_goto (tgt := 2) hx hb nd_GK_findRank_18 rfl ?_
      have hl : lv_has ls 4 [(2, .int (nI (i + 1))), (0, .ref g0), (1, .int (nI (s)))] := lv_sub hl [0, 1, 2] rfl
      exact ih (i + 1) (upd g i (nI i)) ls H locs (by omega) (by omega) (fun j hj => by by_cases q : j = i <;> simp [upd, q]; exact hg j (by omega)) hl hP hD hS
set_option maxRecDepth 20000 in
theorem lp_GK_findRank_25 {p : Program} {l : Launch} {e0 : Env} {R : Room} {s0 : State} {m : MethodId} {args : Array Value} {below : List Frame} {meth : Method} {c : Code} {cells slots : Nat} {Q : State → Prop} {D : va_G} {A : Nat → Prop} (cI cG cM : ClassId) (g0 g1 g2 n : Nat) (hn : n ≤ 10) (re : Nat → Nat) (E : Nat → Nat → Int32) (fr to : Nat → Nat) (hE : ∀ e, e < n → E e 0 = nI (fr e) ∧ E e 1 = nI (to e)) (hf : ∀ i, i < n → fr i < 8 ∧ to i < 8) (s : Nat) (hs : s < 1024)  (hx : p.tables.exec = Jvm.exec) (hb : c.code = nc_GK_findRank) (hml : c.maxLocals = 4) (htg : ∀ w ∈ tg_, w.before args s0 = true) (hown : s0.vm.findClass ny_GK_findRank.cls = some m.cls) (hK : va_K D cl_all (ty_all cI cG cM) s0) (hN : tn_K s0) (hA : ∀ q : Nat, s0.heap.size ≤ q → A q) (hRf : 1 ≤ R.frames) (hRl : 23 ≤ R.locals) (hCS : cells ≤ R.cells ∧ slots ≤ R.slots) (kx : ∀ (ls : Array Slot) (H : Heap) (locs : List Loc) (g : Nat → Int32), lv_has ls 4 [(2, .int (nI ((mg_gl fr to n s).2)))] → va_P D cl_all ([(g0, .inr (3, [.ref g2, .ref g1])), (g1, .inl (cI, 8, .inl g)), (g2, .inl (cG, n, .inr (.inr (.inr (.inr (fun i => if i < n then some (re i) else none))))))] ++ (rw_R cI 2 re E n ++ [])) H → va_D A ([(g0, .inr (3, [.ref g2, .ref g1])), (g1, .inl (cI, 8, .inl g)), (g2, .inl (cG, n, .inr (.inr (.inr (.inr (fun i => if i < n then some (re i) else none))))))] ++ (rw_R cI 2 re E n ++ [])) → va_S A s0.heap H locs → W p l e0 R s0 m args below meth c H locs cells slots Q (F0 m 84 ls [])) : ∀ (f : Nat) (e : Nat) (g : Nat → Int32) (ls : Array Slot) (H : Heap) (locs : List Loc), n - e < f → (e ≤ n) → (∀ v, v < 8 → g v = nI ((mg_gl fr to e s).1 v)) → lv_has ls 4 [(3, .int (nI (e))), (2, .int (nI ((mg_gl fr to e s).2))), (0, .ref g0), (1, .int (nI (s)))] → va_P D cl_all ([(g0, .inr (3, [.ref g2, .ref g1])), (g1, .inl (cI, 8, .inl g)), (g2, .inl (cG, n, .inr (.inr (.inr (.inr (fun i => if i < n then some (re i) else none))))))] ++ (rw_R cI 2 re E n ++ [])) H → va_D A ([(g0, .inr (3, [.ref g2, .ref g1])), (g1, .inl (cI, 8, .inl g)), (g2, .inl (cG, n, .inr (.inr (.inr (.inr (fun i => if i < n then some (re i) else none))))))] ++ (rw_R cI 2 re E n ++ [])) → va_S A s0.heap H locs → W p l e0 R s0 m args below meth c H locs cells slots Q (F0 m 25 ls []) := by
  intro f
  induction f with
  | zero => intro e g ls H locs hfu; omega
  | succ f ih =>
    intro e g ls H locs hfu he hg hl hP hD hS
    have hLb := (mg_reps (s := s) hf e (by omega)).1
    refine lv_iload_n hx hb nd_GK_findRank_25 rfl (lv_at hl 0 rfl) ?_
    refine lv_aload_n hx hb nd_GK_findRank_26 rfl (lv_at hl 2 rfl) ?_
    refine va_get (D := D) (C := nr_GK) (T := nt_GK) (N := 2) hx hb htg tf_GK hown hK hP 0 rfl rfl 0 (by decide) (htg _ tm_51) (fun _ h => h) rfl nd_GK_findRank_27 ?_
    refine va_alen (v := nI (n)) hx hb hK hP 2 1 rfl rfl rfl nd_GK_findRank_30 ?_
    refine wi_icmp_ge (tgt := 84) hx hb (by omega) (by omega) nd_GK_findRank_31 rfl (fun hc31 => ?_) (fun hc31 => ?_)
    · have hl : lv_has ls 4 [(2, .int (nI ((mg_gl fr to e s).2)))] := lv_sub hl [1] rfl
      have hin : e = n := by omega
      exact kx ls H locs g (by simpa only [hin] using hl) hP hD hS
    · have hfe := hf e (by omega)
      refine lv_iload_n hx hb nd_GK_findRank_34 rfl (lv_at hl 3 rfl) ?_
      refine lv_iload_n hx hb nd_GK_findRank_35 rfl (lv_at hl 0 rfl) ?_
      refine wc_SN (n := 2) hx hb hml hown htg (c_CB_has l D _ s e (by omega) (by omega)) tm_272 (tn_279 hN) tm_271 tm_1 (by decide +kernel) ⟨⟨Nat.le_trans (by decide) hRf, Nat.le_trans (by decide) hRl⟩, rfl, rfl⟩ (wa_pre wa_nil hK hN) rfl hl.1 rfl (Nat.le_of_ble_eq_true rfl) nd_GK_findRank_36 hCS ?_
      have hbt36 := mt_bt_lt s e
      refine wi_if_eq (tgt := 78) hx hb (by omega) nd_GK_findRank_39 rfl (fun hc39 => ?_) (fun hc39 => ?_)
      · refine lv_iinc (k := 0) (v := nI (e + 1)) hx hb nd_GK_findRank_78 hl rfl (wi_inc _ 1) (by decide) rfl (fun ls hl => ?_)
        have hl : lv_has ls 4 [(3, .int (nI (e + 1))), (2, .int (nI ((mg_gl fr to e s).2))), (0, .ref g0), (1, .int (nI (s)))] := hl
        refine lv_goto (tgt := 25) hx hb nd_GK_findRank_81 rfl ?_
        have hl : lv_has ls 4 [(3, .int (nI (e + 1))), (2, .int (nI ((mg_gl fr to e s).2))), (0, .ref g0), (1, .int (nI (s)))] := lv_sub hl [0, 1, 2, 3] rfl
        exact ih (e + 1) g ls H locs (by omega) (by omega) (by rw [mg_s0 hc39]; exact hg) (by rw [mg_s0 hc39]; exact hl) hP hD hS
      · refine lv_aload_n hx hb nd_GK_findRank_42 rfl (lv_at hl 2 rfl) ?_
        refine lv_aload_n hx hb nd_GK_findRank_43 rfl (lv_at hl 2 rfl) ?_
        refine va_get (D := D) (C := nr_GK) (T := nt_GK) (N := 2) hx hb htg tf_GK hown hK hP 0 rfl rfl 1 (by decide) (htg _ tm_53) (fun _ h => h) rfl nd_GK_findRank_44 ?_
        refine lv_aload_n hx hb nd_GK_findRank_47 rfl (lv_at hl 2 rfl) ?_
        refine va_get (D := D) (C := nr_GK) (T := nt_GK) (N := 2) hx hb htg tf_GK hown hK hP 0 rfl rfl 0 (by decide) (htg _ tm_51) (fun _ h => h) rfl nd_GK_findRank_48 ?_
        refine lv_iload_n hx hb nd_GK_findRank_51 rfl (lv_at hl 0 rfl) ?_
        refine wi_aald (v := (re e)) hx hb hK hP 2 1 rfl rfl rfl (by omega) (by omega) (if_pos (by omega)) nd_GK_findRank_52 ?_
        refine wi_ic hx hb (a := 0) nd_GK_findRank_53 ?_
        refine wi_iald hx hb hK hP _ 0 (rw_atL (by omega)) rfl (by omega) (by omega) nd_GK_findRank_54 ?_
        refine wi_top ((hE e (by omega)).1) ?_
        refine wi_iald hx hb hK hP 1 0 rfl rfl (by omega) (by omega) nd_GK_findRank_55 ?_
        refine wi_top (hg (fr e) (by omega)) ?_
        refine lv_aload_n hx hb nd_GK_findRank_56 rfl (lv_at hl 2 rfl) ?_
        refine va_get (D := D) (C := nr_GK) (T := nt_GK) (N := 2) hx hb htg tf_GK hown hK hP 0 rfl rfl 1 (by decide) (htg _ tm_53) (fun _ h => h) rfl nd_GK_findRank_57 ?_
        refine lv_aload_n hx hb nd_GK_findRank_60 rfl (lv_at hl 2 rfl) ?_
        refine va_get (D := D) (C := nr_GK) (T := nt_GK) (N := 2) hx hb htg tf_GK hown hK hP 0 rfl rfl 0 (by decide) (htg _ tm_51) (fun _ h => h) rfl nd_GK_findRank_61 ?_
        refine lv_iload_n hx hb nd_GK_findRank_64 rfl (lv_at hl 0 rfl) ?_
        refine wi_aald (v := (re e)) hx hb hK hP 2 1 rfl rfl rfl (by omega) (by omega) (if_pos (by omega)) nd_GK_findRank_65 ?_
        refine wi_ic hx hb (a := 1) nd_GK_findRank_66 ?_
        refine wi_iald hx hb hK hP _ 0 (rw_atL (by omega)) rfl (by omega) (by omega) nd_GK_findRank_67 ?_
        refine wi_top ((hE e (by omega)).2) ?_
        refine wi_iald hx hb hK hP 1 0 rfl rfl (by omega) (by omega) nd_GK_findRank_68 ?_
        refine wi_top (hg (to e) (by omega)) ?_
        refine wd_Vi (C := nr_GK) (n := 2) (X := []) (Y := [(g0, .inr (3, [.ref g2, .ref g1])), (g1, .inl (cI, 8, .inl g))]) (Z := [(g2, .inl (cG, n, .inr (.inr (.inr (.inr (fun i => if i < n then some (re i) else none))))))] ++ (rw_R cI 2 re E n ++ [])) hx hb hml hown htg (c_GK_joins l D cI cG cM g0 g1 g2 g (mg_gl fr to e s).1 hLb hg _ _ (hLb _ hfe.1) (hLb _ hfe.2) _) tm_283 tm_280 tm_282 tp_4 tm_5 (by decide +kernel) ⟨⟨Nat.le_trans (by decide) hRf, Nat.le_trans (by decide) hRl⟩, rfl, rfl⟩ hP hD hS hA hK hN (va_recv (q0 := 0) (ci := 3) hK hP rfl rfl) rfl hl.1 rfl (Nat.le_of_ble_eq_true rfl) nd_GK_findRank_69 hCS (fun v69 u69 H locs hp69 hP hD hS => ?_)
        have hP : va_P D cl_all ([(g0, .inr (3, [.ref g2, .ref g1])), (g1, .inl (cI, 8, .inl u69)), (g2, .inl (cG, n, .inr (.inr (.inr (.inr (fun i => if i < n then some (re i) else none))))))] ++ (rw_R cI 2 re E n ++ [])) H := hP
        have hD : va_D A ([(g0, .inr (3, [.ref g2, .ref g1])), (g1, .inl (cI, 8, .inl u69)), (g2, .inl (cG, n, .inr (.inr (.inr (.inr (fun i => if i < n then some (re i) else none))))))] ++ (rw_R cI 2 re E n ++ [])) := hD
        refine lv_if_eq (tgt := 78) hx hb nd_GK_findRank_72 rfl (fun hc72 => ?_) (fun hc72 => ?_)
        · refine lv_iinc (k := 0) (v := nI (e + 1)) hx hb nd_GK_findRank_78 hl rfl (wi_inc _ 1) (by decide) rfl (fun ls hl => ?_)
          have hl : lv_has ls 4 [(3, .int (nI (e + 1))), (2, .int (nI ((mg_gl fr to e s).2))), (0, .ref g0), (1, .int (nI (s)))] := hl
          refine lv_goto (tgt := 25) hx hb nd_GK_findRank_81 rfl ?_
          have hl : lv_has ls 4 [(3, .int (nI (e + 1))), (2, .int (nI ((mg_gl fr to e s).2))), (0, .ref g0), (1, .int (nI (s)))] := lv_sub hl [0, 1, 2, 3] rfl
          have hab : (mg_gl fr to e s).1 (fr e) = (mg_gl fr to e s).1 (to e) := Classical.byContradiction fun q => nI_ne0 (n := 1) (by omega) (by omega) ((hp69.2 q).1.symm.trans hc72)
          exact ih (e + 1) u69 ls H locs (by omega) (by omega) (by rw [mg_s1 hab]; exact (hp69.1 hab).2) (by rw [mg_s1 hab]; exact hl) hP hD hS
        · refine lv_iinc (k := 1) (v := nI ((mg_gl fr to e s).2 + 1)) hx hb nd_GK_findRank_75 hl rfl (wi_inc _ 1) (by decide) rfl (fun ls hl => ?_)
          have hl : lv_has ls 4 [(2, .int (nI ((mg_gl fr to e s).2 + 1))), (3, .int (nI (e))), (0, .ref g0), (1, .int (nI (s)))] := hl
          refine lv_iinc (k := 1) (v := nI (e + 1)) hx hb nd_GK_findRank_78 hl rfl (wi_inc _ 1) (by decide) rfl (fun ls hl => ?_)
          have hl : lv_has ls 4 [(3, .int (nI (e + 1))), (2, .int (nI ((mg_gl fr to e s).2 + 1))), (0, .ref g0), (1, .int (nI (s)))] := hl
          refine lv_goto (tgt := 25) hx hb nd_GK_findRank_81 rfl ?_
          have hl : lv_has ls 4 [(3, .int (nI (e + 1))), (2, .int (nI ((mg_gl fr to e s).2 + 1))), (0, .ref g0), (1, .int (nI (s)))] := lv_sub hl [0, 1, 2, 3] rfl
          have hab : ¬ (mg_gl fr to e s).1 (fr e) = (mg_gl fr to e s).1 (to e) := fun q => hc72 ((hp69.1 q).1.trans nI_0)
          exact ih (e + 1) u69 ls H locs (by omega) (by omega) (by rw [mg_s2 hc39 hab]; exact (hp69.2 hab).2) (by rw [mg_s2 hc39 hab]; exact hl) hP hD hS
set_option maxRecDepth 20000 in
theorem c_GK_findRank (l : Launch) (D : va_G) (cI cG cM : ClassId)  (g0 g1 g2 n : Nat) (hn : n ≤ 10) (re : Nat → Nat) (E : Nat → Nat → Int32) (g : Nat → Int32) (fr to : Nat → Nat) (hE : ∀ e, e < n → E e 0 = nI (fr e) ∧ E e 1 = nI (to e)) (hf : ∀ i, i < n → fr i < 8 ∧ to i < 8) (s : Nat) (hs : s < 1024)  (sz : Nat) : wb_Mi l ny_GK_findRank nc_GK_findRank 4 (some .int) ({ frames := 1, cells := 0, slots := 0, locals := 23 }) D (ty_all cI cG cM) ([(g0, .inr (3, [.ref g2, .ref g1])), (g1, .inl (cI, 8, .inl g)), (g2, .inl (cG, n, .inr (.inr (.inr (.inr (fun i => if i < n then some (re i) else none))))))] ++ (rw_R cI 2 re E n ++ [])) sz [.ref g0, .int (nI (s))] (fun (v : Int32) (u : Nat → Int32) => v = nI (mg_r n fr to s)) (fun u : Nat → Int32 => [(g0, .inr (3, [.ref g2, .ref g1])), (g1, .inl (cI, 8, .inl u)), (g2, .inl (cG, n, .inr (.inr (.inr (.inr (fun i => if i < n then some (re i) else none))))))] ++ (rw_R cI 2 re E n ++ [])) := by
  refine wb_start (S := Nat → Int32) (by decide) (Nat.le_of_ble_eq_true rfl) ?_
  intro p e0 s0 m below meth c ls A hx hb hr hml htg hown hk hP hK hN hl hAe hsz hD hA
  have hl : lv_has ls 4 [(0, .ref g0), (1, .int (nI (s)))] := hl
  have hS : va_S A s0.heap s0.heap [] := va_S.rf
  have hRf : 1 ≤ ({ frames := 1, cells := 0, slots := 0, locals := 23 } : Room).frames := Nat.le_refl _
  have hRl : 23 ≤ ({ frames := 1, cells := 0, slots := 0, locals := 23 } : Room).locals := Nat.le_refl _
  have hCS : 0 ≤ ({ frames := 1, cells := 0, slots := 0, locals := 23 } : Room).cells ∧ 0 ≤ ({ frames := 1, cells := 0, slots := 0, locals := 23 } : Room).slots := ⟨Nat.zero_le _, Nat.zero_le _⟩
  refine wi_ic hx hb (a := 0) nd_GK_findRank_0 ?_
  refine lv_istore_n hx hb nd_GK_findRank_1 rfl hl (by decide) rfl (fun ls hl => ?_)
  have hl : lv_has ls 4 [(2, .int (nI (0))), (0, .ref g0), (1, .int (nI (s)))] := hl
  have hl : lv_has ls 4 [(2, .int (nI (0))), (0, .ref g0), (1, .int (nI (s)))] := lv_sub hl [0, 1, 2] rfl
  refine lp_GK_findRank_2 cI cG cM g0 g1 g2 n hn re E s hx hb hml htg hown hK hN hA hRf hRl hCS (fun ls H locs g hg hl hP hD hS => ?_) 9 0 g ls s0.heap [] (by omega) (by omega) (fun j hj => by omega) hl hP hD hS
  refine wi_ic hx hb (a := 0) nd_GK_findRank_21 ?_
  refine lv_istore_n hx hb nd_GK_findRank_22 rfl hl (by decide) rfl (fun ls hl => ?_)
  have hl : lv_has ls 4 [(2, .int (nI (0))), (0, .ref g0), (1, .int (nI (s)))] := hl
  refine wi_ic hx hb (a := 0) nd_GK_findRank_23 ?_
  refine lv_istore_n hx hb nd_GK_findRank_24 rfl hl (by decide) rfl (fun ls hl => ?_)
  have hl : lv_has ls 4 [(3, .int (nI (0))), (2, .int (nI (0))), (0, .ref g0), (1, .int (nI (s)))] := hl
  have hl : lv_has ls 4 [(3, .int (nI (0))), (2, .int (nI (0))), (0, .ref g0), (1, .int (nI (s)))] := lv_sub hl [0, 1, 2, 3] rfl
  refine lp_GK_findRank_25 cI cG cM g0 g1 g2 n hn re E fr to hE hf s hs  hx hb hml htg hown hK hN hA hRf hRl hCS (fun ls H locs g hl hP hD hS => ?_) (n + 1) 0 g ls H locs (by omega) (by omega) hg hl hP hD hS
  refine lv_iload_n hx hb nd_GK_findRank_84 rfl (lv_at hl 0 rfl) ?_
  exact wb_iret (g) hx hb hr hk hAe (rfl) hP hD hS nd_GK_findRank_85
theorem rw_cut {cA : ClassId} {k : Nat} {re : Nat → Nat} {M : Nat → Nat → Int32} {n e : Nat} (h : e < n) : rw_R cA k re M n = ((List.range n).take e).map (fun e => (re e, .inl (cA, k, .inl (M e)))) ++ ([(re e, .inl (cA, k, .inl (M e)))] ++ ((List.range n).drop (e + 1)).map (fun e => (re e, .inl (cA, k, .inl (M e))))) := by
  have h1 : List.range n = (List.range n).take e ++ (e :: (List.range n).drop (e + 1)) := by
    have h2 := (List.take_append_drop e (List.range n)).symm
    rw [List.drop_eq_getElem_cons (by simpa using h)] at h2
    simpa using h2
  unfold rw_R
  conv => lhs; rw [h1]
  simp
theorem rw_uncut {cA : ClassId} {k : Nat} {re : Nat → Nat} {M : Nat → Nat → Int32} {n e : Nat} (h : e < n) (r : Nat → Int32) : ((List.range n).take e).map (fun e => ((re e, .inl (cA, k, .inl (M e))) : Nat × va_E)) ++ ([(re e, .inl (cA, k, .inl r))] ++ ((List.range n).drop (e + 1)).map (fun e => ((re e, .inl (cA, k, .inl (M e))) : Nat × va_E))) = rw_R cA k re (va_up M e r) n := by
  rw [rw_cut (M := va_up M e r) h, va_up_self]
  congr 1
  · apply List.map_congr_left
    intro a ha
    obtain ⟨i, hi, q⟩ := List.getElem_of_mem ha
    rw [List.getElem_take, List.getElem_range] at q
    rw [va_up_ne]
    rw [List.length_take] at hi
    omega
  · congr 1
    apply List.map_congr_left
    intro a ha
    obtain ⟨i, hi, q⟩ := List.getElem_of_mem ha
    rw [List.getElem_drop, List.getElem_range] at q
    rw [va_up_ne]
    omega
