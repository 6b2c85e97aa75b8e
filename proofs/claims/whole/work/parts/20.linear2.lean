/-! LINEAR: the next column; the rank. -/
section WF
variable {p : Program} {l : Launch} {e : Env} {R : Room} {s : State} {m : MethodId} {args : Array Value} {below : List Frame} {meth : Method} {c : Code} {H : Heap} {locs : List Loc} {cells slots : Nat} {Q : State → Prop}
variable {cc : ByteArray} {pc : Nat} {ls : Array Slot} {rest : List Value} {D : va_G} {tys : List (ClassId × FieldType)} {X Y Z : va_W} {A : Nat → Prop} {y x : MethodName} {bytes : ByteArray} {maxL nL n index : Nat} {ret : Option FieldType} {rm : Room} {own C owner : String} {b : Addr} {As st : List Value} {S : Type} {Y' : S → va_W}
theorem wd_Vv0 {post : S → Prop} (hx : p.tables.exec = Jvm.exec) (hb : c.code = cc) (hml : c.maxLocals = nL) (hown : s.vm.findClass own = some m.cls) (htg : ∀ w ∈ tg_, w.before args s = true) (hM : Met l y (Cond.code y bytes maxL ret :: tg_) rm (va_Pc (.ref b :: As) (wb_P D tys Y H.size)) (va_Qv post (wb_B D Y H.size Y') (va_A Y H.size)) 0 0 (va_A Y H.size)) (hc : Cond.code y bytes maxL ret ∈ tg_) (hl : Cond.methodLink own index y ∈ tg_) (hs : Cond.instanceMethod y ∈ tg_) (he : Cond.selects C y y ∈ tg_) (hi : Cond.initialized y.cls ∈ tg_) (hd : y.cls ≠ "java/lang/invoke/MethodHandle" ∧ y.cls ≠ "java/lang/invoke/VarHandle" ∧ (parseMethodDescriptor y.desc).map (fun d => d.parameters.length) = some n) (hR : (rm.frames + 1 ≤ R.frames ∧ 8 + (maxL + 11) + rm.locals ≤ R.locals) ∧ rm.cells = 0 ∧ rm.slots = 0) (hP : va_P D cl_all (Y) H) (hD : va_D A (Y)) (hS : va_S A s.heap H locs) (hA : ∀ q : Nat, s.heap.size ≤ q → A q) (hK : va_K D cl_all tys s) (hN : tn_K s) (hq : ∃ cellB : Cell, H[b]? = some cellB ∧ cellB.vm.isStatics = false ∧ s.vm.findClass C = some cellB.cls) (hn : As.length = n) (hsz : ls.size = nL) (hst : st = As.reverse ++ .ref b :: rest) (hW : (rest.map fun v => v.category).sum ≤ 8) (hdg : decode cc pc = .ok (.invokevirtual index, 3)) (hf : cells ≤ R.cells ∧ slots ≤ R.slots) (kk : ∀ (u : S) (H1 : Heap) (locs1 : List Loc), post u → va_P D cl_all (Y' u) H1 → va_D A (Y' u) → va_S A s.heap H1 locs1 → W p l e R s m args below meth c H1 locs1 cells slots Q (F0 m (pc + 3) ls rest)) : W p l e R s m args below meth c H locs cells slots Q (F0 m pc ls st) := by
  refine wd_Vv (X := []) (Z := []) hx hb hml hown htg hM hc hl hs he hi hd hR (by simpa using hP) (by simpa using hD) hS hA hK hN hq hn hsz hst hW hdg hf ?_
  intro u H1 locs1 hp h1 h2 h3
  exact kk u H1 locs1 hp (by simpa using h1) (by simpa using h2) h3
theorem wd_Vi0 {post : Int32 → S → Prop} (hx : p.tables.exec = Jvm.exec) (hb : c.code = cc) (hml : c.maxLocals = nL) (hown : s.vm.findClass own = some m.cls) (htg : ∀ w ∈ tg_, w.before args s = true) (hM : Met l y (Cond.code y bytes maxL ret :: tg_) rm (va_Pc (.ref b :: As) (wb_P D tys Y H.size)) (va_Qi post (wb_B D Y H.size Y') (va_A Y H.size)) 0 0 (va_A Y H.size)) (hc : Cond.code y bytes maxL ret ∈ tg_) (hl : Cond.methodLink own index y ∈ tg_) (hs : Cond.instanceMethod y ∈ tg_) (he : Cond.selects C y y ∈ tg_) (hi : Cond.initialized y.cls ∈ tg_) (hd : y.cls ≠ "java/lang/invoke/MethodHandle" ∧ y.cls ≠ "java/lang/invoke/VarHandle" ∧ (parseMethodDescriptor y.desc).map (fun d => d.parameters.length) = some n) (hR : (rm.frames + 1 ≤ R.frames ∧ 8 + (maxL + 11) + rm.locals ≤ R.locals) ∧ rm.cells = 0 ∧ rm.slots = 0) (hP : va_P D cl_all (Y) H) (hD : va_D A (Y)) (hS : va_S A s.heap H locs) (hA : ∀ q : Nat, s.heap.size ≤ q → A q) (hK : va_K D cl_all tys s) (hN : tn_K s) (hq : ∃ cellB : Cell, H[b]? = some cellB ∧ cellB.vm.isStatics = false ∧ s.vm.findClass C = some cellB.cls) (hn : As.length = n) (hsz : ls.size = nL) (hst : st = As.reverse ++ .ref b :: rest) (hW : (rest.map fun v => v.category).sum ≤ 8) (hdg : decode cc pc = .ok (.invokevirtual index, 3)) (hf : cells ≤ R.cells ∧ slots ≤ R.slots) (kk : ∀ (v : Int32) (u : S) (H1 : Heap) (locs1 : List Loc), post v u → va_P D cl_all (Y' u) H1 → va_D A (Y' u) → va_S A s.heap H1 locs1 → W p l e R s m args below meth c H1 locs1 cells slots Q (F0 m (pc + 3) ls (.int v :: rest))) : W p l e R s m args below meth c H locs cells slots Q (F0 m pc ls st) := by
  refine wd_Vi (X := []) (Z := []) hx hb hml hown htg hM hc hl hs he hi hd hR (by simpa using hP) (by simpa using hD) hS hA hK hN hq hn hsz hst hW hdg hf ?_
  intro v u H1 locs1 hp h1 h2 h3
  exact kk v u H1 locs1 hp (by simpa using h1) (by simpa using h2) h3
end WF
theorem li_step {p : Nat} (hp : p = 2 ∨ p = 3 ∨ p = 5 ∨ p = 7) {P : Nat → Nat → Int32} {x : Nat → Int} {g u : Nat → Int32} {k : Nat} (hk : k < 4) (hL : ml_L (p : Int) (fun l i => (P l i).toInt) x k (fun i => (g i).toInt)) (hd : (P k k).toInt ≠ 0) (hpe : ∀ i, i < 4 → 0 ≤ (P k i).toInt ∧ (P k i).toInt < (p : Int)) (hz : ∀ i, i < k → (P k i).toInt = 0)
    (hu : ∀ j, j < 4 → u j = nI (if k ≤ j then fm_ (nI ((g j).toInt.toNat * (P k k).toInt.toNat) - nI ((P k j).toInt.toNat * (g k).toInt.toNat)) p else (g j).toInt.toNat)) : ml_L (p : Int) (fun l i => (P l i).toInt) x (k + 1) (fun i => (u i).toInt) := by
  refine ml_L_c (ml_pr_4 hp) (by omega) hk hL hd (hpe k hk) hz (fun i hi => ?_)
  have hg : ∀ i, i < 4 → 0 ≤ (g i).toInt ∧ (g i).toInt < (p : Int) := hL.1
  have g1 := hg i hi
  have g2 := hg k hk
  have p1 := hpe i hi
  have p2 := hpe k hk
  show (u i).toInt = if k ≤ i then ((g i).toInt * (P k k).toInt - (P k i).toInt * (g k).toInt) % (p : Int) else (g i).toInt
  rw [hu i hi]
  by_cases q : k ≤ i
  · rw [if_pos q, if_pos q, li_fm hp (by omega) (by omega) (by omega) (by omega), Int.toNat_of_nonneg g1.1, Int.toNat_of_nonneg g2.1, Int.toNat_of_nonneg p1.1, Int.toNat_of_nonneg p2.1]
  · rw [if_neg q, if_neg q, ← li_nat g1.1]
theorem nd_LK_addsPivot_0 : decode nc_LK_addsPivot 0 = .ok (.aload_n 0, 1) := by decide +kernel
theorem nd_LK_addsPivot_1 : decode nc_LK_addsPivot 1 = .ok (.getfield 24, 3) := by decide +kernel
theorem nd_LK_addsPivot_4 : decode nc_LK_addsPivot 4 = .ok (.iload_n 1, 1) := by decide +kernel
theorem nd_LK_addsPivot_5 : decode nc_LK_addsPivot 5 = .ok (.aaload, 1) := by decide +kernel
theorem nd_LK_addsPivot_6 : decode nc_LK_addsPivot 6 = .ok (.iconst 0, 1) := by decide +kernel
theorem nd_LK_addsPivot_7 : decode nc_LK_addsPivot 7 = .ok (.aload_n 0, 1) := by decide +kernel
theorem nd_LK_addsPivot_8 : decode nc_LK_addsPivot 8 = .ok (.getfield 16, 3) := by decide +kernel
theorem nd_LK_addsPivot_11 : decode nc_LK_addsPivot 11 = .ok (.iconst 0, 1) := by decide +kernel
theorem nd_LK_addsPivot_12 : decode nc_LK_addsPivot 12 = .ok (.iconst 4, 1) := by decide +kernel
theorem nd_LK_addsPivot_13 : decode nc_LK_addsPivot 13 = .ok (.invokestatic 47, 3) := by decide +kernel
theorem nd_LK_addsPivot_16 : decode nc_LK_addsPivot 16 = .ok (.iconst 0, 1) := by decide +kernel
theorem nd_LK_addsPivot_17 : decode nc_LK_addsPivot 17 = .ok (.istore_n 2, 1) := by decide +kernel
theorem nd_LK_addsPivot_18 : decode nc_LK_addsPivot 18 = .ok (.iload_n 2, 1) := by decide +kernel
theorem nd_LK_addsPivot_19 : decode nc_LK_addsPivot 19 = .ok (.iconst 4, 1) := by decide +kernel
theorem nd_LK_addsPivot_20 : decode nc_LK_addsPivot 20 = .ok (.if_icmp .ge 52, 3) := by decide +kernel
theorem nd_LK_addsPivot_23 : decode nc_LK_addsPivot 23 = .ok (.aload_n 0, 1) := by decide +kernel
theorem nd_LK_addsPivot_24 : decode nc_LK_addsPivot 24 = .ok (.getfield 16, 3) := by decide +kernel
theorem nd_LK_addsPivot_27 : decode nc_LK_addsPivot 27 = .ok (.iload_n 2, 1) := by decide +kernel
theorem nd_LK_addsPivot_28 : decode nc_LK_addsPivot 28 = .ok (.iaload, 1) := by decide +kernel
theorem nd_LK_addsPivot_29 : decode nc_LK_addsPivot 29 = .ok (.ifCond .eq 37, 3) := by decide +kernel
theorem nd_LK_addsPivot_32 : decode nc_LK_addsPivot 32 = .ok (.aload_n 0, 1) := by decide +kernel
theorem nd_LK_addsPivot_33 : decode nc_LK_addsPivot 33 = .ok (.getfield 11, 3) := by decide +kernel
theorem nd_LK_addsPivot_36 : decode nc_LK_addsPivot 36 = .ok (.iload_n 2, 1) := by decide +kernel
theorem nd_LK_addsPivot_37 : decode nc_LK_addsPivot 37 = .ok (.aaload, 1) := by decide +kernel
theorem nd_LK_addsPivot_38 : decode nc_LK_addsPivot 38 = .ok (.iload_n 2, 1) := by decide +kernel
theorem nd_LK_addsPivot_39 : decode nc_LK_addsPivot 39 = .ok (.iaload, 1) := by decide +kernel
theorem nd_LK_addsPivot_40 : decode nc_LK_addsPivot 40 = .ok (.ifCond .ne 21, 3) := by decide +kernel
theorem nd_LK_addsPivot_43 : decode nc_LK_addsPivot 43 = .ok (.aload_n 0, 1) := by decide +kernel
theorem nd_LK_addsPivot_44 : decode nc_LK_addsPivot 44 = .ok (.getfield 16, 3) := by decide +kernel
theorem nd_LK_addsPivot_47 : decode nc_LK_addsPivot 47 = .ok (.iconst 0, 1) := by decide +kernel
theorem nd_LK_addsPivot_48 : decode nc_LK_addsPivot 48 = .ok (.aload_n 0, 1) := by decide +kernel
theorem nd_LK_addsPivot_49 : decode nc_LK_addsPivot 49 = .ok (.getfield 11, 3) := by decide +kernel
theorem nd_LK_addsPivot_52 : decode nc_LK_addsPivot 52 = .ok (.iload_n 2, 1) := by decide +kernel
theorem nd_LK_addsPivot_53 : decode nc_LK_addsPivot 53 = .ok (.aaload, 1) := by decide +kernel
theorem nd_LK_addsPivot_54 : decode nc_LK_addsPivot 54 = .ok (.iconst 0, 1) := by decide +kernel
theorem nd_LK_addsPivot_55 : decode nc_LK_addsPivot 55 = .ok (.iconst 4, 1) := by decide +kernel
theorem nd_LK_addsPivot_56 : decode nc_LK_addsPivot 56 = .ok (.invokestatic 47, 3) := by decide +kernel
theorem nd_LK_addsPivot_59 : decode nc_LK_addsPivot 59 = .ok (.iconst 1, 1) := by decide +kernel
theorem nd_LK_addsPivot_60 : decode nc_LK_addsPivot 60 = .ok (.ireturn, 1) := by decide +kernel
theorem nd_LK_addsPivot_61 : decode nc_LK_addsPivot 61 = .ok (.aload_n 0, 1) := by decide +kernel
theorem nd_LK_addsPivot_62 : decode nc_LK_addsPivot 62 = .ok (.iload_n 2, 1) := by decide +kernel
theorem nd_LK_addsPivot_63 : decode nc_LK_addsPivot 63 = .ok (.invokevirtual 53, 3) := by decide +kernel
theorem nd_LK_addsPivot_66 : decode nc_LK_addsPivot 66 = .ok (.iinc 2 1, 3) := by decide +kernel
theorem nd_LK_addsPivot_69 : decode nc_LK_addsPivot 69 = .ok (.goto (-51), 3) := by decide +kernel
theorem nd_LK_addsPivot_72 : decode nc_LK_addsPivot 72 = .ok (.iconst 0, 1) := by decide +kernel
theorem nd_LK_addsPivot_73 : decode nc_LK_addsPivot 73 = .ok (.ireturn, 1) := by decide +kernel
set_option maxRecDepth 20000 in
theorem lp_LK_addsPivot {p0 : Program} {l : Launch} {e0 : Env} {R : Room} {s0 : State} {m : MethodId} {args : Array Value} {below : List Frame} {meth : Method} {c : Code} {cells slots : Nat} {Q : State → Prop} {D : va_G} {A : Nat → Prop} (cI cG cM : ClassId) (l0 l1 l2 l3 n : Nat) (hn : n ≤ 10) (rp rc : Nat → Nat) (C : Nat → Nat → Int32) (p : Nat) (hp : p = 2 ∨ p = 3 ∨ p = 5 ∨ p = 7) (el : Nat) (hel : el < n) (P : Nat → Nat → Int32) (he : ∀ l, l < 4 → (P l l).toInt ≠ 0 → (∀ i, i < l → (P l i).toInt = 0) ∧ ∀ i, i < 4 → 0 ≤ (P l i).toInt ∧ (P l i).toInt < (p : Int))  (hx : p0.tables.exec = Jvm.exec) (hb : c.code = nc_LK_addsPivot) (hml : c.maxLocals = 3) (htg : ∀ w ∈ tg_, w.before args s0 = true) (hown : s0.vm.findClass ny_LK_addsPivot.cls = some m.cls) (hK : va_K D cl_all (ty_all cI cG cM) s0) (hN : tn_K s0) (hA : ∀ q : Nat, s0.heap.size ≤ q → A q) (hRf : 2 ≤ R.frames) (hRl : 46 ≤ R.locals) (hCS : cells ≤ R.cells ∧ slots ≤ R.slots) (kx : ∀ (ls : Array Slot) (H : Heap) (locs : List Loc) (g : Nat → Int32), (ml_L (p : Int) (fun l i => (P l i).toInt) (fun i => (C el i).toInt) 4 (fun i => (g i).toInt)) → lv_has ls 3 [(0, .ref l0)] → va_P D cl_all ([(l0, .inr (5, [.ref l3, .ref l1, .ref l2, .int (nI (p))])), (l1, .inl (cG, 4, .inr (.inr (.inr (.inr (fun i => if i < 4 then some (rp i) else none)))))), (l2, .inl (cI, 4, .inl g)), (l3, .inl (cG, n, .inr (.inr (.inr (.inr (fun i => if i < n then some (rc i) else none))))))] ++ (rw_R cI 4 rp P 4 ++ (rw_R cI 4 rc C n ++ []))) H → va_D A ([(l0, .inr (5, [.ref l3, .ref l1, .ref l2, .int (nI (p))])), (l1, .inl (cG, 4, .inr (.inr (.inr (.inr (fun i => if i < 4 then some (rp i) else none)))))), (l2, .inl (cI, 4, .inl g)), (l3, .inl (cG, n, .inr (.inr (.inr (.inr (fun i => if i < n then some (rc i) else none))))))] ++ (rw_R cI 4 rp P 4 ++ (rw_R cI 4 rc C n ++ []))) → va_S A s0.heap H locs → W p0 l e0 R s0 m args below meth c H locs cells slots Q (F0 m 72 ls [])) (ky : ∀ (ls : Array Slot) (H : Heap) (locs : List Loc) (k : Nat) (g : Nat → Int32), (k < 4) → (ml_L (p : Int) (fun l i => (P l i).toInt) (fun i => (C el i).toInt) k (fun i => (g i).toInt)) → (¬ g k = 0) → (P k k = 0) → lv_has ls 3 [(2, .int (nI (k))), (0, .ref l0), (1, .int (nI (el)))] → va_P D cl_all ([(l0, .inr (5, [.ref l3, .ref l1, .ref l2, .int (nI (p))])), (l1, .inl (cG, 4, .inr (.inr (.inr (.inr (fun i => if i < 4 then some (rp i) else none)))))), (l2, .inl (cI, 4, .inl g)), (l3, .inl (cG, n, .inr (.inr (.inr (.inr (fun i => if i < n then some (rc i) else none))))))] ++ (rw_R cI 4 rp P 4 ++ (rw_R cI 4 rc C n ++ []))) H → va_D A ([(l0, .inr (5, [.ref l3, .ref l1, .ref l2, .int (nI (p))])), (l1, .inl (cG, 4, .inr (.inr (.inr (.inr (fun i => if i < 4 then some (rp i) else none)))))), (l2, .inl (cI, 4, .inl g)), (l3, .inl (cG, n, .inr (.inr (.inr (.inr (fun i => if i < n then some (rc i) else none))))))] ++ (rw_R cI 4 rp P 4 ++ (rw_R cI 4 rc C n ++ []))) → va_S A s0.heap H locs → W p0 l e0 R s0 m args below meth c H locs cells slots Q (F0 m 43 ls [])) : ∀ (f : Nat) (k : Nat) (g : Nat → Int32) (ls : Array Slot) (H : Heap) (locs : List Loc), 4 - k < f → (k ≤ 4) → (ml_L (p : Int) (fun l i => (P l i).toInt) (fun i => (C el i).toInt) k (fun i => (g i).toInt)) → lv_has ls 3 [(2, .int (nI (k))), (0, .ref l0), (1, .int (nI (el)))] → va_P D cl_all ([(l0, .inr (5, [.ref l3, .ref l1, .ref l2, .int (nI (p))])), (l1, .inl (cG, 4, .inr (.inr (.inr (.inr (fun i => if i < 4 then some (rp i) else none)))))), (l2, .inl (cI, 4, .inl g)), (l3, .inl (cG, n, .inr (.inr (.inr (.inr (fun i => if i < n then some (rc i) else none))))))] ++ (rw_R cI 4 rp P 4 ++ (rw_R cI 4 rc C n ++ []))) H → va_D A ([(l0, .inr (5, [.ref l3, .ref l1, .ref l2, .int (nI (p))])), (l1, .inl (cG, 4, .inr (.inr (.inr (.inr (fun i => if i < 4 then some (rp i) else none)))))), (l2, .inl (cI, 4, .inl g)), (l3, .inl (cG, n, .inr (.inr (.inr (.inr (fun i => if i < n then some (rc i) else none))))))] ++ (rw_R cI 4 rp P 4 ++ (rw_R cI 4 rc C n ++ []))) → va_S A s0.heap H locs → W p0 l e0 R s0 m args below meth c H locs cells slots Q (F0 m 18 ls []) := by
  intro f
  induction f with
  | zero => intro k g ls H locs hfu; omega
  | succ f ih =>
    intro k g ls H locs hfu hk4 hL hl hP hD hS
    refine lv_iload_n hx hb nd_LK_addsPivot_18 rfl (lv_at hl 0 rfl) ?_
    refine wi_ic hx hb (a := 4) nd_LK_addsPivot_19 ?_
    refine wi_icmp_ge (tgt := 72) hx hb (by omega) (by omega) nd_LK_addsPivot_20 rfl (fun hc20 => ?_) (fun hc20 => ?_)
    · have hl : lv_has ls 3 [(0, .ref l0)] := lv_sub hl [1] rfl
      have hk : k = 4 := by omega
      exact kx ls H locs g (by simpa only [hk] using hL) hl hP hD hS
    · refine lv_aload_n hx hb nd_LK_addsPivot_23 rfl (lv_at hl 1 rfl) ?_
      refine va_get (D := D) (C := nr_LK) (T := nt_LK) (N := 4) hx hb htg tf_LK hown hK hP 0 rfl rfl 2 (by decide) (htg _ tm_86) (fun _ h => h) rfl nd_LK_addsPivot_24 ?_
      refine lv_iload_n hx hb nd_LK_addsPivot_27 rfl (lv_at hl 0 rfl) ?_
      refine wi_iald hx hb hK hP 2 0 rfl rfl (by omega) (by omega) nd_LK_addsPivot_28 ?_
      refine lv_if_eq (tgt := 66) hx hb nd_LK_addsPivot_29 rfl (fun hc29 => ?_) (fun hc29 => ?_)
      · refine lv_iinc (k := 0) (v := nI (k + 1)) hx hb nd_LK_addsPivot_66 hl rfl (wi_inc _ 1) (by decide) rfl (fun ls hl => ?_)
        have hl : lv_has ls 3 [(2, .int (nI (k + 1))), (0, .ref l0), (1, .int (nI (el)))] := hl
        refine lv_goto (tgt := 18) hx hb nd_LK_addsPivot_69 rfl ?_
        have hl : lv_has ls 3 [(2, .int (nI (k + 1))), (0, .ref l0), (1, .int (nI (el)))] := lv_sub hl [0, 1, 2] rfl
        exact ih (k + 1) g ls H locs (by omega) (by omega) (ml_L_z hL (li_z.mp hc29)) hl hP hD hS
      · refine lv_aload_n hx hb nd_LK_addsPivot_32 rfl (lv_at hl 1 rfl) ?_
        refine va_get (D := D) (C := nr_LK) (T := nt_LK) (N := 4) hx hb htg tf_LK hown hK hP 0 rfl rfl 1 (by decide) (htg _ tm_85) (fun _ h => h) rfl nd_LK_addsPivot_33 ?_
        refine lv_iload_n hx hb nd_LK_addsPivot_36 rfl (lv_at hl 0 rfl) ?_
        refine wi_aald (v := (rp k)) hx hb hK hP 1 1 rfl rfl rfl (by omega) (by omega) (if_pos (by omega)) nd_LK_addsPivot_37 ?_
        refine lv_iload_n hx hb nd_LK_addsPivot_38 rfl (lv_at hl 0 rfl) ?_
        refine wi_iald hx hb hK hP _ 0 (rw_atL (by omega)) rfl (by omega) (by omega) nd_LK_addsPivot_39 ?_
        refine lv_if_ne (tgt := 61) hx hb nd_LK_addsPivot_40 rfl (fun hc40 => ?_) (fun hc40 => ?_)
        · have hkk : (P k k).toInt ≠ 0 := fun q => hc40 (li_z.mpr q)
          have hek := he k (by omega) hkk
          refine lv_aload_n hx hb nd_LK_addsPivot_61 rfl (lv_at hl 1 rfl) ?_
          refine lv_iload_n hx hb nd_LK_addsPivot_62 rfl (lv_at hl 0 rfl) ?_
          refine wd_Vv0 (C := nr_LK) (n := 1) (Y := [(l0, .inr (5, [.ref l3, .ref l1, .ref l2, .int (nI (p))])), (l1, .inl (cG, 4, .inr (.inr (.inr (.inr (fun i => if i < 4 then some (rp i) else none)))))), (l2, .inl (cI, 4, .inl g)), (l3, .inl (cG, n, .inr (.inr (.inr (.inr (fun i => if i < n then some (rc i) else none))))))] ++ (rw_R cI 4 rp P 4 ++ (rw_R cI 4 rc C n ++ []))) hx hb hml hown htg (c_LK_cancel l D cI cG cM l0 l1 l2 l3 n hn rp rc C p hp P k (by omega) (fun i => (P k i).toInt.toNat) (fun i => (g i).toInt.toNat) (fun i hi => li_nat ((hek.2 i hi).1)) g (fun i hi => li_nat ((hL.1 i hi).1)) _) tm_298 tm_295 tm_297 tp_6 tm_7 (by decide +kernel) ⟨⟨Nat.le_trans (by decide) hRf, Nat.le_trans (by decide) hRl⟩, rfl, rfl⟩ hP hD hS hA hK hN (va_recv (q0 := 0) (ci := 5) hK hP rfl rfl) rfl hl.1 rfl (Nat.le_of_ble_eq_true rfl) nd_LK_addsPivot_63 hCS (fun u63 H locs hp63 hP hD hS => ?_)
          have hP : va_P D cl_all ([(l0, .inr (5, [.ref l3, .ref l1, .ref l2, .int (nI (p))])), (l1, .inl (cG, 4, .inr (.inr (.inr (.inr (fun i => if i < 4 then some (rp i) else none)))))), (l2, .inl (cI, 4, .inl u63)), (l3, .inl (cG, n, .inr (.inr (.inr (.inr (fun i => if i < n then some (rc i) else none))))))] ++ (rw_R cI 4 rp P 4 ++ (rw_R cI 4 rc C n ++ []))) H := hP
          have hD : va_D A ([(l0, .inr (5, [.ref l3, .ref l1, .ref l2, .int (nI (p))])), (l1, .inl (cG, 4, .inr (.inr (.inr (.inr (fun i => if i < 4 then some (rp i) else none)))))), (l2, .inl (cI, 4, .inl u63)), (l3, .inl (cG, n, .inr (.inr (.inr (.inr (fun i => if i < n then some (rc i) else none))))))] ++ (rw_R cI 4 rp P 4 ++ (rw_R cI 4 rc C n ++ []))) := hD
          refine lv_iinc (k := 0) (v := nI (k + 1)) hx hb nd_LK_addsPivot_66 hl rfl (wi_inc _ 1) (by decide) rfl (fun ls hl => ?_)
          have hl : lv_has ls 3 [(2, .int (nI (k + 1))), (0, .ref l0), (1, .int (nI (el)))] := hl
          refine lv_goto (tgt := 18) hx hb nd_LK_addsPivot_69 rfl ?_
          have hl : lv_has ls 3 [(2, .int (nI (k + 1))), (0, .ref l0), (1, .int (nI (el)))] := lv_sub hl [0, 1, 2] rfl
          exact ih (k + 1) u63 ls H locs (by omega) (by omega) (li_step hp (by omega) hL hkk hek.2 hek.1 hp63) hl hP hD hS
        · have hl : lv_has ls 3 [(2, .int (nI (k))), (0, .ref l0), (1, .int (nI (el)))] := lv_sub hl [0, 1, 2] rfl
          exact ky ls H locs k g (by omega) hL hc29 hc40 hl hP hD hS
set_option maxRecDepth 20000 in
theorem c_LK_addsPivot (l : Launch) (D : va_G) (cI cG cM : ClassId)  (l0 l1 l2 l3 n : Nat) (hn : n ≤ 10) (rp rc : Nat → Nat) (C : Nat → Nat → Int32) (p : Nat) (hp : p = 2 ∨ p = 3 ∨ p = 5 ∨ p = 7) (el : Nat) (hel : el < n) (P : Nat → Nat → Int32) (he : ∀ l, l < 4 → (P l l).toInt ≠ 0 → (∀ i, i < l → (P l i).toInt = 0) ∧ ∀ i, i < 4 → 0 ≤ (P l i).toInt ∧ (P l i).toInt < (p : Int)) (rr : Nat → Int32) (hxr : ∀ i, i < 4 → 0 ≤ (C el i).toInt ∧ (C el i).toInt < (p : Int)) (sz : Nat) : wb_Mi l ny_LK_addsPivot nc_LK_addsPivot 3 (some .boolean) ({ frames := 2, cells := 0, slots := 0, locals := 46 }) D (ty_all cI cG cM) ([(l0, .inr (5, [.ref l3, .ref l1, .ref l2, .int (nI (p))])), (l1, .inl (cG, 4, .inr (.inr (.inr (.inr (fun i => if i < 4 then some (rp i) else none)))))), (l2, .inl (cI, 4, .inl rr)), (l3, .inl (cG, n, .inr (.inr (.inr (.inr (fun i => if i < n then some (rc i) else none))))))] ++ (rw_R cI 4 rp P 4 ++ (rw_R cI 4 rc C n ++ []))) sz [.ref l0, .int (nI (el))] (fun (v : Int32) (u : (Nat → Nat → Int32) × (Nat → Int32)) => (v = nI 0 ∧ u.1 = P ∧ ∀ f : Nat → Int, (∀ l, l < 4 → (P l l).toInt ≠ 0 → (p : Int) ∣ ml_dt f (fun i => (P l i).toInt)) → (p : Int) ∣ ml_dt f (fun i => (C el i).toInt)) ∨ (v = nI 1 ∧ ∃ (l : Nat) (rest : Nat → Int), l < 4 ∧ ml_L (p : Int) (fun l i => (P l i).toInt) (fun i => (C el i).toInt) l rest ∧ rest l ≠ 0 ∧ (P l l).toInt = 0 ∧ (∀ i, i < 4 → (u.1 l i).toInt = rest i) ∧ ∀ j, j < 4 → j ≠ l → ∀ i, i < 4 → u.1 j i = P j i)) (fun u : (Nat → Nat → Int32) × (Nat → Int32) => [(l0, .inr (5, [.ref l3, .ref l1, .ref l2, .int (nI (p))])), (l1, .inl (cG, 4, .inr (.inr (.inr (.inr (fun i => if i < 4 then some (rp i) else none)))))), (l2, .inl (cI, 4, .inl u.2)), (l3, .inl (cG, n, .inr (.inr (.inr (.inr (fun i => if i < n then some (rc i) else none))))))] ++ (rw_R cI 4 rp u.1 4 ++ (rw_R cI 4 rc C n ++ []))) := by
  refine wb_start (S := (Nat → Nat → Int32) × (Nat → Int32)) (by decide) (Nat.le_of_ble_eq_true rfl) ?_
  intro p0 e0 s0 m below meth c ls A hx hb hr hml htg hown hk hP hK hN hl hAe hsz hD hA
  have hl : lv_has ls 3 [(0, .ref l0), (1, .int (nI (el)))] := hl
  have hS : va_S A s0.heap s0.heap [] := va_S.rf
  have hRf : 2 ≤ ({ frames := 2, cells := 0, slots := 0, locals := 46 } : Room).frames := Nat.le_refl _
  have hRl : 46 ≤ ({ frames := 2, cells := 0, slots := 0, locals := 46 } : Room).locals := Nat.le_refl _
  have hCS : 0 ≤ ({ frames := 2, cells := 0, slots := 0, locals := 46 } : Room).cells ∧ 0 ≤ ({ frames := 2, cells := 0, slots := 0, locals := 46 } : Room).slots := ⟨Nat.zero_le _, Nat.zero_le _⟩
  refine lv_aload_n hx hb nd_LK_addsPivot_0 rfl (lv_at hl 0 rfl) ?_
  refine va_get (D := D) (C := nr_LK) (T := nt_LK) (N := 4) hx hb htg tf_LK hown hK hP 0 rfl rfl 0 (by decide) (htg _ tm_84) (fun _ h => h) rfl nd_LK_addsPivot_1 ?_
  refine lv_iload_n hx hb nd_LK_addsPivot_4 rfl (lv_at hl 1 rfl) ?_
  refine wi_aald (v := (rc el)) hx hb hK hP 3 1 rfl rfl rfl (by omega) (by omega) (if_pos (by omega)) nd_LK_addsPivot_5 ?_
  refine wi_ic hx hb (a := 0) nd_LK_addsPivot_6 ?_
  refine lv_aload_n hx hb nd_LK_addsPivot_7 rfl (lv_at hl 0 rfl) ?_
  refine va_get (D := D) (C := nr_LK) (T := nt_LK) (N := 4) hx hb htg tf_LK hown hK hP 0 rfl rfl 2 (by decide) (htg _ tm_86) (fun _ h => h) rfl nd_LK_addsPivot_8 ?_
  refine wi_ic hx hb (a := 0) nd_LK_addsPivot_11 ?_
  refine wi_ic hx hb (a := 4) nd_LK_addsPivot_12 ?_
  refine va_copyi hx hb (hml.trans hl.1.symm) hown (htg _ tm_292) (htg _ tm_294) (htg _ tm_293) (htg _ tm_11) hK hP hD hS _ 2 0 0 (rw_atR (by omega)) rfl rfl rfl rfl (by decide) (by decide) (by decide) (by decide) (by decide) (fun _ _ => rfl) (Nat.le_trans (by decide) hRf) (Nat.le_trans (by decide) hRl) nd_LK_addsPivot_13 (fun H locs hP hD hS => ?_)
  have hP : va_P D cl_all ([(l0, .inr (5, [.ref l3, .ref l1, .ref l2, .int (nI (p))])), (l1, .inl (cG, 4, .inr (.inr (.inr (.inr (fun i => if i < 4 then some (rp i) else none)))))), (l2, .inl (cI, 4, .inl (va_cpy (C el) rr 0 0 4))), (l3, .inl (cG, n, .inr (.inr (.inr (.inr (fun i => if i < n then some (rc i) else none))))))] ++ (rw_R cI 4 rp P 4 ++ (rw_R cI 4 rc C n ++ []))) H := hP
  have hD : va_D A ([(l0, .inr (5, [.ref l3, .ref l1, .ref l2, .int (nI (p))])), (l1, .inl (cG, 4, .inr (.inr (.inr (.inr (fun i => if i < 4 then some (rp i) else none)))))), (l2, .inl (cI, 4, .inl (va_cpy (C el) rr 0 0 4))), (l3, .inl (cG, n, .inr (.inr (.inr (.inr (fun i => if i < n then some (rc i) else none))))))] ++ (rw_R cI 4 rp P 4 ++ (rw_R cI 4 rc C n ++ []))) := hD
  refine wi_ic hx hb (a := 0) nd_LK_addsPivot_16 ?_
  refine lv_istore_n hx hb nd_LK_addsPivot_17 rfl hl (by decide) rfl (fun ls hl => ?_)
  have hl : lv_has ls 3 [(2, .int (nI (0))), (0, .ref l0), (1, .int (nI (el)))] := hl
  have hl : lv_has ls 3 [(2, .int (nI (0))), (0, .ref l0), (1, .int (nI (el)))] := lv_sub hl [0, 1, 2] rfl
  refine lp_LK_addsPivot cI cG cM l0 l1 l2 l3 n hn rp rc C p hp el hel P he hx hb hml htg hown hK hN hA hRf hRl hCS (fun ls H locs g hL hl hP hD hS => ?_) (fun ls H locs k g a1 a2 a3 a4 hl hP hD hS => ?_) 5 0 _ ls H locs (by omega) (by omega) (ml_L_0 (ml_pr_4 hp) hxr (fun i hi => by show (va_cpy (C el) rr 0 0 4 i).toInt = _; rw [pk_cpy_in (by omega) (by omega)]; simp)) hl hP hD hS
  · refine wi_ic hx hb (a := 0) nd_LK_addsPivot_72 ?_
    exact wb_zret ((P, g)) hx hb hr hk rfl hAe (Or.inl ⟨rfl, rfl, fun f hf => ml_L_4 (ml_pr_4 hp) hL f hf⟩) hP hD hS nd_LK_addsPivot_73
  · refine lv_aload_n hx hb nd_LK_addsPivot_43 rfl (lv_at hl 1 rfl) ?_
    refine va_get (D := D) (C := nr_LK) (T := nt_LK) (N := 4) hx hb htg tf_LK hown hK hP 0 rfl rfl 2 (by decide) (htg _ tm_86) (fun _ h => h) rfl nd_LK_addsPivot_44 ?_
    refine wi_ic hx hb (a := 0) nd_LK_addsPivot_47 ?_
    refine lv_aload_n hx hb nd_LK_addsPivot_48 rfl (lv_at hl 1 rfl) ?_
    refine va_get (D := D) (C := nr_LK) (T := nt_LK) (N := 4) hx hb htg tf_LK hown hK hP 0 rfl rfl 1 (by decide) (htg _ tm_85) (fun _ h => h) rfl nd_LK_addsPivot_49 ?_
    refine lv_iload_n hx hb nd_LK_addsPivot_52 rfl (lv_at hl 0 rfl) ?_
    refine wi_aald (v := (rp k)) hx hb hK hP 1 1 rfl rfl rfl (by omega) (by omega) (if_pos (by omega)) nd_LK_addsPivot_53 ?_
    refine wi_ic hx hb (a := 0) nd_LK_addsPivot_54 ?_
    refine wi_ic hx hb (a := 4) nd_LK_addsPivot_55 ?_
    refine va_copyi hx hb (hml.trans hl.1.symm) hown (htg _ tm_292) (htg _ tm_294) (htg _ tm_293) (htg _ tm_11) hK hP hD hS 2 _ 0 0 rfl (rw_atL (by omega)) rfl rfl rfl (by decide) (by decide) (by decide) (by decide) (by decide) (fun _ _ => rfl) (Nat.le_trans (by decide) hRf) (Nat.le_trans (by decide) hRl) nd_LK_addsPivot_56 (fun H locs hP hD hS => ?_)
    rw [rw_setL (by omega)] at hP hD
    have hP : va_P D cl_all ([(l0, .inr (5, [.ref l3, .ref l1, .ref l2, .int (nI (p))])), (l1, .inl (cG, 4, .inr (.inr (.inr (.inr (fun i => if i < 4 then some (rp i) else none)))))), (l2, .inl (cI, 4, .inl g)), (l3, .inl (cG, n, .inr (.inr (.inr (.inr (fun i => if i < n then some (rc i) else none))))))] ++ (rw_R cI 4 rp (va_up P k (va_cpy g (P k) 0 0 4)) 4 ++ (rw_R cI 4 rc C n ++ []))) H := hP
    have hD : va_D A ([(l0, .inr (5, [.ref l3, .ref l1, .ref l2, .int (nI (p))])), (l1, .inl (cG, 4, .inr (.inr (.inr (.inr (fun i => if i < 4 then some (rp i) else none)))))), (l2, .inl (cI, 4, .inl g)), (l3, .inl (cG, n, .inr (.inr (.inr (.inr (fun i => if i < n then some (rc i) else none))))))] ++ (rw_R cI 4 rp (va_up P k (va_cpy g (P k) 0 0 4)) 4 ++ (rw_R cI 4 rc C n ++ []))) := hD
    refine wi_ic hx hb (a := 1) nd_LK_addsPivot_59 ?_
    exact wb_zret ((va_up P k (va_cpy g (P k) 0 0 4), g)) hx hb hr hk rfl hAe (Or.inr ⟨rfl, k, fun i => (g i).toInt, a1, a2, fun q => a3 (li_z.mpr q), li_z.mp a4, fun i hi => by show ((va_up P k (va_cpy g (P k) 0 0 4)) k i).toInt = _; rw [va_up_self, pk_cpy_in (by omega) (by omega)]; simp, fun j hj hjk i hi => by show (va_up P k (va_cpy g (P k) 0 0 4)) j i = _; rw [va_up_ne _ _ hjk]⟩) hP hD hS nd_LK_addsPivot_60
theorem nd_LK_findRank_0 : decode nc_LK_findRank 0 = .ok (.iconst 0, 1) := by decide +kernel
theorem nd_LK_findRank_1 : decode nc_LK_findRank 1 = .ok (.istore_n 2, 1) := by decide +kernel
theorem nd_LK_findRank_2 : decode nc_LK_findRank 2 = .ok (.iload_n 2, 1) := by decide +kernel
theorem nd_LK_findRank_3 : decode nc_LK_findRank 3 = .ok (.iconst 4, 1) := by decide +kernel
theorem nd_LK_findRank_4 : decode nc_LK_findRank 4 = .ok (.if_icmp .ge 18, 3) := by decide +kernel
theorem nd_LK_findRank_7 : decode nc_LK_findRank 7 = .ok (.aload_n 0, 1) := by decide +kernel
theorem nd_LK_findRank_8 : decode nc_LK_findRank 8 = .ok (.getfield 11, 3) := by decide +kernel
theorem nd_LK_findRank_11 : decode nc_LK_findRank 11 = .ok (.iload_n 2, 1) := by decide +kernel
theorem nd_LK_findRank_12 : decode nc_LK_findRank 12 = .ok (.aaload, 1) := by decide +kernel
theorem nd_LK_findRank_13 : decode nc_LK_findRank 13 = .ok (.iload_n 2, 1) := by decide +kernel
theorem nd_LK_findRank_14 : decode nc_LK_findRank 14 = .ok (.iconst 0, 1) := by decide +kernel
theorem nd_LK_findRank_15 : decode nc_LK_findRank 15 = .ok (.iastore, 1) := by decide +kernel
theorem nd_LK_findRank_16 : decode nc_LK_findRank 16 = .ok (.iinc 2 1, 3) := by decide +kernel
theorem nd_LK_findRank_19 : decode nc_LK_findRank 19 = .ok (.goto (-17), 3) := by decide +kernel
theorem nd_LK_findRank_22 : decode nc_LK_findRank 22 = .ok (.iconst 0, 1) := by decide +kernel
theorem nd_LK_findRank_23 : decode nc_LK_findRank 23 = .ok (.istore_n 2, 1) := by decide +kernel
theorem nd_LK_findRank_24 : decode nc_LK_findRank 24 = .ok (.iconst 0, 1) := by decide +kernel
theorem nd_LK_findRank_25 : decode nc_LK_findRank 25 = .ok (.istore_n 3, 1) := by decide +kernel
theorem nd_LK_findRank_26 : decode nc_LK_findRank 26 = .ok (.iload_n 3, 1) := by decide +kernel
theorem nd_LK_findRank_27 : decode nc_LK_findRank 27 = .ok (.aload_n 0, 1) := by decide +kernel
theorem nd_LK_findRank_28 : decode nc_LK_findRank 28 = .ok (.getfield 24, 3) := by decide +kernel
theorem nd_LK_findRank_31 : decode nc_LK_findRank 31 = .ok (.arraylength, 1) := by decide +kernel
theorem nd_LK_findRank_32 : decode nc_LK_findRank 32 = .ok (.if_icmp .ge 33, 3) := by decide +kernel
theorem nd_LK_findRank_35 : decode nc_LK_findRank 35 = .ok (.iload_n 2, 1) := by decide +kernel
theorem nd_LK_findRank_36 : decode nc_LK_findRank 36 = .ok (.iconst 4, 1) := by decide +kernel
theorem nd_LK_findRank_37 : decode nc_LK_findRank 37 = .ok (.if_icmp .ge 28, 3) := by decide +kernel
theorem nd_LK_findRank_40 : decode nc_LK_findRank 40 = .ok (.iload_n 1, 1) := by decide +kernel
theorem nd_LK_findRank_41 : decode nc_LK_findRank 41 = .ok (.iload_n 3, 1) := by decide +kernel
theorem nd_LK_findRank_42 : decode nc_LK_findRank 42 = .ok (.invokestatic 39, 3) := by decide +kernel
theorem nd_LK_findRank_45 : decode nc_LK_findRank 45 = .ok (.ifCond .eq 14, 3) := by decide +kernel
theorem nd_LK_findRank_48 : decode nc_LK_findRank 48 = .ok (.aload_n 0, 1) := by decide +kernel
theorem nd_LK_findRank_49 : decode nc_LK_findRank 49 = .ok (.iload_n 3, 1) := by decide +kernel
theorem nd_LK_findRank_50 : decode nc_LK_findRank 50 = .ok (.invokevirtual 43, 3) := by decide +kernel
theorem nd_LK_findRank_53 : decode nc_LK_findRank 53 = .ok (.ifCond .eq 6, 3) := by decide +kernel
theorem nd_LK_findRank_56 : decode nc_LK_findRank 56 = .ok (.iinc 2 1, 3) := by decide +kernel
theorem nd_LK_findRank_59 : decode nc_LK_findRank 59 = .ok (.iinc 3 1, 3) := by decide +kernel
theorem nd_LK_findRank_62 : decode nc_LK_findRank 62 = .ok (.goto (-36), 3) := by decide +kernel
theorem nd_LK_findRank_65 : decode nc_LK_findRank 65 = .ok (.iload_n 2, 1) := by decide +kernel
theorem nd_LK_findRank_66 : decode nc_LK_findRank 66 = .ok (.ireturn, 1) := by decide +kernel
set_option maxRecDepth 20000 in
theorem lp_LK_findRank_2 {p0 : Program} {l : Launch} {e0 : Env} {R : Room} {s0 : State} {m : MethodId} {args : Array Value} {below : List Frame} {meth : Method} {c : Code} {cells slots : Nat} {Q : State → Prop} {D : va_G} {A : Nat → Prop} (cI cG cM : ClassId) (l0 l1 l2 l3 n : Nat) (hn : n ≤ 10) (rp rc : Nat → Nat) (C : Nat → Nat → Int32) (p : Nat) (rr : Nat → Int32) (s : Nat)  (hx : p0.tables.exec = Jvm.exec) (hb : c.code = nc_LK_findRank) (hml : c.maxLocals = 4) (htg : ∀ w ∈ tg_, w.before args s0 = true) (hown : s0.vm.findClass ny_LK_findRank.cls = some m.cls) (hK : va_K D cl_all (ty_all cI cG cM) s0) (hN : tn_K s0) (hA : ∀ q : Nat, s0.heap.size ≤ q → A q) (hRf : 3 ≤ R.frames) (hRl : 68 ≤ R.locals) (hCS : cells ≤ R.cells ∧ slots ≤ R.slots) (kx : ∀ (ls : Array Slot) (H : Heap) (locs : List Loc) (P : Nat → Nat → Int32), (∀ l, l < 4 → P l l = nI 0) → lv_has ls 4 [(0, .ref l0), (1, .int (nI (s)))] → va_P D cl_all ([(l0, .inr (5, [.ref l3, .ref l1, .ref l2, .int (nI (p))])), (l1, .inl (cG, 4, .inr (.inr (.inr (.inr (fun i => if i < 4 then some (rp i) else none)))))), (l2, .inl (cI, 4, .inl rr)), (l3, .inl (cG, n, .inr (.inr (.inr (.inr (fun i => if i < n then some (rc i) else none))))))] ++ (rw_R cI 4 rp P 4 ++ (rw_R cI 4 rc C n ++ []))) H → va_D A ([(l0, .inr (5, [.ref l3, .ref l1, .ref l2, .int (nI (p))])), (l1, .inl (cG, 4, .inr (.inr (.inr (.inr (fun i => if i < 4 then some (rp i) else none)))))), (l2, .inl (cI, 4, .inl rr)), (l3, .inl (cG, n, .inr (.inr (.inr (.inr (fun i => if i < n then some (rc i) else none))))))] ++ (rw_R cI 4 rp P 4 ++ (rw_R cI 4 rc C n ++ []))) → va_S A s0.heap H locs → W p0 l e0 R s0 m args below meth c H locs cells slots Q (F0 m 22 ls [])) : ∀ (f : Nat) (i : Nat) (P : Nat → Nat → Int32) (ls : Array Slot) (H : Heap) (locs : List Loc), 4 - i < f → (i ≤ 4) → (∀ l, l < i → P l l = nI 0) → lv_has ls 4 [(2, .int (nI (i))), (0, .ref l0), (1, .int (nI (s)))] → va_P D cl_all ([(l0, .inr (5, [.ref l3, .ref l1, .ref l2, .int (nI (p))])), (l1, .inl (cG, 4, .inr (.inr (.inr (.inr (fun i => if i < 4 then some (rp i) else none)))))), (l2, .inl (cI, 4, .inl rr)), (l3, .inl (cG, n, .inr (.inr (.inr (.inr (fun i => if i < n then some (rc i) else none))))))] ++ (rw_R cI 4 rp P 4 ++ (rw_R cI 4 rc C n ++ []))) H → va_D A ([(l0, .inr (5, [.ref l3, .ref l1, .ref l2, .int (nI (p))])), (l1, .inl (cG, 4, .inr (.inr (.inr (.inr (fun i => if i < 4 then some (rp i) else none)))))), (l2, .inl (cI, 4, .inl rr)), (l3, .inl (cG, n, .inr (.inr (.inr (.inr (fun i => if i < n then some (rc i) else none))))))] ++ (rw_R cI 4 rp P 4 ++ (rw_R cI 4 rc C n ++ []))) → va_S A s0.heap H locs → W p0 l e0 R s0 m args below meth c H locs cells slots Q (F0 m 2 ls []) := by
  intro f
  induction f with
  | zero => intro i P ls H locs hfu; omega
  | succ f ih =>
    intro i P ls H locs hfu hi hz hl hP hD hS
    refine lv_iload_n hx hb nd_LK_findRank_2 rfl (lv_at hl 0 rfl) ?_
    refine wi_ic hx hb (a := 4) nd_LK_findRank_3 ?_
    refine wi_icmp_ge (tgt := 22) hx hb (by omega) (by omega) nd_LK_findRank_4 rfl (fun hc4 => ?_) (fun hc4 => ?_)
    · have hl : lv_has ls 4 [(0, .ref l0), (1, .int (nI (s)))] := lv_sub hl [1, 2] rfl
      exact kx ls H locs P (fun l hl4 => hz l (by omega)) hl hP hD hS
    · refine lv_aload_n hx hb nd_LK_findRank_7 rfl (lv_at hl 1 rfl) ?_
      refine va_get (D := D) (C := nr_LK) (T := nt_LK) (N := 4) hx hb htg tf_LK hown hK hP 0 rfl rfl 1 (by decide) (htg _ tm_85) (fun _ h => h) rfl nd_LK_findRank_8 ?_
      refine lv_iload_n hx hb nd_LK_findRank_11 rfl (lv_at hl 0 rfl) ?_
      refine wi_aald (v := (rp i)) hx hb hK hP 1 1 rfl rfl rfl (by omega) (by omega) (if_pos (by omega)) nd_LK_findRank_12 ?_
      refine lv_iload_n hx hb nd_LK_findRank_13 rfl (lv_at hl 0 rfl) ?_
      refine wi_ic hx hb (a := 0) nd_LK_findRank_14 ?_
      refine wi_iast hx hb hK hP hD hS _ 0 (rw_atL (by omega)) rfl (by omega) (by omega) nd_LK_findRank_15 (fun H locs hP hD hS => ?_)
      rw [rw_setL (by omega)] at hP hD
      have hP : va_P D cl_all ([(l0, .inr (5, [.ref l3, .ref l1, .ref l2, .int (nI (p))])), (l1, .inl (cG, 4, .inr (.inr (.inr (.inr (fun i => if i < 4 then some (rp i) else none)))))), (l2, .inl (cI, 4, .inl rr)), (l3, .inl (cG, n, .inr (.inr (.inr (.inr (fun i => if i < n then some (rc i) else none))))))] ++ (rw_R cI 4 rp (va_up P i (upd (P i) i (nI (0)))) 4 ++ (rw_R cI 4 rc C n ++ []))) H := hP
      have hD : va_D A ([(l0, .inr (5, [.ref l3, .ref l1, .ref l2, .int (nI (p))])), (l1, .inl (cG, 4, .inr (.inr (.inr (.inr (fun i => if i < 4 then some (rp i) else none)))))), (l2, .inl (cI, 4, .inl rr)), (l3, .inl (cG, n, .inr (.inr (.inr (.inr (fun i => if i < n then some (rc i) else none))))))] ++ (rw_R cI 4 rp (va_up P i (upd (P i) i (nI (0)))) 4 ++ (rw_R cI 4 rc C n ++ []))) := hD
      refine lv_iinc (k := 0) (v := nI (i + 1)) hx hb nd_LK_findRank_16 hl rfl (wi_inc _ 1) (by decide) rfl (fun ls hl => ?_)
      have hl : lv_has ls 4 [(2, .int (nI (i + 1))), (0, .ref l0), (1, .int (nI (s)))] := hl
      refine lv_goto (tgt := 2) hx hb nd_LK_findRank_19 rfl ?_
      have hl : lv_has ls 4 [(2, .int (nI (i + 1))), (0, .ref l0), (1, .int (nI (s)))] := lv_sub hl [0, 1, 2] rfl
      exact ih (i + 1) _ ls H locs (by omega) (by omega) (fun l hl4 => if q : l = i then by subst q; rw [va_up_self]; simp [upd] else by rw [va_up_ne _ _ q]; exact hz l (by omega)) hl hP hD hS
set_option maxRecDepth 20000 in
theorem lp_LK_findRank_26 {p0 : Program} {l : Launch} {e0 : Env} {R : Room} {s0 : State} {m : MethodId} {args : Array Value} {below : List Frame} {meth : Method} {c : Code} {cells slots : Nat} {Q : State → Prop} {D : va_G} {A : Nat → Prop} (cI cG cM : ClassId) (l0 l1 l2 l3 n : Nat) (hn : n ≤ 10) (rp rc : Nat → Nat) (C : Nat → Nat → Int32) (p : Nat) (hp : p = 2 ∨ p = 3 ∨ p = 5 ∨ p = 7) (s : Nat) (hs : s < 1024) (hcol : ∀ e, e < n → ∀ i, i < 4 → 0 ≤ (C e i).toInt ∧ (C e i).toInt < (p : Int))  (hx : p0.tables.exec = Jvm.exec) (hb : c.code = nc_LK_findRank) (hml : c.maxLocals = 4) (htg : ∀ w ∈ tg_, w.before args s0 = true) (hown : s0.vm.findClass ny_LK_findRank.cls = some m.cls) (hK : va_K D cl_all (ty_all cI cG cM) s0) (hN : tn_K s0) (hA : ∀ q : Nat, s0.heap.size ≤ q → A q) (hRf : 3 ≤ R.frames) (hRl : 68 ≤ R.locals) (hCS : cells ≤ R.cells ∧ slots ≤ R.slots) (kx : ∀ (ls : Array Slot) (H : Heap) (locs : List Loc) (P : Nat → Nat → Int32) (g : Nat → Int32), lv_has ls 4 [(2, .int (nI (ml_r n (p : Int) (fun e i => (C e i).toInt) s)))] → va_P D cl_all ([(l0, .inr (5, [.ref l3, .ref l1, .ref l2, .int (nI (p))])), (l1, .inl (cG, 4, .inr (.inr (.inr (.inr (fun i => if i < 4 then some (rp i) else none)))))), (l2, .inl (cI, 4, .inl g)), (l3, .inl (cG, n, .inr (.inr (.inr (.inr (fun i => if i < n then some (rc i) else none))))))] ++ (rw_R cI 4 rp P 4 ++ (rw_R cI 4 rc C n ++ []))) H → va_D A ([(l0, .inr (5, [.ref l3, .ref l1, .ref l2, .int (nI (p))])), (l1, .inl (cG, 4, .inr (.inr (.inr (.inr (fun i => if i < 4 then some (rp i) else none)))))), (l2, .inl (cI, 4, .inl g)), (l3, .inl (cG, n, .inr (.inr (.inr (.inr (fun i => if i < n then some (rc i) else none))))))] ++ (rw_R cI 4 rp P 4 ++ (rw_R cI 4 rc C n ++ []))) → va_S A s0.heap H locs → W p0 l e0 R s0 m args below meth c H locs cells slots Q (F0 m 65 ls [])) : ∀ (f : Nat) (e : Nat) (fo : Nat) (P : Nat → Nat → Int32) (g : Nat → Int32) (ls : Array Slot) (H : Heap) (locs : List Loc), n - e < f → (e ≤ n) → (fo ≤ 4) → (ml_G n (p : Int) (fun e i => (C e i).toInt) s e (fun l i => (P l i).toInt) fo) → lv_has ls 4 [(3, .int (nI (e))), (2, .int (nI (fo))), (0, .ref l0), (1, .int (nI (s)))] → va_P D cl_all ([(l0, .inr (5, [.ref l3, .ref l1, .ref l2, .int (nI (p))])), (l1, .inl (cG, 4, .inr (.inr (.inr (.inr (fun i => if i < 4 then some (rp i) else none)))))), (l2, .inl (cI, 4, .inl g)), (l3, .inl (cG, n, .inr (.inr (.inr (.inr (fun i => if i < n then some (rc i) else none))))))] ++ (rw_R cI 4 rp P 4 ++ (rw_R cI 4 rc C n ++ []))) H → va_D A ([(l0, .inr (5, [.ref l3, .ref l1, .ref l2, .int (nI (p))])), (l1, .inl (cG, 4, .inr (.inr (.inr (.inr (fun i => if i < 4 then some (rp i) else none)))))), (l2, .inl (cI, 4, .inl g)), (l3, .inl (cG, n, .inr (.inr (.inr (.inr (fun i => if i < n then some (rc i) else none))))))] ++ (rw_R cI 4 rp P 4 ++ (rw_R cI 4 rc C n ++ []))) → va_S A s0.heap H locs → W p0 l e0 R s0 m args below meth c H locs cells slots Q (F0 m 26 ls []) := by
  intro f
  induction f with
  | zero => intro e fo P g ls H locs hfu; omega
  | succ f ih =>
    intro e fo P g ls H locs hfu he2 hfo4 hG hl hP hD hS
    refine lv_iload_n hx hb nd_LK_findRank_26 rfl (lv_at hl 0 rfl) ?_
    refine lv_aload_n hx hb nd_LK_findRank_27 rfl (lv_at hl 2 rfl) ?_
    refine va_get (D := D) (C := nr_LK) (T := nt_LK) (N := 4) hx hb htg tf_LK hown hK hP 0 rfl rfl 0 (by decide) (htg _ tm_84) (fun _ h => h) rfl nd_LK_findRank_28 ?_
    refine va_alen (v := nI (n)) hx hb hK hP 3 1 rfl rfl rfl nd_LK_findRank_31 ?_
    refine wi_icmp_ge (tgt := 65) hx hb (by omega) (by omega) nd_LK_findRank_32 rfl (fun hc32 => ?_) (fun hc32 => ?_)
    · have hl : lv_has ls 4 [(2, .int (nI (fo)))] := lv_sub hl [1] rfl
      have hen : e = n := by omega
      have hfo : fo = ml_r n (p : Int) (fun e i => (C e i).toInt) s := by obtain ⟨m0, P0, b1, b2, b3, -⟩ := hG; rw [← b3, hen]; rfl
      exact kx ls H locs P g (by rw [← hfo]; exact hl) hP hD hS
    · refine lv_iload_n hx hb nd_LK_findRank_35 rfl (lv_at hl 1 rfl) ?_
      refine wi_ic hx hb (a := 4) nd_LK_findRank_36 ?_
      refine wi_icmp_ge (tgt := 65) hx hb (by omega) (by omega) nd_LK_findRank_37 rfl (fun hc37 => ?_) (fun hc37 => ?_)
      · have hl : lv_has ls 4 [(2, .int (nI (fo)))] := lv_sub hl [1] rfl
        have hf4 : fo = 4 := by omega
        have hfo : fo = ml_r n (p : Int) (fun e i => (C e i).toInt) s := by have hG4 := ml_G_full (ml_pr_4 hp) (by omega) hcol (n - e) e (by omega) (hf4 ▸ hG); rw [show e + (n - e) = n by omega] at hG4; obtain ⟨m0, P0, b1, b2, b3, -⟩ := hG4; rw [hf4, ← b3]; rfl
        exact kx ls H locs P g (by rw [← hfo]; exact hl) hP hD hS
      · refine lv_iload_n hx hb nd_LK_findRank_40 rfl (lv_at hl 3 rfl) ?_
        refine lv_iload_n hx hb nd_LK_findRank_41 rfl (lv_at hl 0 rfl) ?_
        refine wc_SN (n := 2) hx hb hml hown htg (c_CB_has l D _ s e (by omega) (by omega)) tm_272 (tn_287 hN) tm_271 tm_1 (by decide +kernel) ⟨⟨Nat.le_trans (by decide) hRf, Nat.le_trans (by decide) hRl⟩, rfl, rfl⟩ (wa_pre wa_nil hK hN) rfl hl.1 rfl (Nat.le_of_ble_eq_true rfl) nd_LK_findRank_42 hCS ?_
        have hbt42 := mt_bt_lt s e
        refine wi_if_eq (tgt := 59) hx hb (by omega) nd_LK_findRank_45 rfl (fun hc45 => ?_) (fun hc45 => ?_)
        · refine lv_iinc (k := 0) (v := nI (e + 1)) hx hb nd_LK_findRank_59 hl rfl (wi_inc _ 1) (by decide) rfl (fun ls hl => ?_)
          have hl : lv_has ls 4 [(3, .int (nI (e + 1))), (2, .int (nI (fo))), (0, .ref l0), (1, .int (nI (s)))] := hl
          refine lv_goto (tgt := 26) hx hb nd_LK_findRank_62 rfl ?_
          have hl : lv_has ls 4 [(3, .int (nI (e + 1))), (2, .int (nI (fo))), (0, .ref l0), (1, .int (nI (s)))] := lv_sub hl [0, 1, 2, 3] rfl
          exact ih (e + 1) fo P g ls H locs (by omega) (by omega) (by omega) (ml_G_f hG (mt_bt_f.mp hc45)) hl hP hD hS
        · refine lv_aload_n hx hb nd_LK_findRank_48 rfl (lv_at hl 2 rfl) ?_
          refine lv_iload_n hx hb nd_LK_findRank_49 rfl (lv_at hl 0 rfl) ?_
          refine wd_Vi0 (C := nr_LK) (n := 1) (Y := [(l0, .inr (5, [.ref l3, .ref l1, .ref l2, .int (nI (p))])), (l1, .inl (cG, 4, .inr (.inr (.inr (.inr (fun i => if i < 4 then some (rp i) else none)))))), (l2, .inl (cI, 4, .inl g)), (l3, .inl (cG, n, .inr (.inr (.inr (.inr (fun i => if i < n then some (rc i) else none))))))] ++ (rw_R cI 4 rp P 4 ++ (rw_R cI 4 rc C n ++ []))) hx hb hml hown htg (c_LK_addsPivot l D cI cG cM l0 l1 l2 l3 n hn rp rc C p hp e (by omega) P (ml_G_he hG) g (hcol e (by omega)) _) tm_291 tm_288 tm_290 tp_5 tm_7 (by decide +kernel) ⟨⟨Nat.le_trans (by decide) hRf, Nat.le_trans (by decide) hRl⟩, rfl, rfl⟩ hP hD hS hA hK hN (va_recv (q0 := 0) (ci := 5) hK hP rfl rfl) rfl hl.1 rfl (Nat.le_of_ble_eq_true rfl) nd_LK_findRank_50 hCS (fun v50 u50 H locs hp50 hP hD hS => ?_)
          have hP : va_P D cl_all ([(l0, .inr (5, [.ref l3, .ref l1, .ref l2, .int (nI (p))])), (l1, .inl (cG, 4, .inr (.inr (.inr (.inr (fun i => if i < 4 then some (rp i) else none)))))), (l2, .inl (cI, 4, .inl u50.2)), (l3, .inl (cG, n, .inr (.inr (.inr (.inr (fun i => if i < n then some (rc i) else none))))))] ++ (rw_R cI 4 rp u50.1 4 ++ (rw_R cI 4 rc C n ++ []))) H := hP
          have hD : va_D A ([(l0, .inr (5, [.ref l3, .ref l1, .ref l2, .int (nI (p))])), (l1, .inl (cG, 4, .inr (.inr (.inr (.inr (fun i => if i < 4 then some (rp i) else none)))))), (l2, .inl (cI, 4, .inl u50.2)), (l3, .inl (cG, n, .inr (.inr (.inr (.inr (fun i => if i < n then some (rc i) else none))))))] ++ (rw_R cI 4 rp u50.1 4 ++ (rw_R cI 4 rc C n ++ []))) := hD
          refine lv_if_eq (tgt := 59) hx hb nd_LK_findRank_53 rfl (fun hc53 => ?_) (fun hc53 => ?_)
          · refine lv_iinc (k := 0) (v := nI (e + 1)) hx hb nd_LK_findRank_59 hl rfl (wi_inc _ 1) (by decide) rfl (fun ls hl => ?_)
            have hl : lv_has ls 4 [(3, .int (nI (e + 1))), (2, .int (nI (fo))), (0, .ref l0), (1, .int (nI (s)))] := hl
            refine lv_goto (tgt := 26) hx hb nd_LK_findRank_62 rfl ?_
            have hl : lv_has ls 4 [(3, .int (nI (e + 1))), (2, .int (nI (fo))), (0, .ref l0), (1, .int (nI (s)))] := lv_sub hl [0, 1, 2, 3] rfl
            rcases hp50 with ⟨w1, w2, w3⟩ | ⟨w1, w2⟩
            · exact ih (e + 1) fo u50.1 u50.2 ls H locs (by omega) (by omega) (by omega) (by rw [w2]; exact ml_G_y (ml_pr_4 hp) (by omega) hG (mt_bt_n.mp hc45) w3) hl hP hD hS
            · exact absurd (w1.symm.trans hc53) (nI_ne0 (by omega) (by omega))
          · refine lv_iinc (k := 1) (v := nI (fo + 1)) hx hb nd_LK_findRank_56 hl rfl (wi_inc _ 1) (by decide) rfl (fun ls hl => ?_)
            have hl : lv_has ls 4 [(2, .int (nI (fo + 1))), (3, .int (nI (e))), (0, .ref l0), (1, .int (nI (s)))] := hl
            refine lv_iinc (k := 1) (v := nI (e + 1)) hx hb nd_LK_findRank_59 hl rfl (wi_inc _ 1) (by decide) rfl (fun ls hl => ?_)
            have hl : lv_has ls 4 [(3, .int (nI (e + 1))), (2, .int (nI (fo + 1))), (0, .ref l0), (1, .int (nI (s)))] := hl
            refine lv_goto (tgt := 26) hx hb nd_LK_findRank_62 rfl ?_
            have hl : lv_has ls 4 [(3, .int (nI (e + 1))), (2, .int (nI (fo + 1))), (0, .ref l0), (1, .int (nI (s)))] := lv_sub hl [0, 1, 2, 3] rfl
            rcases hp50 with ⟨w1, w2, w3⟩ | ⟨w1, l2, rest, w2, w3, w4, w5, w6, w7⟩
            · exact absurd (w1.trans nI_0) hc53
            · exact ih (e + 1) (fo + 1) u50.1 u50.2 ls H locs (by omega) (by omega) (by omega) (ml_G_n (ml_pr_4 hp) (by omega) hG (mt_bt_n.mp hc45) w2 w3 w4 w5 w6 (fun j hj hjl i hi => by rw [w7 j hj hjl i hi])) hl hP hD hS
set_option maxRecDepth 20000 in
theorem c_LK_findRank (l : Launch) (D : va_G) (cI cG cM : ClassId)  (l0 l1 l2 l3 n : Nat) (hn : n ≤ 10) (rp rc : Nat → Nat) (C : Nat → Nat → Int32) (p : Nat) (hp : p = 2 ∨ p = 3 ∨ p = 5 ∨ p = 7) (P : Nat → Nat → Int32) (rr : Nat → Int32) (s : Nat) (hs : s < 1024) (hcol : ∀ e, e < n → ∀ i, i < 4 → 0 ≤ (C e i).toInt ∧ (C e i).toInt < (p : Int))  (sz : Nat) : wb_Mi l ny_LK_findRank nc_LK_findRank 4 (some .int) ({ frames := 3, cells := 0, slots := 0, locals := 68 }) D (ty_all cI cG cM) ([(l0, .inr (5, [.ref l3, .ref l1, .ref l2, .int (nI (p))])), (l1, .inl (cG, 4, .inr (.inr (.inr (.inr (fun i => if i < 4 then some (rp i) else none)))))), (l2, .inl (cI, 4, .inl rr)), (l3, .inl (cG, n, .inr (.inr (.inr (.inr (fun i => if i < n then some (rc i) else none))))))] ++ (rw_R cI 4 rp P 4 ++ (rw_R cI 4 rc C n ++ []))) sz [.ref l0, .int (nI (s))] (fun (v : Int32) (u : (Nat → Nat → Int32) × (Nat → Int32)) => v = nI (ml_r n (p : Int) (fun e i => (C e i).toInt) s)) (fun u : (Nat → Nat → Int32) × (Nat → Int32) => [(l0, .inr (5, [.ref l3, .ref l1, .ref l2, .int (nI (p))])), (l1, .inl (cG, 4, .inr (.inr (.inr (.inr (fun i => if i < 4 then some (rp i) else none)))))), (l2, .inl (cI, 4, .inl u.2)), (l3, .inl (cG, n, .inr (.inr (.inr (.inr (fun i => if i < n then some (rc i) else none))))))] ++ (rw_R cI 4 rp u.1 4 ++ (rw_R cI 4 rc C n ++ []))) := by
  refine wb_start (S := (Nat → Nat → Int32) × (Nat → Int32)) (by decide) (Nat.le_of_ble_eq_true rfl) ?_
  intro p0 e0 s0 m below meth c ls A hx hb hr hml htg hown hk hP hK hN hl hAe hsz hD hA
  have hl : lv_has ls 4 [(0, .ref l0), (1, .int (nI (s)))] := hl
  have hS : va_S A s0.heap s0.heap [] := va_S.rf
  have hRf : 3 ≤ ({ frames := 3, cells := 0, slots := 0, locals := 68 } : Room).frames := Nat.le_refl _
  have hRl : 68 ≤ ({ frames := 3, cells := 0, slots := 0, locals := 68 } : Room).locals := Nat.le_refl _
  have hCS : 0 ≤ ({ frames := 3, cells := 0, slots := 0, locals := 68 } : Room).cells ∧ 0 ≤ ({ frames := 3, cells := 0, slots := 0, locals := 68 } : Room).slots := ⟨Nat.zero_le _, Nat.zero_le _⟩
  refine wi_ic hx hb (a := 0) nd_LK_findRank_0 ?_
  refine lv_istore_n hx hb nd_LK_findRank_1 rfl hl (by decide) rfl (fun ls hl => ?_)
  have hl : lv_has ls 4 [(2, .int (nI (0))), (0, .ref l0), (1, .int (nI (s)))] := hl
  have hl : lv_has ls 4 [(2, .int (nI (0))), (0, .ref l0), (1, .int (nI (s)))] := lv_sub hl [0, 1, 2] rfl
  refine lp_LK_findRank_2 cI cG cM l0 l1 l2 l3 n hn rp rc C p rr s hx hb hml htg hown hK hN hA hRf hRl hCS (fun ls H locs P hz hl hP hD hS => ?_) 5 0 P ls s0.heap [] (by omega) (by omega) (fun l hl4 => by omega) hl hP hD hS
  refine wi_ic hx hb (a := 0) nd_LK_findRank_22 ?_
  refine lv_istore_n hx hb nd_LK_findRank_23 rfl hl (by decide) rfl (fun ls hl => ?_)
  have hl : lv_has ls 4 [(2, .int (nI (0))), (0, .ref l0), (1, .int (nI (s)))] := hl
  refine wi_ic hx hb (a := 0) nd_LK_findRank_24 ?_
  refine lv_istore_n hx hb nd_LK_findRank_25 rfl hl (by decide) rfl (fun ls hl => ?_)
  have hl : lv_has ls 4 [(3, .int (nI (0))), (2, .int (nI (0))), (0, .ref l0), (1, .int (nI (s)))] := hl
  have hl : lv_has ls 4 [(3, .int (nI (0))), (2, .int (nI (0))), (0, .ref l0), (1, .int (nI (s)))] := lv_sub hl [0, 1, 2, 3] rfl
  refine lp_LK_findRank_26 cI cG cM l0 l1 l2 l3 n hn rp rc C p hp s hs hcol hx hb hml htg hown hK hN hA hRf hRl hCS (fun ls H locs P g hl hP hD hS => ?_) (n + 1) 0 0 P rr ls H locs (by omega) (by omega) (by omega) (ml_G_0 (ml_pr_4 hp) _ s (fun l hl4 => by show (P l l).toInt = 0; rw [hz l hl4]; rfl)) hl hP hD hS
  refine lv_iload_n hx hb nd_LK_findRank_65 rfl (lv_at hl 0 rfl) ?_
  exact wb_iret ((P, g)) hx hb hr hk hAe (rfl) hP hD hS nd_LK_findRank_66
