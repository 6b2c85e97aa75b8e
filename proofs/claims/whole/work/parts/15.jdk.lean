/-! Arrays.fill, Math.floorMod. -/
theorem wa_startF {l : Launch} {cc : ByteArray} {D : va_G} {tys : List (ClassId × FieldType)} {Y : va_W} {av : List Value} {y : MethodName} {maxL : Nat} {ret : Option FieldType} {rm : Room} {r : Int32} (hy : plainFor y = true) (hlen : (lg_sl av).length ≤ maxL)
    (body : ∀ (p : Program) (e : Env) (s : State) (m : MethodId) (below : List Frame) (meth : Method) (c : Code) (ls : Array Slot), p.tables.exec = Jvm.exec → c.code = cc → meth.sig.returnType = ret → c.maxLocals = maxL → (∀ w ∈ tg_, w.before av.toArray s = true) → s.vm.findClass y.cls = some m.cls → meth.locks = false → va_P D cl_all Y s.heap → va_K D cl_all tys s → tn_K s → lv_has ls maxL (lv_args 0 av) →
      W p l e rm s m av.toArray below meth c s.heap [] 0 0 (MQ below (QcRead r) av.toArray s 0 0 (fun _ => False)) (F0 m 0 ls [])) : wa_M l y cc maxL ret rm D tys Y av r := by
  refine va_MetF (cc := cc) (maxL := maxL) (ret := ret) hy rfl ?_
  intro p e s m args below meth c s₁ B hml hv
  obtain ⟨rfl, hP, hK, hN⟩ := hv
  have hts := atoms_spec (ws := Cond.code y cc maxL ret :: tg_) B.pre
  have hl := lv_entry av (n := maxL) hlen
  rw [lg_entry_eq]
  exact body p e s m below meth c _ B.exec B.bytes B.returns hml (fun w h => hts w (List.mem_cons_of_mem _ h)) (findClass_of_methodNamed B.named) B.notSynchronized hP hK hN hl
def fm_ (x : Int32) (p : Nat) : Nat := (x.toInt % (p : Int)).toNat
theorem fm_lt (x : Int32) {p : Nat} (hp : 0 < p) : fm_ x p < p := by
  unfold fm_
  have h1 := Int.emod_nonneg x.toInt (b := (p : Int)) (by omega)
  have h2 := Int.emod_lt_of_pos x.toInt (b := (p : Int)) (by omega)
  omega
theorem fm_sg (x : Int32) {p : Nat} (hp : p < 2 ^ 31) : 0 ≤ x ^^^ nI p ↔ 0 ≤ x := by
  have key : ∀ z : Int32, (0 ≤ z ↔ z.toBitVec.msb = false) := fun z => by
    rw [Int32.le_iff_toInt_le, BitVec.msb_eq_toInt, Int32.toInt_zero]
    show 0 ≤ z.toBitVec.toInt ↔ _
    simp
  rw [key, key, Int32.toBitVec_xor, BitVec.msb_xor, (key _).mp (nI_pos' hp)]
  simp
theorem fm_eq {z : Int32} {k : Nat} (hk : k < 2 ^ 31) (h : z.toInt = (k : Int)) : z = nI k := by
  apply Int32.toInt_inj.mp
  rw [h, nI_toInt hk]
theorem fm_core {a : Int} {p : Nat} (hp : p = 2 ∨ p = 3 ∨ p = 5 ∨ p = 7) : (0 ≤ a → a.tmod p = a % (p : Int)) ∧ (a < 0 → a.tmod p = 0 → a % (p : Int) = 0) ∧ (a < 0 → a.tmod p ≠ 0 → a.tmod p + p = a % (p : Int) ∧ a.tmod p < 0) := by
  have e := Int.tmod_add_mul_tdiv a p
  have b := tmod_bounds (a := a) (M := (p : Int)) (by omega)
  have n1 : 0 ≤ a → 0 ≤ a.tmod p := fun h => Int.tmod_nonneg _ h
  have n2 : a < 0 → a.tmod p ≤ 0 := fun h => by
    have := Int.tmod_nonneg (p : Int) (show 0 ≤ -a by omega)
    rw [Int.neg_tmod] at this
    omega
  generalize a.tmod p = t at e b n1 n2 ⊢
  generalize a.tdiv p = d at e
  rcases hp with q | q | q | q <;> subst q <;> refine ⟨fun h => ?_, fun h h0 => ?_, fun h h0 => ⟨?_, ?_⟩⟩ <;> omega
theorem fm_a {x : Int32} {p : Nat} (hp : p = 2 ∨ p = 3 ∨ p = 5 ∨ p = 7) (h : 0 ≤ x) : x - x / nI p * nI p = nI (fm_ x p) := by
  have h0 : 0 ≤ x.toInt := by have := Int32.le_iff_toInt_le.mp h; simpa using this
  have l := fm_lt x (p := p) (by omega)
  apply fm_eq (by omega)
  rw [rem_toInt, nI_toInt (by omega), (fm_core hp).1 h0]
  unfold fm_
  have h1 := Int.emod_nonneg x.toInt (b := (p : Int)) (by omega)
  omega
theorem fm_b {x : Int32} {p : Nat} (hp : p = 2 ∨ p = 3 ∨ p = 5 ∨ p = 7) (h : ¬ 0 ≤ x) (hz : x - x / nI p * nI p = 0) : x - x / nI p * nI p = nI (fm_ x p) := by
  have h0 : x.toInt < 0 := by
    have := Int32.not_le.mp h
    have := Int32.lt_iff_toInt_lt.mp this
    simpa using this
  have t : x.toInt.tmod p = 0 := by
    have := congrArg Int32.toInt hz
    rw [rem_toInt, nI_toInt (by omega)] at this
    simpa using this
  rw [hz]
  have : fm_ x p = 0 := by unfold fm_; rw [(fm_core hp).2.1 h0 t]; rfl
  rw [this]; rfl
theorem fm_c {x : Int32} {p : Nat} (hp : p = 2 ∨ p = 3 ∨ p = 5 ∨ p = 7) (h : ¬ 0 ≤ x) (hz : ¬ x - x / nI p * nI p = 0) : x - x / nI p * nI p + nI p = nI (fm_ x p) := by
  have h0 : x.toInt < 0 := by
    have := Int32.not_le.mp h
    have := Int32.lt_iff_toInt_lt.mp this
    simpa using this
  have e : (x - x / nI p * nI p).toInt = x.toInt.tmod p := by rw [rem_toInt, nI_toInt (by omega)]
  have t : x.toInt.tmod p ≠ 0 := fun q => hz (by
    apply Int32.toInt_inj.mp
    rw [e, q]; rfl)
  obtain ⟨g1, g2⟩ := (fm_core hp).2.2 h0 t
  have b := tmod_bounds (a := x.toInt) (M := (p : Int)) (by omega)
  have l := fm_lt x (p := p) (by omega)
  apply fm_eq (by omega)
  rw [Int32.toInt_add, e, nI_toInt (by omega), g1]
  unfold fm_
  have h1 := Int.emod_nonneg x.toInt (b := (p : Int)) (by omega)
  have h2 := Int.emod_lt_of_pos x.toInt (b := (p : Int)) (by omega)
  generalize x.toInt % (p : Int) = z at h1 h2 ⊢
  rw [Int.bmod_eq_of_le (by omega) (by omega)]
  omega
theorem nd_MT_floorMod_0 : decode nc_MT_floorMod 0 = .ok (.iload_n 0, 1) := by decide +kernel
theorem nd_MT_floorMod_1 : decode nc_MT_floorMod 1 = .ok (.iload_n 1, 1) := by decide +kernel
theorem nd_MT_floorMod_2 : decode nc_MT_floorMod 2 = .ok (.irem, 1) := by decide +kernel
theorem nd_MT_floorMod_3 : decode nc_MT_floorMod 3 = .ok (.istore_n 2, 1) := by decide +kernel
theorem nd_MT_floorMod_4 : decode nc_MT_floorMod 4 = .ok (.iload_n 0, 1) := by decide +kernel
theorem nd_MT_floorMod_5 : decode nc_MT_floorMod 5 = .ok (.iload_n 1, 1) := by decide +kernel
theorem nd_MT_floorMod_6 : decode nc_MT_floorMod 6 = .ok (.ixor, 1) := by decide +kernel
theorem nd_MT_floorMod_7 : decode nc_MT_floorMod 7 = .ok (.ifCond .ge 11, 3) := by decide +kernel
theorem nd_MT_floorMod_10 : decode nc_MT_floorMod 10 = .ok (.iload_n 2, 1) := by decide +kernel
theorem nd_MT_floorMod_11 : decode nc_MT_floorMod 11 = .ok (.ifCond .eq 7, 3) := by decide +kernel
theorem nd_MT_floorMod_14 : decode nc_MT_floorMod 14 = .ok (.iload_n 2, 1) := by decide +kernel
theorem nd_MT_floorMod_15 : decode nc_MT_floorMod 15 = .ok (.iload_n 1, 1) := by decide +kernel
theorem nd_MT_floorMod_16 : decode nc_MT_floorMod 16 = .ok (.iadd, 1) := by decide +kernel
theorem nd_MT_floorMod_17 : decode nc_MT_floorMod 17 = .ok (.ireturn, 1) := by decide +kernel
theorem nd_MT_floorMod_18 : decode nc_MT_floorMod 18 = .ok (.iload_n 2, 1) := by decide +kernel
theorem nd_MT_floorMod_19 : decode nc_MT_floorMod 19 = .ok (.ireturn, 1) := by decide +kernel
set_option maxRecDepth 20000 in
theorem c_MT_floorMod (l : Launch) (D : va_G) (tys : List (ClassId × FieldType)) (x : Int32) (p : Nat) (hp : p = 2 ∨ p = 3 ∨ p = 5 ∨ p = 7) : wa_M l ny_MT_floorMod nc_MT_floorMod 3 (some .int) ({ frames := 0, cells := 0, slots := 0, locals := 0 }) D tys ([]) [.int (x), .int (nI (p))] (nI (fm_ x p)) := by
  refine wa_startF (by decide +kernel) (Nat.le_of_ble_eq_true rfl) ?_
  intro p0 e0 s0 m below meth c ls hx hb hr hml htg hown hk hP hK hN hl
  have hl : lv_has ls 3 [(0, .int (x)), (1, .int (nI (p)))] := hl
  refine lv_iload_n hx hb nd_MT_floorMod_0 rfl (lv_at hl 0 rfl) ?_
  refine lv_iload_n hx hb nd_MT_floorMod_1 rfl (lv_at hl 1 rfl) ?_
  refine lv_irem hx hb nd_MT_floorMod_2 (nI_ne0 (by omega) (by omega)) ?_
  refine lv_topi (fun md emd => ?_)
  refine lv_istore_n hx hb nd_MT_floorMod_3 rfl hl (by decide) rfl (fun ls hl => ?_)
  have hl : lv_has ls 3 [(2, .int (md)), (0, .int (x)), (1, .int (nI (p)))] := hl
  refine lv_iload_n hx hb nd_MT_floorMod_4 rfl (lv_at hl 1 rfl) ?_
  refine lv_iload_n hx hb nd_MT_floorMod_5 rfl (lv_at hl 2 rfl) ?_
  refine lv_ixor hx hb nd_MT_floorMod_6 ?_
  refine lv_if_ge (tgt := 18) hx hb nd_MT_floorMod_7 rfl (fun hc7 => ?_) (fun hc7 => ?_)
  · refine lv_iload_n hx hb nd_MT_floorMod_18 rfl (lv_at hl 0 rfl) ?_
    exact wa_iret hx hb hr hk (emd.trans (fm_a hp ((fm_sg x (by omega)).mp hc7))) nd_MT_floorMod_19
  · refine lv_iload_n hx hb nd_MT_floorMod_10 rfl (lv_at hl 0 rfl) ?_
    refine lv_if_eq (tgt := 18) hx hb nd_MT_floorMod_11 rfl (fun hc11 => ?_) (fun hc11 => ?_)
    · refine lv_iload_n hx hb nd_MT_floorMod_18 rfl (lv_at hl 0 rfl) ?_
      exact wa_iret hx hb hr hk (emd.trans (fm_b hp (fun z => hc7 ((fm_sg x (by omega)).mpr z)) (emd ▸ hc11))) nd_MT_floorMod_19
    · refine lv_iload_n hx hb nd_MT_floorMod_14 rfl (lv_at hl 0 rfl) ?_
      refine lv_iload_n hx hb nd_MT_floorMod_15 rfl (lv_at hl 2 rfl) ?_
      refine lv_iadd hx hb nd_MT_floorMod_16 ?_
      exact wa_iret hx hb hr hk (by rw [emd] at hc11 ⊢; exact fm_c hp (fun z => hc7 ((fm_sg x (by omega)).mpr z)) hc11) nd_MT_floorMod_17
theorem nd_AR_fill_0 : decode nc_AR_fill 0 = .ok (.iconst 0, 1) := by decide +kernel
theorem nd_AR_fill_1 : decode nc_AR_fill 1 = .ok (.istore_n 2, 1) := by decide +kernel
theorem nd_AR_fill_2 : decode nc_AR_fill 2 = .ok (.aload_n 0, 1) := by decide +kernel
theorem nd_AR_fill_3 : decode nc_AR_fill 3 = .ok (.arraylength, 1) := by decide +kernel
theorem nd_AR_fill_4 : decode nc_AR_fill 4 = .ok (.istore_n 3, 1) := by decide +kernel
theorem nd_AR_fill_5 : decode nc_AR_fill 5 = .ok (.iload_n 2, 1) := by decide +kernel
theorem nd_AR_fill_6 : decode nc_AR_fill 6 = .ok (.iload_n 3, 1) := by decide +kernel
theorem nd_AR_fill_7 : decode nc_AR_fill 7 = .ok (.if_icmp .ge 13, 3) := by decide +kernel
theorem nd_AR_fill_10 : decode nc_AR_fill 10 = .ok (.aload_n 0, 1) := by decide +kernel
theorem nd_AR_fill_11 : decode nc_AR_fill 11 = .ok (.iload_n 2, 1) := by decide +kernel
theorem nd_AR_fill_12 : decode nc_AR_fill 12 = .ok (.iload_n 1, 1) := by decide +kernel
theorem nd_AR_fill_13 : decode nc_AR_fill 13 = .ok (.iastore, 1) := by decide +kernel
theorem nd_AR_fill_14 : decode nc_AR_fill 14 = .ok (.iinc 2 1, 3) := by decide +kernel
theorem nd_AR_fill_17 : decode nc_AR_fill 17 = .ok (.goto (-12), 3) := by decide +kernel
theorem nd_AR_fill_20 : decode nc_AR_fill 20 = .ok (.return_, 1) := by decide +kernel
set_option maxRecDepth 20000 in
theorem lp_AR_fill {p : Program} {l : Launch} {e0 : Env} {R : Room} {s0 : State} {m : MethodId} {args : Array Value} {below : List Frame} {meth : Method} {c : Code} {cells slots : Nat} {Q : State → Prop} {D : va_G} {A : Nat → Prop} (cI cG cM : ClassId) (qa n : Nat) (hn : n < 2 ^ 31) (v : Int32)  (hx : p.tables.exec = Jvm.exec) (hb : c.code = nc_AR_fill) (hml : c.maxLocals = 4) (htg : ∀ w ∈ tg_, w.before args s0 = true) (hown : s0.vm.findClass ny_AR_fill.cls = some m.cls) (hK : va_K D cl_all (ty_all cI cG cM) s0) (hN : tn_K s0) (hA : ∀ q : Nat, s0.heap.size ≤ q → A q) (hRf : 0 ≤ R.frames) (hRl : 0 ≤ R.locals) (hCS : cells ≤ R.cells ∧ slots ≤ R.slots) (kx : ∀ (ls : Array Slot) (H : Heap) (locs : List Loc) (g : Nat → Int32), (∀ j, j < n → g j = v) → lv_has ls 4 [(1, .int (v))] → va_P D cl_all ([(qa, .inl (cI, n, .inl g))]) H → va_D A ([(qa, .inl (cI, n, .inl g))]) → va_S A s0.heap H locs → W p l e0 R s0 m args below meth c H locs cells slots Q (F0 m 20 ls [])) : ∀ (f : Nat) (i : Nat) (g : Nat → Int32) (ls : Array Slot) (H : Heap) (locs : List Loc), n - i < f → (i ≤ n) → (∀ j, j < i → g j = v) → lv_has ls 4 [(2, .int (nI (i))), (3, .int (nI (n))), (0, .ref qa), (1, .int (v))] → va_P D cl_all ([(qa, .inl (cI, n, .inl g))]) H → va_D A ([(qa, .inl (cI, n, .inl g))]) → va_S A s0.heap H locs → W p l e0 R s0 m args below meth c H locs cells slots Q (F0 m 5 ls []) := by
  intro f
  induction f with
  | zero => intro i g ls H locs hf; omega
  | succ f ih =>
    intro i g ls H locs hf hi hg hl hP hD hS
    refine lv_iload_n hx hb nd_AR_fill_5 rfl (lv_at hl 0 rfl) ?_
    refine lv_iload_n hx hb nd_AR_fill_6 rfl (lv_at hl 1 rfl) ?_
    refine wi_icmp_ge (tgt := 20) hx hb (by omega) (by omega) nd_AR_fill_7 rfl (fun hc7 => ?_) (fun hc7 => ?_)
    · have hl : lv_has ls 4 [(1, .int (v))] := lv_sub hl [3] rfl
      exact kx ls H locs g (fun j hj => hg j (by omega)) hl hP hD hS
    · refine lv_aload_n hx hb nd_AR_fill_10 rfl (lv_at hl 2 rfl) ?_
      refine lv_iload_n hx hb nd_AR_fill_11 rfl (lv_at hl 0 rfl) ?_
      refine lv_iload_n hx hb nd_AR_fill_12 rfl (lv_at hl 3 rfl) ?_
      refine wi_iast hx hb hK hP hD hS 0 0 rfl rfl (by omega) (by omega) nd_AR_fill_13 (fun H locs hP hD hS => ?_)
      have hP : va_P D cl_all ([(qa, .inl (cI, n, .inl (upd g i v)))]) H := hP
      have hD : va_D A ([(qa, .inl (cI, n, .inl (upd g i v)))]) := hD
      refine lv_iinc (k := 0) (v := nI (i + 1)) hx hb nd_AR_fill_14 hl rfl (wi_inc _ 1) (by decide) rfl (fun ls hl => ?_)
      have hl : lv_has ls 4 [(2, .int (nI (i + 1))), (3, .int (nI (n))), (0, .ref qa), (1, .int (v))] := hl
      refine lv_goto (tgt := 5) hx hb nd_AR_fill_17 rfl ?_
      have hl : lv_has ls 4 [(2, .int (nI (i + 1))), (3, .int (nI (n))), (0, .ref qa), (1, .int (v))] := lv_sub hl [0, 1, 2, 3] rfl
      exact ih (i + 1) (upd g i v) ls H locs (by omega) (by omega) (fun j hj => by by_cases q : j = i <;> simp [upd, q]; exact hg j (by omega)) hl hP hD hS
set_option maxRecDepth 20000 in
theorem c_AR_fill (l : Launch) (D : va_G) (cI cG cM : ClassId)  (qa n : Nat) (hn : n < 2 ^ 31) (f : Nat → Int32) (v : Int32) (sz : Nat) : wb_Mv l ny_AR_fill nc_AR_fill 4 ({ frames := 0, cells := 0, slots := 0, locals := 0 }) D (ty_all cI cG cM) ([(qa, .inl (cI, n, .inl f))]) sz [.ref qa, .int (v)] (fun u : Nat → Int32 => ∀ j, j < n → u j = v) (fun u : Nat → Int32 => [(qa, .inl (cI, n, .inl u))]) := by
  refine wb_start (S := Nat → Int32) (by decide) (Nat.le_of_ble_eq_true rfl) ?_
  intro p e0 s0 m below meth c ls A hx hb hr hml htg hown hk hP hK hN hl hAe hsz hD hA
  have hl : lv_has ls 4 [(0, .ref qa), (1, .int (v))] := hl
  have hS : va_S A s0.heap s0.heap [] := va_S.rf
  have hRf : 0 ≤ ({ frames := 0, cells := 0, slots := 0, locals := 0 } : Room).frames := Nat.le_refl _
  have hRl : 0 ≤ ({ frames := 0, cells := 0, slots := 0, locals := 0 } : Room).locals := Nat.le_refl _
  have hCS : 0 ≤ ({ frames := 0, cells := 0, slots := 0, locals := 0 } : Room).cells ∧ 0 ≤ ({ frames := 0, cells := 0, slots := 0, locals := 0 } : Room).slots := ⟨Nat.zero_le _, Nat.zero_le _⟩
  refine wi_ic hx hb (a := 0) nd_AR_fill_0 ?_
  refine lv_istore_n hx hb nd_AR_fill_1 rfl hl (by decide) rfl (fun ls hl => ?_)
  have hl : lv_has ls 4 [(2, .int (nI (0))), (0, .ref qa), (1, .int (v))] := hl
  refine lv_aload_n hx hb nd_AR_fill_2 rfl (lv_at hl 1 rfl) ?_
  refine va_alen (v := nI (n)) hx hb hK hP 0 0 rfl rfl rfl nd_AR_fill_3 ?_
  refine lv_istore_n hx hb nd_AR_fill_4 rfl hl (by decide) rfl (fun ls hl => ?_)
  have hl : lv_has ls 4 [(3, .int (nI (n))), (2, .int (nI (0))), (0, .ref qa), (1, .int (v))] := hl
  have hl : lv_has ls 4 [(2, .int (nI (0))), (3, .int (nI (n))), (0, .ref qa), (1, .int (v))] := lv_sub hl [1, 0, 2, 3] rfl
  refine lp_AR_fill cI cG cM qa n hn v hx hb hml htg hown hK hN hA hRf hRl hCS (fun ls H locs g hg hl hP hD hS => ?_) (n + 1) 0 f ls s0.heap [] (by omega) (by omega) (fun j hj => by omega) hl hP hD hS
  exact wb_vret (g) hx hb hr hk hAe (hg) hP hD hS nd_AR_fill_20
