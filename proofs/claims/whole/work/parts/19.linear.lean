/-! LINEAR. -/
theorem li_nat {z : Int32} (h : 0 ≤ z.toInt) : z = nI z.toInt.toNat := by
  apply Int32.toInt_inj.mp
  have h2 := Int32.toInt_lt z
  rw [nI_toInt (by omega)]
  omega
theorem li_z {z : Int32} : z = 0 ↔ z.toInt = 0 := by
  constructor
  · intro h; rw [h]; rfl
  · intro h; apply Int32.toInt_inj.mp; rw [h]; rfl
theorem li_fm {p : Nat} (hp : p = 2 ∨ p = 3 ∨ p = 5 ∨ p = 7) {a b c d : Nat} (ha : a < p) (hb : b < p) (hc : c < p) (hd : d < p) : (nI (fm_ (nI (a * b) - nI (c * d)) p)).toInt = ((a : Int) * b - (c : Int) * d) % (p : Int) := by
  have h1 : a * b < 49 := by
    have : a * b ≤ 6 * 6 := Nat.mul_le_mul (by omega) (by omega)
    omega
  have h2 : c * d < 49 := by
    have : c * d ≤ 6 * 6 := Nat.mul_le_mul (by omega) (by omega)
    omega
  have l := fm_lt (nI (a * b) - nI (c * d)) (p := p) (by omega)
  rw [nI_toInt (by omega)]
  unfold fm_
  rw [pk_sub_toInt (by omega) (by omega)]
  have g := Int.emod_nonneg (((a * b : Nat) : Int) - ((c * d : Nat) : Int)) (b := (p : Int)) (by omega)
  rw [Int.toNat_of_nonneg g]
  simp only [Int.natCast_mul]
theorem nd_LK_cancel_0 : decode nc_LK_cancel 0 = .ok (.aload_n 0, 1) := by decide +kernel
theorem nd_LK_cancel_1 : decode nc_LK_cancel 1 = .ok (.getfield 11, 3) := by decide +kernel
theorem nd_LK_cancel_4 : decode nc_LK_cancel 4 = .ok (.iload_n 1, 1) := by decide +kernel
theorem nd_LK_cancel_5 : decode nc_LK_cancel 5 = .ok (.aaload, 1) := by decide +kernel
theorem nd_LK_cancel_6 : decode nc_LK_cancel 6 = .ok (.iload_n 1, 1) := by decide +kernel
theorem nd_LK_cancel_7 : decode nc_LK_cancel 7 = .ok (.iaload, 1) := by decide +kernel
theorem nd_LK_cancel_8 : decode nc_LK_cancel 8 = .ok (.istore_n 2, 1) := by decide +kernel
theorem nd_LK_cancel_9 : decode nc_LK_cancel 9 = .ok (.aload_n 0, 1) := by decide +kernel
theorem nd_LK_cancel_10 : decode nc_LK_cancel 10 = .ok (.getfield 16, 3) := by decide +kernel
theorem nd_LK_cancel_13 : decode nc_LK_cancel 13 = .ok (.iload_n 1, 1) := by decide +kernel
theorem nd_LK_cancel_14 : decode nc_LK_cancel 14 = .ok (.iaload, 1) := by decide +kernel
theorem nd_LK_cancel_15 : decode nc_LK_cancel 15 = .ok (.istore_n 3, 1) := by decide +kernel
theorem nd_LK_cancel_16 : decode nc_LK_cancel 16 = .ok (.iload_n 1, 1) := by decide +kernel
theorem nd_LK_cancel_17 : decode nc_LK_cancel 17 = .ok (.istore 4, 2) := by decide +kernel
theorem nd_LK_cancel_19 : decode nc_LK_cancel 19 = .ok (.iload 4, 2) := by decide +kernel
theorem nd_LK_cancel_21 : decode nc_LK_cancel 21 = .ok (.iconst 4, 1) := by decide +kernel
theorem nd_LK_cancel_22 : decode nc_LK_cancel 22 = .ok (.if_icmp .ge 44, 3) := by decide +kernel
theorem nd_LK_cancel_25 : decode nc_LK_cancel 25 = .ok (.aload_n 0, 1) := by decide +kernel
theorem nd_LK_cancel_26 : decode nc_LK_cancel 26 = .ok (.getfield 16, 3) := by decide +kernel
theorem nd_LK_cancel_29 : decode nc_LK_cancel 29 = .ok (.iload 4, 2) := by decide +kernel
theorem nd_LK_cancel_31 : decode nc_LK_cancel 31 = .ok (.aload_n 0, 1) := by decide +kernel
theorem nd_LK_cancel_32 : decode nc_LK_cancel 32 = .ok (.getfield 16, 3) := by decide +kernel
theorem nd_LK_cancel_35 : decode nc_LK_cancel 35 = .ok (.iload 4, 2) := by decide +kernel
theorem nd_LK_cancel_37 : decode nc_LK_cancel 37 = .ok (.iaload, 1) := by decide +kernel
theorem nd_LK_cancel_38 : decode nc_LK_cancel 38 = .ok (.iload_n 2, 1) := by decide +kernel
theorem nd_LK_cancel_39 : decode nc_LK_cancel 39 = .ok (.imul, 1) := by decide +kernel
theorem nd_LK_cancel_40 : decode nc_LK_cancel 40 = .ok (.aload_n 0, 1) := by decide +kernel
theorem nd_LK_cancel_41 : decode nc_LK_cancel 41 = .ok (.getfield 11, 3) := by decide +kernel
theorem nd_LK_cancel_44 : decode nc_LK_cancel 44 = .ok (.iload_n 1, 1) := by decide +kernel
theorem nd_LK_cancel_45 : decode nc_LK_cancel 45 = .ok (.aaload, 1) := by decide +kernel
theorem nd_LK_cancel_46 : decode nc_LK_cancel 46 = .ok (.iload 4, 2) := by decide +kernel
theorem nd_LK_cancel_48 : decode nc_LK_cancel 48 = .ok (.iaload, 1) := by decide +kernel
theorem nd_LK_cancel_49 : decode nc_LK_cancel 49 = .ok (.iload_n 3, 1) := by decide +kernel
theorem nd_LK_cancel_50 : decode nc_LK_cancel 50 = .ok (.imul, 1) := by decide +kernel
theorem nd_LK_cancel_51 : decode nc_LK_cancel 51 = .ok (.isub, 1) := by decide +kernel
theorem nd_LK_cancel_52 : decode nc_LK_cancel 52 = .ok (.aload_n 0, 1) := by decide +kernel
theorem nd_LK_cancel_53 : decode nc_LK_cancel 53 = .ok (.getfield 20, 3) := by decide +kernel
theorem nd_LK_cancel_56 : decode nc_LK_cancel 56 = .ok (.invokestatic 33, 3) := by decide +kernel
theorem nd_LK_cancel_59 : decode nc_LK_cancel 59 = .ok (.iastore, 1) := by decide +kernel
theorem nd_LK_cancel_60 : decode nc_LK_cancel 60 = .ok (.iinc 4 1, 3) := by decide +kernel
theorem nd_LK_cancel_63 : decode nc_LK_cancel 63 = .ok (.goto (-44), 3) := by decide +kernel
theorem nd_LK_cancel_66 : decode nc_LK_cancel 66 = .ok (.return_, 1) := by decide +kernel
set_option maxRecDepth 20000 in
theorem lp_LK_cancel {p0 : Program} {l : Launch} {e0 : Env} {R : Room} {s0 : State} {m : MethodId} {args : Array Value} {below : List Frame} {meth : Method} {c : Code} {cells slots : Nat} {Q : State → Prop} {D : va_G} {A : Nat → Prop} (cI cG cM : ClassId) (l0 l1 l2 l3 n : Nat) (hn : n ≤ 10) (rp rc : Nat → Nat) (C : Nat → Nat → Int32) (p : Nat) (hp : p = 2 ∨ p = 3 ∨ p = 5 ∨ p = 7) (P : Nat → Nat → Int32) (row : Nat) (hrow : row < 4) (pi rho : Nat → Nat) (hPr : ∀ i, i < 4 → P row i = nI (pi i))  (hx : p0.tables.exec = Jvm.exec) (hb : c.code = nc_LK_cancel) (hml : c.maxLocals = 5) (htg : ∀ w ∈ tg_, w.before args s0 = true) (hown : s0.vm.findClass ny_LK_cancel.cls = some m.cls) (hK : va_K D cl_all (ty_all cI cG cM) s0) (hN : tn_K s0) (hA : ∀ q : Nat, s0.heap.size ≤ q → A q) (hRf : 1 ≤ R.frames) (hRl : 22 ≤ R.locals) (hCS : cells ≤ R.cells ∧ slots ≤ R.slots) (kx : ∀ (ls : Array Slot) (H : Heap) (locs : List Loc) (g : Nat → Int32), (∀ j, j < 4 → g j = nI (if row ≤ j then fm_ (nI (rho j * pi row) - nI (pi j * rho row)) p else rho j)) → lv_has ls 5 [(0, .ref l0)] → va_P D cl_all ([(l0, .inr (5, [.ref l3, .ref l1, .ref l2, .int (nI (p))])), (l1, .inl (cG, 4, .inr (.inr (.inr (.inr (fun i => if i < 4 then some (rp i) else none)))))), (l2, .inl (cI, 4, .inl g)), (l3, .inl (cG, n, .inr (.inr (.inr (.inr (fun i => if i < n then some (rc i) else none))))))] ++ (rw_R cI 4 rp P 4 ++ (rw_R cI 4 rc C n ++ []))) H → va_D A ([(l0, .inr (5, [.ref l3, .ref l1, .ref l2, .int (nI (p))])), (l1, .inl (cG, 4, .inr (.inr (.inr (.inr (fun i => if i < 4 then some (rp i) else none)))))), (l2, .inl (cI, 4, .inl g)), (l3, .inl (cG, n, .inr (.inr (.inr (.inr (fun i => if i < n then some (rc i) else none))))))] ++ (rw_R cI 4 rp P 4 ++ (rw_R cI 4 rc C n ++ []))) → va_S A s0.heap H locs → W p0 l e0 R s0 m args below meth c H locs cells slots Q (F0 m 66 ls [])) : ∀ (f : Nat) (i : Nat) (g : Nat → Int32) (ls : Array Slot) (H : Heap) (locs : List Loc), 4 - i < f → (i ≤ 4) → (row ≤ i) → (∀ j, j < 4 → g j = nI (if row ≤ j ∧ j < i then fm_ (nI (rho j * pi row) - nI (pi j * rho row)) p else rho j)) → lv_has ls 5 [(4, .int (nI (i))), (3, .int (nI (rho row))), (2, .int (nI (pi row))), (0, .ref l0), (1, .int (nI (row)))] → va_P D cl_all ([(l0, .inr (5, [.ref l3, .ref l1, .ref l2, .int (nI (p))])), (l1, .inl (cG, 4, .inr (.inr (.inr (.inr (fun i => if i < 4 then some (rp i) else none)))))), (l2, .inl (cI, 4, .inl g)), (l3, .inl (cG, n, .inr (.inr (.inr (.inr (fun i => if i < n then some (rc i) else none))))))] ++ (rw_R cI 4 rp P 4 ++ (rw_R cI 4 rc C n ++ []))) H → va_D A ([(l0, .inr (5, [.ref l3, .ref l1, .ref l2, .int (nI (p))])), (l1, .inl (cG, 4, .inr (.inr (.inr (.inr (fun i => if i < 4 then some (rp i) else none)))))), (l2, .inl (cI, 4, .inl g)), (l3, .inl (cG, n, .inr (.inr (.inr (.inr (fun i => if i < n then some (rc i) else none))))))] ++ (rw_R cI 4 rp P 4 ++ (rw_R cI 4 rc C n ++ []))) → va_S A s0.heap H locs → W p0 l e0 R s0 m args below meth c H locs cells slots Q (F0 m 19 ls []) := by
  intro f
  induction f with
  | zero => intro i g ls H locs hfu; omega
  | succ f ih =>
    intro i g ls H locs hfu hi hri hg hl hP hD hS
    refine lv_iload hx hb nd_LK_cancel_19 (lv_at hl 0 rfl) ?_
    refine wi_ic hx hb (a := 4) nd_LK_cancel_21 ?_
    refine wi_icmp_ge (tgt := 66) hx hb (by omega) (by omega) nd_LK_cancel_22 rfl (fun hc22 => ?_) (fun hc22 => ?_)
    · have hl : lv_has ls 5 [(0, .ref l0)] := lv_sub hl [3] rfl
      exact kx ls H locs g (fun j hj => by rw [hg j hj]; simp [show j < i by omega]) hl hP hD hS
    · have hgi : g i = nI (rho i) := by rw [hg i (by omega)]; simp
      refine lv_aload_n hx hb nd_LK_cancel_25 rfl (lv_at hl 3 rfl) ?_
      refine va_get (D := D) (C := nr_LK) (T := nt_LK) (N := 4) hx hb htg tf_LK hown hK hP 0 rfl rfl 2 (by decide) (htg _ tm_86) (fun _ h => h) rfl nd_LK_cancel_26 ?_
      refine lv_iload hx hb nd_LK_cancel_29 (lv_at hl 0 rfl) ?_
      refine lv_aload_n hx hb nd_LK_cancel_31 rfl (lv_at hl 3 rfl) ?_
      refine va_get (D := D) (C := nr_LK) (T := nt_LK) (N := 4) hx hb htg tf_LK hown hK hP 0 rfl rfl 2 (by decide) (htg _ tm_86) (fun _ h => h) rfl nd_LK_cancel_32 ?_
      refine lv_iload hx hb nd_LK_cancel_35 (lv_at hl 0 rfl) ?_
      refine wi_iald hx hb hK hP 2 0 rfl rfl (by omega) (by omega) nd_LK_cancel_37 ?_
      refine wi_top (hgi) ?_
      refine lv_iload_n hx hb nd_LK_cancel_38 rfl (lv_at hl 2 rfl) ?_
      refine wi_imul hx hb nd_LK_cancel_39 ?_
      refine lv_aload_n hx hb nd_LK_cancel_40 rfl (lv_at hl 3 rfl) ?_
      refine va_get (D := D) (C := nr_LK) (T := nt_LK) (N := 4) hx hb htg tf_LK hown hK hP 0 rfl rfl 1 (by decide) (htg _ tm_85) (fun _ h => h) rfl nd_LK_cancel_41 ?_
      refine lv_iload_n hx hb nd_LK_cancel_44 rfl (lv_at hl 4 rfl) ?_
      refine wi_aald (v := (rp row)) hx hb hK hP 1 1 rfl rfl rfl (by omega) (by omega) (if_pos (by omega)) nd_LK_cancel_45 ?_
      refine lv_iload hx hb nd_LK_cancel_46 (lv_at hl 0 rfl) ?_
      refine wi_iald hx hb hK hP _ 0 (rw_atL (by omega)) rfl (by omega) (by omega) nd_LK_cancel_48 ?_
      refine wi_top (hPr i (by omega)) ?_
      refine lv_iload_n hx hb nd_LK_cancel_49 rfl (lv_at hl 1 rfl) ?_
      refine wi_imul hx hb nd_LK_cancel_50 ?_
      refine lv_isub hx hb nd_LK_cancel_51 ?_
      refine lv_aload_n hx hb nd_LK_cancel_52 rfl (lv_at hl 3 rfl) ?_
      refine va_get (D := D) (C := nr_LK) (T := nt_LK) (N := 4) hx hb htg tf_LK hown hK hP 0 rfl rfl 3 (by decide) (htg _ tm_87) (fun _ h => h) rfl nd_LK_cancel_53 ?_
      refine wc_S (n := 2) hx hb hml hown htg (c_MT_floorMod l D _ ((nI ((rho i) * (pi row)) - nI ((pi i) * (rho row)))) p hp) tm_241 tm_239 tm_240 tm_10 (by decide +kernel) ⟨⟨Nat.le_trans (by decide) hRf, Nat.le_trans (by decide) hRl⟩, rfl, rfl⟩ (wa_pre wa_nil hK hN) rfl hl.1 rfl (Nat.le_of_ble_eq_true rfl) nd_LK_cancel_56 hCS ?_
      refine wi_iast hx hb hK hP hD hS 2 0 rfl rfl (by omega) (by omega) nd_LK_cancel_59 (fun H locs hP hD hS => ?_)
      have hP : va_P D cl_all ([(l0, .inr (5, [.ref l3, .ref l1, .ref l2, .int (nI (p))])), (l1, .inl (cG, 4, .inr (.inr (.inr (.inr (fun i => if i < 4 then some (rp i) else none)))))), (l2, .inl (cI, 4, .inl (upd g i (nI (fm_ ((nI ((rho i) * (pi row)) - nI ((pi i) * (rho row)))) p))))), (l3, .inl (cG, n, .inr (.inr (.inr (.inr (fun i => if i < n then some (rc i) else none))))))] ++ (rw_R cI 4 rp P 4 ++ (rw_R cI 4 rc C n ++ []))) H := hP
      have hD : va_D A ([(l0, .inr (5, [.ref l3, .ref l1, .ref l2, .int (nI (p))])), (l1, .inl (cG, 4, .inr (.inr (.inr (.inr (fun i => if i < 4 then some (rp i) else none)))))), (l2, .inl (cI, 4, .inl (upd g i (nI (fm_ ((nI ((rho i) * (pi row)) - nI ((pi i) * (rho row)))) p))))), (l3, .inl (cG, n, .inr (.inr (.inr (.inr (fun i => if i < n then some (rc i) else none))))))] ++ (rw_R cI 4 rp P 4 ++ (rw_R cI 4 rc C n ++ []))) := hD
      refine lv_iinc (k := 0) (v := nI (i + 1)) hx hb nd_LK_cancel_60 hl rfl (wi_inc _ 1) (by decide) rfl (fun ls hl => ?_)
      have hl : lv_has ls 5 [(4, .int (nI (i + 1))), (3, .int (nI (rho row))), (2, .int (nI (pi row))), (0, .ref l0), (1, .int (nI (row)))] := hl
      refine lv_goto (tgt := 19) hx hb nd_LK_cancel_63 rfl ?_
      have hl : lv_has ls 5 [(4, .int (nI (i + 1))), (3, .int (nI (rho row))), (2, .int (nI (pi row))), (0, .ref l0), (1, .int (nI (row)))] := lv_sub hl [0, 1, 2, 3, 4] rfl
      exact ih (i + 1) _ ls H locs (by omega) (by omega) (by omega) (fun j hj => if q : j = i then by subst q; simp [upd, hri] else by simp only [upd, q, if_false]; rw [hg j hj]; simp only [show (j < i + 1) = (j < i) from propext ⟨fun _ => by omega, fun _ => by omega⟩]) hl hP hD hS
set_option maxRecDepth 20000 in
theorem c_LK_cancel (l : Launch) (D : va_G) (cI cG cM : ClassId)  (l0 l1 l2 l3 n : Nat) (hn : n ≤ 10) (rp rc : Nat → Nat) (C : Nat → Nat → Int32) (p : Nat) (hp : p = 2 ∨ p = 3 ∨ p = 5 ∨ p = 7) (P : Nat → Nat → Int32) (row : Nat) (hrow : row < 4) (pi rho : Nat → Nat) (hPr : ∀ i, i < 4 → P row i = nI (pi i)) (rr : Nat → Int32) (hrr : ∀ i, i < 4 → rr i = nI (rho i)) (sz : Nat) : wb_Mv l ny_LK_cancel nc_LK_cancel 5 ({ frames := 1, cells := 0, slots := 0, locals := 22 }) D (ty_all cI cG cM) ([(l0, .inr (5, [.ref l3, .ref l1, .ref l2, .int (nI (p))])), (l1, .inl (cG, 4, .inr (.inr (.inr (.inr (fun i => if i < 4 then some (rp i) else none)))))), (l2, .inl (cI, 4, .inl rr)), (l3, .inl (cG, n, .inr (.inr (.inr (.inr (fun i => if i < n then some (rc i) else none))))))] ++ (rw_R cI 4 rp P 4 ++ (rw_R cI 4 rc C n ++ []))) sz [.ref l0, .int (nI (row))] (fun u : Nat → Int32 => ∀ j, j < 4 → u j = nI (if row ≤ j then fm_ (nI (rho j * pi row) - nI (pi j * rho row)) p else rho j)) (fun u : Nat → Int32 => [(l0, .inr (5, [.ref l3, .ref l1, .ref l2, .int (nI (p))])), (l1, .inl (cG, 4, .inr (.inr (.inr (.inr (fun i => if i < 4 then some (rp i) else none)))))), (l2, .inl (cI, 4, .inl u)), (l3, .inl (cG, n, .inr (.inr (.inr (.inr (fun i => if i < n then some (rc i) else none))))))] ++ (rw_R cI 4 rp P 4 ++ (rw_R cI 4 rc C n ++ []))) := by
  refine wb_start (S := Nat → Int32) (by decide) (Nat.le_of_ble_eq_true rfl) ?_
  intro p0 e0 s0 m below meth c ls A hx hb hr hml htg hown hk hP hK hN hl hAe hsz hD hA
  have hl : lv_has ls 5 [(0, .ref l0), (1, .int (nI (row)))] := hl
  have hS : va_S A s0.heap s0.heap [] := va_S.rf
  have hRf : 1 ≤ ({ frames := 1, cells := 0, slots := 0, locals := 22 } : Room).frames := Nat.le_refl _
  have hRl : 22 ≤ ({ frames := 1, cells := 0, slots := 0, locals := 22 } : Room).locals := Nat.le_refl _
  have hCS : 0 ≤ ({ frames := 1, cells := 0, slots := 0, locals := 22 } : Room).cells ∧ 0 ≤ ({ frames := 1, cells := 0, slots := 0, locals := 22 } : Room).slots := ⟨Nat.zero_le _, Nat.zero_le _⟩
  refine lv_aload_n hx hb nd_LK_cancel_0 rfl (lv_at hl 0 rfl) ?_
  refine va_get (D := D) (C := nr_LK) (T := nt_LK) (N := 4) hx hb htg tf_LK hown hK hP 0 rfl rfl 1 (by decide) (htg _ tm_85) (fun _ h => h) rfl nd_LK_cancel_1 ?_
  refine lv_iload_n hx hb nd_LK_cancel_4 rfl (lv_at hl 1 rfl) ?_
  refine wi_aald (v := (rp row)) hx hb hK hP 1 1 rfl rfl rfl (by omega) (by omega) (if_pos (by omega)) nd_LK_cancel_5 ?_
  refine lv_iload_n hx hb nd_LK_cancel_6 rfl (lv_at hl 1 rfl) ?_
  refine wi_iald hx hb hK hP _ 0 (rw_atL (by omega)) rfl (by omega) (by omega) nd_LK_cancel_7 ?_
  refine wi_top (hPr row (by omega)) ?_
  refine lv_istore_n hx hb nd_LK_cancel_8 rfl hl (by decide) rfl (fun ls hl => ?_)
  have hl : lv_has ls 5 [(2, .int (nI (pi row))), (0, .ref l0), (1, .int (nI (row)))] := hl
  refine lv_aload_n hx hb nd_LK_cancel_9 rfl (lv_at hl 1 rfl) ?_
  refine va_get (D := D) (C := nr_LK) (T := nt_LK) (N := 4) hx hb htg tf_LK hown hK hP 0 rfl rfl 2 (by decide) (htg _ tm_86) (fun _ h => h) rfl nd_LK_cancel_10 ?_
  refine lv_iload_n hx hb nd_LK_cancel_13 rfl (lv_at hl 2 rfl) ?_
  refine wi_iald hx hb hK hP 2 0 rfl rfl (by omega) (by omega) nd_LK_cancel_14 ?_
  refine wi_top (hrr row (by omega)) ?_
  refine lv_istore_n hx hb nd_LK_cancel_15 rfl hl (by decide) rfl (fun ls hl => ?_)
  have hl : lv_has ls 5 [(3, .int (nI (rho row))), (2, .int (nI (pi row))), (0, .ref l0), (1, .int (nI (row)))] := hl
  refine lv_iload_n hx hb nd_LK_cancel_16 rfl (lv_at hl 3 rfl) ?_
  refine lv_istore hx hb nd_LK_cancel_17 hl (by decide) rfl (fun ls hl => ?_)
  have hl : lv_has ls 5 [(4, .int (nI (row))), (3, .int (nI (rho row))), (2, .int (nI (pi row))), (0, .ref l0), (1, .int (nI (row)))] := hl
  have hl : lv_has ls 5 [(4, .int (nI (row))), (3, .int (nI (rho row))), (2, .int (nI (pi row))), (0, .ref l0), (1, .int (nI (row)))] := lv_sub hl [0, 1, 2, 3, 4] rfl
  refine lp_LK_cancel cI cG cM l0 l1 l2 l3 n hn rp rc C p hp P row hrow pi rho hPr hx hb hml htg hown hK hN hA hRf hRl hCS (fun ls H locs g hg hl hP hD hS => ?_) 5 row rr ls s0.heap [] (by omega) (by omega) (by omega) (fun j hj => by rw [hrr j hj]; simp [show ¬ (row ≤ j ∧ j < row) by omega]) hl hP hD hS
  exact wb_vret (g) hx hb hr hk hAe (hg) hP hD hS nd_LK_cancel_66
theorem nd_LK_setNumber_0 : decode nc_LK_setNumber 0 = .ok (.aload_n 0, 1) := by decide +kernel
theorem nd_LK_setNumber_1 : decode nc_LK_setNumber 1 = .ok (.getfield 24, 3) := by decide +kernel
theorem nd_LK_setNumber_4 : decode nc_LK_setNumber 4 = .ok (.iload_n 1, 1) := by decide +kernel
theorem nd_LK_setNumber_5 : decode nc_LK_setNumber 5 = .ok (.aaload, 1) := by decide +kernel
theorem nd_LK_setNumber_6 : decode nc_LK_setNumber 6 = .ok (.iload_n 2, 1) := by decide +kernel
theorem nd_LK_setNumber_7 : decode nc_LK_setNumber 7 = .ok (.iload_n 3, 1) := by decide +kernel
theorem nd_LK_setNumber_8 : decode nc_LK_setNumber 8 = .ok (.aload_n 0, 1) := by decide +kernel
theorem nd_LK_setNumber_9 : decode nc_LK_setNumber 9 = .ok (.getfield 20, 3) := by decide +kernel
theorem nd_LK_setNumber_12 : decode nc_LK_setNumber 12 = .ok (.invokestatic 33, 3) := by decide +kernel
theorem nd_LK_setNumber_15 : decode nc_LK_setNumber 15 = .ok (.iastore, 1) := by decide +kernel
theorem nd_LK_setNumber_16 : decode nc_LK_setNumber 16 = .ok (.return_, 1) := by decide +kernel
set_option maxRecDepth 20000 in
theorem c_LK_setNumber (l : Launch) (D : va_G) (cI cG cM : ClassId)  (l0 l1 l2 l3 n : Nat) (hn : n ≤ 10) (rp rc : Nat → Nat) (C : Nat → Nat → Int32) (p : Nat) (hp : p = 2 ∨ p = 3 ∨ p = 5 ∨ p = 7) (P : Nat → Nat → Int32) (rr : Nat → Int32) (el row : Nat) (hel : el < n) (hrow : row < 4) (v0 : Int32) (sz : Nat) : wb_Mv l ny_LK_setNumber nc_LK_setNumber 4 ({ frames := 1, cells := 0, slots := 0, locals := 22 }) D (ty_all cI cG cM) ([(l0, .inr (5, [.ref l3, .ref l1, .ref l2, .int (nI (p))])), (l1, .inl (cG, 4, .inr (.inr (.inr (.inr (fun i => if i < 4 then some (rp i) else none)))))), (l2, .inl (cI, 4, .inl rr)), (l3, .inl (cG, n, .inr (.inr (.inr (.inr (fun i => if i < n then some (rc i) else none))))))] ++ (rw_R cI 4 rp P 4 ++ (rw_R cI 4 rc C n ++ []))) sz [.ref l0, .int (nI (el)), .int (nI (row)), .int (v0)] (fun u : Unit => True) (fun u : Unit => [(l0, .inr (5, [.ref l3, .ref l1, .ref l2, .int (nI (p))])), (l1, .inl (cG, 4, .inr (.inr (.inr (.inr (fun i => if i < 4 then some (rp i) else none)))))), (l2, .inl (cI, 4, .inl rr)), (l3, .inl (cG, n, .inr (.inr (.inr (.inr (fun i => if i < n then some (rc i) else none))))))] ++ (rw_R cI 4 rp P 4 ++ (rw_R cI 4 rc (va_up C el (upd (C el) row (nI (fm_ v0 p)))) n ++ []))) := by
  refine wb_start (S := Unit) (by decide) (Nat.le_of_ble_eq_true rfl) ?_
  intro p0 e0 s0 m below meth c ls A hx hb hr hml htg hown hk hP hK hN hl hAe hsz hD hA
  have hl : lv_has ls 4 [(0, .ref l0), (1, .int (nI (el))), (2, .int (nI (row))), (3, .int (v0))] := hl
  have hS : va_S A s0.heap s0.heap [] := va_S.rf
  have hRf : 1 ≤ ({ frames := 1, cells := 0, slots := 0, locals := 22 } : Room).frames := Nat.le_refl _
  have hRl : 22 ≤ ({ frames := 1, cells := 0, slots := 0, locals := 22 } : Room).locals := Nat.le_refl _
  have hCS : 0 ≤ ({ frames := 1, cells := 0, slots := 0, locals := 22 } : Room).cells ∧ 0 ≤ ({ frames := 1, cells := 0, slots := 0, locals := 22 } : Room).slots := ⟨Nat.zero_le _, Nat.zero_le _⟩
  refine lv_aload_n hx hb nd_LK_setNumber_0 rfl (lv_at hl 0 rfl) ?_
  refine va_get (D := D) (C := nr_LK) (T := nt_LK) (N := 4) hx hb htg tf_LK hown hK hP 0 rfl rfl 0 (by decide) (htg _ tm_84) (fun _ h => h) rfl nd_LK_setNumber_1 ?_
  refine lv_iload_n hx hb nd_LK_setNumber_4 rfl (lv_at hl 1 rfl) ?_
  refine wi_aald (v := (rc el)) hx hb hK hP 3 1 rfl rfl rfl (by omega) (by omega) (if_pos (by omega)) nd_LK_setNumber_5 ?_
  refine lv_iload_n hx hb nd_LK_setNumber_6 rfl (lv_at hl 2 rfl) ?_
  refine lv_iload_n hx hb nd_LK_setNumber_7 rfl (lv_at hl 3 rfl) ?_
  refine lv_aload_n hx hb nd_LK_setNumber_8 rfl (lv_at hl 0 rfl) ?_
  refine va_get (D := D) (C := nr_LK) (T := nt_LK) (N := 4) hx hb htg tf_LK hown hK hP 0 rfl rfl 3 (by decide) (htg _ tm_87) (fun _ h => h) rfl nd_LK_setNumber_9 ?_
  refine wc_S (n := 2) hx hb hml hown htg (c_MT_floorMod l D _ (v0) p hp) tm_241 tm_239 tm_240 tm_10 (by decide +kernel) ⟨⟨Nat.le_trans (by decide) hRf, Nat.le_trans (by decide) hRl⟩, rfl, rfl⟩ (wa_pre wa_nil hK hN) rfl hl.1 rfl (Nat.le_of_ble_eq_true rfl) nd_LK_setNumber_12 hCS ?_
  refine wi_iast hx hb hK hP hD hS _ 0 (rw_atR (by omega)) rfl (by omega) (by omega) nd_LK_setNumber_15 (fun H locs hP hD hS => ?_)
  rw [rw_setR (by omega)] at hP hD
  have hP : va_P D cl_all ([(l0, .inr (5, [.ref l3, .ref l1, .ref l2, .int (nI (p))])), (l1, .inl (cG, 4, .inr (.inr (.inr (.inr (fun i => if i < 4 then some (rp i) else none)))))), (l2, .inl (cI, 4, .inl rr)), (l3, .inl (cG, n, .inr (.inr (.inr (.inr (fun i => if i < n then some (rc i) else none))))))] ++ (rw_R cI 4 rp P 4 ++ (rw_R cI 4 rc (va_up C el (upd (C el) row (nI (fm_ (v0) p)))) n ++ []))) H := hP
  have hD : va_D A ([(l0, .inr (5, [.ref l3, .ref l1, .ref l2, .int (nI (p))])), (l1, .inl (cG, 4, .inr (.inr (.inr (.inr (fun i => if i < 4 then some (rp i) else none)))))), (l2, .inl (cI, 4, .inl rr)), (l3, .inl (cG, n, .inr (.inr (.inr (.inr (fun i => if i < n then some (rc i) else none))))))] ++ (rw_R cI 4 rp P 4 ++ (rw_R cI 4 rc (va_up C el (upd (C el) row (nI (fm_ (v0) p)))) n ++ []))) := hD
  exact wb_vret (()) hx hb hr hk hAe (trivial) hP hD hS nd_LK_setNumber_16
theorem nd_LK_clear_0 : decode nc_LK_clear 0 = .ok (.aload_n 0, 1) := by decide +kernel
theorem nd_LK_clear_1 : decode nc_LK_clear 1 = .ok (.iload_n 1, 1) := by decide +kernel
theorem nd_LK_clear_2 : decode nc_LK_clear 2 = .ok (.putfield 20, 3) := by decide +kernel
theorem nd_LK_clear_5 : decode nc_LK_clear 5 = .ok (.iconst 0, 1) := by decide +kernel
theorem nd_LK_clear_6 : decode nc_LK_clear 6 = .ok (.istore_n 2, 1) := by decide +kernel
theorem nd_LK_clear_7 : decode nc_LK_clear 7 = .ok (.iload_n 2, 1) := by decide +kernel
theorem nd_LK_clear_8 : decode nc_LK_clear 8 = .ok (.aload_n 0, 1) := by decide +kernel
theorem nd_LK_clear_9 : decode nc_LK_clear 9 = .ok (.getfield 24, 3) := by decide +kernel
theorem nd_LK_clear_12 : decode nc_LK_clear 12 = .ok (.arraylength, 1) := by decide +kernel
theorem nd_LK_clear_13 : decode nc_LK_clear 13 = .ok (.if_icmp .ge 19, 3) := by decide +kernel
theorem nd_LK_clear_16 : decode nc_LK_clear 16 = .ok (.aload_n 0, 1) := by decide +kernel
theorem nd_LK_clear_17 : decode nc_LK_clear 17 = .ok (.getfield 24, 3) := by decide +kernel
theorem nd_LK_clear_20 : decode nc_LK_clear 20 = .ok (.iload_n 2, 1) := by decide +kernel
theorem nd_LK_clear_21 : decode nc_LK_clear 21 = .ok (.aaload, 1) := by decide +kernel
theorem nd_LK_clear_22 : decode nc_LK_clear 22 = .ok (.iconst 0, 1) := by decide +kernel
theorem nd_LK_clear_23 : decode nc_LK_clear 23 = .ok (.invokestatic 27, 3) := by decide +kernel
theorem nd_LK_clear_26 : decode nc_LK_clear 26 = .ok (.iinc 2 1, 3) := by decide +kernel
theorem nd_LK_clear_29 : decode nc_LK_clear 29 = .ok (.goto (-22), 3) := by decide +kernel
theorem nd_LK_clear_32 : decode nc_LK_clear 32 = .ok (.return_, 1) := by decide +kernel
set_option maxRecDepth 20000 in
theorem lp_LK_clear {p0 : Program} {l : Launch} {e0 : Env} {R : Room} {s0 : State} {m : MethodId} {args : Array Value} {below : List Frame} {meth : Method} {c : Code} {cells slots : Nat} {Q : State → Prop} {D : va_G} {A : Nat → Prop} (cI cG cM : ClassId) (l0 l1 l2 l3 n : Nat) (hn : n ≤ 10) (rp rc : Nat → Nat) (p : Nat) (P : Nat → Nat → Int32) (rr : Nat → Int32)  (hx : p0.tables.exec = Jvm.exec) (hb : c.code = nc_LK_clear) (hml : c.maxLocals = 3) (htg : ∀ w ∈ tg_, w.before args s0 = true) (hown : s0.vm.findClass ny_LK_clear.cls = some m.cls) (hK : va_K D cl_all (ty_all cI cG cM) s0) (hN : tn_K s0) (hA : ∀ q : Nat, s0.heap.size ≤ q → A q) (hRf : 1 ≤ R.frames) (hRl : 23 ≤ R.locals) (hCS : cells ≤ R.cells ∧ slots ≤ R.slots) (kx : ∀ (ls : Array Slot) (H : Heap) (locs : List Loc) (M : Nat → Nat → Int32), (∀ e, e < n → ∀ j, j < 4 → M e j = nI 0) → lv_has ls 3 [(0, .ref l0)] → va_P D cl_all ([(l0, .inr (5, [.ref l3, .ref l1, .ref l2, .int (nI (p))])), (l1, .inl (cG, 4, .inr (.inr (.inr (.inr (fun i => if i < 4 then some (rp i) else none)))))), (l2, .inl (cI, 4, .inl rr)), (l3, .inl (cG, n, .inr (.inr (.inr (.inr (fun i => if i < n then some (rc i) else none))))))] ++ (rw_R cI 4 rp P 4 ++ (rw_R cI 4 rc M n ++ []))) H → va_D A ([(l0, .inr (5, [.ref l3, .ref l1, .ref l2, .int (nI (p))])), (l1, .inl (cG, 4, .inr (.inr (.inr (.inr (fun i => if i < 4 then some (rp i) else none)))))), (l2, .inl (cI, 4, .inl rr)), (l3, .inl (cG, n, .inr (.inr (.inr (.inr (fun i => if i < n then some (rc i) else none))))))] ++ (rw_R cI 4 rp P 4 ++ (rw_R cI 4 rc M n ++ []))) → va_S A s0.heap H locs → W p0 l e0 R s0 m args below meth c H locs cells slots Q (F0 m 32 ls [])) : ∀ (f : Nat) (i : Nat) (M : Nat → Nat → Int32) (ls : Array Slot) (H : Heap) (locs : List Loc), n - i < f → (i ≤ n) → (∀ e, e < i → ∀ j, j < 4 → M e j = nI 0) → lv_has ls 3 [(2, .int (nI (i))), (0, .ref l0)] → va_P D cl_all ([(l0, .inr (5, [.ref l3, .ref l1, .ref l2, .int (nI (p))])), (l1, .inl (cG, 4, .inr (.inr (.inr (.inr (fun i => if i < 4 then some (rp i) else none)))))), (l2, .inl (cI, 4, .inl rr)), (l3, .inl (cG, n, .inr (.inr (.inr (.inr (fun i => if i < n then some (rc i) else none))))))] ++ (rw_R cI 4 rp P 4 ++ (rw_R cI 4 rc M n ++ []))) H → va_D A ([(l0, .inr (5, [.ref l3, .ref l1, .ref l2, .int (nI (p))])), (l1, .inl (cG, 4, .inr (.inr (.inr (.inr (fun i => if i < 4 then some (rp i) else none)))))), (l2, .inl (cI, 4, .inl rr)), (l3, .inl (cG, n, .inr (.inr (.inr (.inr (fun i => if i < n then some (rc i) else none))))))] ++ (rw_R cI 4 rp P 4 ++ (rw_R cI 4 rc M n ++ []))) → va_S A s0.heap H locs → W p0 l e0 R s0 m args below meth c H locs cells slots Q (F0 m 7 ls []) := by
  intro f
  induction f with
  | zero => intro i M ls H locs hfu; omega
  | succ f ih =>
    intro i M ls H locs hfu hi hM hl hP hD hS
    refine lv_iload_n hx hb nd_LK_clear_7 rfl (lv_at hl 0 rfl) ?_
    refine lv_aload_n hx hb nd_LK_clear_8 rfl (lv_at hl 1 rfl) ?_
    refine va_get (D := D) (C := nr_LK) (T := nt_LK) (N := 4) hx hb htg tf_LK hown hK hP 0 rfl rfl 0 (by decide) (htg _ tm_84) (fun _ h => h) rfl nd_LK_clear_9 ?_
    refine va_alen (v := nI (n)) hx hb hK hP 3 1 rfl rfl rfl nd_LK_clear_12 ?_
    refine wi_icmp_ge (tgt := 32) hx hb (by omega) (by omega) nd_LK_clear_13 rfl (fun hc13 => ?_) (fun hc13 => ?_)
    · have hl : lv_has ls 3 [(0, .ref l0)] := lv_sub hl [1] rfl
      exact kx ls H locs M (fun e he => hM e (by omega)) hl hP hD hS
    · refine lv_aload_n hx hb nd_LK_clear_16 rfl (lv_at hl 1 rfl) ?_
      refine va_get (D := D) (C := nr_LK) (T := nt_LK) (N := 4) hx hb htg tf_LK hown hK hP 0 rfl rfl 0 (by decide) (htg _ tm_84) (fun _ h => h) rfl nd_LK_clear_17 ?_
      refine lv_iload_n hx hb nd_LK_clear_20 rfl (lv_at hl 0 rfl) ?_
      refine wi_aald (v := (rc i)) hx hb hK hP 3 1 rfl rfl rfl (by omega) (by omega) (if_pos (by omega)) nd_LK_clear_21 ?_
      refine wi_ic hx hb (a := 0) nd_LK_clear_22 ?_
      rw [rw_openR (re := rc) (e := i) (by omega)] at hP hD
      refine wd_Sv (n := 2) (Y := [(rc i, .inl (cI, 4, .inl (M i)))]) hx hb hml hown htg (c_AR_fill l D cI cG cM (rc i) 4 (by omega) (M i) (nI (0)) _) tm_99 tm_226 tm_98 tm_8 (by decide +kernel) ⟨⟨Nat.le_trans (by decide) hRf, Nat.le_trans (by decide) hRl⟩, rfl, rfl⟩ hP hD hS hA hK hN rfl hl.1 rfl (Nat.le_of_ble_eq_true rfl) nd_LK_clear_23 hCS (fun u23 H locs hp23 hP hD hS => ?_)
      rw [rw_closeR (by omega)] at hP hD
      have hP : va_P D cl_all ([(l0, .inr (5, [.ref l3, .ref l1, .ref l2, .int (nI (p))])), (l1, .inl (cG, 4, .inr (.inr (.inr (.inr (fun i => if i < 4 then some (rp i) else none)))))), (l2, .inl (cI, 4, .inl rr)), (l3, .inl (cG, n, .inr (.inr (.inr (.inr (fun i => if i < n then some (rc i) else none))))))] ++ (rw_R cI 4 rp P 4 ++ (rw_R cI 4 rc (va_up M i u23) n ++ []))) H := hP
      have hD : va_D A ([(l0, .inr (5, [.ref l3, .ref l1, .ref l2, .int (nI (p))])), (l1, .inl (cG, 4, .inr (.inr (.inr (.inr (fun i => if i < 4 then some (rp i) else none)))))), (l2, .inl (cI, 4, .inl rr)), (l3, .inl (cG, n, .inr (.inr (.inr (.inr (fun i => if i < n then some (rc i) else none))))))] ++ (rw_R cI 4 rp P 4 ++ (rw_R cI 4 rc (va_up M i u23) n ++ []))) := hD
      refine lv_iinc (k := 0) (v := nI (i + 1)) hx hb nd_LK_clear_26 hl rfl (wi_inc _ 1) (by decide) rfl (fun ls hl => ?_)
      have hl : lv_has ls 3 [(2, .int (nI (i + 1))), (0, .ref l0)] := hl
      refine lv_goto (tgt := 7) hx hb nd_LK_clear_29 rfl ?_
      have hl : lv_has ls 3 [(2, .int (nI (i + 1))), (0, .ref l0)] := lv_sub hl [0, 1] rfl
      exact ih (i + 1) (va_up M i u23) ls H locs (by omega) (by omega) (fun e he j hj => if q : e = i then by rw [q, va_up_self]; exact hp23 j hj else by rw [va_up_ne _ _ q]; exact hM e (by omega) j hj) hl hP hD hS
set_option maxRecDepth 20000 in
theorem c_LK_clear (l : Launch) (D : va_G) (cI cG cM : ClassId)  (l0 l1 l2 l3 n : Nat) (hn : n ≤ 10) (rp rc : Nat → Nat) (p : Nat) (P : Nat → Nat → Int32) (rr : Nat → Int32) (md : Int32) (M : Nat → Nat → Int32) (sz : Nat) : wb_Mv l ny_LK_clear nc_LK_clear 3 ({ frames := 1, cells := 0, slots := 0, locals := 23 }) D (ty_all cI cG cM) ([(l0, .inr (5, [.ref l3, .ref l1, .ref l2, .int (md)])), (l1, .inl (cG, 4, .inr (.inr (.inr (.inr (fun i => if i < 4 then some (rp i) else none)))))), (l2, .inl (cI, 4, .inl rr)), (l3, .inl (cG, n, .inr (.inr (.inr (.inr (fun i => if i < n then some (rc i) else none))))))] ++ (rw_R cI 4 rp P 4 ++ (rw_R cI 4 rc M n ++ []))) sz [.ref l0, .int (nI (p))] (fun u : Nat → Nat → Int32 => ∀ e, e < n → ∀ j, j < 4 → u e j = nI 0) (fun u : Nat → Nat → Int32 => [(l0, .inr (5, [.ref l3, .ref l1, .ref l2, .int (nI (p))])), (l1, .inl (cG, 4, .inr (.inr (.inr (.inr (fun i => if i < 4 then some (rp i) else none)))))), (l2, .inl (cI, 4, .inl rr)), (l3, .inl (cG, n, .inr (.inr (.inr (.inr (fun i => if i < n then some (rc i) else none))))))] ++ (rw_R cI 4 rp P 4 ++ (rw_R cI 4 rc u n ++ []))) := by
  refine wb_start (S := Nat → Nat → Int32) (by decide) (Nat.le_of_ble_eq_true rfl) ?_
  intro p0 e0 s0 m below meth c ls A hx hb hr hml htg hown hk hP hK hN hl hAe hsz hD hA
  have hl : lv_has ls 3 [(0, .ref l0), (1, .int (nI (p)))] := hl
  have hS : va_S A s0.heap s0.heap [] := va_S.rf
  have hRf : 1 ≤ ({ frames := 1, cells := 0, slots := 0, locals := 23 } : Room).frames := Nat.le_refl _
  have hRl : 23 ≤ ({ frames := 1, cells := 0, slots := 0, locals := 23 } : Room).locals := Nat.le_refl _
  have hCS : 0 ≤ ({ frames := 1, cells := 0, slots := 0, locals := 23 } : Room).cells ∧ 0 ≤ ({ frames := 1, cells := 0, slots := 0, locals := 23 } : Room).slots := ⟨Nat.zero_le _, Nat.zero_le _⟩
  refine lv_aload_n hx hb nd_LK_clear_0 rfl (lv_at hl 0 rfl) ?_
  refine lv_iload_n hx hb nd_LK_clear_1 rfl (lv_at hl 1 rfl) ?_
  refine va_put (D := D) (C := nr_LK) (T := nt_LK) (N := 4) hx hb htg tf_LK nu_LK no_LK nn_LK hown hK hP hD hS 0 rfl rfl 3 (by decide) (htg _ tm_87) (fun _ h => h) rfl rfl rfl rfl (Nat.le_of_ble_eq_true rfl) nd_LK_clear_2 (fun H locs hP hD hS => ?_)
  have hP : va_P D cl_all ([(l0, .inr (5, [.ref l3, .ref l1, .ref l2, .int (nI (p))])), (l1, .inl (cG, 4, .inr (.inr (.inr (.inr (fun i => if i < 4 then some (rp i) else none)))))), (l2, .inl (cI, 4, .inl rr)), (l3, .inl (cG, n, .inr (.inr (.inr (.inr (fun i => if i < n then some (rc i) else none))))))] ++ (rw_R cI 4 rp P 4 ++ (rw_R cI 4 rc M n ++ []))) H := hP
  have hD : va_D A ([(l0, .inr (5, [.ref l3, .ref l1, .ref l2, .int (nI (p))])), (l1, .inl (cG, 4, .inr (.inr (.inr (.inr (fun i => if i < 4 then some (rp i) else none)))))), (l2, .inl (cI, 4, .inl rr)), (l3, .inl (cG, n, .inr (.inr (.inr (.inr (fun i => if i < n then some (rc i) else none))))))] ++ (rw_R cI 4 rp P 4 ++ (rw_R cI 4 rc M n ++ []))) := hD
  refine wi_ic hx hb (a := 0) nd_LK_clear_5 ?_
  refine lv_istore_n hx hb nd_LK_clear_6 rfl hl (by decide) rfl (fun ls hl => ?_)
  have hl : lv_has ls 3 [(2, .int (nI (0))), (0, .ref l0), (1, .int (nI (p)))] := hl
  have hl : lv_has ls 3 [(2, .int (nI (0))), (0, .ref l0)] := lv_sub hl [0, 1] rfl
  refine lp_LK_clear cI cG cM l0 l1 l2 l3 n hn rp rc p P rr hx hb hml htg hown hK hN hA hRf hRl hCS (fun ls H locs M hM hl hP hD hS => ?_) (n + 1) 0 M ls H locs (by omega) (by omega) (fun e he => by omega) hl hP hD hS
  exact wb_vret (M) hx hb hr hk hAe (hM) hP hD hS nd_LK_clear_32
