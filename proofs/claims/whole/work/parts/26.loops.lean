/-! The class: the questions with loops. -/
def sn_ (r : Nat → Nat) (s : Nat) : Nat → Nat
  | 0 => 0
  | k + 1 => if r (s ||| 2 ^ k) = r s then sn_ r s k ||| 2 ^ k else sn_ r s k
theorem sn_bit (r : Nat → Nat) (s : Nat) : ∀ k i, (sn_ r s k).testBit i = (decide (i < k) && decide (r (s ||| 2 ^ i) = r s)) := by
  intro k
  induction k with
  | zero => intro i; simp [sn_]
  | succ k ih =>
    intro i
    simp only [sn_]
    by_cases q : r (s ||| 2 ^ k) = r s
    · rw [if_pos q, Nat.testBit_or, mt_two, ih]
      by_cases h1 : i = k
      · subst h1; simp [q]
      · by_cases h2 : i < k
        · simp [h2, show i < k + 1 by omega, show ¬ k = i by omega]
        · simp [h2, show ¬ i < k + 1 by omega, show ¬ k = i by omega]
    · rw [if_neg q, ih]
      by_cases h1 : i = k
      · subst h1; simp [q]
      · by_cases h2 : i < k
        · simp [h2, show i < k + 1 by omega]
        · simp [h2, show ¬ i < k + 1 by omega]
theorem sn_all {n : Nat} {r : Nat → Nat} {s : Nat} (hs : s < 2 ^ n) : s ||| sn_ r s n = sn_ r s n := by
  apply Nat.eq_of_testBit_eq
  intro i
  rw [Nat.testBit_or, sn_bit]
  cases hb : s.testBit i with
  | false => simp
  | true => rw [mt_or_in hb]; simp [mt_lt hs hb]
def cq_ (r : Nat → Nat) (n s e : Nat) : Nat → Nat
  | 0 => 2 ^ e
  | k + 1 => if s.testBit k = true ∧ r ((s ||| 2 ^ e) ^^^ 2 ^ k) = mt_cd n ((s ||| 2 ^ e) ^^^ 2 ^ k) then cq_ r n s e k ||| 2 ^ k else cq_ r n s e k
noncomputable def sp_span (n : Nat) (y : cb_Y) (wh s : Int32) : Int32 := if sw_ wh && sr_ s (nI (2 ^ n - 1)) then nI (sn_ (ma_r n (cb_m y (tn_ wh))) (tn_ s) n) else -1
noncomputable def sp_circuit (n : Nat) (y : cb_Y) (wh s e : Int32) : Int32 := if sw_ wh && sr_ s (nI (2 ^ n - 1)) && sz_ n e then (if (tn_ s).testBit (tn_ e) = true ∨ ¬ ma_r n (cb_m y (tn_ wh)) (tn_ s) = mt_cd n (tn_ s) ∨ ma_r n (cb_m y (tn_ wh)) (tn_ s ||| 2 ^ tn_ e) = mt_cd n (tn_ s ||| 2 ^ tn_ e) then nI 0 else nI (cq_ (ma_r n (cb_m y (tn_ wh))) n (tn_ s) (tn_ e) n)) else -1
def gb_ (n : Nat) (w : Nat → Int32) (r : Nat → Nat) : Nat → Nat × Nat
  | 0 => (0, 0)
  | k + 1 => ((gb_ n w r k).1 ||| 2 ^ ms_F w (gb_ n w r k).1 n, if r ((gb_ n w r k).2 ||| 2 ^ ms_F w (gb_ n w r k).1 n) = mt_cd n ((gb_ n w r k).2 ||| 2 ^ ms_F w (gb_ n w r k).1 n) then (gb_ n w r k).2 ||| 2 ^ ms_F w (gb_ n w r k).1 n else (gb_ n w r k).2)
theorem gb_lt {n : Nat} (h1 : 1 ≤ n) (w : Nat → Int32) (r : Nat → Nat) : ∀ k, (gb_ n w r k).1 < 2 ^ n ∧ (gb_ n w r k).2 < 2 ^ n := by
  intro k
  induction k with
  | zero => exact ⟨Nat.two_pow_pos n, Nat.two_pow_pos n⟩
  | succ k ih =>
    have hF := ms_F_lt w (gb_ n w r k).1 n h1
    refine ⟨mt_orlt ih.1 hF, ?_⟩
    simp only [gb_]
    split
    · exact mt_orlt ih.2 hF
    · exact ih.2
noncomputable def sp_best (n : Nat) (y : cb_Y) (wh : Int32) : Int32 := if sw_ wh then nI (gb_ n y.1 (ma_r n (cb_m y (tn_ wh))) n).2 else -1
noncomputable def co_ (n : Nat) (y : cb_Y) (s : Nat) : Bool := decide (ma_r n y.2.1 s = mt_cd n s) && decide (ma_r n y.2.2 s = mt_cd n s)
noncomputable def cm_ (n : Nat) (y : cb_Y) (k : Int32) : Nat → Option Nat
  | 0 => none
  | s + 1 => if nI (mt_cd 10 s) = k ∧ co_ n y s = true then (match cm_ n y k s with | none => some s | some b => if ms_W y.1 n s ≤ ms_W y.1 n b then some b else some s) else cm_ n y k s
def oi_ (o : Option Nat) : Int32 := match o with | none => -2 | some b => nI b
theorem cm_lt (n : Nat) (y : cb_Y) (k : Int32) : ∀ s b, cm_ n y k s = some b → b < s := by
  intro s
  induction s with
  | zero => intro b h; simp [cm_] at h
  | succ s ih =>
    intro b h
    simp only [cm_] at h
    split at h
    · split at h
      · simp at h; omega
      · rename_i c hc
        split at h
        · simp at h; have := ih c hc; omega
        · simp at h; omega
    · have := ih b h; omega
noncomputable def sp_common (n : Nat) (y : cb_Y) (k : Int32) : Int32 := oi_ (cm_ n y k (2 ^ n))
noncomputable def lg_ (n : Nat) (y : cb_Y) : Nat → Nat
  | 0 => 0
  | s + 1 => if lg_ n y s < mt_cd 10 s ∧ co_ n y s = true then mt_cd 10 s else lg_ n y s
theorem lg_le (n : Nat) (y : cb_Y) (s : Nat) : lg_ n y s ≤ 10 := by
  induction s with
  | zero => simp [lg_]
  | succ s ih => simp only [lg_]; split; exact mt_cd_le 10 s; exact ih
noncomputable def h1_ (n : Nat) (y : cb_Y) (s : Nat) : Nat := ma_r n y.2.1 s + ma_r n y.2.2 (mt_co n s)
noncomputable def h2_ (n : Nat) (y : cb_Y) (s : Nat) : Nat := ma_r n y.2.1 s + ma_r n y.2.2 s + (n - mt_cd n s)
theorem h1_le {n : Nat} (hn : n ≤ 10) {y : cb_Y} (h0 : ma_v n y.2.1) (h1 : ma_v n y.2.2) {s : Nat} (hs : s < 2 ^ n) : h1_ n y s ≤ 30 := by
  have a := mt_le_cd (ma_M h0) hs
  have b := mt_le_cd (ma_M h1) (mt_colt hs)
  have c := mt_cd_le n s
  have d := mt_cd_le n (mt_co n s)
  unfold h1_; omega
theorem h2_le {n : Nat} (hn : n ≤ 10) {y : cb_Y} (h0 : ma_v n y.2.1) (h1 : ma_v n y.2.2) {s : Nat} (hs : s < 2 ^ n) : h2_ n y s ≤ 30 := by
  have a := mt_le_cd (ma_M h0) hs
  have b := mt_le_cd (ma_M h1) hs
  have c := mt_cd_le n s
  unfold h2_; omega
def fi_ (h : Nat → Nat) : Nat → Nat
  | 0 => 0
  | k + 1 => if h (k + 1) < h (fi_ h k) then k + 1 else fi_ h k
theorem fi_le (h : Nat → Nat) (k : Nat) : fi_ h k ≤ k := by
  induction k with
  | zero => exact Nat.le_refl _
  | succ k ih => simp only [fi_]; split <;> omega
theorem nd_CB_span_0 : decode nc_CB_span 0 = .ok (.iload_n 1, 1) := by decide +kernel
theorem nd_CB_span_1 : decode nc_CB_span 1 = .ok (.invokestatic 29, 3) := by decide +kernel
theorem nd_CB_span_4 : decode nc_CB_span 4 = .ok (.ifCond .eq 11, 3) := by decide +kernel
theorem nd_CB_span_7 : decode nc_CB_span 7 = .ok (.aload_n 0, 1) := by decide +kernel
theorem nd_CB_span_8 : decode nc_CB_span 8 = .ok (.iload_n 2, 1) := by decide +kernel
theorem nd_CB_span_9 : decode nc_CB_span 9 = .ok (.invokevirtual 70, 3) := by decide +kernel
theorem nd_CB_span_12 : decode nc_CB_span 12 = .ok (.ifCond .ne 5, 3) := by decide +kernel
theorem nd_CB_span_15 : decode nc_CB_span 15 = .ok (.iconst (-1), 1) := by decide +kernel
theorem nd_CB_span_16 : decode nc_CB_span 16 = .ok (.ireturn, 1) := by decide +kernel
theorem nd_CB_span_17 : decode nc_CB_span 17 = .ok (.aload_n 0, 1) := by decide +kernel
theorem nd_CB_span_18 : decode nc_CB_span 18 = .ok (.getfield 25, 3) := by decide +kernel
theorem nd_CB_span_21 : decode nc_CB_span 21 = .ok (.iload_n 1, 1) := by decide +kernel
theorem nd_CB_span_22 : decode nc_CB_span 22 = .ok (.aaload, 1) := by decide +kernel
theorem nd_CB_span_23 : decode nc_CB_span 23 = .ok (.astore_n 3, 1) := by decide +kernel
theorem nd_CB_span_24 : decode nc_CB_span 24 = .ok (.iload_n 2, 1) := by decide +kernel
theorem nd_CB_span_25 : decode nc_CB_span 25 = .ok (.istore 4, 2) := by decide +kernel
theorem nd_CB_span_27 : decode nc_CB_span 27 = .ok (.iconst 0, 1) := by decide +kernel
theorem nd_CB_span_28 : decode nc_CB_span 28 = .ok (.istore 5, 2) := by decide +kernel
theorem nd_CB_span_30 : decode nc_CB_span 30 = .ok (.iload 5, 2) := by decide +kernel
theorem nd_CB_span_32 : decode nc_CB_span 32 = .ok (.aload_n 0, 1) := by decide +kernel
theorem nd_CB_span_33 : decode nc_CB_span 33 = .ok (.getfield 9, 3) := by decide +kernel
theorem nd_CB_span_36 : decode nc_CB_span 36 = .ok (.if_icmp .ge 36, 3) := by decide +kernel
theorem nd_CB_span_39 : decode nc_CB_span 39 = .ok (.aload_n 3, 1) := by decide +kernel
theorem nd_CB_span_40 : decode nc_CB_span 40 = .ok (.iload_n 2, 1) := by decide +kernel
theorem nd_CB_span_41 : decode nc_CB_span 41 = .ok (.iconst 1, 1) := by decide +kernel
theorem nd_CB_span_42 : decode nc_CB_span 42 = .ok (.iload 5, 2) := by decide +kernel
theorem nd_CB_span_44 : decode nc_CB_span 44 = .ok (.ishl, 1) := by decide +kernel
theorem nd_CB_span_45 : decode nc_CB_span 45 = .ok (.ior, 1) := by decide +kernel
theorem nd_CB_span_46 : decode nc_CB_span 46 = .ok (.invokevirtual 76, 3) := by decide +kernel
theorem nd_CB_span_49 : decode nc_CB_span 49 = .ok (.aload_n 3, 1) := by decide +kernel
theorem nd_CB_span_50 : decode nc_CB_span 50 = .ok (.iload_n 2, 1) := by decide +kernel
theorem nd_CB_span_51 : decode nc_CB_span 51 = .ok (.invokevirtual 76, 3) := by decide +kernel
theorem nd_CB_span_54 : decode nc_CB_span 54 = .ok (.if_icmp .ne 12, 3) := by decide +kernel
theorem nd_CB_span_57 : decode nc_CB_span 57 = .ok (.iload 4, 2) := by decide +kernel
theorem nd_CB_span_59 : decode nc_CB_span 59 = .ok (.iconst 1, 1) := by decide +kernel
theorem nd_CB_span_60 : decode nc_CB_span 60 = .ok (.iload 5, 2) := by decide +kernel
theorem nd_CB_span_62 : decode nc_CB_span 62 = .ok (.ishl, 1) := by decide +kernel
theorem nd_CB_span_63 : decode nc_CB_span 63 = .ok (.ior, 1) := by decide +kernel
theorem nd_CB_span_64 : decode nc_CB_span 64 = .ok (.istore 4, 2) := by decide +kernel
theorem nd_CB_span_66 : decode nc_CB_span 66 = .ok (.iinc 5 1, 3) := by decide +kernel
theorem nd_CB_span_69 : decode nc_CB_span 69 = .ok (.goto (-39), 3) := by decide +kernel
theorem nd_CB_span_72 : decode nc_CB_span 72 = .ok (.iload 4, 2) := by decide +kernel
theorem nd_CB_span_74 : decode nc_CB_span 74 = .ok (.ireturn, 1) := by decide +kernel
set_option maxRecDepth 20000 in
theorem lp_CB_span0 {p : Program} {l : Launch} {e0 : Env} {R : Room} {s0 : State} {m : MethodId} {args : Array Value} {below : List Frame} {meth : Method} {c : Code} {cells slots : Nat} {Q : State → Prop} {D : va_G} {A : Nat → Prop} (cI cG cM : ClassId) (q : Nat → Nat) (n : Nat) (hn1 : 1 ≤ n) (hn : n ≤ 10) (mr : Nat → Option Nat) (a0 a1 : ma_A) (hm0 : mr 0 = some (a0.1 0)) (hm1 : mr 1 = some (a1.1 0)) (w : Nat → Int32) (y : cb_Y) (hWy : ∀ e, e < n → w e = y.1 e) (s : Nat) (hs : s < 2 ^ n)  (hx : p.tables.exec = Jvm.exec) (hb : c.code = nc_CB_span) (hml : c.maxLocals = 6) (htg : ∀ w ∈ tg_, w.before args s0 = true) (hown : s0.vm.findClass ny_CB_span.cls = some m.cls) (hK : va_K D cl_all (ty_all cI cG cM) s0) (hN : tn_K s0) (hA : ∀ q : Nat, s0.heap.size ≤ q → A q) (hRf : 5 ≤ R.frames) (hRl : 112 ≤ R.locals) (hCS : cells ≤ R.cells ∧ slots ≤ R.slots) (kx : ∀ (ls : Array Slot) (H : Heap) (locs : List Loc) (t0 : ma_S) (t1 : ma_S), (ma_I n y.2.1 t0) → (ma_I n y.2.2 t1) → lv_has ls 6 [(4, .int (nI (sn_ (ma_r n y.2.1) s n)))] → va_P D cl_all ([((q 0), .inr (0, [.int (nI (n)), .int (nI (2 ^ n - 1)), .ref (q 1), .ref (q 2)])), ((q 1), .inl (cI, n, .inl w)), ((q 2), .inl (cM, 2, .inr (.inr (.inr (.inr mr)))))] ++ (mw_ cI cG a0 n t0 ++ (mw_ cI cG a1 n t1 ++ []))) H → va_D A ([((q 0), .inr (0, [.int (nI (n)), .int (nI (2 ^ n - 1)), .ref (q 1), .ref (q 2)])), ((q 1), .inl (cI, n, .inl w)), ((q 2), .inl (cM, 2, .inr (.inr (.inr (.inr mr)))))] ++ (mw_ cI cG a0 n t0 ++ (mw_ cI cG a1 n t1 ++ []))) → va_S A s0.heap H locs → W p l e0 R s0 m args below meth c H locs cells slots Q (F0 m 72 ls [])) : ∀ (f : Nat) (e : Nat) (t0 : ma_S) (t1 : ma_S) (ls : Array Slot) (H : Heap) (locs : List Loc), n - e < f → (e ≤ n) → (ma_I n y.2.1 t0) → (ma_I n y.2.2 t1) → lv_has ls 6 [(5, .int (nI (e))), (4, .int (nI (s ||| sn_ (ma_r n y.2.1) s e))), (3, .ref (a0.1 0)), (0, .ref (q 0)), (2, .int (nI (s)))] → va_P D cl_all ([((q 0), .inr (0, [.int (nI (n)), .int (nI (2 ^ n - 1)), .ref (q 1), .ref (q 2)])), ((q 1), .inl (cI, n, .inl w)), ((q 2), .inl (cM, 2, .inr (.inr (.inr (.inr mr)))))] ++ (mw_ cI cG a0 n t0 ++ (mw_ cI cG a1 n t1 ++ []))) H → va_D A ([((q 0), .inr (0, [.int (nI (n)), .int (nI (2 ^ n - 1)), .ref (q 1), .ref (q 2)])), ((q 1), .inl (cI, n, .inl w)), ((q 2), .inl (cM, 2, .inr (.inr (.inr (.inr mr)))))] ++ (mw_ cI cG a0 n t0 ++ (mw_ cI cG a1 n t1 ++ []))) → va_S A s0.heap H locs → W p l e0 R s0 m args below meth c H locs cells slots Q (F0 m 30 ls []) := by
  intro f
  induction f with
  | zero => intro e t0 t1 ls H locs hfu; omega
  | succ f ih =>
    intro e t0 t1 ls H locs hfu he hI0 hI1 hl hP hD hS
    have h2n : 2 ^ n ≤ 1024 := Nat.pow_le_pow_right (by omega) hn
    have h2p : 1 ≤ 2 ^ n := Nat.one_le_two_pow
    refine lv_iload hx hb nd_CB_span_30 (lv_at hl 0 rfl) ?_
    refine lv_aload_n hx hb nd_CB_span_32 rfl (lv_at hl 3 rfl) ?_
    refine va_get (D := D) (C := nr_CB) (T := nt_CB) (N := 4) hx hb htg tf_CB hown hK hP 0 rfl rfl 0 (by decide) (htg _ tm_122) (fun _ h => h) rfl nd_CB_span_33 ?_
    refine wi_icmp_ge (tgt := 72) hx hb (by omega) (by omega) nd_CB_span_36 rfl (fun hc36 => ?_) (fun hc36 => ?_)
    · have hl : lv_has ls 6 [(4, .int (nI (s ||| sn_ (ma_r n y.2.1) s e)))] := lv_sub hl [1] rfl
      have hen : e = n := by omega
      exact kx ls H locs t0 t1 hI0 hI1 (by rw [← sn_all hs]; simpa only [hen] using hl) hP hD hS
    · refine lv_aload_n hx hb nd_CB_span_39 rfl (lv_at hl 2 rfl) ?_
      refine lv_iload_n hx hb nd_CB_span_40 rfl (lv_at hl 4 rfl) ?_
      refine wi_ic hx hb (a := 1) nd_CB_span_41 ?_
      refine lv_iload hx hb nd_CB_span_42 (lv_at hl 0 rfl) ?_
      refine wi_ishl1 hx hb (by omega) nd_CB_span_44 ?_
      refine wi_ior hx hb nd_CB_span_45 ?_
      refine wd_Vi (C := nr_MA) (n := 1) (X := [((q 0), .inr (0, [.int (nI (n)), .int (nI (2 ^ n - 1)), .ref (q 1), .ref (q 2)])), ((q 1), .inl (cI, n, .inl w)), ((q 2), .inl (cM, 2, .inr (.inr (.inr (.inr mr)))))]) (Y := mw_ cI cG a0 n t0) (Z := (mw_ cI cG a1 n t1 ++ [])) hx hb hml hown htg (c_MA_rankOf l D cI cG cM a0 n hn t0.1 t0.2.1 t0.2.2.1 t0.2.2.2.1 t0.2.2.2.2.1 t0.2.2.2.2.2 y.2.1 hI0 (s ||| (2 ^ e)) (mt_orlt hs (by omega)) _) tm_263 tm_314 tm_261 tm_262 tm_2 (by decide +kernel) ⟨⟨Nat.le_trans (by decide) hRf, Nat.le_trans (by decide) hRl⟩, rfl, rfl⟩ hP hD hS hA hK hN (va_recv (q0 := 0) (ci := 1) hK (wm_P (X := [((q 0), .inr (0, [.int (nI (n)), .int (nI (2 ^ n - 1)), .ref (q 1), .ref (q 2)])), ((q 1), .inl (cI, n, .inl w)), ((q 2), .inl (cM, 2, .inr (.inr (.inr (.inr mr)))))]) (Y := mw_ cI cG a0 n t0) (Z := (mw_ cI cG a1 n t1 ++ [])) hP).2.1 rfl rfl) rfl hl.1 rfl (Nat.le_of_ble_eq_true rfl) nd_CB_span_46 hCS (fun v46 u46 H locs hp46 hP hD hS => ?_)
      have hP : va_P D cl_all ([((q 0), .inr (0, [.int (nI (n)), .int (nI (2 ^ n - 1)), .ref (q 1), .ref (q 2)])), ((q 1), .inl (cI, n, .inl w)), ((q 2), .inl (cM, 2, .inr (.inr (.inr (.inr mr)))))] ++ (mw_ cI cG a0 n u46 ++ (mw_ cI cG a1 n t1 ++ []))) H := hP
      have hD : va_D A ([((q 0), .inr (0, [.int (nI (n)), .int (nI (2 ^ n - 1)), .ref (q 1), .ref (q 2)])), ((q 1), .inl (cI, n, .inl w)), ((q 2), .inl (cM, 2, .inr (.inr (.inr (.inr mr)))))] ++ (mw_ cI cG a0 n u46 ++ (mw_ cI cG a1 n t1 ++ []))) := hD
      refine wi_top hp46.1 ?_
      have hbd46 : ma_r n y.2.1 (s ||| (2 ^ e)) ≤ 10 := Nat.le_trans (mt_le_cd (ma_M hI0.1) (mt_orlt hs (by omega))) (Nat.le_trans (mt_cd_le n _) hn)
      refine lv_aload_n hx hb nd_CB_span_49 rfl (lv_at hl 2 rfl) ?_
      refine lv_iload_n hx hb nd_CB_span_50 rfl (lv_at hl 4 rfl) ?_
      refine wd_Vi (C := nr_MA) (n := 1) (X := [((q 0), .inr (0, [.int (nI (n)), .int (nI (2 ^ n - 1)), .ref (q 1), .ref (q 2)])), ((q 1), .inl (cI, n, .inl w)), ((q 2), .inl (cM, 2, .inr (.inr (.inr (.inr mr)))))]) (Y := mw_ cI cG a0 n u46) (Z := (mw_ cI cG a1 n t1 ++ [])) hx hb hml hown htg (c_MA_rankOf l D cI cG cM a0 n hn u46.1 u46.2.1 u46.2.2.1 u46.2.2.2.1 u46.2.2.2.2.1 u46.2.2.2.2.2 y.2.1 hp46.2 s (hs) _) tm_263 tm_314 tm_261 tm_262 tm_2 (by decide +kernel) ⟨⟨Nat.le_trans (by decide) hRf, Nat.le_trans (by decide) hRl⟩, rfl, rfl⟩ hP hD hS hA hK hN (va_recv (q0 := 0) (ci := 1) hK (wm_P (X := [((q 0), .inr (0, [.int (nI (n)), .int (nI (2 ^ n - 1)), .ref (q 1), .ref (q 2)])), ((q 1), .inl (cI, n, .inl w)), ((q 2), .inl (cM, 2, .inr (.inr (.inr (.inr mr)))))]) (Y := mw_ cI cG a0 n u46) (Z := (mw_ cI cG a1 n t1 ++ [])) hP).2.1 rfl rfl) rfl hl.1 rfl (Nat.le_of_ble_eq_true rfl) nd_CB_span_51 hCS (fun v51 u51 H locs hp51 hP hD hS => ?_)
      have hP : va_P D cl_all ([((q 0), .inr (0, [.int (nI (n)), .int (nI (2 ^ n - 1)), .ref (q 1), .ref (q 2)])), ((q 1), .inl (cI, n, .inl w)), ((q 2), .inl (cM, 2, .inr (.inr (.inr (.inr mr)))))] ++ (mw_ cI cG a0 n u51 ++ (mw_ cI cG a1 n t1 ++ []))) H := hP
      have hD : va_D A ([((q 0), .inr (0, [.int (nI (n)), .int (nI (2 ^ n - 1)), .ref (q 1), .ref (q 2)])), ((q 1), .inl (cI, n, .inl w)), ((q 2), .inl (cM, 2, .inr (.inr (.inr (.inr mr)))))] ++ (mw_ cI cG a0 n u51 ++ (mw_ cI cG a1 n t1 ++ []))) := hD
      refine wi_top hp51.1 ?_
      have hbd51 : ma_r n y.2.1 s ≤ 10 := Nat.le_trans (mt_le_cd (ma_M hI0.1) (hs)) (Nat.le_trans (mt_cd_le n _) hn)
      refine wi_icmp_ne (tgt := 66) hx hb (by omega) (by omega) nd_CB_span_54 rfl (fun hc54 => ?_) (fun hc54 => ?_)
      · refine lv_iinc (k := 0) (v := nI (e + 1)) hx hb nd_CB_span_66 hl rfl (wi_inc _ 1) (by decide) rfl (fun ls hl => ?_)
        have hl : lv_has ls 6 [(5, .int (nI (e + 1))), (4, .int (nI (s ||| sn_ (ma_r n y.2.1) s e))), (3, .ref (a0.1 0)), (0, .ref (q 0)), (2, .int (nI (s)))] := hl
        refine lv_goto (tgt := 30) hx hb nd_CB_span_69 rfl ?_
        have hl : lv_has ls 6 [(5, .int (nI (e + 1))), (4, .int (nI (s ||| sn_ (ma_r n y.2.1) s e))), (3, .ref (a0.1 0)), (0, .ref (q 0)), (2, .int (nI (s)))] := lv_sub hl [0, 1, 2, 3, 4] rfl
        have hsn : sn_ (ma_r n y.2.1) s (e + 1) = sn_ (ma_r n y.2.1) s e := if_neg hc54
        exact ih (e + 1) u51 t1 ls H locs (by omega) (by omega) hp51.2 hI1 (by rw [hsn]; exact hl) hP hD hS
      · refine lv_iload hx hb nd_CB_span_57 (lv_at hl 1 rfl) ?_
        refine wi_ic hx hb (a := 1) nd_CB_span_59 ?_
        refine lv_iload hx hb nd_CB_span_60 (lv_at hl 0 rfl) ?_
        refine wi_ishl1 hx hb (by omega) nd_CB_span_62 ?_
        refine wi_ior hx hb nd_CB_span_63 ?_
        refine lv_istore hx hb nd_CB_span_64 hl (by decide) rfl (fun ls hl => ?_)
        have hl : lv_has ls 6 [(4, .int (nI ((s ||| sn_ (ma_r n y.2.1) s e) ||| (2 ^ e)))), (5, .int (nI (e))), (3, .ref (a0.1 0)), (0, .ref (q 0)), (2, .int (nI (s)))] := hl
        refine lv_iinc (k := 1) (v := nI (e + 1)) hx hb nd_CB_span_66 hl rfl (wi_inc _ 1) (by decide) rfl (fun ls hl => ?_)
        have hl : lv_has ls 6 [(5, .int (nI (e + 1))), (4, .int (nI ((s ||| sn_ (ma_r n y.2.1) s e) ||| (2 ^ e)))), (3, .ref (a0.1 0)), (0, .ref (q 0)), (2, .int (nI (s)))] := hl
        refine lv_goto (tgt := 30) hx hb nd_CB_span_69 rfl ?_
        have hl : lv_has ls 6 [(5, .int (nI (e + 1))), (4, .int (nI ((s ||| sn_ (ma_r n y.2.1) s e) ||| (2 ^ e)))), (3, .ref (a0.1 0)), (0, .ref (q 0)), (2, .int (nI (s)))] := lv_sub hl [0, 1, 2, 3, 4] rfl
        have hsn : sn_ (ma_r n y.2.1) s (e + 1) = sn_ (ma_r n y.2.1) s e ||| 2 ^ e := if_pos hc54
        exact ih (e + 1) u51 t1 ls H locs (by omega) (by omega) hp51.2 hI1 (by rw [hsn, ← Nat.or_assoc]; exact hl) hP hD hS
set_option maxRecDepth 20000 in
theorem lp_CB_span1 {p : Program} {l : Launch} {e0 : Env} {R : Room} {s0 : State} {m : MethodId} {args : Array Value} {below : List Frame} {meth : Method} {c : Code} {cells slots : Nat} {Q : State → Prop} {D : va_G} {A : Nat → Prop} (cI cG cM : ClassId) (q : Nat → Nat) (n : Nat) (hn1 : 1 ≤ n) (hn : n ≤ 10) (mr : Nat → Option Nat) (a0 a1 : ma_A) (hm0 : mr 0 = some (a0.1 0)) (hm1 : mr 1 = some (a1.1 0)) (w : Nat → Int32) (y : cb_Y) (hWy : ∀ e, e < n → w e = y.1 e) (s : Nat) (hs : s < 2 ^ n)  (hx : p.tables.exec = Jvm.exec) (hb : c.code = nc_CB_span) (hml : c.maxLocals = 6) (htg : ∀ w ∈ tg_, w.before args s0 = true) (hown : s0.vm.findClass ny_CB_span.cls = some m.cls) (hK : va_K D cl_all (ty_all cI cG cM) s0) (hN : tn_K s0) (hA : ∀ q : Nat, s0.heap.size ≤ q → A q) (hRf : 5 ≤ R.frames) (hRl : 112 ≤ R.locals) (hCS : cells ≤ R.cells ∧ slots ≤ R.slots) (kx : ∀ (ls : Array Slot) (H : Heap) (locs : List Loc) (t0 : ma_S) (t1 : ma_S), (ma_I n y.2.1 t0) → (ma_I n y.2.2 t1) → lv_has ls 6 [(4, .int (nI (sn_ (ma_r n y.2.2) s n)))] → va_P D cl_all ([((q 0), .inr (0, [.int (nI (n)), .int (nI (2 ^ n - 1)), .ref (q 1), .ref (q 2)])), ((q 1), .inl (cI, n, .inl w)), ((q 2), .inl (cM, 2, .inr (.inr (.inr (.inr mr)))))] ++ (mw_ cI cG a0 n t0 ++ (mw_ cI cG a1 n t1 ++ []))) H → va_D A ([((q 0), .inr (0, [.int (nI (n)), .int (nI (2 ^ n - 1)), .ref (q 1), .ref (q 2)])), ((q 1), .inl (cI, n, .inl w)), ((q 2), .inl (cM, 2, .inr (.inr (.inr (.inr mr)))))] ++ (mw_ cI cG a0 n t0 ++ (mw_ cI cG a1 n t1 ++ []))) → va_S A s0.heap H locs → W p l e0 R s0 m args below meth c H locs cells slots Q (F0 m 72 ls [])) : ∀ (f : Nat) (e : Nat) (t0 : ma_S) (t1 : ma_S) (ls : Array Slot) (H : Heap) (locs : List Loc), n - e < f → (e ≤ n) → (ma_I n y.2.1 t0) → (ma_I n y.2.2 t1) → lv_has ls 6 [(5, .int (nI (e))), (4, .int (nI (s ||| sn_ (ma_r n y.2.2) s e))), (3, .ref (a1.1 0)), (0, .ref (q 0)), (2, .int (nI (s)))] → va_P D cl_all ([((q 0), .inr (0, [.int (nI (n)), .int (nI (2 ^ n - 1)), .ref (q 1), .ref (q 2)])), ((q 1), .inl (cI, n, .inl w)), ((q 2), .inl (cM, 2, .inr (.inr (.inr (.inr mr)))))] ++ (mw_ cI cG a0 n t0 ++ (mw_ cI cG a1 n t1 ++ []))) H → va_D A ([((q 0), .inr (0, [.int (nI (n)), .int (nI (2 ^ n - 1)), .ref (q 1), .ref (q 2)])), ((q 1), .inl (cI, n, .inl w)), ((q 2), .inl (cM, 2, .inr (.inr (.inr (.inr mr)))))] ++ (mw_ cI cG a0 n t0 ++ (mw_ cI cG a1 n t1 ++ []))) → va_S A s0.heap H locs → W p l e0 R s0 m args below meth c H locs cells slots Q (F0 m 30 ls []) := by
  intro f
  induction f with
  | zero => intro e t0 t1 ls H locs hfu; omega
  | succ f ih =>
    intro e t0 t1 ls H locs hfu he hI0 hI1 hl hP hD hS
    have h2n : 2 ^ n ≤ 1024 := Nat.pow_le_pow_right (by omega) hn
    have h2p : 1 ≤ 2 ^ n := Nat.one_le_two_pow
    refine lv_iload hx hb nd_CB_span_30 (lv_at hl 0 rfl) ?_
    refine lv_aload_n hx hb nd_CB_span_32 rfl (lv_at hl 3 rfl) ?_
    refine va_get (D := D) (C := nr_CB) (T := nt_CB) (N := 4) hx hb htg tf_CB hown hK hP 0 rfl rfl 0 (by decide) (htg _ tm_122) (fun _ h => h) rfl nd_CB_span_33 ?_
    refine wi_icmp_ge (tgt := 72) hx hb (by omega) (by omega) nd_CB_span_36 rfl (fun hc36 => ?_) (fun hc36 => ?_)
    · have hl : lv_has ls 6 [(4, .int (nI (s ||| sn_ (ma_r n y.2.2) s e)))] := lv_sub hl [1] rfl
      have hen : e = n := by omega
      exact kx ls H locs t0 t1 hI0 hI1 (by rw [← sn_all hs]; simpa only [hen] using hl) hP hD hS
    · refine lv_aload_n hx hb nd_CB_span_39 rfl (lv_at hl 2 rfl) ?_
      refine lv_iload_n hx hb nd_CB_span_40 rfl (lv_at hl 4 rfl) ?_
      refine wi_ic hx hb (a := 1) nd_CB_span_41 ?_
      refine lv_iload hx hb nd_CB_span_42 (lv_at hl 0 rfl) ?_
      refine wi_ishl1 hx hb (by omega) nd_CB_span_44 ?_
      refine wi_ior hx hb nd_CB_span_45 ?_
      rw [← List.append_assoc] at hP hD
      refine wd_Vi (C := nr_MA) (n := 1) (X := ([((q 0), .inr (0, [.int (nI (n)), .int (nI (2 ^ n - 1)), .ref (q 1), .ref (q 2)])), ((q 1), .inl (cI, n, .inl w)), ((q 2), .inl (cM, 2, .inr (.inr (.inr (.inr mr)))))] ++ mw_ cI cG a0 n t0)) (Y := mw_ cI cG a1 n t1) (Z := []) hx hb hml hown htg (c_MA_rankOf l D cI cG cM a1 n hn t1.1 t1.2.1 t1.2.2.1 t1.2.2.2.1 t1.2.2.2.2.1 t1.2.2.2.2.2 y.2.2 hI1 (s ||| (2 ^ e)) (mt_orlt hs (by omega)) _) tm_263 tm_314 tm_261 tm_262 tm_2 (by decide +kernel) ⟨⟨Nat.le_trans (by decide) hRf, Nat.le_trans (by decide) hRl⟩, rfl, rfl⟩ hP hD hS hA hK hN (va_recv (q0 := 0) (ci := 1) hK (wm_P (X := ([((q 0), .inr (0, [.int (nI (n)), .int (nI (2 ^ n - 1)), .ref (q 1), .ref (q 2)])), ((q 1), .inl (cI, n, .inl w)), ((q 2), .inl (cM, 2, .inr (.inr (.inr (.inr mr)))))] ++ mw_ cI cG a0 n t0)) (Y := mw_ cI cG a1 n t1) (Z := []) hP).2.1 rfl rfl) rfl hl.1 rfl (Nat.le_of_ble_eq_true rfl) nd_CB_span_46 hCS (fun v46 u46 H locs hp46 hP hD hS => ?_)
      rw [List.append_assoc] at hP hD
      have hP : va_P D cl_all ([((q 0), .inr (0, [.int (nI (n)), .int (nI (2 ^ n - 1)), .ref (q 1), .ref (q 2)])), ((q 1), .inl (cI, n, .inl w)), ((q 2), .inl (cM, 2, .inr (.inr (.inr (.inr mr)))))] ++ (mw_ cI cG a0 n t0 ++ (mw_ cI cG a1 n u46 ++ []))) H := hP
      have hD : va_D A ([((q 0), .inr (0, [.int (nI (n)), .int (nI (2 ^ n - 1)), .ref (q 1), .ref (q 2)])), ((q 1), .inl (cI, n, .inl w)), ((q 2), .inl (cM, 2, .inr (.inr (.inr (.inr mr)))))] ++ (mw_ cI cG a0 n t0 ++ (mw_ cI cG a1 n u46 ++ []))) := hD
      refine wi_top hp46.1 ?_
      have hbd46 : ma_r n y.2.2 (s ||| (2 ^ e)) ≤ 10 := Nat.le_trans (mt_le_cd (ma_M hI1.1) (mt_orlt hs (by omega))) (Nat.le_trans (mt_cd_le n _) hn)
      refine lv_aload_n hx hb nd_CB_span_49 rfl (lv_at hl 2 rfl) ?_
      refine lv_iload_n hx hb nd_CB_span_50 rfl (lv_at hl 4 rfl) ?_
      rw [← List.append_assoc] at hP hD
      refine wd_Vi (C := nr_MA) (n := 1) (X := ([((q 0), .inr (0, [.int (nI (n)), .int (nI (2 ^ n - 1)), .ref (q 1), .ref (q 2)])), ((q 1), .inl (cI, n, .inl w)), ((q 2), .inl (cM, 2, .inr (.inr (.inr (.inr mr)))))] ++ mw_ cI cG a0 n t0)) (Y := mw_ cI cG a1 n u46) (Z := []) hx hb hml hown htg (c_MA_rankOf l D cI cG cM a1 n hn u46.1 u46.2.1 u46.2.2.1 u46.2.2.2.1 u46.2.2.2.2.1 u46.2.2.2.2.2 y.2.2 hp46.2 s (hs) _) tm_263 tm_314 tm_261 tm_262 tm_2 (by decide +kernel) ⟨⟨Nat.le_trans (by decide) hRf, Nat.le_trans (by decide) hRl⟩, rfl, rfl⟩ hP hD hS hA hK hN (va_recv (q0 := 0) (ci := 1) hK (wm_P (X := ([((q 0), .inr (0, [.int (nI (n)), .int (nI (2 ^ n - 1)), .ref (q 1), .ref (q 2)])), ((q 1), .inl (cI, n, .inl w)), ((q 2), .inl (cM, 2, .inr (.inr (.inr (.inr mr)))))] ++ mw_ cI cG a0 n t0)) (Y := mw_ cI cG a1 n u46) (Z := []) hP).2.1 rfl rfl) rfl hl.1 rfl (Nat.le_of_ble_eq_true rfl) nd_CB_span_51 hCS (fun v51 u51 H locs hp51 hP hD hS => ?_)
      rw [List.append_assoc] at hP hD
      have hP : va_P D cl_all ([((q 0), .inr (0, [.int (nI (n)), .int (nI (2 ^ n - 1)), .ref (q 1), .ref (q 2)])), ((q 1), .inl (cI, n, .inl w)), ((q 2), .inl (cM, 2, .inr (.inr (.inr (.inr mr)))))] ++ (mw_ cI cG a0 n t0 ++ (mw_ cI cG a1 n u51 ++ []))) H := hP
      have hD : va_D A ([((q 0), .inr (0, [.int (nI (n)), .int (nI (2 ^ n - 1)), .ref (q 1), .ref (q 2)])), ((q 1), .inl (cI, n, .inl w)), ((q 2), .inl (cM, 2, .inr (.inr (.inr (.inr mr)))))] ++ (mw_ cI cG a0 n t0 ++ (mw_ cI cG a1 n u51 ++ []))) := hD
      refine wi_top hp51.1 ?_
      have hbd51 : ma_r n y.2.2 s ≤ 10 := Nat.le_trans (mt_le_cd (ma_M hI1.1) (hs)) (Nat.le_trans (mt_cd_le n _) hn)
      refine wi_icmp_ne (tgt := 66) hx hb (by omega) (by omega) nd_CB_span_54 rfl (fun hc54 => ?_) (fun hc54 => ?_)
      · refine lv_iinc (k := 0) (v := nI (e + 1)) hx hb nd_CB_span_66 hl rfl (wi_inc _ 1) (by decide) rfl (fun ls hl => ?_)
        have hl : lv_has ls 6 [(5, .int (nI (e + 1))), (4, .int (nI (s ||| sn_ (ma_r n y.2.2) s e))), (3, .ref (a1.1 0)), (0, .ref (q 0)), (2, .int (nI (s)))] := hl
        refine lv_goto (tgt := 30) hx hb nd_CB_span_69 rfl ?_
        have hl : lv_has ls 6 [(5, .int (nI (e + 1))), (4, .int (nI (s ||| sn_ (ma_r n y.2.2) s e))), (3, .ref (a1.1 0)), (0, .ref (q 0)), (2, .int (nI (s)))] := lv_sub hl [0, 1, 2, 3, 4] rfl
        have hsn : sn_ (ma_r n y.2.2) s (e + 1) = sn_ (ma_r n y.2.2) s e := if_neg hc54
        exact ih (e + 1) t0 u51 ls H locs (by omega) (by omega) hI0 hp51.2 (by rw [hsn]; exact hl) hP hD hS
      · refine lv_iload hx hb nd_CB_span_57 (lv_at hl 1 rfl) ?_
        refine wi_ic hx hb (a := 1) nd_CB_span_59 ?_
        refine lv_iload hx hb nd_CB_span_60 (lv_at hl 0 rfl) ?_
        refine wi_ishl1 hx hb (by omega) nd_CB_span_62 ?_
        refine wi_ior hx hb nd_CB_span_63 ?_
        refine lv_istore hx hb nd_CB_span_64 hl (by decide) rfl (fun ls hl => ?_)
        have hl : lv_has ls 6 [(4, .int (nI ((s ||| sn_ (ma_r n y.2.2) s e) ||| (2 ^ e)))), (5, .int (nI (e))), (3, .ref (a1.1 0)), (0, .ref (q 0)), (2, .int (nI (s)))] := hl
        refine lv_iinc (k := 1) (v := nI (e + 1)) hx hb nd_CB_span_66 hl rfl (wi_inc _ 1) (by decide) rfl (fun ls hl => ?_)
        have hl : lv_has ls 6 [(5, .int (nI (e + 1))), (4, .int (nI ((s ||| sn_ (ma_r n y.2.2) s e) ||| (2 ^ e)))), (3, .ref (a1.1 0)), (0, .ref (q 0)), (2, .int (nI (s)))] := hl
        refine lv_goto (tgt := 30) hx hb nd_CB_span_69 rfl ?_
        have hl : lv_has ls 6 [(5, .int (nI (e + 1))), (4, .int (nI ((s ||| sn_ (ma_r n y.2.2) s e) ||| (2 ^ e)))), (3, .ref (a1.1 0)), (0, .ref (q 0)), (2, .int (nI (s)))] := lv_sub hl [0, 1, 2, 3, 4] rfl
        have hsn : sn_ (ma_r n y.2.2) s (e + 1) = sn_ (ma_r n y.2.2) s e ||| 2 ^ e := if_pos hc54
        exact ih (e + 1) t0 u51 ls H locs (by omega) (by omega) hI0 hp51.2 (by rw [hsn, ← Nat.or_assoc]; exact hl) hP hD hS
set_option maxRecDepth 20000 in
theorem c_CB_span (l : Launch) (D : va_G) (cI cG cM : ClassId)  (q : Nat → Nat) (n : Nat) (hn1 : 1 ≤ n) (hn : n ≤ 10) (mr : Nat → Option Nat) (a0 a1 : ma_A) (hm0 : mr 0 = some (a0.1 0)) (hm1 : mr 1 = some (a1.1 0)) (w : Nat → Int32) (t0 t1 : ma_S) (y : cb_Y) (hI : cb_I n y (w, t0, t1)) (wh s : Int32) (sz : Nat) : wb_Mi l ny_CB_span nc_CB_span 6 (some .int) ({ frames := 5, cells := 0, slots := 0, locals := 112 }) D (ty_all cI cG cM) (cw_ cI cG cM q n mr a0 a1 (w, t0, t1)) sz [.ref (q 0), .int (wh), .int (s)] (fun (v : Int32) (u : cb_S) => v = sp_span n y wh s ∧ cb_I n y u) (fun u : cb_S => cw_ cI cG cM q n mr a0 a1 u) := by
  refine wb_start (S := cb_S) (by decide) (Nat.le_of_ble_eq_true rfl) ?_
  intro p e0 s0 m below meth c ls A hx hb hr hml htg hown hk hP hK hN hl hAe hsz hD hA
  have hl : lv_has ls 6 [(0, .ref (q 0)), (1, .int (wh)), (2, .int (s))] := hl
  have hP : va_P D cl_all ([((q 0), .inr (0, [.int (nI (n)), .int (nI (2 ^ n - 1)), .ref (q 1), .ref (q 2)])), ((q 1), .inl (cI, n, .inl w)), ((q 2), .inl (cM, 2, .inr (.inr (.inr (.inr mr)))))] ++ (mw_ cI cG a0 n t0 ++ (mw_ cI cG a1 n t1 ++ []))) s0.heap := hP
  have hD : va_D A ([((q 0), .inr (0, [.int (nI (n)), .int (nI (2 ^ n - 1)), .ref (q 1), .ref (q 2)])), ((q 1), .inl (cI, n, .inl w)), ((q 2), .inl (cM, 2, .inr (.inr (.inr (.inr mr)))))] ++ (mw_ cI cG a0 n t0 ++ (mw_ cI cG a1 n t1 ++ []))) := hD
  have hS : va_S A s0.heap s0.heap [] := va_S.rf
  have hRf : 5 ≤ ({ frames := 5, cells := 0, slots := 0, locals := 112 } : Room).frames := Nat.le_refl _
  have hRl : 112 ≤ ({ frames := 5, cells := 0, slots := 0, locals := 112 } : Room).locals := Nat.le_refl _
  have hCS : 0 ≤ ({ frames := 5, cells := 0, slots := 0, locals := 112 } : Room).cells ∧ 0 ≤ ({ frames := 5, cells := 0, slots := 0, locals := 112 } : Room).slots := ⟨Nat.zero_le _, Nat.zero_le _⟩
  have h2n : 2 ^ n ≤ 1024 := Nat.pow_le_pow_right (by omega) hn
  have h2p : 1 ≤ 2 ^ n := Nat.one_le_two_pow
  have hI0 : ma_I n y.2.1 t0 := hI.2.1
  have hI1 : ma_I n y.2.2 t1 := hI.2.2
  refine lv_iload_n hx hb nd_CB_span_0 rfl (lv_at hl 1 rfl) ?_
  rcases sm_which wh with hw1 | hw1 | hw1
  · subst hw1
    refine wc_S (n := 1) hx hb hml hown htg (c_CB_isMatroid l D _ (nI 0) (nI 1) (fun _ => rfl) (fun h => absurd (Or.inl nI_0) h)) tm_141 tm_139 tm_140 tm_1 (by decide +kernel) ⟨⟨Nat.le_trans (by decide) hRf, Nat.le_trans (by decide) hRl⟩, rfl, rfl⟩ (wa_pre wa_nil hK hN) rfl hl.1 rfl (Nat.le_of_ble_eq_true rfl) nd_CB_span_1 hCS ?_
    refine wi_if_eq (tgt := 15) hx hb (by decide) nd_CB_span_4 rfl (fun h => absurd h (by decide)) (fun _ => ?_)
    refine lv_aload_n hx hb nd_CB_span_7 rfl (lv_at hl 0 rfl) ?_
    refine lv_iload_n hx hb nd_CB_span_8 rfl (lv_at hl 2 rfl) ?_
    by_cases hq9 : ¬ s < 0 ∧ ¬ nI (2 ^ n - 1) < s
    · obtain ⟨s1, h_s1, rfl⟩ := sm_upto (by omega) hq9
      refine wc_V (C := nr_CB) (n := 1) hx hb hml hown htg (c_CB_isSet l D _ (q 0) (q 1) (q 2) n (nI s1) (nI 1) (fun _ => rfl) (fun h => absurd hq9 h)) tm_255 tm_252 tm_254 tp_3 tm_1 (by decide +kernel) ⟨⟨Nat.le_trans (by decide) hRf, Nat.le_trans (by decide) hRl⟩, rfl, rfl⟩ (wa_pre (hP.sub [0] rfl) hK hN) (va_recv (q0 := 0) (ci := 0) hK hP rfl rfl) rfl hl.1 rfl (Nat.le_of_ble_eq_true rfl) nd_CB_span_9 hCS ?_
      refine wi_if_ne (tgt := 17) hx hb (by decide) nd_CB_span_12 rfl (fun _ => ?_) (fun h => absurd h (by decide))
      refine lv_aload_n hx hb nd_CB_span_17 rfl (lv_at hl 0 rfl) ?_
      refine va_get (D := D) (C := nr_CB) (T := nt_CB) (N := 4) hx hb htg tf_CB hown hK hP 0 rfl rfl 3 (by decide) (htg _ tm_125) (fun _ h => h) rfl nd_CB_span_18 ?_
      refine lv_iload_n hx hb nd_CB_span_21 rfl (lv_at hl 1 rfl) ?_
      refine wi_aald (v := (a0.1 0)) hx hb hK hP 2 2 rfl rfl rfl (by omega) (by omega) (hm0) nd_CB_span_22 ?_
      refine lv_astore_n hx hb nd_CB_span_23 rfl hl (by decide) rfl (fun ls hl => ?_)
      have hl : lv_has ls 6 [(3, .ref (a0.1 0)), (0, .ref (q 0)), (1, .int (nI (0))), (2, .int (nI (s1)))] := hl
      refine lv_iload_n hx hb nd_CB_span_24 rfl (lv_at hl 3 rfl) ?_
      refine lv_istore hx hb nd_CB_span_25 hl (by decide) rfl (fun ls hl => ?_)
      have hl : lv_has ls 6 [(4, .int (nI (s1))), (3, .ref (a0.1 0)), (0, .ref (q 0)), (1, .int (nI (0))), (2, .int (nI (s1)))] := hl
      refine wi_ic hx hb (a := 0) nd_CB_span_27 ?_
      refine lv_istore hx hb nd_CB_span_28 hl (by decide) rfl (fun ls hl => ?_)
      have hl : lv_has ls 6 [(5, .int (nI (0))), (4, .int (nI (s1))), (3, .ref (a0.1 0)), (0, .ref (q 0)), (1, .int (nI (0))), (2, .int (nI (s1)))] := hl
      have hl : lv_has ls 6 [(5, .int (nI (0))), (4, .int (nI (s1))), (3, .ref (a0.1 0)), (0, .ref (q 0)), (2, .int (nI (s1)))] := lv_sub hl [0, 1, 2, 3, 5] rfl
      refine lp_CB_span0 cI cG cM q n hn1 hn mr a0 a1 hm0 hm1 w y (fun e he => (hI.1 e he).1) s1 (by omega) hx hb hml htg hown hK hN hA hRf hRl hCS (fun ls H locs t0 t1 hI0 hI1 hl hP hD hS => ?_) (n + 1) 0 t0 t1 ls s0.heap [] (by omega) (by omega) hI0 hI1 (by simpa [sn_] using hl) hP hD hS
      refine lv_iload hx hb nd_CB_span_72 (lv_at hl 0 rfl) ?_
      have hsp : sp_span n y (nI 0) (nI s1) = nI (sn_ (ma_r n y.2.1) s1 n) := by unfold sp_span; simp only [sw_0, sr_t h_s1 (show 2 ^ n - 1 < 2 ^ 31 by omega), tn_0, tn_nI (show s1 < 2 ^ 31 by omega)]; simp [cb_m]
      exact wb_iret (w, t0, t1) hx hb hr hk hAe (by rw [hsp]; exact ⟨rfl, hI.1, hI0, hI1⟩) hP hD hS nd_CB_span_74
    · refine wc_V (C := nr_CB) (n := 1) hx hb hml hown htg (c_CB_isSet l D _ (q 0) (q 1) (q 2) n s (nI 0) (fun h => absurd h hq9) (fun _ => rfl)) tm_255 tm_252 tm_254 tp_3 tm_1 (by decide +kernel) ⟨⟨Nat.le_trans (by decide) hRf, Nat.le_trans (by decide) hRl⟩, rfl, rfl⟩ (wa_pre (hP.sub [0] rfl) hK hN) (va_recv (q0 := 0) (ci := 0) hK hP rfl rfl) rfl hl.1 rfl (Nat.le_of_ble_eq_true rfl) nd_CB_span_9 hCS ?_
      refine wi_if_ne (tgt := 17) hx hb (by decide) nd_CB_span_12 rfl (fun h => absurd h (by decide)) (fun _ => ?_)
      refine lv_iconst (v := -1) hx hb nd_CB_span_15 (by decide) ?_
      have hsp : sp_span n y (nI (0)) s = -1 := by unfold sp_span; simp [sr_f hq9]
      exact wb_iret (w, t0, t1) hx hb hr hk hAe (by rw [hsp]; exact ⟨rfl, hI⟩) hP hD hS nd_CB_span_16
  · subst hw1
    refine wc_S (n := 1) hx hb hml hown htg (c_CB_isMatroid l D _ (nI 1) (nI 1) (fun _ => rfl) (fun h => absurd (Or.inr rfl) h)) tm_141 tm_139 tm_140 tm_1 (by decide +kernel) ⟨⟨Nat.le_trans (by decide) hRf, Nat.le_trans (by decide) hRl⟩, rfl, rfl⟩ (wa_pre wa_nil hK hN) rfl hl.1 rfl (Nat.le_of_ble_eq_true rfl) nd_CB_span_1 hCS ?_
    refine wi_if_eq (tgt := 15) hx hb (by decide) nd_CB_span_4 rfl (fun h => absurd h (by decide)) (fun _ => ?_)
    refine lv_aload_n hx hb nd_CB_span_7 rfl (lv_at hl 0 rfl) ?_
    refine lv_iload_n hx hb nd_CB_span_8 rfl (lv_at hl 2 rfl) ?_
    by_cases hq9 : ¬ s < 0 ∧ ¬ nI (2 ^ n - 1) < s
    · obtain ⟨s1, h_s1, rfl⟩ := sm_upto (by omega) hq9
      refine wc_V (C := nr_CB) (n := 1) hx hb hml hown htg (c_CB_isSet l D _ (q 0) (q 1) (q 2) n (nI s1) (nI 1) (fun _ => rfl) (fun h => absurd hq9 h)) tm_255 tm_252 tm_254 tp_3 tm_1 (by decide +kernel) ⟨⟨Nat.le_trans (by decide) hRf, Nat.le_trans (by decide) hRl⟩, rfl, rfl⟩ (wa_pre (hP.sub [0] rfl) hK hN) (va_recv (q0 := 0) (ci := 0) hK hP rfl rfl) rfl hl.1 rfl (Nat.le_of_ble_eq_true rfl) nd_CB_span_9 hCS ?_
      refine wi_if_ne (tgt := 17) hx hb (by decide) nd_CB_span_12 rfl (fun _ => ?_) (fun h => absurd h (by decide))
      refine lv_aload_n hx hb nd_CB_span_17 rfl (lv_at hl 0 rfl) ?_
      refine va_get (D := D) (C := nr_CB) (T := nt_CB) (N := 4) hx hb htg tf_CB hown hK hP 0 rfl rfl 3 (by decide) (htg _ tm_125) (fun _ h => h) rfl nd_CB_span_18 ?_
      refine lv_iload_n hx hb nd_CB_span_21 rfl (lv_at hl 1 rfl) ?_
      refine wi_aald (v := (a1.1 0)) hx hb hK hP 2 2 rfl rfl rfl (by omega) (by omega) (hm1) nd_CB_span_22 ?_
      refine lv_astore_n hx hb nd_CB_span_23 rfl hl (by decide) rfl (fun ls hl => ?_)
      have hl : lv_has ls 6 [(3, .ref (a1.1 0)), (0, .ref (q 0)), (1, .int (nI (1))), (2, .int (nI (s1)))] := hl
      refine lv_iload_n hx hb nd_CB_span_24 rfl (lv_at hl 3 rfl) ?_
      refine lv_istore hx hb nd_CB_span_25 hl (by decide) rfl (fun ls hl => ?_)
      have hl : lv_has ls 6 [(4, .int (nI (s1))), (3, .ref (a1.1 0)), (0, .ref (q 0)), (1, .int (nI (1))), (2, .int (nI (s1)))] := hl
      refine wi_ic hx hb (a := 0) nd_CB_span_27 ?_
      refine lv_istore hx hb nd_CB_span_28 hl (by decide) rfl (fun ls hl => ?_)
      have hl : lv_has ls 6 [(5, .int (nI (0))), (4, .int (nI (s1))), (3, .ref (a1.1 0)), (0, .ref (q 0)), (1, .int (nI (1))), (2, .int (nI (s1)))] := hl
      have hl : lv_has ls 6 [(5, .int (nI (0))), (4, .int (nI (s1))), (3, .ref (a1.1 0)), (0, .ref (q 0)), (2, .int (nI (s1)))] := lv_sub hl [0, 1, 2, 3, 5] rfl
      refine lp_CB_span1 cI cG cM q n hn1 hn mr a0 a1 hm0 hm1 w y (fun e he => (hI.1 e he).1) s1 (by omega) hx hb hml htg hown hK hN hA hRf hRl hCS (fun ls H locs t0 t1 hI0 hI1 hl hP hD hS => ?_) (n + 1) 0 t0 t1 ls s0.heap [] (by omega) (by omega) hI0 hI1 (by simpa [sn_] using hl) hP hD hS
      refine lv_iload hx hb nd_CB_span_72 (lv_at hl 0 rfl) ?_
      have hsp : sp_span n y (nI 1) (nI s1) = nI (sn_ (ma_r n y.2.2) s1 n) := by unfold sp_span; simp only [sw_1, sr_t h_s1 (show 2 ^ n - 1 < 2 ^ 31 by omega), tn_1, tn_nI (show s1 < 2 ^ 31 by omega)]; simp [cb_m]
      exact wb_iret (w, t0, t1) hx hb hr hk hAe (by rw [hsp]; exact ⟨rfl, hI.1, hI0, hI1⟩) hP hD hS nd_CB_span_74
    · refine wc_V (C := nr_CB) (n := 1) hx hb hml hown htg (c_CB_isSet l D _ (q 0) (q 1) (q 2) n s (nI 0) (fun h => absurd h hq9) (fun _ => rfl)) tm_255 tm_252 tm_254 tp_3 tm_1 (by decide +kernel) ⟨⟨Nat.le_trans (by decide) hRf, Nat.le_trans (by decide) hRl⟩, rfl, rfl⟩ (wa_pre (hP.sub [0] rfl) hK hN) (va_recv (q0 := 0) (ci := 0) hK hP rfl rfl) rfl hl.1 rfl (Nat.le_of_ble_eq_true rfl) nd_CB_span_9 hCS ?_
      refine wi_if_ne (tgt := 17) hx hb (by decide) nd_CB_span_12 rfl (fun h => absurd h (by decide)) (fun _ => ?_)
      refine lv_iconst (v := -1) hx hb nd_CB_span_15 (by decide) ?_
      have hsp : sp_span n y (nI (1)) s = -1 := by unfold sp_span; simp [sr_f hq9]
      exact wb_iret (w, t0, t1) hx hb hr hk hAe (by rw [hsp]; exact ⟨rfl, hI⟩) hP hD hS nd_CB_span_16
  · refine wc_S (n := 1) hx hb hml hown htg (c_CB_isMatroid l D _ wh (nI 0) (fun h => absurd h (fun z => z.elim (fun z => hw1.1 (z.trans nI_0.symm)) hw1.2)) (fun _ => rfl)) tm_141 tm_139 tm_140 tm_1 (by decide +kernel) ⟨⟨Nat.le_trans (by decide) hRf, Nat.le_trans (by decide) hRl⟩, rfl, rfl⟩ (wa_pre wa_nil hK hN) rfl hl.1 rfl (Nat.le_of_ble_eq_true rfl) nd_CB_span_1 hCS ?_
    refine wi_if_eq (tgt := 15) hx hb (by decide) nd_CB_span_4 rfl (fun _ => ?_) (fun h => absurd h (by decide))
    refine lv_iconst (v := -1) hx hb nd_CB_span_15 (by decide) ?_
    have hsp : sp_span n y wh s = -1 := by unfold sp_span; simp [sw_n hw1]
    exact wb_iret (w, t0, t1) hx hb hr hk hAe (by rw [hsp]; exact ⟨rfl, hI⟩) hP hD hS nd_CB_span_16
theorem nd_CB_witness_0 : decode nc_CB_witness 0 = .ok (.iconst 0, 1) := by decide +kernel
theorem nd_CB_witness_1 : decode nc_CB_witness 1 = .ok (.istore_n 1, 1) := by decide +kernel
theorem nd_CB_witness_2 : decode nc_CB_witness 2 = .ok (.aload_n 0, 1) := by decide +kernel
theorem nd_CB_witness_3 : decode nc_CB_witness 3 = .ok (.iload_n 1, 1) := by decide +kernel
theorem nd_CB_witness_4 : decode nc_CB_witness 4 = .ok (.invokevirtual 97, 3) := by decide +kernel
theorem nd_CB_witness_7 : decode nc_CB_witness 7 = .ok (.istore_n 2, 1) := by decide +kernel
theorem nd_CB_witness_8 : decode nc_CB_witness 8 = .ok (.iconst 1, 1) := by decide +kernel
theorem nd_CB_witness_9 : decode nc_CB_witness 9 = .ok (.istore_n 3, 1) := by decide +kernel
theorem nd_CB_witness_10 : decode nc_CB_witness 10 = .ok (.iload_n 3, 1) := by decide +kernel
theorem nd_CB_witness_11 : decode nc_CB_witness 11 = .ok (.aload_n 0, 1) := by decide +kernel
theorem nd_CB_witness_12 : decode nc_CB_witness 12 = .ok (.getfield 13, 3) := by decide +kernel
theorem nd_CB_witness_15 : decode nc_CB_witness 15 = .ok (.if_icmp .gt 27, 3) := by decide +kernel
theorem nd_CB_witness_18 : decode nc_CB_witness 18 = .ok (.aload_n 0, 1) := by decide +kernel
theorem nd_CB_witness_19 : decode nc_CB_witness 19 = .ok (.iload_n 3, 1) := by decide +kernel
theorem nd_CB_witness_20 : decode nc_CB_witness 20 = .ok (.invokevirtual 97, 3) := by decide +kernel
theorem nd_CB_witness_23 : decode nc_CB_witness 23 = .ok (.istore 4, 2) := by decide +kernel
theorem nd_CB_witness_25 : decode nc_CB_witness 25 = .ok (.iload 4, 2) := by decide +kernel
theorem nd_CB_witness_27 : decode nc_CB_witness 27 = .ok (.iload_n 2, 1) := by decide +kernel
theorem nd_CB_witness_28 : decode nc_CB_witness 28 = .ok (.if_icmp .ge 8, 3) := by decide +kernel
theorem nd_CB_witness_31 : decode nc_CB_witness 31 = .ok (.iload_n 3, 1) := by decide +kernel
theorem nd_CB_witness_32 : decode nc_CB_witness 32 = .ok (.istore_n 1, 1) := by decide +kernel
theorem nd_CB_witness_33 : decode nc_CB_witness 33 = .ok (.iload 4, 2) := by decide +kernel
theorem nd_CB_witness_35 : decode nc_CB_witness 35 = .ok (.istore_n 2, 1) := by decide +kernel
theorem nd_CB_witness_36 : decode nc_CB_witness 36 = .ok (.iinc 3 1, 3) := by decide +kernel
theorem nd_CB_witness_39 : decode nc_CB_witness 39 = .ok (.goto (-29), 3) := by decide +kernel
theorem nd_CB_witness_42 : decode nc_CB_witness 42 = .ok (.iload_n 1, 1) := by decide +kernel
theorem nd_CB_witness_43 : decode nc_CB_witness 43 = .ok (.ireturn, 1) := by decide +kernel
set_option maxRecDepth 20000 in
theorem lp_CB_witness {p : Program} {l : Launch} {e0 : Env} {R : Room} {s0 : State} {m : MethodId} {args : Array Value} {below : List Frame} {meth : Method} {c : Code} {cells slots : Nat} {Q : State → Prop} {D : va_G} {A : Nat → Prop} (cI cG cM : ClassId) (q : Nat → Nat) (n : Nat) (hn1 : 1 ≤ n) (hn : n ≤ 10) (mr : Nat → Option Nat) (a0 a1 : ma_A) (hm0 : mr 0 = some (a0.1 0)) (hm1 : mr 1 = some (a1.1 0)) (y : cb_Y)  (hx : p.tables.exec = Jvm.exec) (hb : c.code = nc_CB_witness) (hml : c.maxLocals = 5) (htg : ∀ w ∈ tg_, w.before args s0 = true) (hown : s0.vm.findClass ny_CB_witness.cls = some m.cls) (hK : va_K D cl_all (ty_all cI cG cM) s0) (hN : tn_K s0) (hA : ∀ q : Nat, s0.heap.size ≤ q → A q) (hRf : 6 ≤ R.frames) (hRl : 133 ≤ R.locals) (hCS : cells ≤ R.cells ∧ slots ≤ R.slots) (kx : ∀ (ls : Array Slot) (H : Heap) (locs : List Loc) (w : Nat → Int32) (t0 : ma_S) (t1 : ma_S), (∀ e, e < n → w e = y.1 e ∧ -1000000 ≤ (y.1 e).toInt ∧ (y.1 e).toInt ≤ 1000000) → (ma_I n y.2.1 t0) → (ma_I n y.2.2 t1) → lv_has ls 5 [(1, .int (nI (fi_ (h1_ n y) (2 ^ n - 1))))] → va_P D cl_all ([((q 0), .inr (0, [.int (nI (n)), .int (nI (2 ^ n - 1)), .ref (q 1), .ref (q 2)])), ((q 1), .inl (cI, n, .inl w)), ((q 2), .inl (cM, 2, .inr (.inr (.inr (.inr mr)))))] ++ (mw_ cI cG a0 n t0 ++ (mw_ cI cG a1 n t1 ++ []))) H → va_D A ([((q 0), .inr (0, [.int (nI (n)), .int (nI (2 ^ n - 1)), .ref (q 1), .ref (q 2)])), ((q 1), .inl (cI, n, .inl w)), ((q 2), .inl (cM, 2, .inr (.inr (.inr (.inr mr)))))] ++ (mw_ cI cG a0 n t0 ++ (mw_ cI cG a1 n t1 ++ []))) → va_S A s0.heap H locs → W p l e0 R s0 m args below meth c H locs cells slots Q (F0 m 42 ls [])) : ∀ (f : Nat) (i : Nat) (w : Nat → Int32) (t0 : ma_S) (t1 : ma_S) (ls : Array Slot) (H : Heap) (locs : List Loc), 2 ^ n - i < f → (i ≤ 2 ^ n) → (1 ≤ i) → (∀ e, e < n → w e = y.1 e ∧ -1000000 ≤ (y.1 e).toInt ∧ (y.1 e).toInt ≤ 1000000) → (ma_I n y.2.1 t0) → (ma_I n y.2.2 t1) → lv_has ls 5 [(3, .int (nI (i))), (2, .int (nI (h1_ n y (fi_ (h1_ n y) (i - 1))))), (1, .int (nI (fi_ (h1_ n y) (i - 1)))), (0, .ref (q 0))] → va_P D cl_all ([((q 0), .inr (0, [.int (nI (n)), .int (nI (2 ^ n - 1)), .ref (q 1), .ref (q 2)])), ((q 1), .inl (cI, n, .inl w)), ((q 2), .inl (cM, 2, .inr (.inr (.inr (.inr mr)))))] ++ (mw_ cI cG a0 n t0 ++ (mw_ cI cG a1 n t1 ++ []))) H → va_D A ([((q 0), .inr (0, [.int (nI (n)), .int (nI (2 ^ n - 1)), .ref (q 1), .ref (q 2)])), ((q 1), .inl (cI, n, .inl w)), ((q 2), .inl (cM, 2, .inr (.inr (.inr (.inr mr)))))] ++ (mw_ cI cG a0 n t0 ++ (mw_ cI cG a1 n t1 ++ []))) → va_S A s0.heap H locs → W p l e0 R s0 m args below meth c H locs cells slots Q (F0 m 10 ls []) := by
  intro f
  induction f with
  | zero => intro i w t0 t1 ls H locs hfu; omega
  | succ f ih =>
    intro i w t0 t1 ls H locs hfu hi hi1 hwb hI0 hI1 hl hP hD hS
    have h2n : 2 ^ n ≤ 1024 := Nat.pow_le_pow_right (by omega) hn
    have hfl := fi_le (h1_ n y) (i - 1)
    have hbf := h1_le hn hI0.1 hI1.1 (s := fi_ (h1_ n y) (i - 1)) (by omega)
    refine lv_iload_n hx hb nd_CB_witness_10 rfl (lv_at hl 0 rfl) ?_
    refine lv_aload_n hx hb nd_CB_witness_11 rfl (lv_at hl 3 rfl) ?_
    refine va_get (D := D) (C := nr_CB) (T := nt_CB) (N := 4) hx hb htg tf_CB hown hK hP 0 rfl rfl 1 (by decide) (htg _ tm_123) (fun _ h => h) rfl nd_CB_witness_12 ?_
    refine wi_icmp_gt (tgt := 42) hx hb (by omega) (by omega) nd_CB_witness_15 rfl (fun hc15 => ?_) (fun hc15 => ?_)
    · have hl : lv_has ls 5 [(1, .int (nI (fi_ (h1_ n y) (i - 1))))] := lv_sub hl [2] rfl
      have hin : i = 2 ^ n := by omega
      exact kx ls H locs w t0 t1 hwb hI0 hI1 (by simpa only [hin] using hl) hP hD hS
    · refine lv_aload_n hx hb nd_CB_witness_18 rfl (lv_at hl 3 rfl) ?_
      refine lv_iload_n hx hb nd_CB_witness_19 rfl (lv_at hl 0 rfl) ?_
      refine wd_Vi0 (C := nr_CB) (n := 1) (Y := cw_ cI cG cM q n mr a0 a1 (w, t0, t1)) hx hb hml hown htg (c_CB_commonBound l D cI cG cM q n hn1 hn mr a0 a1 hm0 hm1 w t0 t1 y ⟨hwb, hI0, hI1⟩ i (by omega) _) tm_360 tm_357 tm_359 tp_10 tm_1 (by decide +kernel) ⟨⟨Nat.le_trans (by decide) hRf, Nat.le_trans (by decide) hRl⟩, rfl, rfl⟩ hP hD hS hA hK hN (va_recv (q0 := 0) (ci := 0) hK hP rfl rfl) rfl hl.1 rfl (Nat.le_of_ble_eq_true rfl) nd_CB_witness_20 hCS (fun v20 u20 H locs hp20 hP hD hS => ?_)
      have hP : va_P D cl_all ([((q 0), .inr (0, [.int (nI (n)), .int (nI (2 ^ n - 1)), .ref (q 1), .ref (q 2)])), ((q 1), .inl (cI, n, .inl u20.1)), ((q 2), .inl (cM, 2, .inr (.inr (.inr (.inr mr)))))] ++ (mw_ cI cG a0 n u20.2.1 ++ (mw_ cI cG a1 n u20.2.2 ++ []))) H := hP
      have hD : va_D A ([((q 0), .inr (0, [.int (nI (n)), .int (nI (2 ^ n - 1)), .ref (q 1), .ref (q 2)])), ((q 1), .inl (cI, n, .inl u20.1)), ((q 2), .inl (cM, 2, .inr (.inr (.inr (.inr mr)))))] ++ (mw_ cI cG a0 n u20.2.1 ++ (mw_ cI cG a1 n u20.2.2 ++ []))) := hD
      refine wi_top (show _ = nI (h1_ n y i) from hp20.1) ?_
      have hbd20 := h1_le hn hI0.1 hI1.1 (s := i) (by omega)
      refine lv_istore hx hb nd_CB_witness_23 hl (by decide) rfl (fun ls hl => ?_)
      have hl : lv_has ls 5 [(4, .int (nI (h1_ n y i))), (3, .int (nI (i))), (2, .int (nI (h1_ n y (fi_ (h1_ n y) (i - 1))))), (1, .int (nI (fi_ (h1_ n y) (i - 1)))), (0, .ref (q 0))] := hl
      refine lv_iload hx hb nd_CB_witness_25 (lv_at hl 0 rfl) ?_
      refine lv_iload_n hx hb nd_CB_witness_27 rfl (lv_at hl 2 rfl) ?_
      refine wi_icmp_ge (tgt := 36) hx hb (by omega) (by omega) nd_CB_witness_28 rfl (fun hc28 => ?_) (fun hc28 => ?_)
      · refine lv_iinc (k := 1) (v := nI (i + 1)) hx hb nd_CB_witness_36 hl rfl (wi_inc _ 1) (by decide) rfl (fun ls hl => ?_)
        have hl : lv_has ls 5 [(3, .int (nI (i + 1))), (4, .int (nI (h1_ n y i))), (2, .int (nI (h1_ n y (fi_ (h1_ n y) (i - 1))))), (1, .int (nI (fi_ (h1_ n y) (i - 1)))), (0, .ref (q 0))] := hl
        refine lv_goto (tgt := 10) hx hb nd_CB_witness_39 rfl ?_
        have hl : lv_has ls 5 [(3, .int (nI (i + 1))), (2, .int (nI (h1_ n y (fi_ (h1_ n y) (i - 1))))), (1, .int (nI (fi_ (h1_ n y) (i - 1)))), (0, .ref (q 0))] := lv_sub hl [0, 2, 3, 4] rfl
        have hfi : fi_ (h1_ n y) (i + 1 - 1) = fi_ (h1_ n y) (i - 1) := by rw [show i + 1 - 1 = (i - 1) + 1 by omega]; exact if_neg (by rw [show i - 1 + 1 = i by omega]; omega)
        exact ih (i + 1) u20.1 u20.2.1 u20.2.2 ls H locs (by omega) (by omega) (by omega) hp20.2.1 hp20.2.2.1 hp20.2.2.2 (by rw [hfi]; exact hl) hP hD hS
      · refine lv_iload_n hx hb nd_CB_witness_31 rfl (lv_at hl 1 rfl) ?_
        refine lv_istore_n hx hb nd_CB_witness_32 rfl hl (by decide) rfl (fun ls hl => ?_)
        have hl : lv_has ls 5 [(1, .int (nI (i))), (4, .int (nI (h1_ n y i))), (3, .int (nI (i))), (2, .int (nI (h1_ n y (fi_ (h1_ n y) (i - 1))))), (0, .ref (q 0))] := hl
        refine lv_iload hx hb nd_CB_witness_33 (lv_at hl 1 rfl) ?_
        refine lv_istore_n hx hb nd_CB_witness_35 rfl hl (by decide) rfl (fun ls hl => ?_)
        have hl : lv_has ls 5 [(2, .int (nI (h1_ n y i))), (1, .int (nI (i))), (4, .int (nI (h1_ n y i))), (3, .int (nI (i))), (0, .ref (q 0))] := hl
        refine lv_iinc (k := 3) (v := nI (i + 1)) hx hb nd_CB_witness_36 hl rfl (wi_inc _ 1) (by decide) rfl (fun ls hl => ?_)
        have hl : lv_has ls 5 [(3, .int (nI (i + 1))), (2, .int (nI (h1_ n y i))), (1, .int (nI (i))), (4, .int (nI (h1_ n y i))), (0, .ref (q 0))] := hl
        refine lv_goto (tgt := 10) hx hb nd_CB_witness_39 rfl ?_
        have hl : lv_has ls 5 [(3, .int (nI (i + 1))), (2, .int (nI (h1_ n y i))), (1, .int (nI (i))), (0, .ref (q 0))] := lv_sub hl [0, 1, 2, 4] rfl
        have hfi : fi_ (h1_ n y) (i + 1 - 1) = i := by rw [show i + 1 - 1 = (i - 1) + 1 by omega]; exact (if_pos (by rw [show i - 1 + 1 = i by omega]; omega)).trans (by omega)
        exact ih (i + 1) u20.1 u20.2.1 u20.2.2 ls H locs (by omega) (by omega) (by omega) hp20.2.1 hp20.2.2.1 hp20.2.2.2 (by rw [hfi]; exact hl) hP hD hS
set_option maxRecDepth 20000 in
theorem c_CB_witness (l : Launch) (D : va_G) (cI cG cM : ClassId)  (q : Nat → Nat) (n : Nat) (hn1 : 1 ≤ n) (hn : n ≤ 10) (mr : Nat → Option Nat) (a0 a1 : ma_A) (hm0 : mr 0 = some (a0.1 0)) (hm1 : mr 1 = some (a1.1 0)) (w : Nat → Int32) (t0 t1 : ma_S) (y : cb_Y) (hI : cb_I n y (w, t0, t1))  (sz : Nat) : wb_Mi l ny_CB_witness nc_CB_witness 5 (some .int) ({ frames := 6, cells := 0, slots := 0, locals := 133 }) D (ty_all cI cG cM) (cw_ cI cG cM q n mr a0 a1 (w, t0, t1)) sz [.ref (q 0)] (fun (v : Int32) (u : cb_S) => v = nI (fi_ (h1_ n y) (2 ^ n - 1)) ∧ cb_I n y u) (fun u : cb_S => cw_ cI cG cM q n mr a0 a1 u) := by
  refine wb_start (S := cb_S) (by decide) (Nat.le_of_ble_eq_true rfl) ?_
  intro p e0 s0 m below meth c ls A hx hb hr hml htg hown hk hP hK hN hl hAe hsz hD hA
  have hl : lv_has ls 5 [(0, .ref (q 0))] := hl
  have hP : va_P D cl_all ([((q 0), .inr (0, [.int (nI (n)), .int (nI (2 ^ n - 1)), .ref (q 1), .ref (q 2)])), ((q 1), .inl (cI, n, .inl w)), ((q 2), .inl (cM, 2, .inr (.inr (.inr (.inr mr)))))] ++ (mw_ cI cG a0 n t0 ++ (mw_ cI cG a1 n t1 ++ []))) s0.heap := hP
  have hD : va_D A ([((q 0), .inr (0, [.int (nI (n)), .int (nI (2 ^ n - 1)), .ref (q 1), .ref (q 2)])), ((q 1), .inl (cI, n, .inl w)), ((q 2), .inl (cM, 2, .inr (.inr (.inr (.inr mr)))))] ++ (mw_ cI cG a0 n t0 ++ (mw_ cI cG a1 n t1 ++ []))) := hD
  have hS : va_S A s0.heap s0.heap [] := va_S.rf
  have hRf : 6 ≤ ({ frames := 6, cells := 0, slots := 0, locals := 133 } : Room).frames := Nat.le_refl _
  have hRl : 133 ≤ ({ frames := 6, cells := 0, slots := 0, locals := 133 } : Room).locals := Nat.le_refl _
  have hCS : 0 ≤ ({ frames := 6, cells := 0, slots := 0, locals := 133 } : Room).cells ∧ 0 ≤ ({ frames := 6, cells := 0, slots := 0, locals := 133 } : Room).slots := ⟨Nat.zero_le _, Nat.zero_le _⟩
  have h2n : 2 ^ n ≤ 1024 := Nat.pow_le_pow_right (by omega) hn
  have h2p : 1 ≤ 2 ^ n := Nat.one_le_two_pow
  have hI0 : ma_I n y.2.1 t0 := hI.2.1
  have hI1 : ma_I n y.2.2 t1 := hI.2.2
  have hwb := hI.1
  refine wi_ic hx hb (a := 0) nd_CB_witness_0 ?_
  refine lv_istore_n hx hb nd_CB_witness_1 rfl hl (by decide) rfl (fun ls hl => ?_)
  have hl : lv_has ls 5 [(1, .int (nI (0))), (0, .ref (q 0))] := hl
  refine lv_aload_n hx hb nd_CB_witness_2 rfl (lv_at hl 1 rfl) ?_
  refine lv_iload_n hx hb nd_CB_witness_3 rfl (lv_at hl 0 rfl) ?_
  refine wd_Vi0 (C := nr_CB) (n := 1) (Y := cw_ cI cG cM q n mr a0 a1 (w, t0, t1)) hx hb hml hown htg (c_CB_commonBound l D cI cG cM q n hn1 hn mr a0 a1 hm0 hm1 w t0 t1 y ⟨hwb, hI0, hI1⟩ 0 (by omega) _) tm_360 tm_357 tm_359 tp_10 tm_1 (by decide +kernel) ⟨⟨Nat.le_trans (by decide) hRf, Nat.le_trans (by decide) hRl⟩, rfl, rfl⟩ hP hD hS hA hK hN (va_recv (q0 := 0) (ci := 0) hK hP rfl rfl) rfl hl.1 rfl (Nat.le_of_ble_eq_true rfl) nd_CB_witness_4 hCS (fun v4 u4 H locs hp4 hP hD hS => ?_)
  have hP : va_P D cl_all ([((q 0), .inr (0, [.int (nI (n)), .int (nI (2 ^ n - 1)), .ref (q 1), .ref (q 2)])), ((q 1), .inl (cI, n, .inl u4.1)), ((q 2), .inl (cM, 2, .inr (.inr (.inr (.inr mr)))))] ++ (mw_ cI cG a0 n u4.2.1 ++ (mw_ cI cG a1 n u4.2.2 ++ []))) H := hP
  have hD : va_D A ([((q 0), .inr (0, [.int (nI (n)), .int (nI (2 ^ n - 1)), .ref (q 1), .ref (q 2)])), ((q 1), .inl (cI, n, .inl u4.1)), ((q 2), .inl (cM, 2, .inr (.inr (.inr (.inr mr)))))] ++ (mw_ cI cG a0 n u4.2.1 ++ (mw_ cI cG a1 n u4.2.2 ++ []))) := hD
  refine wi_top (show _ = nI (h1_ n y 0) from hp4.1) ?_
  have hbd4 := h1_le hn hI0.1 hI1.1 (s := 0) (by omega)
  refine lv_istore_n hx hb nd_CB_witness_7 rfl hl (by decide) rfl (fun ls hl => ?_)
  have hl : lv_has ls 5 [(2, .int (nI (h1_ n y 0))), (1, .int (nI (0))), (0, .ref (q 0))] := hl
  refine wi_ic hx hb (a := 1) nd_CB_witness_8 ?_
  refine lv_istore_n hx hb nd_CB_witness_9 rfl hl (by decide) rfl (fun ls hl => ?_)
  have hl : lv_has ls 5 [(3, .int (nI (1))), (2, .int (nI (h1_ n y 0))), (1, .int (nI (0))), (0, .ref (q 0))] := hl
  have hl : lv_has ls 5 [(3, .int (nI (1))), (2, .int (nI (h1_ n y 0))), (1, .int (nI (0))), (0, .ref (q 0))] := lv_sub hl [0, 1, 2, 3] rfl
  refine lp_CB_witness cI cG cM q n hn1 hn mr a0 a1 hm0 hm1 y hx hb hml htg hown hK hN hA hRf hRl hCS (fun ls H locs w t0 t1 hwb hI0 hI1 hl hP hD hS => ?_) (2 ^ n + 1) 1 u4.1 u4.2.1 u4.2.2 ls H locs (by omega) (by omega) (by omega) hp4.2.1 hp4.2.2.1 hp4.2.2.2 hl hP hD hS
  refine lv_iload_n hx hb nd_CB_witness_42 rfl (lv_at hl 0 rfl) ?_
  exact wb_iret (w, t0, t1) hx hb hr hk hAe (⟨rfl, hwb, hI0, hI1⟩) hP hD hS nd_CB_witness_43
theorem nd_CB_jointWitness_0 : decode nc_CB_jointWitness 0 = .ok (.iconst 0, 1) := by decide +kernel
theorem nd_CB_jointWitness_1 : decode nc_CB_jointWitness 1 = .ok (.istore_n 1, 1) := by decide +kernel
theorem nd_CB_jointWitness_2 : decode nc_CB_jointWitness 2 = .ok (.aload_n 0, 1) := by decide +kernel
theorem nd_CB_jointWitness_3 : decode nc_CB_jointWitness 3 = .ok (.iload_n 1, 1) := by decide +kernel
theorem nd_CB_jointWitness_4 : decode nc_CB_jointWitness 4 = .ok (.invokevirtual 104, 3) := by decide +kernel
theorem nd_CB_jointWitness_7 : decode nc_CB_jointWitness 7 = .ok (.istore_n 2, 1) := by decide +kernel
theorem nd_CB_jointWitness_8 : decode nc_CB_jointWitness 8 = .ok (.iconst 1, 1) := by decide +kernel
theorem nd_CB_jointWitness_9 : decode nc_CB_jointWitness 9 = .ok (.istore_n 3, 1) := by decide +kernel
theorem nd_CB_jointWitness_10 : decode nc_CB_jointWitness 10 = .ok (.iload_n 3, 1) := by decide +kernel
theorem nd_CB_jointWitness_11 : decode nc_CB_jointWitness 11 = .ok (.aload_n 0, 1) := by decide +kernel
theorem nd_CB_jointWitness_12 : decode nc_CB_jointWitness 12 = .ok (.getfield 13, 3) := by decide +kernel
theorem nd_CB_jointWitness_15 : decode nc_CB_jointWitness 15 = .ok (.if_icmp .gt 27, 3) := by decide +kernel
theorem nd_CB_jointWitness_18 : decode nc_CB_jointWitness 18 = .ok (.aload_n 0, 1) := by decide +kernel
theorem nd_CB_jointWitness_19 : decode nc_CB_jointWitness 19 = .ok (.iload_n 3, 1) := by decide +kernel
theorem nd_CB_jointWitness_20 : decode nc_CB_jointWitness 20 = .ok (.invokevirtual 104, 3) := by decide +kernel
theorem nd_CB_jointWitness_23 : decode nc_CB_jointWitness 23 = .ok (.istore 4, 2) := by decide +kernel
theorem nd_CB_jointWitness_25 : decode nc_CB_jointWitness 25 = .ok (.iload 4, 2) := by decide +kernel
theorem nd_CB_jointWitness_27 : decode nc_CB_jointWitness 27 = .ok (.iload_n 2, 1) := by decide +kernel
theorem nd_CB_jointWitness_28 : decode nc_CB_jointWitness 28 = .ok (.if_icmp .ge 8, 3) := by decide +kernel
theorem nd_CB_jointWitness_31 : decode nc_CB_jointWitness 31 = .ok (.iload_n 3, 1) := by decide +kernel
theorem nd_CB_jointWitness_32 : decode nc_CB_jointWitness 32 = .ok (.istore_n 1, 1) := by decide +kernel
theorem nd_CB_jointWitness_33 : decode nc_CB_jointWitness 33 = .ok (.iload 4, 2) := by decide +kernel
theorem nd_CB_jointWitness_35 : decode nc_CB_jointWitness 35 = .ok (.istore_n 2, 1) := by decide +kernel
theorem nd_CB_jointWitness_36 : decode nc_CB_jointWitness 36 = .ok (.iinc 3 1, 3) := by decide +kernel
theorem nd_CB_jointWitness_39 : decode nc_CB_jointWitness 39 = .ok (.goto (-29), 3) := by decide +kernel
theorem nd_CB_jointWitness_42 : decode nc_CB_jointWitness 42 = .ok (.iload_n 1, 1) := by decide +kernel
theorem nd_CB_jointWitness_43 : decode nc_CB_jointWitness 43 = .ok (.ireturn, 1) := by decide +kernel
set_option maxRecDepth 20000 in
theorem lp_CB_jointWitness {p : Program} {l : Launch} {e0 : Env} {R : Room} {s0 : State} {m : MethodId} {args : Array Value} {below : List Frame} {meth : Method} {c : Code} {cells slots : Nat} {Q : State → Prop} {D : va_G} {A : Nat → Prop} (cI cG cM : ClassId) (q : Nat → Nat) (n : Nat) (hn1 : 1 ≤ n) (hn : n ≤ 10) (mr : Nat → Option Nat) (a0 a1 : ma_A) (hm0 : mr 0 = some (a0.1 0)) (hm1 : mr 1 = some (a1.1 0)) (y : cb_Y)  (hx : p.tables.exec = Jvm.exec) (hb : c.code = nc_CB_jointWitness) (hml : c.maxLocals = 5) (htg : ∀ w ∈ tg_, w.before args s0 = true) (hown : s0.vm.findClass ny_CB_jointWitness.cls = some m.cls) (hK : va_K D cl_all (ty_all cI cG cM) s0) (hN : tn_K s0) (hA : ∀ q : Nat, s0.heap.size ≤ q → A q) (hRf : 6 ≤ R.frames) (hRl : 133 ≤ R.locals) (hCS : cells ≤ R.cells ∧ slots ≤ R.slots) (kx : ∀ (ls : Array Slot) (H : Heap) (locs : List Loc) (w : Nat → Int32) (t0 : ma_S) (t1 : ma_S), (∀ e, e < n → w e = y.1 e ∧ -1000000 ≤ (y.1 e).toInt ∧ (y.1 e).toInt ≤ 1000000) → (ma_I n y.2.1 t0) → (ma_I n y.2.2 t1) → lv_has ls 5 [(1, .int (nI (fi_ (h2_ n y) (2 ^ n - 1))))] → va_P D cl_all ([((q 0), .inr (0, [.int (nI (n)), .int (nI (2 ^ n - 1)), .ref (q 1), .ref (q 2)])), ((q 1), .inl (cI, n, .inl w)), ((q 2), .inl (cM, 2, .inr (.inr (.inr (.inr mr)))))] ++ (mw_ cI cG a0 n t0 ++ (mw_ cI cG a1 n t1 ++ []))) H → va_D A ([((q 0), .inr (0, [.int (nI (n)), .int (nI (2 ^ n - 1)), .ref (q 1), .ref (q 2)])), ((q 1), .inl (cI, n, .inl w)), ((q 2), .inl (cM, 2, .inr (.inr (.inr (.inr mr)))))] ++ (mw_ cI cG a0 n t0 ++ (mw_ cI cG a1 n t1 ++ []))) → va_S A s0.heap H locs → W p l e0 R s0 m args below meth c H locs cells slots Q (F0 m 42 ls [])) : ∀ (f : Nat) (i : Nat) (w : Nat → Int32) (t0 : ma_S) (t1 : ma_S) (ls : Array Slot) (H : Heap) (locs : List Loc), 2 ^ n - i < f → (i ≤ 2 ^ n) → (1 ≤ i) → (∀ e, e < n → w e = y.1 e ∧ -1000000 ≤ (y.1 e).toInt ∧ (y.1 e).toInt ≤ 1000000) → (ma_I n y.2.1 t0) → (ma_I n y.2.2 t1) → lv_has ls 5 [(3, .int (nI (i))), (2, .int (nI (h2_ n y (fi_ (h2_ n y) (i - 1))))), (1, .int (nI (fi_ (h2_ n y) (i - 1)))), (0, .ref (q 0))] → va_P D cl_all ([((q 0), .inr (0, [.int (nI (n)), .int (nI (2 ^ n - 1)), .ref (q 1), .ref (q 2)])), ((q 1), .inl (cI, n, .inl w)), ((q 2), .inl (cM, 2, .inr (.inr (.inr (.inr mr)))))] ++ (mw_ cI cG a0 n t0 ++ (mw_ cI cG a1 n t1 ++ []))) H → va_D A ([((q 0), .inr (0, [.int (nI (n)), .int (nI (2 ^ n - 1)), .ref (q 1), .ref (q 2)])), ((q 1), .inl (cI, n, .inl w)), ((q 2), .inl (cM, 2, .inr (.inr (.inr (.inr mr)))))] ++ (mw_ cI cG a0 n t0 ++ (mw_ cI cG a1 n t1 ++ []))) → va_S A s0.heap H locs → W p l e0 R s0 m args below meth c H locs cells slots Q (F0 m 10 ls []) := by
  intro f
  induction f with
  | zero => intro i w t0 t1 ls H locs hfu; omega
  | succ f ih =>
    intro i w t0 t1 ls H locs hfu hi hi1 hwb hI0 hI1 hl hP hD hS
    have h2n : 2 ^ n ≤ 1024 := Nat.pow_le_pow_right (by omega) hn
    have hfl := fi_le (h2_ n y) (i - 1)
    have hbf := h2_le hn hI0.1 hI1.1 (s := fi_ (h2_ n y) (i - 1)) (by omega)
    refine lv_iload_n hx hb nd_CB_jointWitness_10 rfl (lv_at hl 0 rfl) ?_
    refine lv_aload_n hx hb nd_CB_jointWitness_11 rfl (lv_at hl 3 rfl) ?_
    refine va_get (D := D) (C := nr_CB) (T := nt_CB) (N := 4) hx hb htg tf_CB hown hK hP 0 rfl rfl 1 (by decide) (htg _ tm_123) (fun _ h => h) rfl nd_CB_jointWitness_12 ?_
    refine wi_icmp_gt (tgt := 42) hx hb (by omega) (by omega) nd_CB_jointWitness_15 rfl (fun hc15 => ?_) (fun hc15 => ?_)
    · have hl : lv_has ls 5 [(1, .int (nI (fi_ (h2_ n y) (i - 1))))] := lv_sub hl [2] rfl
      have hin : i = 2 ^ n := by omega
      exact kx ls H locs w t0 t1 hwb hI0 hI1 (by simpa only [hin] using hl) hP hD hS
    · refine lv_aload_n hx hb nd_CB_jointWitness_18 rfl (lv_at hl 3 rfl) ?_
      refine lv_iload_n hx hb nd_CB_jointWitness_19 rfl (lv_at hl 0 rfl) ?_
      refine wd_Vi0 (C := nr_CB) (n := 1) (Y := cw_ cI cG cM q n mr a0 a1 (w, t0, t1)) hx hb hml hown htg (c_CB_jointBound l D cI cG cM q n hn1 hn mr a0 a1 hm0 hm1 w t0 t1 y ⟨hwb, hI0, hI1⟩ i (by omega) _) tm_372 tm_369 tm_371 tp_11 tm_1 (by decide +kernel) ⟨⟨Nat.le_trans (by decide) hRf, Nat.le_trans (by decide) hRl⟩, rfl, rfl⟩ hP hD hS hA hK hN (va_recv (q0 := 0) (ci := 0) hK hP rfl rfl) rfl hl.1 rfl (Nat.le_of_ble_eq_true rfl) nd_CB_jointWitness_20 hCS (fun v20 u20 H locs hp20 hP hD hS => ?_)
      have hP : va_P D cl_all ([((q 0), .inr (0, [.int (nI (n)), .int (nI (2 ^ n - 1)), .ref (q 1), .ref (q 2)])), ((q 1), .inl (cI, n, .inl u20.1)), ((q 2), .inl (cM, 2, .inr (.inr (.inr (.inr mr)))))] ++ (mw_ cI cG a0 n u20.2.1 ++ (mw_ cI cG a1 n u20.2.2 ++ []))) H := hP
      have hD : va_D A ([((q 0), .inr (0, [.int (nI (n)), .int (nI (2 ^ n - 1)), .ref (q 1), .ref (q 2)])), ((q 1), .inl (cI, n, .inl u20.1)), ((q 2), .inl (cM, 2, .inr (.inr (.inr (.inr mr)))))] ++ (mw_ cI cG a0 n u20.2.1 ++ (mw_ cI cG a1 n u20.2.2 ++ []))) := hD
      refine wi_top (show _ = nI (h2_ n y i) from hp20.1) ?_
      have hbd20 := h2_le hn hI0.1 hI1.1 (s := i) (by omega)
      refine lv_istore hx hb nd_CB_jointWitness_23 hl (by decide) rfl (fun ls hl => ?_)
      have hl : lv_has ls 5 [(4, .int (nI (h2_ n y i))), (3, .int (nI (i))), (2, .int (nI (h2_ n y (fi_ (h2_ n y) (i - 1))))), (1, .int (nI (fi_ (h2_ n y) (i - 1)))), (0, .ref (q 0))] := hl
      refine lv_iload hx hb nd_CB_jointWitness_25 (lv_at hl 0 rfl) ?_
      refine lv_iload_n hx hb nd_CB_jointWitness_27 rfl (lv_at hl 2 rfl) ?_
      refine wi_icmp_ge (tgt := 36) hx hb (by omega) (by omega) nd_CB_jointWitness_28 rfl (fun hc28 => ?_) (fun hc28 => ?_)
      · refine lv_iinc (k := 1) (v := nI (i + 1)) hx hb nd_CB_jointWitness_36 hl rfl (wi_inc _ 1) (by decide) rfl (fun ls hl => ?_)
        have hl : lv_has ls 5 [(3, .int (nI (i + 1))), (4, .int (nI (h2_ n y i))), (2, .int (nI (h2_ n y (fi_ (h2_ n y) (i - 1))))), (1, .int (nI (fi_ (h2_ n y) (i - 1)))), (0, .ref (q 0))] := hl
        refine lv_goto (tgt := 10) hx hb nd_CB_jointWitness_39 rfl ?_
        have hl : lv_has ls 5 [(3, .int (nI (i + 1))), (2, .int (nI (h2_ n y (fi_ (h2_ n y) (i - 1))))), (1, .int (nI (fi_ (h2_ n y) (i - 1)))), (0, .ref (q 0))] := lv_sub hl [0, 2, 3, 4] rfl
        have hfi : fi_ (h2_ n y) (i + 1 - 1) = fi_ (h2_ n y) (i - 1) := by rw [show i + 1 - 1 = (i - 1) + 1 by omega]; exact if_neg (by rw [show i - 1 + 1 = i by omega]; omega)
        exact ih (i + 1) u20.1 u20.2.1 u20.2.2 ls H locs (by omega) (by omega) (by omega) hp20.2.1 hp20.2.2.1 hp20.2.2.2 (by rw [hfi]; exact hl) hP hD hS
      · refine lv_iload_n hx hb nd_CB_jointWitness_31 rfl (lv_at hl 1 rfl) ?_
        refine lv_istore_n hx hb nd_CB_jointWitness_32 rfl hl (by decide) rfl (fun ls hl => ?_)
        have hl : lv_has ls 5 [(1, .int (nI (i))), (4, .int (nI (h2_ n y i))), (3, .int (nI (i))), (2, .int (nI (h2_ n y (fi_ (h2_ n y) (i - 1))))), (0, .ref (q 0))] := hl
        refine lv_iload hx hb nd_CB_jointWitness_33 (lv_at hl 1 rfl) ?_
        refine lv_istore_n hx hb nd_CB_jointWitness_35 rfl hl (by decide) rfl (fun ls hl => ?_)
        have hl : lv_has ls 5 [(2, .int (nI (h2_ n y i))), (1, .int (nI (i))), (4, .int (nI (h2_ n y i))), (3, .int (nI (i))), (0, .ref (q 0))] := hl
        refine lv_iinc (k := 3) (v := nI (i + 1)) hx hb nd_CB_jointWitness_36 hl rfl (wi_inc _ 1) (by decide) rfl (fun ls hl => ?_)
        have hl : lv_has ls 5 [(3, .int (nI (i + 1))), (2, .int (nI (h2_ n y i))), (1, .int (nI (i))), (4, .int (nI (h2_ n y i))), (0, .ref (q 0))] := hl
        refine lv_goto (tgt := 10) hx hb nd_CB_jointWitness_39 rfl ?_
        have hl : lv_has ls 5 [(3, .int (nI (i + 1))), (2, .int (nI (h2_ n y i))), (1, .int (nI (i))), (0, .ref (q 0))] := lv_sub hl [0, 1, 2, 4] rfl
        have hfi : fi_ (h2_ n y) (i + 1 - 1) = i := by rw [show i + 1 - 1 = (i - 1) + 1 by omega]; exact (if_pos (by rw [show i - 1 + 1 = i by omega]; omega)).trans (by omega)
        exact ih (i + 1) u20.1 u20.2.1 u20.2.2 ls H locs (by omega) (by omega) (by omega) hp20.2.1 hp20.2.2.1 hp20.2.2.2 (by rw [hfi]; exact hl) hP hD hS
set_option maxRecDepth 20000 in
theorem c_CB_jointWitness (l : Launch) (D : va_G) (cI cG cM : ClassId)  (q : Nat → Nat) (n : Nat) (hn1 : 1 ≤ n) (hn : n ≤ 10) (mr : Nat → Option Nat) (a0 a1 : ma_A) (hm0 : mr 0 = some (a0.1 0)) (hm1 : mr 1 = some (a1.1 0)) (w : Nat → Int32) (t0 t1 : ma_S) (y : cb_Y) (hI : cb_I n y (w, t0, t1))  (sz : Nat) : wb_Mi l ny_CB_jointWitness nc_CB_jointWitness 5 (some .int) ({ frames := 6, cells := 0, slots := 0, locals := 133 }) D (ty_all cI cG cM) (cw_ cI cG cM q n mr a0 a1 (w, t0, t1)) sz [.ref (q 0)] (fun (v : Int32) (u : cb_S) => v = nI (fi_ (h2_ n y) (2 ^ n - 1)) ∧ cb_I n y u) (fun u : cb_S => cw_ cI cG cM q n mr a0 a1 u) := by
  refine wb_start (S := cb_S) (by decide) (Nat.le_of_ble_eq_true rfl) ?_
  intro p e0 s0 m below meth c ls A hx hb hr hml htg hown hk hP hK hN hl hAe hsz hD hA
  have hl : lv_has ls 5 [(0, .ref (q 0))] := hl
  have hP : va_P D cl_all ([((q 0), .inr (0, [.int (nI (n)), .int (nI (2 ^ n - 1)), .ref (q 1), .ref (q 2)])), ((q 1), .inl (cI, n, .inl w)), ((q 2), .inl (cM, 2, .inr (.inr (.inr (.inr mr)))))] ++ (mw_ cI cG a0 n t0 ++ (mw_ cI cG a1 n t1 ++ []))) s0.heap := hP
  have hD : va_D A ([((q 0), .inr (0, [.int (nI (n)), .int (nI (2 ^ n - 1)), .ref (q 1), .ref (q 2)])), ((q 1), .inl (cI, n, .inl w)), ((q 2), .inl (cM, 2, .inr (.inr (.inr (.inr mr)))))] ++ (mw_ cI cG a0 n t0 ++ (mw_ cI cG a1 n t1 ++ []))) := hD
  have hS : va_S A s0.heap s0.heap [] := va_S.rf
  have hRf : 6 ≤ ({ frames := 6, cells := 0, slots := 0, locals := 133 } : Room).frames := Nat.le_refl _
  have hRl : 133 ≤ ({ frames := 6, cells := 0, slots := 0, locals := 133 } : Room).locals := Nat.le_refl _
  have hCS : 0 ≤ ({ frames := 6, cells := 0, slots := 0, locals := 133 } : Room).cells ∧ 0 ≤ ({ frames := 6, cells := 0, slots := 0, locals := 133 } : Room).slots := ⟨Nat.zero_le _, Nat.zero_le _⟩
  have h2n : 2 ^ n ≤ 1024 := Nat.pow_le_pow_right (by omega) hn
  have h2p : 1 ≤ 2 ^ n := Nat.one_le_two_pow
  have hI0 : ma_I n y.2.1 t0 := hI.2.1
  have hI1 : ma_I n y.2.2 t1 := hI.2.2
  have hwb := hI.1
  refine wi_ic hx hb (a := 0) nd_CB_jointWitness_0 ?_
  refine lv_istore_n hx hb nd_CB_jointWitness_1 rfl hl (by decide) rfl (fun ls hl => ?_)
  have hl : lv_has ls 5 [(1, .int (nI (0))), (0, .ref (q 0))] := hl
  refine lv_aload_n hx hb nd_CB_jointWitness_2 rfl (lv_at hl 1 rfl) ?_
  refine lv_iload_n hx hb nd_CB_jointWitness_3 rfl (lv_at hl 0 rfl) ?_
  refine wd_Vi0 (C := nr_CB) (n := 1) (Y := cw_ cI cG cM q n mr a0 a1 (w, t0, t1)) hx hb hml hown htg (c_CB_jointBound l D cI cG cM q n hn1 hn mr a0 a1 hm0 hm1 w t0 t1 y ⟨hwb, hI0, hI1⟩ 0 (by omega) _) tm_372 tm_369 tm_371 tp_11 tm_1 (by decide +kernel) ⟨⟨Nat.le_trans (by decide) hRf, Nat.le_trans (by decide) hRl⟩, rfl, rfl⟩ hP hD hS hA hK hN (va_recv (q0 := 0) (ci := 0) hK hP rfl rfl) rfl hl.1 rfl (Nat.le_of_ble_eq_true rfl) nd_CB_jointWitness_4 hCS (fun v4 u4 H locs hp4 hP hD hS => ?_)
  have hP : va_P D cl_all ([((q 0), .inr (0, [.int (nI (n)), .int (nI (2 ^ n - 1)), .ref (q 1), .ref (q 2)])), ((q 1), .inl (cI, n, .inl u4.1)), ((q 2), .inl (cM, 2, .inr (.inr (.inr (.inr mr)))))] ++ (mw_ cI cG a0 n u4.2.1 ++ (mw_ cI cG a1 n u4.2.2 ++ []))) H := hP
  have hD : va_D A ([((q 0), .inr (0, [.int (nI (n)), .int (nI (2 ^ n - 1)), .ref (q 1), .ref (q 2)])), ((q 1), .inl (cI, n, .inl u4.1)), ((q 2), .inl (cM, 2, .inr (.inr (.inr (.inr mr)))))] ++ (mw_ cI cG a0 n u4.2.1 ++ (mw_ cI cG a1 n u4.2.2 ++ []))) := hD
  refine wi_top (show _ = nI (h2_ n y 0) from hp4.1) ?_
  have hbd4 := h2_le hn hI0.1 hI1.1 (s := 0) (by omega)
  refine lv_istore_n hx hb nd_CB_jointWitness_7 rfl hl (by decide) rfl (fun ls hl => ?_)
  have hl : lv_has ls 5 [(2, .int (nI (h2_ n y 0))), (1, .int (nI (0))), (0, .ref (q 0))] := hl
  refine wi_ic hx hb (a := 1) nd_CB_jointWitness_8 ?_
  refine lv_istore_n hx hb nd_CB_jointWitness_9 rfl hl (by decide) rfl (fun ls hl => ?_)
  have hl : lv_has ls 5 [(3, .int (nI (1))), (2, .int (nI (h2_ n y 0))), (1, .int (nI (0))), (0, .ref (q 0))] := hl
  have hl : lv_has ls 5 [(3, .int (nI (1))), (2, .int (nI (h2_ n y 0))), (1, .int (nI (0))), (0, .ref (q 0))] := lv_sub hl [0, 1, 2, 3] rfl
  refine lp_CB_jointWitness cI cG cM q n hn1 hn mr a0 a1 hm0 hm1 y hx hb hml htg hown hK hN hA hRf hRl hCS (fun ls H locs w t0 t1 hwb hI0 hI1 hl hP hD hS => ?_) (2 ^ n + 1) 1 u4.1 u4.2.1 u4.2.2 ls H locs (by omega) (by omega) (by omega) hp4.2.1 hp4.2.2.1 hp4.2.2.2 hl hP hD hS
  refine lv_iload_n hx hb nd_CB_jointWitness_42 rfl (lv_at hl 0 rfl) ?_
  exact wb_iret (w, t0, t1) hx hb hr hk hAe (⟨rfl, hwb, hI0, hI1⟩) hP hD hS nd_CB_jointWitness_43
