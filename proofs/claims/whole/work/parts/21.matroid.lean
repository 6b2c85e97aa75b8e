/-! A matroid: its world, what it stands for, its kept ranks. -/
abbrev ma_A : Type := (Nat → Nat) × (Nat → Nat) × (Nat → Nat) × (Nat → Nat)
abbrev ma_S : Type := Nat × (Nat → Int32) × (Nat → Nat → Int32) × (Nat → Nat → Int32) × (Nat → Nat → Int32) × (Nat → Nat → Int32)
abbrev ma_T : Type := Nat × Nat × (Nat → Nat) × (Nat → Nat) × (Nat → Nat) × (Nat → Nat) × Nat × (Nat → Nat → Nat)
def mw_G (cI cG : ClassId) (a : ma_A) (n : Nat) (t : ma_S) : va_W := [(a.1 7, .inr (3, [.ref (a.1 9), .ref (a.1 8)])), (a.1 8, .inl (cI, 8, .inl (t.2.2.1 4))), (a.1 9, .inl (cG, n, .inr (.inr (.inr (.inr (fun i => if i < n then some (a.2.1 i) else none))))))] ++ (rw_R cI 2 a.2.1 t.2.2.2.1 n ++ [])
def mw_L (cI cG : ClassId) (a : ma_A) (n : Nat) (t : ma_S) : va_W := [(a.1 10, .inr (5, [.ref (a.1 13), .ref (a.1 11), .ref (a.1 12), .int (t.2.1 2)])), (a.1 11, .inl (cG, 4, .inr (.inr (.inr (.inr (fun i => if i < 4 then some (a.2.2.1 i) else none)))))), (a.1 12, .inl (cI, 4, .inl (t.2.2.1 5))), (a.1 13, .inl (cG, n, .inr (.inr (.inr (.inr (fun i => if i < n then some (a.2.2.2 i) else none))))))] ++ (rw_R cI 4 a.2.2.1 t.2.2.2.2.1 4 ++ (rw_R cI 4 a.2.2.2 t.2.2.2.2.2 n ++ []))
def mw_ (cI cG : ClassId) (a : ma_A) (n : Nat) (t : ma_S) : va_W := [(a.1 0, .inr (1, [.ref (a.1 2), .ref (a.1 7), .ref (a.1 3), .ref (a.1 10), .ref (a.1 1), .int (t.2.1 0), .ref (a.1 t.1)])), (a.1 1, .inl (cI, 2 ^ n, .inl (t.2.2.1 0))), (a.1 2, .inr (2, [.int (t.2.1 1)])), (a.1 3, .inr (4, [.ref (a.1 6), .ref (a.1 4), .ref (a.1 5)])), (a.1 4, .inl (cI, 4, .inl (t.2.2.1 1))), (a.1 5, .inl (cI, 4, .inl (t.2.2.1 2))), (a.1 6, .inl (cI, n, .inl (t.2.2.1 3)))] ++ (mw_G cI cG a n t ++ mw_L cI cG a n t)
/-- the numbers of a matroid: 0 UNIFORM (k), 1 GRAPHIC (from, to), 2 CLASSES (class, cap), 3 LINEAR (p, columns) -/
def ma_v (n : Nat) (x : ma_T) : Prop := (x.1 = 0 ∧ x.2.1 ≤ 10) ∨ (x.1 = 1 ∧ ∀ i, i < n → x.2.2.1 i < 8 ∧ x.2.2.2.1 i < 8) ∨ (x.1 = 2 ∧ (∀ i, i < n → x.2.2.2.2.1 i < 4) ∧ ∀ c, c < 4 → x.2.2.2.2.2.1 c ≤ 10) ∨ (x.1 = 3 ∧ (x.2.2.2.2.2.2.1 = 2 ∨ x.2.2.2.2.2.2.1 = 3 ∨ x.2.2.2.2.2.2.1 = 5 ∨ x.2.2.2.2.2.2.1 = 7) ∧ ∀ e, e < n → ∀ i, i < 4 → x.2.2.2.2.2.2.2 e i < x.2.2.2.2.2.2.1)
noncomputable def ma_r (n : Nat) (x : ma_T) : Nat → Nat := if x.1 = 0 then mt_U n x.2.1 else if x.1 = 1 then mg_r n x.2.2.1 x.2.2.2.1 else if x.1 = 2 then mt_C n x.2.2.2.2.1 x.2.2.2.2.2.1 else ml_r n (x.2.2.2.2.2.2.1 : Int) (fun e i => (x.2.2.2.2.2.2.2 e i : Int))
def ma_ok (n : Nat) (x : ma_T) (t : ma_S) : Prop := (x.1 = 0 ∧ t.1 = 2 ∧ t.2.1 1 = nI x.2.1) ∨ (x.1 = 1 ∧ t.1 = 7 ∧ ∀ e, e < n → t.2.2.2.1 e 0 = nI (x.2.2.1 e) ∧ t.2.2.2.1 e 1 = nI (x.2.2.2.1 e)) ∨ (x.1 = 2 ∧ t.1 = 3 ∧ (∀ e, e < n → t.2.2.1 3 e = nI (x.2.2.2.2.1 e)) ∧ ∀ c, c < 4 → t.2.2.1 1 c = nI (x.2.2.2.2.2.1 c)) ∨ (x.1 = 3 ∧ t.1 = 10 ∧ t.2.1 2 = nI x.2.2.2.2.2.2.1 ∧ ∀ e, e < n → ∀ i, i < 4 → t.2.2.2.2.2 e i = nI (x.2.2.2.2.2.2.2 e i))
def ma_R (n : Nat) (r : Nat → Nat) (t : ma_S) : Prop := (∀ s, s < 2 ^ n → t.2.2.1 0 s = -1 ∨ t.2.2.1 0 s = nI (r s)) ∧ (t.2.1 0 = 0 → ∀ s, s < 2 ^ n → t.2.2.1 0 s = -1)
def ma_I (n : Nat) (x : ma_T) (t : ma_S) : Prop := ma_v n x ∧ ma_ok n x t ∧ ma_R n (ma_r n x) t
theorem ml_cl_ext {n : Nat} {p : Int} {c1 c2 : Nat → Nat → Int} (h : ∀ e, e < n → ∀ i, i < 4 → c1 e i = c2 e i) {s e : Nat} (he : e < n) : ml_cl n p c1 s e ↔ ml_cl n p c2 s e := by
  have d : ∀ (f : Nat → Int) (e : Nat), e < n → ml_dt f (c1 e) = ml_dt f (c2 e) := fun f e he => by
    unfold ml_dt
    rw [h e he 0 (by omega), h e he 1 (by omega), h e he 2 (by omega), h e he 3 (by omega)]
  constructor
  · intro hc f hf
    rw [← d f e he]
    exact hc f (fun i hi hb => by rw [d f i hi]; exact hf i hi hb)
  · intro hc f hf
    rw [d f e he]
    exact hc f (fun i hi hb => by rw [← d f i hi]; exact hf i hi hb)
theorem ml_r_ext {n : Nat} {p : Int} {c1 c2 : Nat → Nat → Int} (h : ∀ e, e < n → ∀ i, i < 4 → c1 e i = c2 e i) (s : Nat) : ml_r n p c1 s = ml_r n p c2 s := by
  have key : ∀ k, k ≤ n → ml_gk (ml_cl n p c1) k s = ml_gk (ml_cl n p c2) k s := by
    intro k
    induction k with
    | zero => intro _; rfl
    | succ k ih =>
      intro hk
      have h1 := ih (by omega)
      have h2 := ml_cl_ext (p := p) h (s := s % 2 ^ k) (show k < n by omega)
      cases hb : s.testBit k with
      | false => rw [ml_gk_f hb, ml_gk_f hb, h1]
      | true =>
        by_cases q : ml_cl n p c1 (s % 2 ^ k) k
        · rw [ml_gk_y q, ml_gk_y (h2.mp q), h1]
        · rw [ml_gk_n hb q, ml_gk_n hb (fun z => q (h2.mpr z)), h1]
  exact key n (Nat.le_refl n)
theorem ma_M {n : Nat} {x : ma_T} (h : ma_v n x) : mt_M n (ma_r n x) := by
  unfold ma_r
  rcases h with ⟨q, -⟩ | ⟨q, -⟩ | ⟨q, h, -⟩ | ⟨q, h, -⟩
  · simp only [q, if_true]; exact mt_U_M n _
  · simp only [q]; exact mg_r_M n _ _
  · simp only [q]; exact mt_C_M h
  · simp only [q]; exact ml_r_M (ml_pr_4 h) _
theorem nd_MA_forgetRanks_0 : decode nc_MA_forgetRanks 0 = .ok (.aload_n 0, 1) := by decide +kernel
theorem nd_MA_forgetRanks_1 : decode nc_MA_forgetRanks 1 = .ok (.getfield 100, 3) := by decide +kernel
theorem nd_MA_forgetRanks_4 : decode nc_MA_forgetRanks 4 = .ok (.ifCond .eq 16, 3) := by decide +kernel
theorem nd_MA_forgetRanks_7 : decode nc_MA_forgetRanks 7 = .ok (.aload_n 0, 1) := by decide +kernel
theorem nd_MA_forgetRanks_8 : decode nc_MA_forgetRanks 8 = .ok (.getfield 41, 3) := by decide +kernel
theorem nd_MA_forgetRanks_11 : decode nc_MA_forgetRanks 11 = .ok (.iconst (-1), 1) := by decide +kernel
theorem nd_MA_forgetRanks_12 : decode nc_MA_forgetRanks 12 = .ok (.invokestatic 45, 3) := by decide +kernel
theorem nd_MA_forgetRanks_15 : decode nc_MA_forgetRanks 15 = .ok (.aload_n 0, 1) := by decide +kernel
theorem nd_MA_forgetRanks_16 : decode nc_MA_forgetRanks 16 = .ok (.iconst 0, 1) := by decide +kernel
theorem nd_MA_forgetRanks_17 : decode nc_MA_forgetRanks 17 = .ok (.putfield 100, 3) := by decide +kernel
theorem nd_MA_forgetRanks_20 : decode nc_MA_forgetRanks 20 = .ok (.return_, 1) := by decide +kernel
set_option maxRecDepth 20000 in
theorem c_MA_forgetRanks (l : Launch) (D : va_G) (cI cG cM : ClassId)  (a : ma_A) (n : Nat) (hn : n ≤ 10) (kd : Nat) (kept : Int32) (rk : Nat → Int32) (hr0 : kept = 0 → ∀ s, s < 2 ^ n → rk s = -1) (sz : Nat) : wb_Mv l ny_MA_forgetRanks nc_MA_forgetRanks 1 ({ frames := 1, cells := 0, slots := 0, locals := 23 }) D (ty_all cI cG cM) ([((a.1 0), .inr (1, [.ref (a.1 2), .ref (a.1 7), .ref (a.1 3), .ref (a.1 10), .ref (a.1 1), .int (kept), .ref (a.1 kd)])), ((a.1 1), .inl (cI, 2 ^ n, .inl rk))]) sz [.ref (a.1 0)] (fun u : Int32 × (Nat → Int32) => u.1 = 0 ∧ ∀ s, s < 2 ^ n → u.2 s = -1) (fun u : Int32 × (Nat → Int32) => [((a.1 0), .inr (1, [.ref (a.1 2), .ref (a.1 7), .ref (a.1 3), .ref (a.1 10), .ref (a.1 1), .int (u.1), .ref (a.1 kd)])), ((a.1 1), .inl (cI, 2 ^ n, .inl u.2))]) := by
  refine wb_start (S := Int32 × (Nat → Int32)) (by decide) (Nat.le_of_ble_eq_true rfl) ?_
  intro p e0 s0 m below meth c ls A hx hb hr hml htg hown hk hP hK hN hl hAe hsz hD hA
  have hl : lv_has ls 1 [(0, .ref (a.1 0))] := hl
  have hS : va_S A s0.heap s0.heap [] := va_S.rf
  have hRf : 1 ≤ ({ frames := 1, cells := 0, slots := 0, locals := 23 } : Room).frames := Nat.le_refl _
  have hRl : 23 ≤ ({ frames := 1, cells := 0, slots := 0, locals := 23 } : Room).locals := Nat.le_refl _
  have hCS : 0 ≤ ({ frames := 1, cells := 0, slots := 0, locals := 23 } : Room).cells ∧ 0 ≤ ({ frames := 1, cells := 0, slots := 0, locals := 23 } : Room).slots := ⟨Nat.zero_le _, Nat.zero_le _⟩
  have h2n : 2 ^ n ≤ 1024 := Nat.pow_le_pow_right (by omega) hn
  refine lv_aload_n hx hb nd_MA_forgetRanks_0 rfl (lv_at hl 0 rfl) ?_
  refine va_get (D := D) (C := nr_MA) (T := nt_MA) (N := 7) hx hb htg tf_MA hown hK hP 0 rfl rfl 5 (by decide) (htg _ tm_105) (fun _ h => h) rfl nd_MA_forgetRanks_1 ?_
  refine lv_if_eq (tgt := 20) hx hb nd_MA_forgetRanks_4 rfl (fun hc4 => ?_) (fun hc4 => ?_)
  · exact wb_vret ((kept, rk)) hx hb hr hk hAe (⟨hc4, hr0 hc4⟩) hP hD hS nd_MA_forgetRanks_20
  · refine lv_aload_n hx hb nd_MA_forgetRanks_7 rfl (lv_at hl 0 rfl) ?_
    refine va_get (D := D) (C := nr_MA) (T := nt_MA) (N := 7) hx hb htg tf_MA hown hK hP 0 rfl rfl 4 (by decide) (htg _ tm_104) (fun _ h => h) rfl nd_MA_forgetRanks_8 ?_
    refine lv_iconst (v := -1) hx hb nd_MA_forgetRanks_11 (by decide) ?_
    refine wd_Sv (n := 2) (X := [((a.1 0), .inr (1, [.ref (a.1 2), .ref (a.1 7), .ref (a.1 3), .ref (a.1 10), .ref (a.1 1), .int (kept), .ref (a.1 kd)]))]) (Y := [((a.1 1), .inl (cI, 2 ^ n, .inl rk))]) (Z := []) hx hb hml hown htg (c_AR_fill l D cI cG cM (a.1 1) (2 ^ n) (by omega) rk ((-1)) _) tm_99 tm_97 tm_98 tm_8 (by decide +kernel) ⟨⟨Nat.le_trans (by decide) hRf, Nat.le_trans (by decide) hRl⟩, rfl, rfl⟩ hP hD hS hA hK hN rfl hl.1 rfl (Nat.le_of_ble_eq_true rfl) nd_MA_forgetRanks_12 hCS (fun u12 H locs hp12 hP hD hS => ?_)
    have hP : va_P D cl_all ([((a.1 0), .inr (1, [.ref (a.1 2), .ref (a.1 7), .ref (a.1 3), .ref (a.1 10), .ref (a.1 1), .int (kept), .ref (a.1 kd)])), ((a.1 1), .inl (cI, 2 ^ n, .inl u12))]) H := hP
    have hD : va_D A ([((a.1 0), .inr (1, [.ref (a.1 2), .ref (a.1 7), .ref (a.1 3), .ref (a.1 10), .ref (a.1 1), .int (kept), .ref (a.1 kd)])), ((a.1 1), .inl (cI, 2 ^ n, .inl u12))]) := hD
    refine lv_aload_n hx hb nd_MA_forgetRanks_15 rfl (lv_at hl 0 rfl) ?_
    refine wi_ic hx hb (a := 0) nd_MA_forgetRanks_16 ?_
    refine va_put (D := D) (C := nr_MA) (T := nt_MA) (N := 7) hx hb htg tf_MA nu_MA no_MA nn_MA hown hK hP hD hS 0 rfl rfl 5 (by decide) (htg _ tm_105) (fun _ h => h) rfl rfl rfl rfl (Nat.le_of_ble_eq_true rfl) nd_MA_forgetRanks_17 (fun H locs hP hD hS => ?_)
    have hP : va_P D cl_all ([((a.1 0), .inr (1, [.ref (a.1 2), .ref (a.1 7), .ref (a.1 3), .ref (a.1 10), .ref (a.1 1), .int (nI (0)), .ref (a.1 kd)])), ((a.1 1), .inl (cI, 2 ^ n, .inl u12))]) H := hP
    have hD : va_D A ([((a.1 0), .inr (1, [.ref (a.1 2), .ref (a.1 7), .ref (a.1 3), .ref (a.1 10), .ref (a.1 1), .int (nI (0)), .ref (a.1 kd)])), ((a.1 1), .inl (cI, 2 ^ n, .inl u12))]) := hD
    exact wb_vret ((nI 0, u12)) hx hb hr hk hAe (⟨nI_0, hp12⟩) hP hD hS nd_MA_forgetRanks_20
theorem nd_MA_become_0 : decode nc_MA_become 0 = .ok (.aload_n 0, 1) := by decide +kernel
theorem nd_MA_become_1 : decode nc_MA_become 1 = .ok (.aload_n 1, 1) := by decide +kernel
theorem nd_MA_become_2 : decode nc_MA_become 2 = .ok (.putfield 51, 3) := by decide +kernel
theorem nd_MA_become_5 : decode nc_MA_become 5 = .ok (.aload_n 0, 1) := by decide +kernel
theorem nd_MA_become_6 : decode nc_MA_become 6 = .ok (.invokevirtual 73, 3) := by decide +kernel
theorem nd_MA_become_9 : decode nc_MA_become 9 = .ok (.return_, 1) := by decide +kernel
set_option maxRecDepth 20000 in
theorem c_MA_become (l : Launch) (D : va_G) (cI cG cM : ClassId)  (a : ma_A) (n : Nat) (hn : n ≤ 10) (kd kd2 : Nat) (kept : Int32) (rk : Nat → Int32) (hr0 : kept = 0 → ∀ s, s < 2 ^ n → rk s = -1) (sz : Nat) : wb_Mv l ny_MA_become nc_MA_become 2 ({ frames := 2, cells := 0, slots := 0, locals := 43 }) D (ty_all cI cG cM) ([((a.1 0), .inr (1, [.ref (a.1 2), .ref (a.1 7), .ref (a.1 3), .ref (a.1 10), .ref (a.1 1), .int (kept), .ref (a.1 kd)])), ((a.1 1), .inl (cI, 2 ^ n, .inl rk))]) sz [.ref (a.1 0), .ref (a.1 kd2)] (fun u : Int32 × (Nat → Int32) => u.1 = 0 ∧ ∀ s, s < 2 ^ n → u.2 s = -1) (fun u : Int32 × (Nat → Int32) => [((a.1 0), .inr (1, [.ref (a.1 2), .ref (a.1 7), .ref (a.1 3), .ref (a.1 10), .ref (a.1 1), .int (u.1), .ref (a.1 kd2)])), ((a.1 1), .inl (cI, 2 ^ n, .inl u.2))]) := by
  refine wb_start (S := Int32 × (Nat → Int32)) (by decide) (Nat.le_of_ble_eq_true rfl) ?_
  intro p e0 s0 m below meth c ls A hx hb hr hml htg hown hk hP hK hN hl hAe hsz hD hA
  have hl : lv_has ls 2 [(0, .ref (a.1 0)), (1, .ref (a.1 kd2))] := hl
  have hS : va_S A s0.heap s0.heap [] := va_S.rf
  have hRf : 2 ≤ ({ frames := 2, cells := 0, slots := 0, locals := 43 } : Room).frames := Nat.le_refl _
  have hRl : 43 ≤ ({ frames := 2, cells := 0, slots := 0, locals := 43 } : Room).locals := Nat.le_refl _
  have hCS : 0 ≤ ({ frames := 2, cells := 0, slots := 0, locals := 43 } : Room).cells ∧ 0 ≤ ({ frames := 2, cells := 0, slots := 0, locals := 43 } : Room).slots := ⟨Nat.zero_le _, Nat.zero_le _⟩
  have h2n : 2 ^ n ≤ 1024 := Nat.pow_le_pow_right (by omega) hn
  refine lv_aload_n hx hb nd_MA_become_0 rfl (lv_at hl 0 rfl) ?_
  refine lv_aload_n hx hb nd_MA_become_1 rfl (lv_at hl 1 rfl) ?_
  refine va_put (D := D) (C := nr_MA) (T := nt_MA) (N := 7) hx hb htg tf_MA nu_MA no_MA nn_MA hown hK hP hD hS 0 rfl rfl 6 (by decide) (htg _ tm_106) (fun _ h => h) rfl rfl rfl rfl (Nat.le_of_ble_eq_true rfl) nd_MA_become_2 (fun H locs hP hD hS => ?_)
  have hP : va_P D cl_all ([((a.1 0), .inr (1, [.ref (a.1 2), .ref (a.1 7), .ref (a.1 3), .ref (a.1 10), .ref (a.1 1), .int (kept), .ref (a.1 kd2)])), ((a.1 1), .inl (cI, 2 ^ n, .inl rk))]) H := hP
  have hD : va_D A ([((a.1 0), .inr (1, [.ref (a.1 2), .ref (a.1 7), .ref (a.1 3), .ref (a.1 10), .ref (a.1 1), .int (kept), .ref (a.1 kd2)])), ((a.1 1), .inl (cI, 2 ^ n, .inl rk))]) := hD
  refine lv_aload_n hx hb nd_MA_become_5 rfl (lv_at hl 0 rfl) ?_
  refine wd_Vv (C := nr_MA) (n := 0) (X := []) (Y := [((a.1 0), .inr (1, [.ref (a.1 2), .ref (a.1 7), .ref (a.1 3), .ref (a.1 10), .ref (a.1 1), .int (kept), .ref (a.1 kd2)])), ((a.1 1), .inl (cI, 2 ^ n, .inl rk))]) (Z := []) hx hb hml hown htg (c_MA_forgetRanks l D cI cG cM a n hn kd2 kept rk hr0 _) tm_156 tm_153 tm_155 tp_1 tm_2 (by decide +kernel) ⟨⟨Nat.le_trans (by decide) hRf, Nat.le_trans (by decide) hRl⟩, rfl, rfl⟩ hP hD hS hA hK hN (va_recv (q0 := 0) (ci := 1) hK hP rfl rfl) rfl hl.1 rfl (Nat.le_of_ble_eq_true rfl) nd_MA_become_6 hCS (fun u6 H locs hp6 hP hD hS => ?_)
  have hP : va_P D cl_all ([((a.1 0), .inr (1, [.ref (a.1 2), .ref (a.1 7), .ref (a.1 3), .ref (a.1 10), .ref (a.1 1), .int (u6.1), .ref (a.1 kd2)])), ((a.1 1), .inl (cI, 2 ^ n, .inl u6.2))]) H := hP
  have hD : va_D A ([((a.1 0), .inr (1, [.ref (a.1 2), .ref (a.1 7), .ref (a.1 3), .ref (a.1 10), .ref (a.1 1), .int (u6.1), .ref (a.1 kd2)])), ((a.1 1), .inl (cI, 2 ^ n, .inl u6.2))]) := hD
  exact wb_vret (u6) hx hb hr hk hAe (hp6) hP hD hS nd_MA_become_9
