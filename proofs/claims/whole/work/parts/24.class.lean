/-! The class itself: its world, what it stands for; the calls that change it. -/
abbrev cb_S : Type := (Nat → Int32) × ma_S × ma_S
abbrev cb_Y : Type := (Nat → Int32) × ma_T × ma_T
def cw_ (cI cG cM : ClassId) (q : Nat → Nat) (n : Nat) (mr : Nat → Option Nat) (a0 a1 : ma_A) (u : cb_S) : va_W := [(q 0, .inr (0, [.int (nI n), .int (nI (2 ^ n - 1)), .ref (q 1), .ref (q 2)])), (q 1, .inl (cI, n, .inl u.1)), (q 2, .inl (cM, 2, .inr (.inr (.inr (.inr mr)))))] ++ (mw_ cI cG a0 n u.2.1 ++ (mw_ cI cG a1 n u.2.2 ++ []))
def cb_I (n : Nat) (y : cb_Y) (u : cb_S) : Prop := (∀ e, e < n → u.1 e = y.1 e ∧ -1000000 ≤ (y.1 e).toInt ∧ (y.1 e).toInt ≤ 1000000) ∧ ma_I n y.2.1 u.2.1 ∧ ma_I n y.2.2 u.2.2
def cb_m (y : cb_Y) (j : Nat) : ma_T := if j = 0 then y.2.1 else y.2.2
def cb_s (y : cb_Y) (j : Nat) (x : ma_T) : cb_Y := if j = 0 then (y.1, x, y.2.2) else (y.1, y.2.1, x)
def sw_ (x : Int32) : Bool := x == nI 0 || x == nI 1
def sr_ (x : Int32) (b : Int32) : Bool := !(decide (x < 0)) && !(decide (b < x))
theorem sw_0 : sw_ (nI 0) = true := by decide
theorem sw_1 : sw_ (nI 1) = true := by decide
theorem sw_n {x : Int32} (h : ¬ x = nI 0 ∧ ¬ x = nI 1) : sw_ x = false := by simp [sw_, h.1, h.2]
theorem sr_t {k b : Nat} (h : k ≤ b) (hb : b < 2 ^ 31) : sr_ (nI k) (nI b) = true := by
  have h1 : ¬ nI k < 0 := nI_pos (by omega)
  have h2 : ¬ nI b < nI k := fun z => by have := (nI_ltI hb (by omega)).mp z; omega
  simp [sr_, h1, h2]
theorem sr_f {x b : Int32} (h : ¬ (¬ x < 0 ∧ ¬ b < x)) : sr_ x b = false := by
  unfold sr_
  by_cases q : x < 0
  · simp [q]
  · by_cases q2 : b < x
    · simp [q2]
    · exact absurd ⟨q, q2⟩ h
theorem sm_which (x : Int32) : x = nI 0 ∨ x = nI 1 ∨ (¬ x = nI 0 ∧ ¬ x = nI 1) := by
  by_cases h : x = nI 0
  · exact Or.inl h
  · by_cases h2 : x = nI 1
    · exact Or.inr (Or.inl h2)
    · exact Or.inr (Or.inr ⟨h, h2⟩)
theorem sm_upto {x : Int32} {b : Nat} (hb : b < 2 ^ 31) (h : ¬ x < 0 ∧ ¬ nI b < x) : ∃ k : Nat, k ≤ b ∧ x = nI k := nI_of2 (nI_toInt hb) h.1 (Int32.not_lt.mp h.2)
theorem sm_elem {x : Int32} {n : Nat} (hn : n < 2 ^ 31) (h : ¬ x < 0 ∧ ¬ nI n ≤ x) : ∃ k : Nat, k < n ∧ x = nI k := by
  obtain ⟨j, hj, rfl⟩ := nI_of h.1
  exact ⟨j, by refine Nat.lt_of_not_le fun z => h.2 (nI_le z hj), rfl⟩
theorem sm_el {x : Int32} {n : Nat} (h1 : 1 ≤ n) (hn : n < 2 ^ 31) : (¬ x < 0 ∧ ¬ nI n ≤ x) ↔ (¬ x < 0 ∧ ¬ nI (n - 1) < x) := by
  constructor
  · intro h
    obtain ⟨k, hk, rfl⟩ := sm_elem hn h
    exact ⟨h.1, fun z => by have := (nI_ltI (by omega) (by omega)).mp z; omega⟩
  · intro h
    obtain ⟨k, hk, rfl⟩ := sm_upto (by omega) h
    exact ⟨h.1, fun z => by have := (nI_leI (by omega) (by omega)).mp z; omega⟩
def sz_ (n : Nat) (x : Int32) : Bool := sr_ x (nI (n - 1))
theorem sz_t {k n : Nat} (h : k < n) (hn : n < 2 ^ 31) : sz_ n (nI k) = true := sr_t (by omega) (by omega)
theorem sz_f {x : Int32} {n : Nat} (h1 : 1 ≤ n) (hn : n < 2 ^ 31) (h : ¬ (¬ x < 0 ∧ ¬ nI n ≤ x)) : sz_ n x = false := sr_f (fun z => h ((sm_el h1 hn).mpr z))
def sp_p (x : Int32) : Bool := x == nI 2 || x == nI 3 || x == nI 5 || x == nI 7
theorem sp_pt {k : Nat} (h : k = 2 ∨ k = 3 ∨ k = 5 ∨ k = 7) : sp_p (nI k) = true := by rcases h with h | h | h | h <;> subst h <;> decide
theorem sp_pf {x : Int32} (h : ¬ (x = nI 2 ∨ x = nI 3 ∨ x = nI 5 ∨ x = nI 7)) : sp_p x = false := by
  unfold sp_p
  simp only [Bool.or_eq_false_iff, beq_eq_false_iff_ne]
  exact ⟨⟨⟨fun z => h (Or.inl z), fun z => h (Or.inr (Or.inl z))⟩, fun z => h (Or.inr (Or.inr (Or.inl z)))⟩, fun z => h (Or.inr (Or.inr (Or.inr z)))⟩
theorem sm_mod {x : Int32} (h : x = nI 2 ∨ x = nI 3 ∨ x = nI 5 ∨ x = nI 7) : ∃ k : Nat, (k = 2 ∨ k = 3 ∨ k = 5 ∨ k = 7) ∧ x = nI k := by
  rcases h with h | h | h | h
  · exact ⟨2, by omega, h⟩
  · exact ⟨3, by omega, h⟩
  · exact ⟨5, by omega, h⟩
  · exact ⟨7, by omega, h⟩
def tn_ (x : Int32) : Nat := x.toNatClampNeg
theorem tn_nI {k : Nat} (h : k < 2 ^ 31) : tn_ (nI k) = k := nI_clamp h
-- what the calls do: the answer, and what the object stands for behind it
def sp_uniform (y : cb_Y) (wh k : Int32) : Int32 × cb_Y := if sw_ wh && sr_ k (nI 10) then (nI 1, cb_s y (tn_ wh) (0, tn_ k, (cb_m y (tn_ wh)).2.2)) else (nI 0, y)
def sp_graphic (y : cb_Y) (wh : Int32) : Int32 × cb_Y := if sw_ wh then (nI 1, cb_s y (tn_ wh) (1, (cb_m y (tn_ wh)).2.1, (fun _ => 0), (fun _ => 0), (cb_m y (tn_ wh)).2.2.2.2)) else (nI 0, y)
def sp_classes (y : cb_Y) (wh : Int32) : Int32 × cb_Y := if sw_ wh then (nI 1, cb_s y (tn_ wh) (2, (cb_m y (tn_ wh)).2.1, (cb_m y (tn_ wh)).2.2.1, (cb_m y (tn_ wh)).2.2.2.1, (fun _ => 0), (fun _ => 0), (cb_m y (tn_ wh)).2.2.2.2.2.2)) else (nI 0, y)
def sp_linear (y : cb_Y) (wh p : Int32) : Int32 × cb_Y := if sw_ wh && sp_p p then (nI 1, cb_s y (tn_ wh) (3, (cb_m y (tn_ wh)).2.1, (cb_m y (tn_ wh)).2.2.1, (cb_m y (tn_ wh)).2.2.2.1, (cb_m y (tn_ wh)).2.2.2.2.1, (cb_m y (tn_ wh)).2.2.2.2.2.1, tn_ p, (fun _ _ => 0))) else (nI 0, y)
def sp_edge (n : Nat) (y : cb_Y) (wh e u v : Int32) : Int32 × cb_Y := if sw_ wh && sz_ n e && sr_ u (nI 7) && sr_ v (nI 7) && (cb_m y (tn_ wh)).1 == 1 then (nI 1, cb_s y (tn_ wh) ((cb_m y (tn_ wh)).1, (cb_m y (tn_ wh)).2.1, va_up (cb_m y (tn_ wh)).2.2.1 (tn_ e) (tn_ u), va_up (cb_m y (tn_ wh)).2.2.2.1 (tn_ e) (tn_ v), (cb_m y (tn_ wh)).2.2.2.2)) else (nI 0, y)
def sp_part (n : Nat) (y : cb_Y) (wh e c : Int32) : Int32 × cb_Y := if sw_ wh && sz_ n e && sr_ c (nI 3) && (cb_m y (tn_ wh)).1 == 2 then (nI 1, cb_s y (tn_ wh) ((cb_m y (tn_ wh)).1, (cb_m y (tn_ wh)).2.1, (cb_m y (tn_ wh)).2.2.1, (cb_m y (tn_ wh)).2.2.2.1, va_up (cb_m y (tn_ wh)).2.2.2.2.1 (tn_ e) (tn_ c), (cb_m y (tn_ wh)).2.2.2.2.2)) else (nI 0, y)
def sp_cap (y : cb_Y) (wh c k : Int32) : Int32 × cb_Y := if sw_ wh && sr_ c (nI 3) && sr_ k (nI 10) && (cb_m y (tn_ wh)).1 == 2 then (nI 1, cb_s y (tn_ wh) ((cb_m y (tn_ wh)).1, (cb_m y (tn_ wh)).2.1, (cb_m y (tn_ wh)).2.2.1, (cb_m y (tn_ wh)).2.2.2.1, (cb_m y (tn_ wh)).2.2.2.2.1, va_up (cb_m y (tn_ wh)).2.2.2.2.2.1 (tn_ c) (tn_ k), (cb_m y (tn_ wh)).2.2.2.2.2.2)) else (nI 0, y)
def sp_entry (n : Nat) (y : cb_Y) (wh e r v : Int32) : Int32 × cb_Y := if sw_ wh && sz_ n e && sr_ r (nI 3) && (cb_m y (tn_ wh)).1 == 3 then (nI 1, cb_s y (tn_ wh) ((cb_m y (tn_ wh)).1, (cb_m y (tn_ wh)).2.1, (cb_m y (tn_ wh)).2.2.1, (cb_m y (tn_ wh)).2.2.2.1, (cb_m y (tn_ wh)).2.2.2.2.1, (cb_m y (tn_ wh)).2.2.2.2.2.1, (cb_m y (tn_ wh)).2.2.2.2.2.2.1, va_up (cb_m y (tn_ wh)).2.2.2.2.2.2.2 (tn_ e) (va_up ((cb_m y (tn_ wh)).2.2.2.2.2.2.2 (tn_ e)) (tn_ r) (fm_ v (cb_m y (tn_ wh)).2.2.2.2.2.2.1)))) else (nI 0, y)
def sp_weight (n : Nat) (y : cb_Y) (e w : Int32) : Int32 × cb_Y := if sz_ n e && !(decide (w < -1000000)) && decide (w ≤ 1000000) then (nI 1, (upd y.1 (tn_ e) w, y.2)) else (nI 0, y)
theorem cb_s0 (y : cb_Y) (x : ma_T) : cb_s y 0 x = (y.1, x, y.2.2) := rfl
theorem cb_s1 (y : cb_Y) (x : ma_T) : cb_s y 1 x = (y.1, y.2.1, x) := rfl
theorem tn_0 : tn_ (nI 0) = 0 := rfl
theorem tn_1 : tn_ (nI 1) = 1 := rfl
theorem nd_CB_uniform_0 : decode nc_CB_uniform 0 = .ok (.iload_n 1, 1) := by decide +kernel
theorem nd_CB_uniform_1 : decode nc_CB_uniform 1 = .ok (.invokestatic 29, 3) := by decide +kernel
theorem nd_CB_uniform_4 : decode nc_CB_uniform 4 = .ok (.ifCond .eq 12, 3) := by decide +kernel
theorem nd_CB_uniform_7 : decode nc_CB_uniform 7 = .ok (.iload_n 2, 1) := by decide +kernel
theorem nd_CB_uniform_8 : decode nc_CB_uniform 8 = .ok (.bipush 10, 2) := by decide +kernel
theorem nd_CB_uniform_10 : decode nc_CB_uniform 10 = .ok (.invokestatic 33, 3) := by decide +kernel
theorem nd_CB_uniform_13 : decode nc_CB_uniform 13 = .ok (.ifCond .ne 5, 3) := by decide +kernel
theorem nd_CB_uniform_16 : decode nc_CB_uniform 16 = .ok (.iconst 0, 1) := by decide +kernel
theorem nd_CB_uniform_17 : decode nc_CB_uniform 17 = .ok (.ireturn, 1) := by decide +kernel
theorem nd_CB_uniform_18 : decode nc_CB_uniform 18 = .ok (.aload_n 0, 1) := by decide +kernel
theorem nd_CB_uniform_19 : decode nc_CB_uniform 19 = .ok (.getfield 25, 3) := by decide +kernel
theorem nd_CB_uniform_22 : decode nc_CB_uniform 22 = .ok (.iload_n 1, 1) := by decide +kernel
theorem nd_CB_uniform_23 : decode nc_CB_uniform 23 = .ok (.aaload, 1) := by decide +kernel
theorem nd_CB_uniform_24 : decode nc_CB_uniform 24 = .ok (.iload_n 2, 1) := by decide +kernel
theorem nd_CB_uniform_25 : decode nc_CB_uniform 25 = .ok (.invokevirtual 37, 3) := by decide +kernel
theorem nd_CB_uniform_28 : decode nc_CB_uniform 28 = .ok (.iconst 1, 1) := by decide +kernel
theorem nd_CB_uniform_29 : decode nc_CB_uniform 29 = .ok (.ireturn, 1) := by decide +kernel
set_option maxRecDepth 20000 in
theorem c_CB_uniform (l : Launch) (D : va_G) (cI cG cM : ClassId)  (q : Nat → Nat) (n : Nat) (hn1 : 1 ≤ n) (hn : n ≤ 10) (mr : Nat → Option Nat) (a0 a1 : ma_A) (hm0 : mr 0 = some (a0.1 0)) (hm1 : mr 1 = some (a1.1 0)) (w : Nat → Int32) (t0 t1 : ma_S) (y : cb_Y) (hI : cb_I n y (w, t0, t1)) (wh k : Int32) (sz : Nat) : wb_Mi l ny_CB_uniform nc_CB_uniform 3 (some .boolean) ({ frames := 4, cells := 0, slots := 0, locals := 85 }) D (ty_all cI cG cM) (cw_ cI cG cM q n mr a0 a1 (w, t0, t1)) sz [.ref (q 0), .int (wh), .int (k)] (fun (v : Int32) (u : cb_S) => v = (sp_uniform y wh k).1 ∧ cb_I n (sp_uniform y wh k).2 u) (fun u : cb_S => cw_ cI cG cM q n mr a0 a1 u) := by
  refine wb_start (S := cb_S) (by decide) (Nat.le_of_ble_eq_true rfl) ?_
  intro p e0 s0 m below meth c ls A hx hb hr hml htg hown hk hP hK hN hl hAe hsz hD hA
  have hl : lv_has ls 3 [(0, .ref (q 0)), (1, .int (wh)), (2, .int (k))] := hl
  have hP : va_P D cl_all ([((q 0), .inr (0, [.int (nI (n)), .int (nI (2 ^ n - 1)), .ref (q 1), .ref (q 2)])), ((q 1), .inl (cI, n, .inl w)), ((q 2), .inl (cM, 2, .inr (.inr (.inr (.inr mr)))))] ++ (mw_ cI cG a0 n t0 ++ (mw_ cI cG a1 n t1 ++ []))) s0.heap := hP
  have hD : va_D A ([((q 0), .inr (0, [.int (nI (n)), .int (nI (2 ^ n - 1)), .ref (q 1), .ref (q 2)])), ((q 1), .inl (cI, n, .inl w)), ((q 2), .inl (cM, 2, .inr (.inr (.inr (.inr mr)))))] ++ (mw_ cI cG a0 n t0 ++ (mw_ cI cG a1 n t1 ++ []))) := hD
  have hS : va_S A s0.heap s0.heap [] := va_S.rf
  have hRf : 4 ≤ ({ frames := 4, cells := 0, slots := 0, locals := 85 } : Room).frames := Nat.le_refl _
  have hRl : 85 ≤ ({ frames := 4, cells := 0, slots := 0, locals := 85 } : Room).locals := Nat.le_refl _
  have hCS : 0 ≤ ({ frames := 4, cells := 0, slots := 0, locals := 85 } : Room).cells ∧ 0 ≤ ({ frames := 4, cells := 0, slots := 0, locals := 85 } : Room).slots := ⟨Nat.zero_le _, Nat.zero_le _⟩
  have h2n : 2 ^ n ≤ 1024 := Nat.pow_le_pow_right (by omega) hn
  have h2p : 1 ≤ 2 ^ n := Nat.one_le_two_pow
  have hI0 : ma_I n y.2.1 t0 := hI.2.1
  have hI1 : ma_I n y.2.2 t1 := hI.2.2
  refine lv_iload_n hx hb nd_CB_uniform_0 rfl (lv_at hl 1 rfl) ?_
  rcases sm_which wh with hw1 | hw1 | hw1
  · subst hw1
    refine wc_S (n := 1) hx hb hml hown htg (c_CB_isMatroid l D _ (nI 0) (nI 1) (fun _ => rfl) (fun h => absurd (Or.inl nI_0) h)) tm_141 tm_139 tm_140 tm_1 (by decide +kernel) ⟨⟨Nat.le_trans (by decide) hRf, Nat.le_trans (by decide) hRl⟩, rfl, rfl⟩ (wa_pre wa_nil hK hN) rfl hl.1 rfl (Nat.le_of_ble_eq_true rfl) nd_CB_uniform_1 hCS ?_
    refine wi_if_eq (tgt := 16) hx hb (by decide) nd_CB_uniform_4 rfl (fun h => absurd h (by decide)) (fun _ => ?_)
    refine lv_iload_n hx hb nd_CB_uniform_7 rfl (lv_at hl 2 rfl) ?_
    refine lv_bipush (v := nI 10) hx hb nd_CB_uniform_8 (by decide) ?_
    by_cases hq10 : ¬ k < 0 ∧ ¬ nI (10) < k
    · obtain ⟨k1, h_k1, rfl⟩ := sm_upto (by omega) hq10
      refine wc_S (n := 2) hx hb hml hown htg (c_CB_isUpTo l D _ (nI k1) (nI (10)) (nI 1) (fun _ => rfl) (fun h => absurd hq10 h)) tm_144 tm_142 tm_143 tm_1 (by decide +kernel) ⟨⟨Nat.le_trans (by decide) hRf, Nat.le_trans (by decide) hRl⟩, rfl, rfl⟩ (wa_pre wa_nil hK hN) rfl hl.1 rfl (Nat.le_of_ble_eq_true rfl) nd_CB_uniform_10 hCS ?_
      refine wi_if_ne (tgt := 18) hx hb (by decide) nd_CB_uniform_13 rfl (fun _ => ?_) (fun h => absurd h (by decide))
      refine lv_aload_n hx hb nd_CB_uniform_18 rfl (lv_at hl 0 rfl) ?_
      refine va_get (D := D) (C := nr_CB) (T := nt_CB) (N := 4) hx hb htg tf_CB hown hK hP 0 rfl rfl 3 (by decide) (htg _ tm_125) (fun _ h => h) rfl nd_CB_uniform_19 ?_
      refine lv_iload_n hx hb nd_CB_uniform_22 rfl (lv_at hl 1 rfl) ?_
      refine wi_aald (v := (a0.1 0)) hx hb hK hP 2 2 rfl rfl rfl (by omega) (by omega) (hm0) nd_CB_uniform_23 ?_
      refine lv_iload_n hx hb nd_CB_uniform_24 rfl (lv_at hl 2 rfl) ?_
      refine wd_Vv (C := nr_MA) (n := 1) (X := [((q 0), .inr (0, [.int (nI (n)), .int (nI (2 ^ n - 1)), .ref (q 1), .ref (q 2)])), ((q 1), .inl (cI, n, .inl w)), ((q 2), .inl (cM, 2, .inr (.inr (.inr (.inr mr)))))]) (Y := mw_ cI cG a0 n t0) (Z := (mw_ cI cG a1 n t1 ++ [])) hx hb hml hown htg (c_MA_becomeUniform l D cI cG cM a0 n hn t0.1 t0.2.1 t0.2.2.1 t0.2.2.2.1 t0.2.2.2.2.1 t0.2.2.2.2.2 y.2.1 hI0 k1 (by omega) _) tm_148 tm_145 tm_146 tm_147 tm_2 (by decide +kernel) ⟨⟨Nat.le_trans (by decide) hRf, Nat.le_trans (by decide) hRl⟩, rfl, rfl⟩ hP hD hS hA hK hN (va_recv (q0 := 0) (ci := 1) hK (wm_P (X := [((q 0), .inr (0, [.int (nI (n)), .int (nI (2 ^ n - 1)), .ref (q 1), .ref (q 2)])), ((q 1), .inl (cI, n, .inl w)), ((q 2), .inl (cM, 2, .inr (.inr (.inr (.inr mr)))))]) (Y := mw_ cI cG a0 n t0) (Z := (mw_ cI cG a1 n t1 ++ [])) hP).2.1 rfl rfl) rfl hl.1 rfl (Nat.le_of_ble_eq_true rfl) nd_CB_uniform_25 hCS (fun u25 H locs hp25 hP hD hS => ?_)
      have hP : va_P D cl_all ([((q 0), .inr (0, [.int (nI (n)), .int (nI (2 ^ n - 1)), .ref (q 1), .ref (q 2)])), ((q 1), .inl (cI, n, .inl w)), ((q 2), .inl (cM, 2, .inr (.inr (.inr (.inr mr)))))] ++ (mw_ cI cG a0 n u25 ++ (mw_ cI cG a1 n t1 ++ []))) H := hP
      have hD : va_D A ([((q 0), .inr (0, [.int (nI (n)), .int (nI (2 ^ n - 1)), .ref (q 1), .ref (q 2)])), ((q 1), .inl (cI, n, .inl w)), ((q 2), .inl (cM, 2, .inr (.inr (.inr (.inr mr)))))] ++ (mw_ cI cG a0 n u25 ++ (mw_ cI cG a1 n t1 ++ []))) := hD
      refine wi_ic hx hb (a := 1) nd_CB_uniform_28 ?_
      have hsp : sp_uniform y (nI 0) (nI k1) = (nI 1, (y.1, (0, k1, y.2.1.2.2), y.2.2)) := by unfold sp_uniform; rw [sw_0, sr_t h_k1 (by omega), tn_0, tn_nI (by omega)]; rfl
      exact wb_zret ((w, u25, t1)) hx hb hr hk rfl hAe (by rw [hsp]; exact ⟨rfl, ⟨hI.1, hp25, hI1⟩⟩) hP hD hS nd_CB_uniform_29
    · refine wc_S (n := 2) hx hb hml hown htg (c_CB_isUpTo l D _ k (nI (10)) (nI 0) (fun h => absurd h hq10) (fun _ => rfl)) tm_144 tm_142 tm_143 tm_1 (by decide +kernel) ⟨⟨Nat.le_trans (by decide) hRf, Nat.le_trans (by decide) hRl⟩, rfl, rfl⟩ (wa_pre wa_nil hK hN) rfl hl.1 rfl (Nat.le_of_ble_eq_true rfl) nd_CB_uniform_10 hCS ?_
      refine wi_if_ne (tgt := 18) hx hb (by decide) nd_CB_uniform_13 rfl (fun h => absurd h (by decide)) (fun _ => ?_)
      refine wi_ic hx hb (a := 0) nd_CB_uniform_16 ?_
      have hsp : sp_uniform y (nI (0)) k = (nI 0, y) := by unfold sp_uniform; rw [sr_f hq10]; simp
      exact wb_zret ((w, t0, t1)) hx hb hr hk rfl hAe (by rw [hsp]; exact ⟨rfl, hI⟩) hP hD hS nd_CB_uniform_17
  · subst hw1
    refine wc_S (n := 1) hx hb hml hown htg (c_CB_isMatroid l D _ (nI 1) (nI 1) (fun _ => rfl) (fun h => absurd (Or.inr rfl) h)) tm_141 tm_139 tm_140 tm_1 (by decide +kernel) ⟨⟨Nat.le_trans (by decide) hRf, Nat.le_trans (by decide) hRl⟩, rfl, rfl⟩ (wa_pre wa_nil hK hN) rfl hl.1 rfl (Nat.le_of_ble_eq_true rfl) nd_CB_uniform_1 hCS ?_
    refine wi_if_eq (tgt := 16) hx hb (by decide) nd_CB_uniform_4 rfl (fun h => absurd h (by decide)) (fun _ => ?_)
    refine lv_iload_n hx hb nd_CB_uniform_7 rfl (lv_at hl 2 rfl) ?_
    refine lv_bipush (v := nI 10) hx hb nd_CB_uniform_8 (by decide) ?_
    by_cases hq10 : ¬ k < 0 ∧ ¬ nI (10) < k
    · obtain ⟨k1, h_k1, rfl⟩ := sm_upto (by omega) hq10
      refine wc_S (n := 2) hx hb hml hown htg (c_CB_isUpTo l D _ (nI k1) (nI (10)) (nI 1) (fun _ => rfl) (fun h => absurd hq10 h)) tm_144 tm_142 tm_143 tm_1 (by decide +kernel) ⟨⟨Nat.le_trans (by decide) hRf, Nat.le_trans (by decide) hRl⟩, rfl, rfl⟩ (wa_pre wa_nil hK hN) rfl hl.1 rfl (Nat.le_of_ble_eq_true rfl) nd_CB_uniform_10 hCS ?_
      refine wi_if_ne (tgt := 18) hx hb (by decide) nd_CB_uniform_13 rfl (fun _ => ?_) (fun h => absurd h (by decide))
      refine lv_aload_n hx hb nd_CB_uniform_18 rfl (lv_at hl 0 rfl) ?_
      refine va_get (D := D) (C := nr_CB) (T := nt_CB) (N := 4) hx hb htg tf_CB hown hK hP 0 rfl rfl 3 (by decide) (htg _ tm_125) (fun _ h => h) rfl nd_CB_uniform_19 ?_
      refine lv_iload_n hx hb nd_CB_uniform_22 rfl (lv_at hl 1 rfl) ?_
      refine wi_aald (v := (a1.1 0)) hx hb hK hP 2 2 rfl rfl rfl (by omega) (by omega) (hm1) nd_CB_uniform_23 ?_
      refine lv_iload_n hx hb nd_CB_uniform_24 rfl (lv_at hl 2 rfl) ?_
      rw [← List.append_assoc] at hP hD
      refine wd_Vv (C := nr_MA) (n := 1) (X := ([((q 0), .inr (0, [.int (nI (n)), .int (nI (2 ^ n - 1)), .ref (q 1), .ref (q 2)])), ((q 1), .inl (cI, n, .inl w)), ((q 2), .inl (cM, 2, .inr (.inr (.inr (.inr mr)))))] ++ mw_ cI cG a0 n t0)) (Y := mw_ cI cG a1 n t1) (Z := []) hx hb hml hown htg (c_MA_becomeUniform l D cI cG cM a1 n hn t1.1 t1.2.1 t1.2.2.1 t1.2.2.2.1 t1.2.2.2.2.1 t1.2.2.2.2.2 y.2.2 hI1 k1 (by omega) _) tm_148 tm_145 tm_146 tm_147 tm_2 (by decide +kernel) ⟨⟨Nat.le_trans (by decide) hRf, Nat.le_trans (by decide) hRl⟩, rfl, rfl⟩ hP hD hS hA hK hN (va_recv (q0 := 0) (ci := 1) hK (wm_P (X := ([((q 0), .inr (0, [.int (nI (n)), .int (nI (2 ^ n - 1)), .ref (q 1), .ref (q 2)])), ((q 1), .inl (cI, n, .inl w)), ((q 2), .inl (cM, 2, .inr (.inr (.inr (.inr mr)))))] ++ mw_ cI cG a0 n t0)) (Y := mw_ cI cG a1 n t1) (Z := []) hP).2.1 rfl rfl) rfl hl.1 rfl (Nat.le_of_ble_eq_true rfl) nd_CB_uniform_25 hCS (fun u25 H locs hp25 hP hD hS => ?_)
      rw [List.append_assoc] at hP hD
      have hP : va_P D cl_all ([((q 0), .inr (0, [.int (nI (n)), .int (nI (2 ^ n - 1)), .ref (q 1), .ref (q 2)])), ((q 1), .inl (cI, n, .inl w)), ((q 2), .inl (cM, 2, .inr (.inr (.inr (.inr mr)))))] ++ (mw_ cI cG a0 n t0 ++ (mw_ cI cG a1 n u25 ++ []))) H := hP
      have hD : va_D A ([((q 0), .inr (0, [.int (nI (n)), .int (nI (2 ^ n - 1)), .ref (q 1), .ref (q 2)])), ((q 1), .inl (cI, n, .inl w)), ((q 2), .inl (cM, 2, .inr (.inr (.inr (.inr mr)))))] ++ (mw_ cI cG a0 n t0 ++ (mw_ cI cG a1 n u25 ++ []))) := hD
      refine wi_ic hx hb (a := 1) nd_CB_uniform_28 ?_
      have hsp : sp_uniform y (nI 1) (nI k1) = (nI 1, (y.1, y.2.1, (0, k1, y.2.2.2.2))) := by unfold sp_uniform; rw [sw_1, sr_t h_k1 (by omega), tn_1, tn_nI (by omega)]; rfl
      exact wb_zret ((w, t0, u25)) hx hb hr hk rfl hAe (by rw [hsp]; exact ⟨rfl, ⟨hI.1, hI0, hp25⟩⟩) hP hD hS nd_CB_uniform_29
    · refine wc_S (n := 2) hx hb hml hown htg (c_CB_isUpTo l D _ k (nI (10)) (nI 0) (fun h => absurd h hq10) (fun _ => rfl)) tm_144 tm_142 tm_143 tm_1 (by decide +kernel) ⟨⟨Nat.le_trans (by decide) hRf, Nat.le_trans (by decide) hRl⟩, rfl, rfl⟩ (wa_pre wa_nil hK hN) rfl hl.1 rfl (Nat.le_of_ble_eq_true rfl) nd_CB_uniform_10 hCS ?_
      refine wi_if_ne (tgt := 18) hx hb (by decide) nd_CB_uniform_13 rfl (fun h => absurd h (by decide)) (fun _ => ?_)
      refine wi_ic hx hb (a := 0) nd_CB_uniform_16 ?_
      have hsp : sp_uniform y (nI (1)) k = (nI 0, y) := by unfold sp_uniform; rw [sr_f hq10]; simp
      exact wb_zret ((w, t0, t1)) hx hb hr hk rfl hAe (by rw [hsp]; exact ⟨rfl, hI⟩) hP hD hS nd_CB_uniform_17
  · refine wc_S (n := 1) hx hb hml hown htg (c_CB_isMatroid l D _ wh (nI 0) (fun h => absurd h (fun z => z.elim (fun z => hw1.1 (z.trans nI_0.symm)) hw1.2)) (fun _ => rfl)) tm_141 tm_139 tm_140 tm_1 (by decide +kernel) ⟨⟨Nat.le_trans (by decide) hRf, Nat.le_trans (by decide) hRl⟩, rfl, rfl⟩ (wa_pre wa_nil hK hN) rfl hl.1 rfl (Nat.le_of_ble_eq_true rfl) nd_CB_uniform_1 hCS ?_
    refine wi_if_eq (tgt := 16) hx hb (by decide) nd_CB_uniform_4 rfl (fun _ => ?_) (fun h => absurd h (by decide))
    refine wi_ic hx hb (a := 0) nd_CB_uniform_16 ?_
    have hsp : sp_uniform y wh k = (nI 0, y) := by unfold sp_uniform; rw [sw_n hw1]; simp
    exact wb_zret ((w, t0, t1)) hx hb hr hk rfl hAe (by rw [hsp]; exact ⟨rfl, hI⟩) hP hD hS nd_CB_uniform_17
