/-! The law: its loop; what is known at its start. -/
theorem lw_31 (x : Int32) : ∃ k, k < 32 ∧ x &&& nI 31 = nI k := by
  have e : x = nI x.toBitVec.toNat := by
    apply Int32.toBitVec_inj.mp
    unfold nI
    simp
  refine ⟨x.toBitVec.toNat &&& 31, Nat.and_lt_two_pow _ (show 31 < 2 ^ 5 by decide), ?_⟩
  rw [← bs_and, ← e]
theorem lw_5 {L i : Nat} (hL : L ≤ 2561) (hi : i ≤ 10000) : nI L - nI 5 < nI i ↔ L < i + 5 := by
  by_cases h : 5 ≤ L
  · rw [pk_sub h, nI_ltI (by omega) (by omega)]
    omega
  · refine ⟨fun _ => by omega, fun _ => ?_⟩
    have h0 : nI L - nI 5 < 0 := by
      rcases (show L = 0 ∨ L = 1 ∨ L = 2 ∨ L = 3 ∨ L = 4 by omega) with rfl | rfl | rfl | rfl | rfl <;> decide
    exact Int32.lt_of_lt_of_le h0 (nI_pos' (by omega))
set_option maxRecDepth 20000 in
theorem lw_step {p : Program} {l : Launch} {e0 : Env} {s0 : State} {m : MethodId} {below : List Frame} {meth : Method} {c : Code} {b L : Nat} {xs : Nat → Int32} {D : va_G} {A : Nat → Prop} {Qq : State → Prop} {cells slots : Nat} (cI cG cM : ClassId) (q : Nat → Nat) (n : Nat) (hn1 : 1 ≤ n) (hn : n ≤ 10) (mr : Nat → Option Nat) (a0 a1 : ma_A) (hm0 : mr 0 = some (a0.1 0)) (hm1 : mr 1 = some (a1.1 0)) (r : Nat → Nat) (hL : L ≤ 2561) (hx : p.tables.exec = Jvm.exec) (hb : c.code = nc_LA_law) (hml : c.maxLocals = 4) (htg : ∀ w ∈ tg_, w.before #[Value.ref b] s0 = true) (hown : s0.vm.findClass "CommonBasesLaw" = some m.cls) (hK : va_K D cl_all (ty_all cI cG cM) s0) (hN : tn_K s0) (hX : va_X b L xs s0 s0.heap) (hbl : b < s0.heap.size) (hbA : ¬ A b) (hA : ∀ q : Nat, s0.heap.size ≤ q → A q) (hCS : cells ≤ room_1.cells ∧ slots ≤ room_1.slots) (kend : ∀ (ls : Array Slot) (H : Heap) (locs : List Loc), va_S A s0.heap H locs → W p l e0 room_1 s0 m #[Value.ref b] below meth c H locs cells slots Qq (F0 m 742 ls [])) (i : Nat) (hi1 : 1 ≤ i) (hiL : i ≤ 10000) (kn : i + 5 ≤ L → ∀ (y : cb_Y) (u : cb_S) (g : rf_S) (ls : Array Slot) (H : Heap) (locs : List Loc), cb_I n y u → rf_I n y g → lv_has ls 4 [(3, .int (nI (i + 5))), (0, .ref b), (1, .ref (q 0)), (2, .ref (r 0))] → va_P D cl_all (cw_ cI cG cM q n mr a0 a1 u ++ (rf_ cI r n g ++ [])) H → va_D A (cw_ cI cG cM q n mr a0 a1 u ++ (rf_ cI r n g ++ [])) → va_S A s0.heap H locs → W p l e0 room_1 s0 m #[Value.ref b] below meth c H locs cells slots Qq (F0 m 28 ls [])) (y : cb_Y) (u : cb_S) (g : rf_S) (ls : Array Slot) (H : Heap) (locs : List Loc) : cb_I n y u → rf_I n y g → lv_has ls 4 [(3, .int (nI (i))), (0, .ref b), (1, .ref (q 0)), (2, .ref (r 0))] → va_P D cl_all (cw_ cI cG cM q n mr a0 a1 u ++ (rf_ cI r n g ++ [])) H → va_D A (cw_ cI cG cM q n mr a0 a1 u ++ (rf_ cI r n g ++ [])) → va_S A s0.heap H locs → W p l e0 room_1 s0 m #[Value.ref b] below meth c H locs cells slots Qq (F0 m 28 ls []) := by
  intro hI hJ hl hP hD hS
  refine lv_iload_n hx hb nd_LA_law_28 rfl (lv_at hl 0 rfl) ?_
  refine lv_aload_n hx hb nd_LA_law_29 rfl (lv_at hl 1 rfl) ?_
  refine va_slen hx hb hX hbl hbA hS nd_LA_law_30 ?_
  refine wi_ic hx hb (a := 5) nd_LA_law_31 ?_
  refine lv_isub hx hb nd_LA_law_32 ?_
  refine lv_icmp_gt (tgt := 742) hx hb nd_LA_law_33 rfl (fun _ => kend ls H locs hS) (fun hc => ?_)
  have hi : i + 5 ≤ L := by
    have h9 : ¬ L < i + 5 := fun z => hc ((lw_5 hL hiL).mpr z)
    omega
  refine lv_aload_n hx hb nd_LA_law_36 rfl (lv_at hl 1 rfl) ?_
  refine lv_iload_n hx hb nd_LA_law_37 rfl (lv_at hl 0 rfl) ?_
  refine wi_sld hx hb hX hbl hbA hS (i := i) (by omega) (by omega) nd_LA_law_38 ?_
  refine lv_bipush (v := nI 31) hx hb nd_LA_law_39 (by decide) ?_
  refine lv_iand hx hb nd_LA_law_41 ?_
  obtain ⟨k, hk, e⟩ := lw_31 (xs i)
  refine wi_top e ?_
  have kx : ∀ (y : cb_Y) (u : cb_S) (g : rf_S) (ls : Array Slot) (H : Heap) (locs : List Loc), cb_I n y u → rf_I n y g → lv_has ls 4 [(3, .int (nI i)), (0, .ref b), (1, .ref (q 0)), (2, .ref (r 0))] → va_P D cl_all (cw_ cI cG cM q n mr a0 a1 u ++ (rf_ cI r n g ++ [])) H → va_D A (cw_ cI cG cM q n mr a0 a1 u ++ (rf_ cI r n g ++ [])) → va_S A s0.heap H locs → W p l e0 room_1 s0 m #[Value.ref b] below meth c H locs cells slots Qq (F0 m 736 ls []) := fun y u g ls H locs hI hJ hl hP hD hS => by
    refine lv_iinc (k := 0) (v := nI (i + 5)) hx hb nd_LA_law_736 hl rfl (wi_inc _ 5) (by decide) rfl (fun ls hl => ?_)
    refine lv_goto (tgt := 28) hx hb nd_LA_law_739 rfl ?_
    exact kn hi y u g ls H locs hI hJ hl hP hD hS
  by_cases h20 : 20 ≤ k
  · refine lv_tableOut (tgt := 736) hx hb nd_LA_law_42 (Or.inr ?_) rfl (kx y u g ls H locs hI hJ hl hP hD hS)
    rcases (show k = 20 ∨ k = 21 ∨ k = 22 ∨ k = 23 ∨ k = 24 ∨ k = 25 ∨ k = 26 ∨ k = 27 ∨ k = 28 ∨ k = 29 ∨ k = 30 ∨ k = 31 by omega) with rfl | rfl | rfl | rfl | rfl | rfl | rfl | rfl | rfl | rfl | rfl | rfl <;> decide
  · rcases (show k = 0 ∨ k = 1 ∨ k = 2 ∨ k = 3 ∨ k = 4 ∨ k = 5 ∨ k = 6 ∨ k = 7 ∨ k = 8 ∨ k = 9 ∨ k = 10 ∨ k = 11 ∨ k = 12 ∨ k = 13 ∨ k = 14 ∨ k = 15 ∨ k = 16 ∨ k = 17 ∨ k = 18 ∨ k = 19 by omega) with rfl | rfl | rfl | rfl | rfl | rfl | rfl | rfl | rfl | rfl | rfl | rfl | rfl | rfl | rfl | rfl | rfl | rfl | rfl | rfl
    · exact lv_tableIn (off := 94) (tgt := 136) hx hb nd_LA_law_42 (by decide) (by decide) (by decide +kernel) rfl (lw_k0 cI cG cM q n hn1 hn mr a0 a1 hm0 hm1 r hL hx hb hml htg hown hK hN hX hbl hbA hA hCS i kx hi1 hi y u g hI hJ ls H locs hl hP hD hS)
    · exact lv_tableIn (off := 127) (tgt := 169) hx hb nd_LA_law_42 (by decide) (by decide) (by decide +kernel) rfl (lw_k1 cI cG cM q n hn1 hn mr a0 a1 hm0 hm1 r hL hx hb hml htg hown hK hN hX hbl hbA hA hCS i kx hi1 hi y u g hI hJ ls H locs hl hP hD hS)
    · exact lv_tableIn (off := 150) (tgt := 192) hx hb nd_LA_law_42 (by decide) (by decide) (by decide +kernel) rfl (lw_k2 cI cG cM q n hn1 hn mr a0 a1 hm0 hm1 r hL hx hb hml htg hown hK hN hX hbl hbA hA hCS i kx hi1 hi y u g hI hJ ls H locs hl hP hD hS)
    · exact lv_tableIn (off := 203) (tgt := 245) hx hb nd_LA_law_42 (by decide) (by decide) (by decide +kernel) rfl (lw_k3 cI cG cM q n hn1 hn mr a0 a1 hm0 hm1 r hL hx hb hml htg hown hK hN hX hbl hbA hA hCS i kx hi1 hi y u g hI hJ ls H locs hl hP hD hS)
    · exact lv_tableIn (off := 226) (tgt := 268) hx hb nd_LA_law_42 (by decide) (by decide) (by decide +kernel) rfl (lw_k4 cI cG cM q n hn1 hn mr a0 a1 hm0 hm1 r hL hx hb hml htg hown hK hN hX hbl hbA hA hCS i kx hi1 hi y u g hI hJ ls H locs hl hP hD hS)
    · exact lv_tableIn (off := 269) (tgt := 311) hx hb nd_LA_law_42 (by decide) (by decide) (by decide +kernel) rfl (lw_k5 cI cG cM q n hn1 hn mr a0 a1 hm0 hm1 r hL hx hb hml htg hown hK hN hX hbl hbA hA hCS i kx hi1 hi y u g hI hJ ls H locs hl hP hD hS)
    · exact lv_tableIn (off := 312) (tgt := 354) hx hb nd_LA_law_42 (by decide) (by decide) (by decide +kernel) rfl (lw_k6 cI cG cM q n hn1 hn mr a0 a1 hm0 hm1 r hL hx hb hml htg hown hK hN hX hbl hbA hA hCS i kx hi1 hi y u g hI hJ ls H locs hl hP hD hS)
    · exact lv_tableIn (off := 345) (tgt := 387) hx hb nd_LA_law_42 (by decide) (by decide) (by decide +kernel) rfl (lw_k7 cI cG cM q n hn1 hn mr a0 a1 hm0 hm1 r hL hx hb hml htg hown hK hN hX hbl hbA hA hCS i kx hi1 hi y u g hI hJ ls H locs hl hP hD hS)
    · exact lv_tableIn (off := 398) (tgt := 440) hx hb nd_LA_law_42 (by decide) (by decide) (by decide +kernel) rfl (lw_k8 cI cG cM q n hn1 hn mr a0 a1 hm0 hm1 r hL hx hb hml htg hown hK hN hX hbl hbA hA hCS i kx hi1 hi y u g hI hJ ls H locs hl hP hD hS)
    · exact lv_tableIn (off := 431) (tgt := 473) hx hb nd_LA_law_42 (by decide) (by decide) (by decide +kernel) rfl (lw_k9 cI cG cM q n hn1 hn mr a0 a1 hm0 hm1 r hL hx hb hml htg hown hK hN hX hbl hbA hA hCS i kx hi1 hi y u g hI hJ ls H locs hl hP hD hS)
    · exact lv_tableIn (off := 464) (tgt := 506) hx hb nd_LA_law_42 (by decide) (by decide) (by decide +kernel) rfl (lw_k10 cI cG cM q n hn1 hn mr a0 a1 hm0 hm1 r hL hx hb hml htg hown hK hN hX hbl hbA hA hCS i kx hi1 hi y u g hI hJ ls H locs hl hP hD hS)
    · exact lv_tableIn (off := 497) (tgt := 539) hx hb nd_LA_law_42 (by decide) (by decide) (by decide +kernel) rfl (lw_k11 cI cG cM q n hn1 hn mr a0 a1 hm0 hm1 r hL hx hb hml htg hown hK hN hX hbl hbA hA hCS i kx hi1 hi y u g hI hJ ls H locs hl hP hD hS)
    · exact lv_tableIn (off := 530) (tgt := 572) hx hb nd_LA_law_42 (by decide) (by decide) (by decide +kernel) rfl (lw_k12 cI cG cM q n hn1 hn mr a0 a1 hm0 hm1 r hL hx hb hml htg hown hK hN hX hbl hbA hA hCS i kx hi1 hi y u g hI hJ ls H locs hl hP hD hS)
    · exact lv_tableIn (off := 573) (tgt := 615) hx hb nd_LA_law_42 (by decide) (by decide) (by decide +kernel) rfl (lw_k13 cI cG cM q n hn1 hn mr a0 a1 hm0 hm1 r hL hx hb hml htg hown hK hN hX hbl hbA hA hCS i kx hi1 hi y u g hI hJ ls H locs hl hP hD hS)
    · exact lv_tableIn (off := 596) (tgt := 638) hx hb nd_LA_law_42 (by decide) (by decide) (by decide +kernel) rfl (lw_k14 cI cG cM q n hn1 hn mr a0 a1 hm0 hm1 r hL hx hb hml htg hown hK hN hX hbl hbA hA hCS i kx hi1 hi y u g hI hJ ls H locs hl hP hD hS)
    · exact lv_tableIn (off := 619) (tgt := 661) hx hb nd_LA_law_42 (by decide) (by decide) (by decide +kernel) rfl (lw_k15 cI cG cM q n hn1 hn mr a0 a1 hm0 hm1 r hL hx hb hml htg hown hK hN hX hbl hbA hA hCS i kx hi1 hi y u g hI hJ ls H locs hl hP hD hS)
    · exact lv_tableIn (off := 642) (tgt := 684) hx hb nd_LA_law_42 (by decide) (by decide) (by decide +kernel) rfl (lw_k16 cI cG cM q n hn1 hn mr a0 a1 hm0 hm1 r hL hx hb hml htg hown hK hN hX hbl hbA hA hCS i kx hi1 hi y u g hI hJ ls H locs hl hP hD hS)
    · exact lv_tableIn (off := 655) (tgt := 697) hx hb nd_LA_law_42 (by decide) (by decide) (by decide +kernel) rfl (lw_k17 cI cG cM q n hn1 hn mr a0 a1 hm0 hm1 r hL hx hb hml htg hown hK hN hX hbl hbA hA hCS i kx hi1 hi y u g hI hJ ls H locs hl hP hD hS)
    · exact lv_tableIn (off := 668) (tgt := 710) hx hb nd_LA_law_42 (by decide) (by decide) (by decide +kernel) rfl (lw_k18 cI cG cM q n hn1 hn mr a0 a1 hm0 hm1 r hL hx hb hml htg hown hK hN hX hbl hbA hA hCS i kx hi1 hi y u g hI hJ ls H locs hl hP hD hS)
    · exact lv_tableIn (off := 681) (tgt := 723) hx hb nd_LA_law_42 (by decide) (by decide) (by decide +kernel) rfl (lw_k19 cI cG cM q n hn1 hn mr a0 a1 hm0 hm1 r hL hx hb hml htg hown hK hN hX hbl hbA hA hCS i kx hi1 hi y u g hI hJ ls H locs hl hP hD hS)
theorem lw_loop {p : Program} {l : Launch} {e0 : Env} {s0 : State} {m : MethodId} {below : List Frame} {meth : Method} {c : Code} {b L : Nat} {xs : Nat → Int32} {D : va_G} {A : Nat → Prop} {Qq : State → Prop} {cells slots : Nat} (cI cG cM : ClassId) (q : Nat → Nat) (n : Nat) (hn1 : 1 ≤ n) (hn : n ≤ 10) (mr : Nat → Option Nat) (a0 a1 : ma_A) (hm0 : mr 0 = some (a0.1 0)) (hm1 : mr 1 = some (a1.1 0)) (r : Nat → Nat) (hL : L ≤ 2561) (hx : p.tables.exec = Jvm.exec) (hb : c.code = nc_LA_law) (hml : c.maxLocals = 4) (htg : ∀ w ∈ tg_, w.before #[Value.ref b] s0 = true) (hown : s0.vm.findClass "CommonBasesLaw" = some m.cls) (hK : va_K D cl_all (ty_all cI cG cM) s0) (hN : tn_K s0) (hX : va_X b L xs s0 s0.heap) (hbl : b < s0.heap.size) (hbA : ¬ A b) (hA : ∀ q : Nat, s0.heap.size ≤ q → A q) (hCS : cells ≤ room_1.cells ∧ slots ≤ room_1.slots) (kend : ∀ (ls : Array Slot) (H : Heap) (locs : List Loc), va_S A s0.heap H locs → W p l e0 room_1 s0 m #[Value.ref b] below meth c H locs cells slots Qq (F0 m 742 ls [])) : ∀ (d i : Nat), L < i + 5 + d → 1 ≤ i → i ≤ 2561 → ∀ (y : cb_Y) (u : cb_S) (g : rf_S) (ls : Array Slot) (H : Heap) (locs : List Loc), cb_I n y u → rf_I n y g → lv_has ls 4 [(3, .int (nI (i))), (0, .ref b), (1, .ref (q 0)), (2, .ref (r 0))] → va_P D cl_all (cw_ cI cG cM q n mr a0 a1 u ++ (rf_ cI r n g ++ [])) H → va_D A (cw_ cI cG cM q n mr a0 a1 u ++ (rf_ cI r n g ++ [])) → va_S A s0.heap H locs → W p l e0 room_1 s0 m #[Value.ref b] below meth c H locs cells slots Qq (F0 m 28 ls []) := by
  intro d
  induction d with
  | zero =>
    intro i h1 h2 h3 y u g ls H locs
    exact lw_step cI cG cM q n hn1 hn mr a0 a1 hm0 hm1 r hL hx hb hml htg hown hK hN hX hbl hbA hA hCS kend i h2 (by omega) (fun z => absurd z (by omega)) y u g ls H locs
  | succ d ih =>
    intro i h1 h2 h3 y u g ls H locs
    exact lw_step cI cG cM q n hn1 hn mr a0 a1 hm0 hm1 r hL hx hb hml htg hown hK hN hX hbl hbA hA hCS kend i h2 (by omega) (fun z y u g ls H locs => ih (i + 5) (by omega) (by omega) (by omega) y u g ls H locs) y u g ls H locs
theorem lw_K {s : State} {args : Array Value} (hts : ∀ w ∈ lw_tbl, w.before args s = true) : ∃ (D : va_G) (cI cG cM : ClassId), va_K D cl_all (ty_all cI cG cM) s ∧ va_AO "CommonBases$Matroid" s ∧ va_AOA .int s := by
  have htg : ∀ w ∈ tg_, w.before args s = true := fun w hw => hts w (List.mem_filter.mp hw).1
  obtain ⟨d0, i0, k0⟩ := u_known htg tf_CB (htg _ tm_14)
  obtain ⟨d1, i1, k1⟩ := u_known htg tf_MA (htg _ tm_23)
  obtain ⟨d2, i2, k2⟩ := u_known htg tf_UK (htg _ tm_29)
  obtain ⟨d3, i3, k3⟩ := u_known htg tf_GK (htg _ tm_44)
  obtain ⟨d4, i4, k4⟩ := u_known htg tf_CK (htg _ tm_60)
  obtain ⟨d5, i5, k5⟩ := u_known htg tf_LK (htg _ tm_78)
  obtain ⟨d6, i6, k6⟩ := u_known htg tf_CM (htg _ tm_378)
  obtain ⟨cI, kI, oI, f1, f2, f3⟩ := Cond.arrayClass_spec (htg _ tm_42)
  have w5 : (Cond.arrayOver (.object "CommonBases$Matroid")).before args s = true := hts _ (List.mem_append_right _ (List.mem_of_getElem? (i := 22) (by decide +kernel)))
  have w6 : (Cond.arrayOver (.array .int)).before args s = true := hts _ (List.mem_append_right _ (List.mem_of_getElem? (i := 50) (by decide +kernel)))
  obtain ⟨oM, cM, kM, g1, -, g3, g4, g5⟩ := Cond.arrayOver_spec w5
  obtain ⟨oG, cG, kG, j1, j2, j3, j4⟩ := Cond.arrayOver_specA w6
  refine ⟨(fun k => match k with | 0 => d0 | 1 => d1 | 2 => d2 | 3 => d3 | 4 => d4 | 5 => d5 | _ => d6, fun k => match k with | 0 => i0 | 1 => i1 | 2 => i2 | 3 => i3 | 4 => i4 | 5 => i5 | _ => i6), cI, cG, cM, ⟨fun k q hq => ?_, fun k q hq => ?_⟩, va_AO.of w5, w6⟩
  · have hk : k < 7 := (List.getElem?_eq_some_iff.mp hq).1
    rcases (show k = 0 ∨ k = 1 ∨ k = 2 ∨ k = 3 ∨ k = 4 ∨ k = 5 ∨ k = 6 by omega) with rfl | rfl | rfl | rfl | rfl | rfl | rfl
    · cases hq
      exact k0
    · cases hq
      exact k1
    · cases hq
      exact k2
    · cases hq
      exact k3
    · cases hq
      exact k4
    · cases hq
      exact k5
    · cases hq
      exact k6
  · have hk : k < 3 := (List.getElem?_eq_some_iff.mp hq).1
    rcases (show k = 0 ∨ k = 1 ∨ k = 2 by omega) with rfl | rfl | rfl
    · cases hq
      exact ⟨fun N z => ⟨(fun k h => by cases h), kI, f2, oI, f3⟩, f1⟩
    · cases hq
      exact ⟨fun N z => ⟨(fun k h => by cases h), kG, j2, oG, j3⟩, j4⟩
    · cases hq
      exact ⟨fun N z => ⟨(fun k h => by cases h), kM, g3, oM, g4⟩, kM, oM, g3, g4, g1, g5⟩
theorem lw_N {s : State} {args : Array Value} (hts : ∀ w ∈ lw_tbl, w.before args s = true) (hg : (Jvm.Cond.and given_1 narrow_1).before args s = true) : tn_K s := by
  have hs := flat_of_before _ hg
  exact ⟨va_Nw.of rfl (hts _ (List.mem_append_right _ (List.mem_of_getElem? (i := 30) (by decide +kernel)))), va_Nw.of rfl (hts _ (List.mem_append_right _ (List.mem_of_getElem? (i := 33) (by decide +kernel)))), va_Nw.of rfl (hts _ (List.mem_append_right _ (List.mem_of_getElem? (i := 38) (by decide +kernel)))), va_Nw.of rfl (hts _ (List.mem_append_right _ (List.mem_of_getElem? (i := 48) (by decide +kernel)))), va_Nw.of rfl (hts _ (List.mem_append_right _ (List.mem_of_getElem? (i := 52) (by decide +kernel)))), va_Nw.of rfl (hts _ (List.mem_append_right _ (List.mem_of_getElem? (i := 64) (by decide +kernel)))), va_Nw.of rfl (hts _ (List.mem_append_right _ (List.mem_of_getElem? (i := 66) (by decide +kernel)))), va_Nw.of rfl (hts _ (List.mem_append_right _ (List.mem_of_getElem? (i := 68) (by decide +kernel)))), va_Nw.of rfl (hts _ (List.mem_append_right _ (List.mem_of_getElem? (i := 82) (by decide +kernel)))), va_Nw.of rfl (hts _ (List.mem_append_right _ (List.mem_of_getElem? (i := 265) (by decide +kernel)))), va_Nw.of rfl (hts _ (List.mem_append_right _ (List.mem_of_getElem? (i := 270) (by decide +kernel)))), va_Nw.of rfl (hts _ (List.mem_append_right _ (List.mem_of_getElem? (i := 279) (by decide +kernel)))), va_Nw.of rfl (hts _ (List.mem_append_right _ (List.mem_of_getElem? (i := 287) (by decide +kernel)))), va_Nw.of rfl (hts _ (List.mem_append_right _ (List.mem_of_getElem? (i := 570) (by decide +kernel)))), va_Nw.of rfl (hts _ (List.mem_append_right _ (List.mem_of_getElem? (i := 571) (by decide +kernel)))), va_Nw.of rfl (hts _ (List.mem_append_right _ (List.mem_of_getElem? (i := 572) (by decide +kernel)))), va_Nc.of (hs (Cond.not (.castable nr_UK nr_GK)) (by decide +kernel)), va_Nc.of (hs (Cond.not (.castable nr_CK nr_GK)) (by decide +kernel)), va_Nc.of (hs (Cond.not (.castable nr_LK nr_GK)) (by decide +kernel)), va_Nc.of (hs (Cond.not (.castable nr_UK nr_CK)) (by decide +kernel)), va_Nc.of (hs (Cond.not (.castable nr_GK nr_CK)) (by decide +kernel)), va_Nc.of (hs (Cond.not (.castable nr_LK nr_CK)) (by decide +kernel)), va_Nc.of (hs (Cond.not (.castable nr_UK nr_LK)) (by decide +kernel)), va_Nc.of (hs (Cond.not (.castable nr_GK nr_LK)) (by decide +kernel)), va_Nc.of (hs (Cond.not (.castable nr_CK nr_LK)) (by decide +kernel))⟩
