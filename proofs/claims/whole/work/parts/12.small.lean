/-! Small methods that only read. -/
section SM
variable {p : Program} {l : Launch} {e : Env} {R : Room} {s : State} {m : MethodId} {args : Array Value} {below : List Frame} {meth : Method} {c : Code} {H : Heap} {locs : List Loc} {cells slots : Nat} {Q : State → Prop}
variable {cc : ByteArray} {pc : Nat} {ls : Array Slot} {rest : List Value}
def mt_bt (s e : Nat) : Nat := if s.testBit e = true then 1 else 0
theorem mt_bt_lt (s e : Nat) : mt_bt s e < 2 := by unfold mt_bt; split <;> omega
theorem mt_bt_t {s e : Nat} : mt_bt s e = 1 ↔ s.testBit e = true := by unfold mt_bt; split <;> simp_all
theorem mt_bt_f {s e : Nat} : mt_bt s e = 0 ↔ s.testBit e = false := by unfold mt_bt; split <;> simp_all
theorem mt_bt_n {s e : Nat} : ¬ mt_bt s e = 0 ↔ s.testBit e = true := by unfold mt_bt; split <;> simp_all
theorem mt_bt_e (s e : Nat) : s / 2 ^ e &&& 1 = mt_bt s e := by
  unfold mt_bt
  rw [Nat.and_one_is_mod, Nat.testBit_eq_decide_div_mod_eq]
  generalize s / 2 ^ e = z
  by_cases h : z % 2 = 1
  · simp [h]
  · simp [h]; omega
theorem mt_cd_bt (k s : Nat) : mt_cd (k + 1) s = mt_cd k s + mt_bt s k := rfl
theorem wi_inc (a k : Nat) : nI a + Int32.ofInt (k : Int) = nI (a + k) := nI_add a k
theorem wi_bit (hx : p.tables.exec = Jvm.exec) (hb : c.code = cc) {a b : Nat} (hdg : decode cc pc = .ok (.iand, 1)) (k : W p l e R s m args below meth c H locs cells slots Q (F0 m (pc + 1) ls (.int (nI (mt_bt a b)) :: rest))) : W p l e R s m args below meth c H locs cells slots Q (F0 m pc ls (.int (nI 1) :: .int (nI (a / 2 ^ b)) :: rest)) := wi_iand hx hb hdg (by rw [mt_bt_e]; exact k)
theorem wa_nil {D : va_G} : va_P D cl_all [] H := fun k q h => by simp at h
variable {D : va_G} {A : Nat → Prop} {a : Nat} {tys : List (ClassId × FieldType)} {ws : va_W} {H0 : Heap} {cl : List vw_C}
theorem wi_iastn (hx : p.tables.exec = Jvm.exec) (hb : c.code = cc) (hK : va_K D cl tys s) (hP : va_P D cl ws H) (hD : va_D A ws) (hS : va_S A H0 H locs) (q0 t0 : Nat) {cA : ClassId} {n : Nat} {g : Nat → Nat} (ha : ws[q0]? = some (a, .inl (cA, n, .inl (fun j => nI (g j))))) (ht : tys[t0]? = some (cA, .int)) {i y : Nat} (hi : i < n) (hn : n < 2 ^ 31) (hdg : decode cc pc = .ok (.iastore, 1)) (kk : ∀ (H1 : Heap) (locs1 : List Loc), va_P D cl (ws.set q0 (a, .inl (cA, n, .inl (fun j => nI (va_up g i y j))))) H1 → va_D A (ws.set q0 (a, .inl (cA, n, .inl (fun j => nI (va_up g i y j))))) → va_S A H0 H1 locs1 → W p l e R s m args below meth c H1 locs1 cells slots Q (F0 m (pc + 1) ls rest)) : W p l e R s m args below meth c H locs cells slots Q (F0 m pc ls (.int (nI y) :: .int (nI i) :: .ref a :: rest)) := by
  have e : upd (fun j => nI (g j)) i (nI y) = fun j => nI (va_up g i y j) := by
    funext j
    unfold upd va_up
    split <;> rfl
  refine wi_iast hx hb hK hP hD hS q0 t0 ha ht hi hn hdg ?_
  rw [e]
  exact kk
end SM
theorem nd_CB_has_0 : decode nc_CB_has 0 = .ok (.iload_n 0, 1) := by decide +kernel
theorem nd_CB_has_1 : decode nc_CB_has 1 = .ok (.iload_n 1, 1) := by decide +kernel
theorem nd_CB_has_2 : decode nc_CB_has 2 = .ok (.ishr, 1) := by decide +kernel
theorem nd_CB_has_3 : decode nc_CB_has 3 = .ok (.iconst 1, 1) := by decide +kernel
theorem nd_CB_has_4 : decode nc_CB_has 4 = .ok (.iand, 1) := by decide +kernel
theorem nd_CB_has_5 : decode nc_CB_has 5 = .ok (.ifCond .eq 7, 3) := by decide +kernel
theorem nd_CB_has_8 : decode nc_CB_has 8 = .ok (.iconst 1, 1) := by decide +kernel
theorem nd_CB_has_9 : decode nc_CB_has 9 = .ok (.goto 4, 3) := by decide +kernel
theorem nd_CB_has_12 : decode nc_CB_has 12 = .ok (.iconst 0, 1) := by decide +kernel
theorem nd_CB_has_13 : decode nc_CB_has 13 = .ok (.ireturn, 1) := by decide +kernel
set_option maxRecDepth 20000 in
theorem c_CB_has (l : Launch) (D : va_G) (tys : List (ClassId × FieldType)) (s e : Nat) (hs : s < 2 ^ 31) (he : e < 32) : wa_M l ny_CB_has nc_CB_has 2 (some .boolean) ({ frames := 0, cells := 0, slots := 0, locals := 0 }) D tys ([]) [.int (nI (s)), .int (nI (e))] (nI (mt_bt s e)) := by
  refine wa_start (by decide) (Nat.le_of_ble_eq_true rfl) ?_
  intro p e0 s0 m below meth c ls hx hb hr hml htg hown hk hP hK hN hl
  have hl : lv_has ls 2 [(0, .int (nI (s))), (1, .int (nI (e)))] := hl
  refine lv_iload_n hx hb nd_CB_has_0 rfl (lv_at hl 0 rfl) ?_
  refine lv_iload_n hx hb nd_CB_has_1 rfl (lv_at hl 1 rfl) ?_
  refine wi_ishr hx hb (by omega) (by omega) nd_CB_has_2 ?_
  refine wi_ic hx hb (a := 1) nd_CB_has_3 ?_
  refine wi_bit hx hb nd_CB_has_4 ?_
  have hbt4 := mt_bt_lt s e
  refine wi_if_eq (tgt := 12) hx hb (by omega) nd_CB_has_5 rfl (fun hc5 => ?_) (fun hc5 => ?_)
  · refine wi_ic hx hb (a := 0) nd_CB_has_12 ?_
    exact wa_zret hx hb hr hk rfl (congrArg nI (by omega)) nd_CB_has_13
  · refine wi_ic hx hb (a := 1) nd_CB_has_8 ?_
    refine lv_goto (tgt := 13) hx hb nd_CB_has_9 rfl ?_
    exact wa_zret hx hb hr hk rfl (congrArg nI (by omega)) nd_CB_has_13
theorem nd_CB_isMatroid_0 : decode nc_CB_isMatroid 0 = .ok (.iload_n 0, 1) := by decide +kernel
theorem nd_CB_isMatroid_1 : decode nc_CB_isMatroid 1 = .ok (.ifCond .eq 8, 3) := by decide +kernel
theorem nd_CB_isMatroid_4 : decode nc_CB_isMatroid 4 = .ok (.iload_n 0, 1) := by decide +kernel
theorem nd_CB_isMatroid_5 : decode nc_CB_isMatroid 5 = .ok (.iconst 1, 1) := by decide +kernel
theorem nd_CB_isMatroid_6 : decode nc_CB_isMatroid 6 = .ok (.if_icmp .ne 7, 3) := by decide +kernel
theorem nd_CB_isMatroid_9 : decode nc_CB_isMatroid 9 = .ok (.iconst 1, 1) := by decide +kernel
theorem nd_CB_isMatroid_10 : decode nc_CB_isMatroid 10 = .ok (.goto 4, 3) := by decide +kernel
theorem nd_CB_isMatroid_13 : decode nc_CB_isMatroid 13 = .ok (.iconst 0, 1) := by decide +kernel
theorem nd_CB_isMatroid_14 : decode nc_CB_isMatroid 14 = .ok (.ireturn, 1) := by decide +kernel
set_option maxRecDepth 20000 in
theorem c_CB_isMatroid (l : Launch) (D : va_G) (tys : List (ClassId × FieldType)) (x r : Int32) (h1 : (x = 0 ∨ x = nI 1) → r = 1) (h0 : ¬ (x = 0 ∨ x = nI 1) → r = 0) : wa_M l ny_CB_isMatroid nc_CB_isMatroid 1 (some .boolean) ({ frames := 0, cells := 0, slots := 0, locals := 0 }) D tys ([]) [.int (x)] (r) := by
  refine wa_start (by decide) (Nat.le_of_ble_eq_true rfl) ?_
  intro p e0 s0 m below meth c ls hx hb hr hml htg hown hk hP hK hN hl
  have hl : lv_has ls 1 [(0, .int (x))] := hl
  refine lv_iload_n hx hb nd_CB_isMatroid_0 rfl (lv_at hl 0 rfl) ?_
  refine lv_if_eq (tgt := 9) hx hb nd_CB_isMatroid_1 rfl (fun hc1 => ?_) (fun hc1 => ?_)
  · refine wi_ic hx hb (a := 1) nd_CB_isMatroid_9 ?_
    refine lv_goto (tgt := 14) hx hb nd_CB_isMatroid_10 rfl ?_
    exact wa_zret hx hb hr hk rfl ((h1 (by simp_all)).symm) nd_CB_isMatroid_14
  · refine lv_iload_n hx hb nd_CB_isMatroid_4 rfl (lv_at hl 0 rfl) ?_
    refine wi_ic hx hb (a := 1) nd_CB_isMatroid_5 ?_
    refine lv_icmp_ne (tgt := 13) hx hb nd_CB_isMatroid_6 rfl (fun hc6 => ?_) (fun hc6 => ?_)
    · refine wi_ic hx hb (a := 0) nd_CB_isMatroid_13 ?_
      exact wa_zret hx hb hr hk rfl ((h0 (by simp_all)).symm) nd_CB_isMatroid_14
    · refine wi_ic hx hb (a := 1) nd_CB_isMatroid_9 ?_
      refine lv_goto (tgt := 14) hx hb nd_CB_isMatroid_10 rfl ?_
      exact wa_zret hx hb hr hk rfl ((h1 (by simp_all)).symm) nd_CB_isMatroid_14
theorem nd_CM_isWhich_0 : decode nc_CM_isWhich 0 = .ok (.iload_n 0, 1) := by decide +kernel
theorem nd_CM_isWhich_1 : decode nc_CM_isWhich 1 = .ok (.ifCond .eq 8, 3) := by decide +kernel
theorem nd_CM_isWhich_4 : decode nc_CM_isWhich 4 = .ok (.iload_n 0, 1) := by decide +kernel
theorem nd_CM_isWhich_5 : decode nc_CM_isWhich 5 = .ok (.iconst 1, 1) := by decide +kernel
theorem nd_CM_isWhich_6 : decode nc_CM_isWhich 6 = .ok (.if_icmp .ne 7, 3) := by decide +kernel
theorem nd_CM_isWhich_9 : decode nc_CM_isWhich 9 = .ok (.iconst 1, 1) := by decide +kernel
theorem nd_CM_isWhich_10 : decode nc_CM_isWhich 10 = .ok (.goto 4, 3) := by decide +kernel
theorem nd_CM_isWhich_13 : decode nc_CM_isWhich 13 = .ok (.iconst 0, 1) := by decide +kernel
theorem nd_CM_isWhich_14 : decode nc_CM_isWhich 14 = .ok (.ireturn, 1) := by decide +kernel
set_option maxRecDepth 20000 in
theorem c_CM_isWhich (l : Launch) (D : va_G) (tys : List (ClassId × FieldType)) (x r : Int32) (h1 : (x = 0 ∨ x = nI 1) → r = 1) (h0 : ¬ (x = 0 ∨ x = nI 1) → r = 0) : wa_M l ny_CM_isWhich nc_CM_isWhich 1 (some .boolean) ({ frames := 0, cells := 0, slots := 0, locals := 0 }) D tys ([]) [.int (x)] (r) := by
  refine wa_start (by decide) (Nat.le_of_ble_eq_true rfl) ?_
  intro p e0 s0 m below meth c ls hx hb hr hml htg hown hk hP hK hN hl
  have hl : lv_has ls 1 [(0, .int (x))] := hl
  refine lv_iload_n hx hb nd_CM_isWhich_0 rfl (lv_at hl 0 rfl) ?_
  refine lv_if_eq (tgt := 9) hx hb nd_CM_isWhich_1 rfl (fun hc1 => ?_) (fun hc1 => ?_)
  · refine wi_ic hx hb (a := 1) nd_CM_isWhich_9 ?_
    refine lv_goto (tgt := 14) hx hb nd_CM_isWhich_10 rfl ?_
    exact wa_zret hx hb hr hk rfl ((h1 (by simp_all)).symm) nd_CM_isWhich_14
  · refine lv_iload_n hx hb nd_CM_isWhich_4 rfl (lv_at hl 0 rfl) ?_
    refine wi_ic hx hb (a := 1) nd_CM_isWhich_5 ?_
    refine lv_icmp_ne (tgt := 13) hx hb nd_CM_isWhich_6 rfl (fun hc6 => ?_) (fun hc6 => ?_)
    · refine wi_ic hx hb (a := 0) nd_CM_isWhich_13 ?_
      exact wa_zret hx hb hr hk rfl ((h0 (by simp_all)).symm) nd_CM_isWhich_14
    · refine wi_ic hx hb (a := 1) nd_CM_isWhich_9 ?_
      refine lv_goto (tgt := 14) hx hb nd_CM_isWhich_10 rfl ?_
      exact wa_zret hx hb hr hk rfl ((h1 (by simp_all)).symm) nd_CM_isWhich_14
theorem nd_CB_isUpTo_0 : decode nc_CB_isUpTo 0 = .ok (.iload_n 0, 1) := by decide +kernel
theorem nd_CB_isUpTo_1 : decode nc_CB_isUpTo 1 = .ok (.ifCond .lt 12, 3) := by decide +kernel
theorem nd_CB_isUpTo_4 : decode nc_CB_isUpTo 4 = .ok (.iload_n 0, 1) := by decide +kernel
theorem nd_CB_isUpTo_5 : decode nc_CB_isUpTo 5 = .ok (.iload_n 1, 1) := by decide +kernel
theorem nd_CB_isUpTo_6 : decode nc_CB_isUpTo 6 = .ok (.if_icmp .gt 7, 3) := by decide +kernel
theorem nd_CB_isUpTo_9 : decode nc_CB_isUpTo 9 = .ok (.iconst 1, 1) := by decide +kernel
theorem nd_CB_isUpTo_10 : decode nc_CB_isUpTo 10 = .ok (.goto 4, 3) := by decide +kernel
theorem nd_CB_isUpTo_13 : decode nc_CB_isUpTo 13 = .ok (.iconst 0, 1) := by decide +kernel
theorem nd_CB_isUpTo_14 : decode nc_CB_isUpTo 14 = .ok (.ireturn, 1) := by decide +kernel
set_option maxRecDepth 20000 in
theorem c_CB_isUpTo (l : Launch) (D : va_G) (tys : List (ClassId × FieldType)) (x y r : Int32) (h1 : (¬ x < 0 ∧ ¬ y < x) → r = 1) (h0 : ¬ (¬ x < 0 ∧ ¬ y < x) → r = 0) : wa_M l ny_CB_isUpTo nc_CB_isUpTo 2 (some .boolean) ({ frames := 0, cells := 0, slots := 0, locals := 0 }) D tys ([]) [.int (x), .int (y)] (r) := by
  refine wa_start (by decide) (Nat.le_of_ble_eq_true rfl) ?_
  intro p e0 s0 m below meth c ls hx hb hr hml htg hown hk hP hK hN hl
  have hl : lv_has ls 2 [(0, .int (x)), (1, .int (y))] := hl
  refine lv_iload_n hx hb nd_CB_isUpTo_0 rfl (lv_at hl 0 rfl) ?_
  refine lv_if_lt (tgt := 13) hx hb nd_CB_isUpTo_1 rfl (fun hc1 => ?_) (fun hc1 => ?_)
  · refine wi_ic hx hb (a := 0) nd_CB_isUpTo_13 ?_
    exact wa_zret hx hb hr hk rfl ((h0 (by simp_all)).symm) nd_CB_isUpTo_14
  · refine lv_iload_n hx hb nd_CB_isUpTo_4 rfl (lv_at hl 0 rfl) ?_
    refine lv_iload_n hx hb nd_CB_isUpTo_5 rfl (lv_at hl 1 rfl) ?_
    refine lv_icmp_gt (tgt := 13) hx hb nd_CB_isUpTo_6 rfl (fun hc6 => ?_) (fun hc6 => ?_)
    · refine wi_ic hx hb (a := 0) nd_CB_isUpTo_13 ?_
      exact wa_zret hx hb hr hk rfl ((h0 (by simp_all)).symm) nd_CB_isUpTo_14
    · refine wi_ic hx hb (a := 1) nd_CB_isUpTo_9 ?_
      refine lv_goto (tgt := 14) hx hb nd_CB_isUpTo_10 rfl ?_
      exact wa_zret hx hb hr hk rfl ((h1 (by simp_all)).symm) nd_CB_isUpTo_14
theorem nd_CB_isModulus_0 : decode nc_CB_isModulus 0 = .ok (.iload_n 0, 1) := by decide +kernel
theorem nd_CB_isModulus_1 : decode nc_CB_isModulus 1 = .ok (.iconst 2, 1) := by decide +kernel
theorem nd_CB_isModulus_2 : decode nc_CB_isModulus 2 = .ok (.if_icmp .eq 19, 3) := by decide +kernel
theorem nd_CB_isModulus_5 : decode nc_CB_isModulus 5 = .ok (.iload_n 0, 1) := by decide +kernel
theorem nd_CB_isModulus_6 : decode nc_CB_isModulus 6 = .ok (.iconst 3, 1) := by decide +kernel
theorem nd_CB_isModulus_7 : decode nc_CB_isModulus 7 = .ok (.if_icmp .eq 14, 3) := by decide +kernel
theorem nd_CB_isModulus_10 : decode nc_CB_isModulus 10 = .ok (.iload_n 0, 1) := by decide +kernel
theorem nd_CB_isModulus_11 : decode nc_CB_isModulus 11 = .ok (.iconst 5, 1) := by decide +kernel
theorem nd_CB_isModulus_12 : decode nc_CB_isModulus 12 = .ok (.if_icmp .eq 9, 3) := by decide +kernel
theorem nd_CB_isModulus_15 : decode nc_CB_isModulus 15 = .ok (.iload_n 0, 1) := by decide +kernel
theorem nd_CB_isModulus_16 : decode nc_CB_isModulus 16 = .ok (.bipush 7, 2) := by decide +kernel
theorem nd_CB_isModulus_18 : decode nc_CB_isModulus 18 = .ok (.if_icmp .ne 7, 3) := by decide +kernel
theorem nd_CB_isModulus_21 : decode nc_CB_isModulus 21 = .ok (.iconst 1, 1) := by decide +kernel
theorem nd_CB_isModulus_22 : decode nc_CB_isModulus 22 = .ok (.goto 4, 3) := by decide +kernel
theorem nd_CB_isModulus_25 : decode nc_CB_isModulus 25 = .ok (.iconst 0, 1) := by decide +kernel
theorem nd_CB_isModulus_26 : decode nc_CB_isModulus 26 = .ok (.ireturn, 1) := by decide +kernel
set_option maxRecDepth 20000 in
theorem c_CB_isModulus (l : Launch) (D : va_G) (tys : List (ClassId × FieldType)) (x r : Int32) (h1 : (x = nI 2 ∨ x = nI 3 ∨ x = nI 5 ∨ x = nI 7) → r = 1) (h0 : ¬ (x = nI 2 ∨ x = nI 3 ∨ x = nI 5 ∨ x = nI 7) → r = 0) : wa_M l ny_CB_isModulus nc_CB_isModulus 1 (some .boolean) ({ frames := 0, cells := 0, slots := 0, locals := 0 }) D tys ([]) [.int (x)] (r) := by
  refine wa_start (by decide) (Nat.le_of_ble_eq_true rfl) ?_
  intro p e0 s0 m below meth c ls hx hb hr hml htg hown hk hP hK hN hl
  have hl : lv_has ls 1 [(0, .int (x))] := hl
  refine lv_iload_n hx hb nd_CB_isModulus_0 rfl (lv_at hl 0 rfl) ?_
  refine wi_ic hx hb (a := 2) nd_CB_isModulus_1 ?_
  refine lv_icmp_eq (tgt := 21) hx hb nd_CB_isModulus_2 rfl (fun hc2 => ?_) (fun hc2 => ?_)
  · refine wi_ic hx hb (a := 1) nd_CB_isModulus_21 ?_
    refine lv_goto (tgt := 26) hx hb nd_CB_isModulus_22 rfl ?_
    exact wa_zret hx hb hr hk rfl ((h1 (by simp_all)).symm) nd_CB_isModulus_26
  · refine lv_iload_n hx hb nd_CB_isModulus_5 rfl (lv_at hl 0 rfl) ?_
    refine wi_ic hx hb (a := 3) nd_CB_isModulus_6 ?_
    refine lv_icmp_eq (tgt := 21) hx hb nd_CB_isModulus_7 rfl (fun hc7 => ?_) (fun hc7 => ?_)
    · refine wi_ic hx hb (a := 1) nd_CB_isModulus_21 ?_
      refine lv_goto (tgt := 26) hx hb nd_CB_isModulus_22 rfl ?_
      exact wa_zret hx hb hr hk rfl ((h1 (by simp_all)).symm) nd_CB_isModulus_26
    · refine lv_iload_n hx hb nd_CB_isModulus_10 rfl (lv_at hl 0 rfl) ?_
      refine wi_ic hx hb (a := 5) nd_CB_isModulus_11 ?_
      refine lv_icmp_eq (tgt := 21) hx hb nd_CB_isModulus_12 rfl (fun hc12 => ?_) (fun hc12 => ?_)
      · refine wi_ic hx hb (a := 1) nd_CB_isModulus_21 ?_
        refine lv_goto (tgt := 26) hx hb nd_CB_isModulus_22 rfl ?_
        exact wa_zret hx hb hr hk rfl ((h1 (by simp_all)).symm) nd_CB_isModulus_26
      · refine lv_iload_n hx hb nd_CB_isModulus_15 rfl (lv_at hl 0 rfl) ?_
        refine lv_bipush (v := nI 7) hx hb nd_CB_isModulus_16 (by decide) ?_
        refine lv_icmp_ne (tgt := 25) hx hb nd_CB_isModulus_18 rfl (fun hc18 => ?_) (fun hc18 => ?_)
        · refine wi_ic hx hb (a := 0) nd_CB_isModulus_25 ?_
          exact wa_zret hx hb hr hk rfl ((h0 (by simp_all)).symm) nd_CB_isModulus_26
        · refine wi_ic hx hb (a := 1) nd_CB_isModulus_21 ?_
          refine lv_goto (tgt := 26) hx hb nd_CB_isModulus_22 rfl ?_
          exact wa_zret hx hb hr hk rfl ((h1 (by simp_all)).symm) nd_CB_isModulus_26
theorem nd_CB_isElement_0 : decode nc_CB_isElement 0 = .ok (.iload_n 1, 1) := by decide +kernel
theorem nd_CB_isElement_1 : decode nc_CB_isElement 1 = .ok (.ifCond .lt 15, 3) := by decide +kernel
theorem nd_CB_isElement_4 : decode nc_CB_isElement 4 = .ok (.iload_n 1, 1) := by decide +kernel
theorem nd_CB_isElement_5 : decode nc_CB_isElement 5 = .ok (.aload_n 0, 1) := by decide +kernel
theorem nd_CB_isElement_6 : decode nc_CB_isElement 6 = .ok (.getfield 9, 3) := by decide +kernel
theorem nd_CB_isElement_9 : decode nc_CB_isElement 9 = .ok (.if_icmp .ge 7, 3) := by decide +kernel
theorem nd_CB_isElement_12 : decode nc_CB_isElement 12 = .ok (.iconst 1, 1) := by decide +kernel
theorem nd_CB_isElement_13 : decode nc_CB_isElement 13 = .ok (.goto 4, 3) := by decide +kernel
theorem nd_CB_isElement_16 : decode nc_CB_isElement 16 = .ok (.iconst 0, 1) := by decide +kernel
theorem nd_CB_isElement_17 : decode nc_CB_isElement 17 = .ok (.ireturn, 1) := by decide +kernel
set_option maxRecDepth 20000 in
theorem c_CB_isElement (l : Launch) (D : va_G) (tys : List (ClassId × FieldType)) (q0 q1 q2 n : Nat) (x r : Int32) (h1 : (¬ x < 0 ∧ ¬ nI n ≤ x) → r = 1) (h0 : ¬ (¬ x < 0 ∧ ¬ nI n ≤ x) → r = 0) : wa_M l ny_CB_isElement nc_CB_isElement 2 (some .boolean) ({ frames := 0, cells := 0, slots := 0, locals := 0 }) D tys ([(q0, .inr (0, [.int (nI (n)), .int (nI (2 ^ n - 1)), .ref q1, .ref q2]))]) [.ref q0, .int (x)] (r) := by
  refine wa_start (by decide) (Nat.le_of_ble_eq_true rfl) ?_
  intro p e0 s0 m below meth c ls hx hb hr hml htg hown hk hP hK hN hl
  have hl : lv_has ls 2 [(0, .ref q0), (1, .int (x))] := hl
  refine lv_iload_n hx hb nd_CB_isElement_0 rfl (lv_at hl 1 rfl) ?_
  refine lv_if_lt (tgt := 16) hx hb nd_CB_isElement_1 rfl (fun hc1 => ?_) (fun hc1 => ?_)
  · refine wi_ic hx hb (a := 0) nd_CB_isElement_16 ?_
    exact wa_zret hx hb hr hk rfl ((h0 (by simp_all)).symm) nd_CB_isElement_17
  · refine lv_iload_n hx hb nd_CB_isElement_4 rfl (lv_at hl 1 rfl) ?_
    refine lv_aload_n hx hb nd_CB_isElement_5 rfl (lv_at hl 0 rfl) ?_
    refine va_get (D := D) (C := nr_CB) (T := nt_CB) (N := 4) hx hb htg tf_CB hown hK hP 0 rfl rfl 0 (by decide) (htg _ tm_122) (fun _ h => h) rfl nd_CB_isElement_6 ?_
    refine lv_icmp_ge (tgt := 16) hx hb nd_CB_isElement_9 rfl (fun hc9 => ?_) (fun hc9 => ?_)
    · refine wi_ic hx hb (a := 0) nd_CB_isElement_16 ?_
      exact wa_zret hx hb hr hk rfl ((h0 (by simp_all)).symm) nd_CB_isElement_17
    · refine wi_ic hx hb (a := 1) nd_CB_isElement_12 ?_
      refine lv_goto (tgt := 17) hx hb nd_CB_isElement_13 rfl ?_
      exact wa_zret hx hb hr hk rfl ((h1 (by simp_all)).symm) nd_CB_isElement_17
theorem nd_CB_isSet_0 : decode nc_CB_isSet 0 = .ok (.iload_n 1, 1) := by decide +kernel
theorem nd_CB_isSet_1 : decode nc_CB_isSet 1 = .ok (.ifCond .lt 15, 3) := by decide +kernel
theorem nd_CB_isSet_4 : decode nc_CB_isSet 4 = .ok (.iload_n 1, 1) := by decide +kernel
theorem nd_CB_isSet_5 : decode nc_CB_isSet 5 = .ok (.aload_n 0, 1) := by decide +kernel
theorem nd_CB_isSet_6 : decode nc_CB_isSet 6 = .ok (.getfield 13, 3) := by decide +kernel
theorem nd_CB_isSet_9 : decode nc_CB_isSet 9 = .ok (.if_icmp .gt 7, 3) := by decide +kernel
theorem nd_CB_isSet_12 : decode nc_CB_isSet 12 = .ok (.iconst 1, 1) := by decide +kernel
theorem nd_CB_isSet_13 : decode nc_CB_isSet 13 = .ok (.goto 4, 3) := by decide +kernel
theorem nd_CB_isSet_16 : decode nc_CB_isSet 16 = .ok (.iconst 0, 1) := by decide +kernel
theorem nd_CB_isSet_17 : decode nc_CB_isSet 17 = .ok (.ireturn, 1) := by decide +kernel
set_option maxRecDepth 20000 in
theorem c_CB_isSet (l : Launch) (D : va_G) (tys : List (ClassId × FieldType)) (q0 q1 q2 n : Nat) (x r : Int32) (h1 : (¬ x < 0 ∧ ¬ nI (2 ^ n - 1) < x) → r = 1) (h0 : ¬ (¬ x < 0 ∧ ¬ nI (2 ^ n - 1) < x) → r = 0) : wa_M l ny_CB_isSet nc_CB_isSet 2 (some .boolean) ({ frames := 0, cells := 0, slots := 0, locals := 0 }) D tys ([(q0, .inr (0, [.int (nI (n)), .int (nI (2 ^ n - 1)), .ref q1, .ref q2]))]) [.ref q0, .int (x)] (r) := by
  refine wa_start (by decide) (Nat.le_of_ble_eq_true rfl) ?_
  intro p e0 s0 m below meth c ls hx hb hr hml htg hown hk hP hK hN hl
  have hl : lv_has ls 2 [(0, .ref q0), (1, .int (x))] := hl
  refine lv_iload_n hx hb nd_CB_isSet_0 rfl (lv_at hl 1 rfl) ?_
  refine lv_if_lt (tgt := 16) hx hb nd_CB_isSet_1 rfl (fun hc1 => ?_) (fun hc1 => ?_)
  · refine wi_ic hx hb (a := 0) nd_CB_isSet_16 ?_
    exact wa_zret hx hb hr hk rfl ((h0 (by simp_all)).symm) nd_CB_isSet_17
  · refine lv_iload_n hx hb nd_CB_isSet_4 rfl (lv_at hl 1 rfl) ?_
    refine lv_aload_n hx hb nd_CB_isSet_5 rfl (lv_at hl 0 rfl) ?_
    refine va_get (D := D) (C := nr_CB) (T := nt_CB) (N := 4) hx hb htg tf_CB hown hK hP 0 rfl rfl 1 (by decide) (htg _ tm_123) (fun _ h => h) rfl nd_CB_isSet_6 ?_
    refine lv_icmp_gt (tgt := 16) hx hb nd_CB_isSet_9 rfl (fun hc9 => ?_) (fun hc9 => ?_)
    · refine wi_ic hx hb (a := 0) nd_CB_isSet_16 ?_
      exact wa_zret hx hb hr hk rfl ((h0 (by simp_all)).symm) nd_CB_isSet_17
    · refine wi_ic hx hb (a := 1) nd_CB_isSet_12 ?_
      refine lv_goto (tgt := 17) hx hb nd_CB_isSet_13 rfl ?_
      exact wa_zret hx hb hr hk rfl ((h1 (by simp_all)).symm) nd_CB_isSet_17
theorem nd_CM_isElement_0 : decode nc_CM_isElement 0 = .ok (.iload_n 1, 1) := by decide +kernel
theorem nd_CM_isElement_1 : decode nc_CM_isElement 1 = .ok (.ifCond .lt 15, 3) := by decide +kernel
theorem nd_CM_isElement_4 : decode nc_CM_isElement 4 = .ok (.iload_n 1, 1) := by decide +kernel
theorem nd_CM_isElement_5 : decode nc_CM_isElement 5 = .ok (.aload_n 0, 1) := by decide +kernel
theorem nd_CM_isElement_6 : decode nc_CM_isElement 6 = .ok (.getfield 49, 3) := by decide +kernel
theorem nd_CM_isElement_9 : decode nc_CM_isElement 9 = .ok (.if_icmp .ge 7, 3) := by decide +kernel
theorem nd_CM_isElement_12 : decode nc_CM_isElement 12 = .ok (.iconst 1, 1) := by decide +kernel
theorem nd_CM_isElement_13 : decode nc_CM_isElement 13 = .ok (.goto 4, 3) := by decide +kernel
theorem nd_CM_isElement_16 : decode nc_CM_isElement 16 = .ok (.iconst 0, 1) := by decide +kernel
theorem nd_CM_isElement_17 : decode nc_CM_isElement 17 = .ok (.ireturn, 1) := by decide +kernel
set_option maxRecDepth 20000 in
theorem c_CM_isElement (l : Launch) (D : va_G) (tys : List (ClassId × FieldType)) (q : Nat → Nat) (n : Nat) (x r : Int32) (h1 : (¬ x < 0 ∧ ¬ nI n ≤ x) → r = 1) (h0 : ¬ (¬ x < 0 ∧ ¬ nI n ≤ x) → r = 0) : wa_M l ny_CM_isElement nc_CM_isElement 2 (some .boolean) ({ frames := 0, cells := 0, slots := 0, locals := 0 }) D tys ([(q 0, .inr (6, [.int (nI (n)), .ref (q 2), .ref (q 3), .ref (q 4), .ref (q 5), .ref (q 6), .ref (q 7), .ref (q 8), .ref (q 9), .ref (q 10), .ref (q 11), .ref (q 12), .ref (q 13), .ref (q 14)]))]) [.ref (q 0), .int (x)] (r) := by
  refine wa_start (by decide) (Nat.le_of_ble_eq_true rfl) ?_
  intro p e0 s0 m below meth c ls hx hb hr hml htg hown hk hP hK hN hl
  have hl : lv_has ls 2 [(0, .ref (q 0)), (1, .int (x))] := hl
  refine lv_iload_n hx hb nd_CM_isElement_0 rfl (lv_at hl 1 rfl) ?_
  refine lv_if_lt (tgt := 16) hx hb nd_CM_isElement_1 rfl (fun hc1 => ?_) (fun hc1 => ?_)
  · refine wi_ic hx hb (a := 0) nd_CM_isElement_16 ?_
    exact wa_zret hx hb hr hk rfl ((h0 (by simp_all)).symm) nd_CM_isElement_17
  · refine lv_iload_n hx hb nd_CM_isElement_4 rfl (lv_at hl 1 rfl) ?_
    refine lv_aload_n hx hb nd_CM_isElement_5 rfl (lv_at hl 0 rfl) ?_
    refine va_get (D := D) (C := nr_CM) (T := nt_CM) (N := 14) hx hb htg tf_CM hown hK hP 0 rfl rfl 0 (by decide) (htg _ tm_383) (fun _ h => h) rfl nd_CM_isElement_6 ?_
    refine lv_icmp_ge (tgt := 16) hx hb nd_CM_isElement_9 rfl (fun hc9 => ?_) (fun hc9 => ?_)
    · refine wi_ic hx hb (a := 0) nd_CM_isElement_16 ?_
      exact wa_zret hx hb hr hk rfl ((h0 (by simp_all)).symm) nd_CM_isElement_17
    · refine wi_ic hx hb (a := 1) nd_CM_isElement_12 ?_
      refine lv_goto (tgt := 17) hx hb nd_CM_isElement_13 rfl ?_
      exact wa_zret hx hb hr hk rfl ((h1 (by simp_all)).symm) nd_CM_isElement_17
theorem nd_CM_isSet_0 : decode nc_CM_isSet 0 = .ok (.iload_n 1, 1) := by decide +kernel
theorem nd_CM_isSet_1 : decode nc_CM_isSet 1 = .ok (.ifCond .lt 17, 3) := by decide +kernel
theorem nd_CM_isSet_4 : decode nc_CM_isSet 4 = .ok (.iload_n 1, 1) := by decide +kernel
theorem nd_CM_isSet_5 : decode nc_CM_isSet 5 = .ok (.iconst 1, 1) := by decide +kernel
theorem nd_CM_isSet_6 : decode nc_CM_isSet 6 = .ok (.aload_n 0, 1) := by decide +kernel
theorem nd_CM_isSet_7 : decode nc_CM_isSet 7 = .ok (.getfield 49, 3) := by decide +kernel
theorem nd_CM_isSet_10 : decode nc_CM_isSet 10 = .ok (.ishl, 1) := by decide +kernel
theorem nd_CM_isSet_11 : decode nc_CM_isSet 11 = .ok (.if_icmp .ge 7, 3) := by decide +kernel
theorem nd_CM_isSet_14 : decode nc_CM_isSet 14 = .ok (.iconst 1, 1) := by decide +kernel
theorem nd_CM_isSet_15 : decode nc_CM_isSet 15 = .ok (.goto 4, 3) := by decide +kernel
theorem nd_CM_isSet_18 : decode nc_CM_isSet 18 = .ok (.iconst 0, 1) := by decide +kernel
theorem nd_CM_isSet_19 : decode nc_CM_isSet 19 = .ok (.ireturn, 1) := by decide +kernel
set_option maxRecDepth 20000 in
theorem c_CM_isSet (l : Launch) (D : va_G) (tys : List (ClassId × FieldType)) (q : Nat → Nat) (n : Nat) (hn : n ≤ 10) (x r : Int32) (h1 : (¬ x < 0 ∧ ¬ nI (2 ^ n) ≤ x) → r = 1) (h0 : ¬ (¬ x < 0 ∧ ¬ nI (2 ^ n) ≤ x) → r = 0) : wa_M l ny_CM_isSet nc_CM_isSet 2 (some .boolean) ({ frames := 0, cells := 0, slots := 0, locals := 0 }) D tys ([(q 0, .inr (6, [.int (nI (n)), .ref (q 2), .ref (q 3), .ref (q 4), .ref (q 5), .ref (q 6), .ref (q 7), .ref (q 8), .ref (q 9), .ref (q 10), .ref (q 11), .ref (q 12), .ref (q 13), .ref (q 14)]))]) [.ref (q 0), .int (x)] (r) := by
  refine wa_start (by decide) (Nat.le_of_ble_eq_true rfl) ?_
  intro p e0 s0 m below meth c ls hx hb hr hml htg hown hk hP hK hN hl
  have hl : lv_has ls 2 [(0, .ref (q 0)), (1, .int (x))] := hl
  refine lv_iload_n hx hb nd_CM_isSet_0 rfl (lv_at hl 1 rfl) ?_
  refine lv_if_lt (tgt := 18) hx hb nd_CM_isSet_1 rfl (fun hc1 => ?_) (fun hc1 => ?_)
  · refine wi_ic hx hb (a := 0) nd_CM_isSet_18 ?_
    exact wa_zret hx hb hr hk rfl ((h0 (by simp_all)).symm) nd_CM_isSet_19
  · refine lv_iload_n hx hb nd_CM_isSet_4 rfl (lv_at hl 1 rfl) ?_
    refine wi_ic hx hb (a := 1) nd_CM_isSet_5 ?_
    refine lv_aload_n hx hb nd_CM_isSet_6 rfl (lv_at hl 0 rfl) ?_
    refine va_get (D := D) (C := nr_CM) (T := nt_CM) (N := 14) hx hb htg tf_CM hown hK hP 0 rfl rfl 0 (by decide) (htg _ tm_383) (fun _ h => h) rfl nd_CM_isSet_7 ?_
    refine wi_ishl1 hx hb (by omega) nd_CM_isSet_10 ?_
    refine lv_icmp_ge (tgt := 18) hx hb nd_CM_isSet_11 rfl (fun hc11 => ?_) (fun hc11 => ?_)
    · refine wi_ic hx hb (a := 0) nd_CM_isSet_18 ?_
      exact wa_zret hx hb hr hk rfl ((h0 (by simp_all)).symm) nd_CM_isSet_19
    · refine wi_ic hx hb (a := 1) nd_CM_isSet_14 ?_
      refine lv_goto (tgt := 19) hx hb nd_CM_isSet_15 rfl ?_
      exact wa_zret hx hb hr hk rfl ((h1 (by simp_all)).symm) nd_CM_isSet_19
def bc_1 (x : Int32) : Int32 := x - ((x.toUInt32 >>> ((nI 1).toUInt32 &&& Int32.toUInt32 31)).toInt32 &&& 1431655765)
def bc_2 (x : Int32) : Int32 := (x &&& 858993459) + ((x.toUInt32 >>> ((nI 2).toUInt32 &&& Int32.toUInt32 31)).toInt32 &&& 858993459)
def bc_3 (x : Int32) : Int32 := (x + (x.toUInt32 >>> ((nI 4).toUInt32 &&& Int32.toUInt32 31)).toInt32) &&& 252645135
def bc_4 (x : Int32) : Int32 := x + (x.toUInt32 >>> ((nI 8).toUInt32 &&& Int32.toUInt32 31)).toInt32
def bc_5 (x : Int32) : Int32 := x + (x.toUInt32 >>> ((nI 16).toUInt32 &&& Int32.toUInt32 31)).toInt32
theorem bc_t : (List.range 1024).all (fun s => bc_5 (bc_4 (bc_3 (bc_2 (bc_1 (nI s))))) &&& nI 63 == nI (mt_cd 10 s)) = true := by decide +kernel
theorem bc_ok {s : Nat} (h : s < 1024) : bc_5 (bc_4 (bc_3 (bc_2 (bc_1 (nI s))))) &&& nI 63 = nI (mt_cd 10 s) := eq_of_beq (List.all_eq_true.mp bc_t s (List.mem_range.mpr h))
theorem nd_IN_bitCount_0 : decode nc_IN_bitCount 0 = .ok (.iload_n 0, 1) := by decide +kernel
theorem nd_IN_bitCount_1 : decode nc_IN_bitCount 1 = .ok (.iload_n 0, 1) := by decide +kernel
theorem nd_IN_bitCount_2 : decode nc_IN_bitCount 2 = .ok (.iconst 1, 1) := by decide +kernel
theorem nd_IN_bitCount_3 : decode nc_IN_bitCount 3 = .ok (.iushr, 1) := by decide +kernel
theorem nd_IN_bitCount_4 : decode nc_IN_bitCount 4 = .ok (.ldc_w 265, 3) := by decide +kernel
theorem nd_IN_bitCount_7 : decode nc_IN_bitCount 7 = .ok (.iand, 1) := by decide +kernel
theorem nd_IN_bitCount_8 : decode nc_IN_bitCount 8 = .ok (.isub, 1) := by decide +kernel
theorem nd_IN_bitCount_9 : decode nc_IN_bitCount 9 = .ok (.istore_n 0, 1) := by decide +kernel
theorem nd_IN_bitCount_10 : decode nc_IN_bitCount 10 = .ok (.iload_n 0, 1) := by decide +kernel
theorem nd_IN_bitCount_11 : decode nc_IN_bitCount 11 = .ok (.ldc_w 266, 3) := by decide +kernel
theorem nd_IN_bitCount_14 : decode nc_IN_bitCount 14 = .ok (.iand, 1) := by decide +kernel
theorem nd_IN_bitCount_15 : decode nc_IN_bitCount 15 = .ok (.iload_n 0, 1) := by decide +kernel
theorem nd_IN_bitCount_16 : decode nc_IN_bitCount 16 = .ok (.iconst 2, 1) := by decide +kernel
theorem nd_IN_bitCount_17 : decode nc_IN_bitCount 17 = .ok (.iushr, 1) := by decide +kernel
theorem nd_IN_bitCount_18 : decode nc_IN_bitCount 18 = .ok (.ldc_w 266, 3) := by decide +kernel
theorem nd_IN_bitCount_21 : decode nc_IN_bitCount 21 = .ok (.iand, 1) := by decide +kernel
theorem nd_IN_bitCount_22 : decode nc_IN_bitCount 22 = .ok (.iadd, 1) := by decide +kernel
theorem nd_IN_bitCount_23 : decode nc_IN_bitCount 23 = .ok (.istore_n 0, 1) := by decide +kernel
theorem nd_IN_bitCount_24 : decode nc_IN_bitCount 24 = .ok (.iload_n 0, 1) := by decide +kernel
theorem nd_IN_bitCount_25 : decode nc_IN_bitCount 25 = .ok (.iload_n 0, 1) := by decide +kernel
theorem nd_IN_bitCount_26 : decode nc_IN_bitCount 26 = .ok (.iconst 4, 1) := by decide +kernel
theorem nd_IN_bitCount_27 : decode nc_IN_bitCount 27 = .ok (.iushr, 1) := by decide +kernel
theorem nd_IN_bitCount_28 : decode nc_IN_bitCount 28 = .ok (.iadd, 1) := by decide +kernel
theorem nd_IN_bitCount_29 : decode nc_IN_bitCount 29 = .ok (.ldc_w 267, 3) := by decide +kernel
theorem nd_IN_bitCount_32 : decode nc_IN_bitCount 32 = .ok (.iand, 1) := by decide +kernel
theorem nd_IN_bitCount_33 : decode nc_IN_bitCount 33 = .ok (.istore_n 0, 1) := by decide +kernel
theorem nd_IN_bitCount_34 : decode nc_IN_bitCount 34 = .ok (.iload_n 0, 1) := by decide +kernel
theorem nd_IN_bitCount_35 : decode nc_IN_bitCount 35 = .ok (.iload_n 0, 1) := by decide +kernel
theorem nd_IN_bitCount_36 : decode nc_IN_bitCount 36 = .ok (.bipush 8, 2) := by decide +kernel
theorem nd_IN_bitCount_38 : decode nc_IN_bitCount 38 = .ok (.iushr, 1) := by decide +kernel
theorem nd_IN_bitCount_39 : decode nc_IN_bitCount 39 = .ok (.iadd, 1) := by decide +kernel
theorem nd_IN_bitCount_40 : decode nc_IN_bitCount 40 = .ok (.istore_n 0, 1) := by decide +kernel
theorem nd_IN_bitCount_41 : decode nc_IN_bitCount 41 = .ok (.iload_n 0, 1) := by decide +kernel
theorem nd_IN_bitCount_42 : decode nc_IN_bitCount 42 = .ok (.iload_n 0, 1) := by decide +kernel
theorem nd_IN_bitCount_43 : decode nc_IN_bitCount 43 = .ok (.bipush 16, 2) := by decide +kernel
theorem nd_IN_bitCount_45 : decode nc_IN_bitCount 45 = .ok (.iushr, 1) := by decide +kernel
theorem nd_IN_bitCount_46 : decode nc_IN_bitCount 46 = .ok (.iadd, 1) := by decide +kernel
theorem nd_IN_bitCount_47 : decode nc_IN_bitCount 47 = .ok (.istore_n 0, 1) := by decide +kernel
theorem nd_IN_bitCount_48 : decode nc_IN_bitCount 48 = .ok (.iload_n 0, 1) := by decide +kernel
theorem nd_IN_bitCount_49 : decode nc_IN_bitCount 49 = .ok (.bipush 63, 2) := by decide +kernel
theorem nd_IN_bitCount_51 : decode nc_IN_bitCount 51 = .ok (.iand, 1) := by decide +kernel
theorem nd_IN_bitCount_52 : decode nc_IN_bitCount 52 = .ok (.ireturn, 1) := by decide +kernel
set_option maxRecDepth 20000 in
theorem c_IN_bitCount (l : Launch) (D : va_G) (tys : List (ClassId × FieldType)) (s : Nat) (hs : s < 1024) : wa_M l ny_IN_bitCount nc_IN_bitCount 1 (some .int) ({ frames := 0, cells := 0, slots := 0, locals := 0 }) D tys ([]) [.int (nI (s))] (nI (mt_cd 10 s)) := by
  refine wa_start (by decide) (Nat.le_of_ble_eq_true rfl) ?_
  intro p e0 s0 m below meth c ls hx hb hr hml htg hown hk hP hK hN hl
  have hl : lv_has ls 1 [(0, .int (nI (s)))] := hl
  refine lv_iload_n hx hb nd_IN_bitCount_0 rfl (lv_at hl 0 rfl) ?_
  refine lv_iload_n hx hb nd_IN_bitCount_1 rfl (lv_at hl 0 rfl) ?_
  refine wi_ic hx hb (a := 1) nd_IN_bitCount_2 ?_
  refine lv_iushr hx hb nd_IN_bitCount_3 rfl ?_
  refine lv_ldcw hx hb hown (htg _ tm_305) nd_IN_bitCount_4 ?_
  refine lv_iand hx hb nd_IN_bitCount_7 ?_
  refine lv_isub hx hb nd_IN_bitCount_8 ?_
  refine wi_top (y := bc_1 (nI s)) rfl ?_
  refine lv_topi (fun x1 ex1 => ?_)
  refine lv_istore_n hx hb nd_IN_bitCount_9 rfl hl (by decide) rfl (fun ls hl => ?_)
  have hl : lv_has ls 1 [(0, .int (x1))] := hl
  refine lv_iload_n hx hb nd_IN_bitCount_10 rfl (lv_at hl 0 rfl) ?_
  refine lv_ldcw hx hb hown (htg _ tm_306) nd_IN_bitCount_11 ?_
  refine lv_iand hx hb nd_IN_bitCount_14 ?_
  refine lv_iload_n hx hb nd_IN_bitCount_15 rfl (lv_at hl 0 rfl) ?_
  refine wi_ic hx hb (a := 2) nd_IN_bitCount_16 ?_
  refine lv_iushr hx hb nd_IN_bitCount_17 rfl ?_
  refine lv_ldcw hx hb hown (htg _ tm_306) nd_IN_bitCount_18 ?_
  refine lv_iand hx hb nd_IN_bitCount_21 ?_
  refine lv_iadd hx hb nd_IN_bitCount_22 ?_
  refine wi_top (y := bc_2 x1) rfl ?_
  refine lv_topi (fun x2 ex2 => ?_)
  refine lv_istore_n hx hb nd_IN_bitCount_23 rfl hl (by decide) rfl (fun ls hl => ?_)
  have hl : lv_has ls 1 [(0, .int (x2))] := hl
  refine lv_iload_n hx hb nd_IN_bitCount_24 rfl (lv_at hl 0 rfl) ?_
  refine lv_iload_n hx hb nd_IN_bitCount_25 rfl (lv_at hl 0 rfl) ?_
  refine wi_ic hx hb (a := 4) nd_IN_bitCount_26 ?_
  refine lv_iushr hx hb nd_IN_bitCount_27 rfl ?_
  refine lv_iadd hx hb nd_IN_bitCount_28 ?_
  refine lv_ldcw hx hb hown (htg _ tm_307) nd_IN_bitCount_29 ?_
  refine lv_iand hx hb nd_IN_bitCount_32 ?_
  refine wi_top (y := bc_3 x2) rfl ?_
  refine lv_topi (fun x3 ex3 => ?_)
  refine lv_istore_n hx hb nd_IN_bitCount_33 rfl hl (by decide) rfl (fun ls hl => ?_)
  have hl : lv_has ls 1 [(0, .int (x3))] := hl
  refine lv_iload_n hx hb nd_IN_bitCount_34 rfl (lv_at hl 0 rfl) ?_
  refine lv_iload_n hx hb nd_IN_bitCount_35 rfl (lv_at hl 0 rfl) ?_
  refine lv_bipush (v := nI 8) hx hb nd_IN_bitCount_36 (by decide) ?_
  refine lv_iushr hx hb nd_IN_bitCount_38 rfl ?_
  refine lv_iadd hx hb nd_IN_bitCount_39 ?_
  refine wi_top (y := bc_4 x3) rfl ?_
  refine lv_topi (fun x4 ex4 => ?_)
  refine lv_istore_n hx hb nd_IN_bitCount_40 rfl hl (by decide) rfl (fun ls hl => ?_)
  have hl : lv_has ls 1 [(0, .int (x4))] := hl
  refine lv_iload_n hx hb nd_IN_bitCount_41 rfl (lv_at hl 0 rfl) ?_
  refine lv_iload_n hx hb nd_IN_bitCount_42 rfl (lv_at hl 0 rfl) ?_
  refine lv_bipush (v := nI 16) hx hb nd_IN_bitCount_43 (by decide) ?_
  refine lv_iushr hx hb nd_IN_bitCount_45 rfl ?_
  refine lv_iadd hx hb nd_IN_bitCount_46 ?_
  refine wi_top (y := bc_5 x4) rfl ?_
  refine lv_topi (fun x5 ex5 => ?_)
  refine lv_istore_n hx hb nd_IN_bitCount_47 rfl hl (by decide) rfl (fun ls hl => ?_)
  have hl : lv_has ls 1 [(0, .int (x5))] := hl
  refine lv_iload_n hx hb nd_IN_bitCount_48 rfl (lv_at hl 0 rfl) ?_
  refine lv_bipush (v := nI 63) hx hb nd_IN_bitCount_49 (by decide) ?_
  refine lv_iand hx hb nd_IN_bitCount_51 ?_
  exact wa_iret hx hb hr hk (by subst ex5; subst ex4; subst ex3; subst ex2; subst ex1; exact bc_ok hs) nd_IN_bitCount_52
theorem fm_rem {a m : Int32} : (a - (a / m) * m).toInt = a.toInt.tmod m.toInt := rem_toInt a m
