/-! Rows of arrays of arrays; what the kinds answer: UNIFORM, GRAPHIC, CLASSES. -/
def rw_R (cA : ClassId) (k : Nat) (re : Nat → Nat) (M : Nat → Nat → Int32) (n : Nat) : va_W := (List.range n).map (fun e => (re e, .inl (cA, k, .inl (M e))))
theorem rw_len (cA : ClassId) (k : Nat) (re : Nat → Nat) (M : Nat → Nat → Int32) (n : Nat) : (rw_R cA k re M n).length = n := by simp [rw_R]
theorem rw_get {cA : ClassId} {k : Nat} {re : Nat → Nat} {M : Nat → Nat → Int32} {n e : Nat} (h : e < n) : (rw_R cA k re M n)[e]? = some (re e, .inl (cA, k, .inl (M e))) := by
  unfold rw_R
  rw [List.getElem?_map, List.getElem?_range h]
  rfl
theorem rw_atL {X Z : va_W} {cA : ClassId} {k : Nat} {re : Nat → Nat} {M : Nat → Nat → Int32} {n e : Nat} (h : e < n) : (X ++ (rw_R cA k re M n ++ Z))[X.length + e]? = some (re e, .inl (cA, k, .inl (M e))) := by
  rw [List.getElem?_append_right (by omega), Nat.add_sub_cancel_left, List.getElem?_append_left (by rw [rw_len]; exact h)]
  exact rw_get h
theorem rw_atR {X Z : va_W} {c1 cA : ClassId} {k1 k : Nat} {r1 re : Nat → Nat} {M1 M : Nat → Nat → Int32} {n1 n e : Nat} (h : e < n) : (X ++ (rw_R c1 k1 r1 M1 n1 ++ (rw_R cA k re M n ++ Z)))[X.length + (n1 + e)]? = some (re e, .inl (cA, k, .inl (M e))) := by
  rw [List.getElem?_append_right (by omega), Nat.add_sub_cancel_left, List.getElem?_append_right (by rw [rw_len]; omega), rw_len, Nat.add_sub_cancel_left, List.getElem?_append_left (by rw [rw_len]; exact h)]
  exact rw_get h
theorem rw_upd {cA : ClassId} {k : Nat} {re : Nat → Nat} {M : Nat → Nat → Int32} {n e : Nat} (r : Nat → Int32) : (rw_R cA k re M n).set e (re e, .inl (cA, k, .inl r)) = rw_R cA k re (va_up M e r) n := by
  apply List.ext_getElem?
  intro i
  by_cases hi : i < n
  · rw [rw_get hi]
    by_cases he : e = i
    · subst he
      rw [List.getElem?_set_self (by rw [rw_len]; exact hi), va_up_self]
    · rw [List.getElem?_set_ne he, rw_get hi, va_up_ne _ _ (fun q => he q.symm)]
  · rw [List.getElem?_eq_none (by rw [List.length_set, rw_len]; omega), List.getElem?_eq_none (by rw [rw_len]; omega)]
theorem rw_setL {X Z : va_W} {cA : ClassId} {k : Nat} {re : Nat → Nat} {M : Nat → Nat → Int32} {n e : Nat} {r : Nat → Int32} (h : e < n) : (X ++ (rw_R cA k re M n ++ Z)).set (X.length + e) (re e, .inl (cA, k, .inl r)) = X ++ (rw_R cA k re (va_up M e r) n ++ Z) := by
  rw [List.set_append_right _ _ (by omega), Nat.add_sub_cancel_left, List.set_append_left _ _ (by rw [rw_len]; exact h), rw_upd]
theorem rw_setR {X Z : va_W} {c1 cA : ClassId} {k1 k : Nat} {r1 re : Nat → Nat} {M1 M : Nat → Nat → Int32} {n1 n e : Nat} {r : Nat → Int32} (h : e < n) : (X ++ (rw_R c1 k1 r1 M1 n1 ++ (rw_R cA k re M n ++ Z))).set (X.length + (n1 + e)) (re e, .inl (cA, k, .inl r)) = X ++ (rw_R c1 k1 r1 M1 n1 ++ (rw_R cA k re (va_up M e r) n ++ Z)) := by
  rw [List.set_append_right _ _ (by omega), Nat.add_sub_cancel_left, List.set_append_right _ _ (by rw [rw_len]; omega), rw_len, Nat.add_sub_cancel_left, List.set_append_left _ _ (by rw [rw_len]; exact h), rw_upd]
theorem wi_min (a b : Nat) (ha : a < 2 ^ 31) (hb : b < 2 ^ 31) : (if nI b < nI a then nI b else nI a) = nI (min a b) := by
  by_cases h : b < a
  · rw [if_pos ((nI_ltI hb ha).mpr h), Nat.min_eq_right (by omega)]
  · rw [if_neg (fun q => h ((nI_ltI hb ha).mp q)), Nat.min_eq_left (by omega)]
theorem nd_UK_findRank_0 : decode nc_UK_findRank 0 = .ok (.aload_n 0, 1) := by decide +kernel
theorem nd_UK_findRank_1 : decode nc_UK_findRank 1 = .ok (.getfield 7, 3) := by decide +kernel
theorem nd_UK_findRank_4 : decode nc_UK_findRank 4 = .ok (.iload_n 1, 1) := by decide +kernel
theorem nd_UK_findRank_5 : decode nc_UK_findRank 5 = .ok (.invokestatic 13, 3) := by decide +kernel
theorem nd_UK_findRank_8 : decode nc_UK_findRank 8 = .ok (.invokestatic 19, 3) := by decide +kernel
theorem nd_UK_findRank_11 : decode nc_UK_findRank 11 = .ok (.ireturn, 1) := by decide +kernel
set_option maxRecDepth 20000 in
theorem c_UK_findRank (l : Launch) (D : va_G) (cI cG cM : ClassId)  (u0 k : Nat) (hk0 : k < 2 ^ 31) (s : Nat) (hs : s < 1024) (sz : Nat) : wb_Mi l ny_UK_findRank nc_UK_findRank 2 (some .int) ({ frames := 1, cells := 0, slots := 0, locals := 21 }) D (ty_all cI cG cM) ([(u0, .inr (2, [.int (nI (k))]))]) sz [.ref u0, .int (nI (s))] (fun (v : Int32) (u : Unit) => v = nI (min k (mt_cd 10 s))) (fun u : Unit => [(u0, .inr (2, [.int (nI (k))]))]) := by
  refine wb_start (S := Unit) (by decide) (Nat.le_of_ble_eq_true rfl) ?_
  intro p e0 s0 m below meth c ls A hx hb hr hml htg hown hk hP hK hN hl hAe hsz hD hA
  have hl : lv_has ls 2 [(0, .ref u0), (1, .int (nI (s)))] := hl
  have hS : va_S A s0.heap s0.heap [] := va_S.rf
  have hRf : 1 ≤ ({ frames := 1, cells := 0, slots := 0, locals := 21 } : Room).frames := Nat.le_refl _
  have hRl : 21 ≤ ({ frames := 1, cells := 0, slots := 0, locals := 21 } : Room).locals := Nat.le_refl _
  have hCS : 0 ≤ ({ frames := 1, cells := 0, slots := 0, locals := 21 } : Room).cells ∧ 0 ≤ ({ frames := 1, cells := 0, slots := 0, locals := 21 } : Room).slots := ⟨Nat.zero_le _, Nat.zero_le _⟩
  refine lv_aload_n hx hb nd_UK_findRank_0 rfl (lv_at hl 0 rfl) ?_
  refine va_get (D := D) (C := nr_UK) (T := nt_UK) (N := 1) hx hb htg tf_UK hown hK hP 0 rfl rfl 0 (by decide) (htg _ tm_37) (fun _ h => h) rfl nd_UK_findRank_1 ?_
  refine lv_iload_n hx hb nd_UK_findRank_4 rfl (lv_at hl 1 rfl) ?_
  refine wc_S (n := 1) hx hb hml hown htg (c_IN_bitCount l D _ s (by omega)) tm_304 tm_302 tm_303 tm_12 (by decide +kernel) ⟨⟨Nat.le_trans (by decide) hRf, Nat.le_trans (by decide) hRl⟩, rfl, rfl⟩ (wa_pre wa_nil hK hN) rfl hl.1 rfl (Nat.le_of_ble_eq_true rfl) nd_UK_findRank_5 hCS ?_
  have hcd5 := mt_cd_le 10 s
  refine va_mmin hx hb (hml.trans hl.1.symm) hown (htg _ tm_308) (htg _ tm_274) (htg _ tm_10) (htg _ tm_275) (Nat.le_trans (by decide) hRf) (Nat.le_trans (Nat.le_of_ble_eq_true rfl) hRl) hCS.1 hCS.2 nd_UK_findRank_8 ?_
  refine wi_top (wi_min k (mt_cd 10 s) (by omega) (by omega)) ?_
  exact wb_iret (()) hx hb hr hk hAe (rfl) hP hD hS nd_UK_findRank_11
theorem nd_GK_joins_0 : decode nc_GK_joins 0 = .ok (.iload_n 1, 1) := by decide +kernel
theorem nd_GK_joins_1 : decode nc_GK_joins 1 = .ok (.iload_n 2, 1) := by decide +kernel
theorem nd_GK_joins_2 : decode nc_GK_joins 2 = .ok (.if_icmp .ne 5, 3) := by decide +kernel
theorem nd_GK_joins_5 : decode nc_GK_joins 5 = .ok (.iconst 0, 1) := by decide +kernel
theorem nd_GK_joins_6 : decode nc_GK_joins 6 = .ok (.ireturn, 1) := by decide +kernel
theorem nd_GK_joins_7 : decode nc_GK_joins 7 = .ok (.iconst 0, 1) := by decide +kernel
theorem nd_GK_joins_8 : decode nc_GK_joins 8 = .ok (.istore_n 3, 1) := by decide +kernel
theorem nd_GK_joins_9 : decode nc_GK_joins 9 = .ok (.iload_n 3, 1) := by decide +kernel
theorem nd_GK_joins_10 : decode nc_GK_joins 10 = .ok (.bipush 8, 2) := by decide +kernel
theorem nd_GK_joins_12 : decode nc_GK_joins 12 = .ok (.if_icmp .ge 26, 3) := by decide +kernel
theorem nd_GK_joins_15 : decode nc_GK_joins 15 = .ok (.aload_n 0, 1) := by decide +kernel
theorem nd_GK_joins_16 : decode nc_GK_joins 16 = .ok (.getfield 9, 3) := by decide +kernel
theorem nd_GK_joins_19 : decode nc_GK_joins 19 = .ok (.iload_n 3, 1) := by decide +kernel
theorem nd_GK_joins_20 : decode nc_GK_joins 20 = .ok (.iaload, 1) := by decide +kernel
theorem nd_GK_joins_21 : decode nc_GK_joins 21 = .ok (.iload_n 2, 1) := by decide +kernel
theorem nd_GK_joins_22 : decode nc_GK_joins 22 = .ok (.if_icmp .ne 10, 3) := by decide +kernel
theorem nd_GK_joins_25 : decode nc_GK_joins 25 = .ok (.aload_n 0, 1) := by decide +kernel
theorem nd_GK_joins_26 : decode nc_GK_joins 26 = .ok (.getfield 9, 3) := by decide +kernel
theorem nd_GK_joins_29 : decode nc_GK_joins 29 = .ok (.iload_n 3, 1) := by decide +kernel
theorem nd_GK_joins_30 : decode nc_GK_joins 30 = .ok (.iload_n 1, 1) := by decide +kernel
theorem nd_GK_joins_31 : decode nc_GK_joins 31 = .ok (.iastore, 1) := by decide +kernel
theorem nd_GK_joins_32 : decode nc_GK_joins 32 = .ok (.iinc 3 1, 3) := by decide +kernel
theorem nd_GK_joins_35 : decode nc_GK_joins 35 = .ok (.goto (-26), 3) := by decide +kernel
theorem nd_GK_joins_38 : decode nc_GK_joins 38 = .ok (.iconst 1, 1) := by decide +kernel
theorem nd_GK_joins_39 : decode nc_GK_joins 39 = .ok (.ireturn, 1) := by decide +kernel
set_option maxRecDepth 20000 in
theorem lp_GK_joins {p : Program} {l : Launch} {e0 : Env} {R : Room} {s0 : State} {m : MethodId} {args : Array Value} {below : List Frame} {meth : Method} {c : Code} {cells slots : Nat} {Q : State → Prop} {D : va_G} {A : Nat → Prop} (cI cG cM : ClassId) (g0 g1 g2 : Nat) (L : Nat → Nat) (hL : ∀ v, v < 8 → L v < 8) (a b : Nat) (ha : a < 8) (hb8 : b < 8)  (hx : p.tables.exec = Jvm.exec) (hb : c.code = nc_GK_joins) (hml : c.maxLocals = 4) (htg : ∀ w ∈ tg_, w.before args s0 = true) (hown : s0.vm.findClass ny_GK_joins.cls = some m.cls) (hK : va_K D cl_all (ty_all cI cG cM) s0) (hN : tn_K s0) (hA : ∀ q : Nat, s0.heap.size ≤ q → A q) (hRf : 0 ≤ R.frames) (hRl : 0 ≤ R.locals) (hCS : cells ≤ R.cells ∧ slots ≤ R.slots) (kx : ∀ (ls : Array Slot) (H : Heap) (locs : List Loc) (g : Nat → Int32), (∀ v, v < 8 → g v = nI (if L v = b then a else L v)) → lv_has ls 4 [(2, .int (nI (b)))] → va_P D cl_all ([(g0, .inr (3, [.ref g2, .ref g1])), (g1, .inl (cI, 8, .inl g))]) H → va_D A ([(g0, .inr (3, [.ref g2, .ref g1])), (g1, .inl (cI, 8, .inl g))]) → va_S A s0.heap H locs → W p l e0 R s0 m args below meth c H locs cells slots Q (F0 m 38 ls [])) : ∀ (f : Nat) (i : Nat) (g : Nat → Int32) (ls : Array Slot) (H : Heap) (locs : List Loc), 8 - i < f → (i ≤ 8) → (∀ v, v < 8 → g v = nI (if v < i ∧ L v = b then a else L v)) → lv_has ls 4 [(3, .int (nI (i))), (0, .ref g0), (1, .int (nI (a))), (2, .int (nI (b)))] → va_P D cl_all ([(g0, .inr (3, [.ref g2, .ref g1])), (g1, .inl (cI, 8, .inl g))]) H → va_D A ([(g0, .inr (3, [.ref g2, .ref g1])), (g1, .inl (cI, 8, .inl g))]) → va_S A s0.heap H locs → W p l e0 R s0 m args below meth c H locs cells slots Q (F0 m 9 ls []) := by
  intro f
  induction f with
  | zero => intro i g ls H locs hf; omega
  | succ f ih =>
    intro i g ls H locs hf hi hg hl hP hD hS
    have hgi : 8 ≤ i ∨ g i = nI (L i) := by
        by_cases q : 8 ≤ i
        · exact Or.inl q
        · right; rw [hg i (by omega)]; simp
    have hLi : 8 ≤ i ∨ L i < 8 := by
        by_cases q : 8 ≤ i
        · exact Or.inl q
        · exact Or.inr (hL i (by omega))
    refine lv_iload_n hx hb nd_GK_joins_9 rfl (lv_at hl 0 rfl) ?_
    refine lv_bipush (v := nI 8) hx hb nd_GK_joins_10 (by decide) ?_
    refine wi_icmp_ge (tgt := 38) hx hb (by omega) (by omega) nd_GK_joins_12 rfl (fun hc12 => ?_) (fun hc12 => ?_)
    · have hl : lv_has ls 4 [(2, .int (nI (b)))] := lv_sub hl [3] rfl
      exact kx ls H locs g (fun v hv => by rw [hg v hv]; simp [show v < i by omega]) hl hP hD hS
    · have hgi := hgi.resolve_left (by omega)
      have hLi := hLi.resolve_left (by omega)
      refine lv_aload_n hx hb nd_GK_joins_15 rfl (lv_at hl 1 rfl) ?_
      refine va_get (D := D) (C := nr_GK) (T := nt_GK) (N := 2) hx hb htg tf_GK hown hK hP 0 rfl rfl 1 (by decide) (htg _ tm_53) (fun _ h => h) rfl nd_GK_joins_16 ?_
      refine lv_iload_n hx hb nd_GK_joins_19 rfl (lv_at hl 0 rfl) ?_
      refine wi_iald hx hb hK hP 1 0 rfl rfl (by omega) (by omega) nd_GK_joins_20 ?_
      refine wi_top (hgi) ?_
      refine lv_iload_n hx hb nd_GK_joins_21 rfl (lv_at hl 3 rfl) ?_
      refine wi_icmp_ne (tgt := 32) hx hb (by omega) (by omega) nd_GK_joins_22 rfl (fun hc22 => ?_) (fun hc22 => ?_)
      · refine lv_iinc (k := 0) (v := nI (i + 1)) hx hb nd_GK_joins_32 hl rfl (wi_inc _ 1) (by decide) rfl (fun ls hl => ?_)
        have hl : lv_has ls 4 [(3, .int (nI (i + 1))), (0, .ref g0), (1, .int (nI (a))), (2, .int (nI (b)))] := hl
        refine lv_goto (tgt := 9) hx hb nd_GK_joins_35 rfl ?_
        have hl : lv_has ls 4 [(3, .int (nI (i + 1))), (0, .ref g0), (1, .int (nI (a))), (2, .int (nI (b)))] := lv_sub hl [0, 1, 2, 3] rfl
        exact ih (i + 1) g ls H locs (by omega) (by omega) (fun v hv => by
        by_cases q : v = i
        · subst q; simp [upd, hc22, show v < v + 1 by omega]; rw [hg v hv]; simp [hc22]
        · have e1 : (v < i + 1) = (v < i) := by apply propext; omega
          simp only [upd, q, if_false, e1]; exact hg v hv) hl hP hD hS
      · refine lv_aload_n hx hb nd_GK_joins_25 rfl (lv_at hl 1 rfl) ?_
        refine va_get (D := D) (C := nr_GK) (T := nt_GK) (N := 2) hx hb htg tf_GK hown hK hP 0 rfl rfl 1 (by decide) (htg _ tm_53) (fun _ h => h) rfl nd_GK_joins_26 ?_
        refine lv_iload_n hx hb nd_GK_joins_29 rfl (lv_at hl 0 rfl) ?_
        refine lv_iload_n hx hb nd_GK_joins_30 rfl (lv_at hl 2 rfl) ?_
        refine wi_iast hx hb hK hP hD hS 1 0 rfl rfl (by omega) (by omega) nd_GK_joins_31 (fun H locs hP hD hS => ?_)
        have hP : va_P D cl_all ([(g0, .inr (3, [.ref g2, .ref g1])), (g1, .inl (cI, 8, .inl (upd g i (nI (a)))))]) H := hP
        have hD : va_D A ([(g0, .inr (3, [.ref g2, .ref g1])), (g1, .inl (cI, 8, .inl (upd g i (nI (a)))))]) := hD
        refine lv_iinc (k := 0) (v := nI (i + 1)) hx hb nd_GK_joins_32 hl rfl (wi_inc _ 1) (by decide) rfl (fun ls hl => ?_)
        have hl : lv_has ls 4 [(3, .int (nI (i + 1))), (0, .ref g0), (1, .int (nI (a))), (2, .int (nI (b)))] := hl
        refine lv_goto (tgt := 9) hx hb nd_GK_joins_35 rfl ?_
        have hl : lv_has ls 4 [(3, .int (nI (i + 1))), (0, .ref g0), (1, .int (nI (a))), (2, .int (nI (b)))] := lv_sub hl [0, 1, 2, 3] rfl
        exact ih (i + 1) (upd g i (nI a)) ls H locs (by omega) (by omega) (fun v hv => by
        by_cases q : v = i
        · subst q; simp [upd, hc22, show v < v + 1 by omega]
        · have e1 : (v < i + 1) = (v < i) := by apply propext; omega
          simp only [upd, q, if_false, e1]; exact hg v hv) hl hP hD hS
set_option maxRecDepth 20000 in
theorem c_GK_joins (l : Launch) (D : va_G) (cI cG cM : ClassId)  (g0 g1 g2 : Nat) (g : Nat → Int32) (L : Nat → Nat) (hL : ∀ v, v < 8 → L v < 8) (hg : ∀ v, v < 8 → g v = nI (L v)) (a b : Nat) (ha : a < 8) (hb8 : b < 8) (sz : Nat) : wb_Mi l ny_GK_joins nc_GK_joins 4 (some .boolean) ({ frames := 0, cells := 0, slots := 0, locals := 0 }) D (ty_all cI cG cM) ([(g0, .inr (3, [.ref g2, .ref g1])), (g1, .inl (cI, 8, .inl g))]) sz [.ref g0, .int (nI (a)), .int (nI (b))] (fun (v : Int32) (u : Nat → Int32) => (a = b → v = nI 0 ∧ ∀ j, j < 8 → u j = nI (L j)) ∧ (¬ a = b → v = nI 1 ∧ ∀ j, j < 8 → u j = nI (if L j = b then a else L j))) (fun u : Nat → Int32 => [(g0, .inr (3, [.ref g2, .ref g1])), (g1, .inl (cI, 8, .inl u))]) := by
  refine wb_start (S := Nat → Int32) (by decide) (Nat.le_of_ble_eq_true rfl) ?_
  intro p e0 s0 m below meth c ls A hx hb hr hml htg hown hk hP hK hN hl hAe hsz hD hA
  have hl : lv_has ls 4 [(0, .ref g0), (1, .int (nI (a))), (2, .int (nI (b)))] := hl
  have hS : va_S A s0.heap s0.heap [] := va_S.rf
  have hRf : 0 ≤ ({ frames := 0, cells := 0, slots := 0, locals := 0 } : Room).frames := Nat.le_refl _
  have hRl : 0 ≤ ({ frames := 0, cells := 0, slots := 0, locals := 0 } : Room).locals := Nat.le_refl _
  have hCS : 0 ≤ ({ frames := 0, cells := 0, slots := 0, locals := 0 } : Room).cells ∧ 0 ≤ ({ frames := 0, cells := 0, slots := 0, locals := 0 } : Room).slots := ⟨Nat.zero_le _, Nat.zero_le _⟩
  refine lv_iload_n hx hb nd_GK_joins_0 rfl (lv_at hl 1 rfl) ?_
  refine lv_iload_n hx hb nd_GK_joins_1 rfl (lv_at hl 2 rfl) ?_
  refine wi_icmp_ne (tgt := 7) hx hb (by omega) (by omega) nd_GK_joins_2 rfl (fun hc2 => ?_) (fun hc2 => ?_)
  · refine wi_ic hx hb (a := 0) nd_GK_joins_7 ?_
    refine lv_istore_n hx hb nd_GK_joins_8 rfl hl (by decide) rfl (fun ls hl => ?_)
    have hl : lv_has ls 4 [(3, .int (nI (0))), (0, .ref g0), (1, .int (nI (a))), (2, .int (nI (b)))] := hl
    have hl : lv_has ls 4 [(3, .int (nI (0))), (0, .ref g0), (1, .int (nI (a))), (2, .int (nI (b)))] := lv_sub hl [0, 1, 2, 3] rfl
    refine lp_GK_joins cI cG cM g0 g1 g2 L hL a b ha hb8 hx hb hml htg hown hK hN hA hRf hRl hCS (fun ls H locs g2 hg2 hl hP hD hS => ?_) 9 0 g ls s0.heap [] (by omega) (by omega) (fun v hv => by rw [hg v hv]; simp) hl hP hD hS
    refine wi_ic hx hb (a := 1) nd_GK_joins_38 ?_
    exact wb_zret (g2) hx hb hr hk rfl hAe (⟨fun q => absurd q hc2, fun _ => ⟨rfl, hg2⟩⟩) hP hD hS nd_GK_joins_39
  · refine wi_ic hx hb (a := 0) nd_GK_joins_5 ?_
    exact wb_zret (g) hx hb hr hk rfl hAe (⟨fun _ => ⟨rfl, hg⟩, fun q => absurd hc2 q⟩) hP hD hS nd_GK_joins_6
