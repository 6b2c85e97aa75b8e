/-! What is known of the tables besides the good words; contracts that read, contracts that write; calls. -/
def tn_K (U : State) : Prop := (va_Nw (Cond.methodLinkNest "CommonBases$Matroid" (11) ny_UK_init "CommonBases") U) ∧ (va_Nw (Cond.methodLinkNest "CommonBases$UniformKind" (1) ny_KI_init "CommonBases") U) ∧ (va_Nw (Cond.fieldLinkNest "CommonBases$Matroid" (55) "CommonBases$UniformKind" "most" "I" "CommonBases") U) ∧ (va_Nw (Cond.methodLinkNest "CommonBases$GraphicKind" (3) ny_KI_init "CommonBases") U) ∧ (va_Nw (Cond.fieldLinkNest "CommonBases$Matroid" (69) "CommonBases$GraphicKind" "ends" "[[I" "CommonBases") U) ∧ (va_Nw (Cond.methodLinkNest "CommonBases$ClassesKind" (3) ny_KI_init "CommonBases") U) ∧ (va_Nw (Cond.fieldLinkNest "CommonBases$Matroid" (76) "CommonBases$ClassesKind" "classOf" "[I" "CommonBases") U) ∧ (va_Nw (Cond.fieldLinkNest "CommonBases$Matroid" (79) "CommonBases$ClassesKind" "caps" "[I" "CommonBases") U) ∧ (va_Nw (Cond.methodLinkNest "CommonBases$LinearKind" (3) ny_KI_init "CommonBases") U) ∧ (va_Nw (Cond.declares ny_KI_findRank) U) ∧ (va_Nw (Cond.methodLinkNest "CommonBases$ClassesKind" (27) ny_CB_has "CommonBases") U) ∧ (va_Nw (Cond.methodLinkNest "CommonBases$GraphicKind" (26) ny_CB_has "CommonBases") U) ∧ (va_Nw (Cond.methodLinkNest "CommonBases$LinearKind" (39) ny_CB_has "CommonBases") U) ∧ (va_Nw (Cond.castable "CommonBases$GraphicKind" "CommonBases$GraphicKind") U) ∧ (va_Nw (Cond.castable "CommonBases$ClassesKind" "CommonBases$ClassesKind") U) ∧ (va_Nw (Cond.castable "CommonBases$LinearKind" "CommonBases$LinearKind") U) ∧ (va_Nc nr_UK nr_GK U) ∧ (va_Nc nr_CK nr_GK U) ∧ (va_Nc nr_LK nr_GK U) ∧ (va_Nc nr_UK nr_CK U) ∧ (va_Nc nr_GK nr_CK U) ∧ (va_Nc nr_LK nr_CK U) ∧ (va_Nc nr_UK nr_LK U) ∧ (va_Nc nr_GK nr_LK U) ∧ (va_Nc nr_CK nr_LK U)
theorem tn_30 {U : State} (h : tn_K U) : va_Nw (Cond.methodLinkNest "CommonBases$Matroid" (11) ny_UK_init "CommonBases") U := h.1
theorem tn_33 {U : State} (h : tn_K U) : va_Nw (Cond.methodLinkNest "CommonBases$UniformKind" (1) ny_KI_init "CommonBases") U := h.2.1
theorem tn_38 {U : State} (h : tn_K U) : va_Nw (Cond.fieldLinkNest "CommonBases$Matroid" (55) "CommonBases$UniformKind" "most" "I" "CommonBases") U := h.2.2.1
theorem tn_48 {U : State} (h : tn_K U) : va_Nw (Cond.methodLinkNest "CommonBases$GraphicKind" (3) ny_KI_init "CommonBases") U := h.2.2.2.1
theorem tn_52 {U : State} (h : tn_K U) : va_Nw (Cond.fieldLinkNest "CommonBases$Matroid" (69) "CommonBases$GraphicKind" "ends" "[[I" "CommonBases") U := h.2.2.2.2.1
theorem tn_64 {U : State} (h : tn_K U) : va_Nw (Cond.methodLinkNest "CommonBases$ClassesKind" (3) ny_KI_init "CommonBases") U := h.2.2.2.2.2.1
theorem tn_66 {U : State} (h : tn_K U) : va_Nw (Cond.fieldLinkNest "CommonBases$Matroid" (76) "CommonBases$ClassesKind" "classOf" "[I" "CommonBases") U := h.2.2.2.2.2.2.1
theorem tn_68 {U : State} (h : tn_K U) : va_Nw (Cond.fieldLinkNest "CommonBases$Matroid" (79) "CommonBases$ClassesKind" "caps" "[I" "CommonBases") U := h.2.2.2.2.2.2.2.1
theorem tn_82 {U : State} (h : tn_K U) : va_Nw (Cond.methodLinkNest "CommonBases$LinearKind" (3) ny_KI_init "CommonBases") U := h.2.2.2.2.2.2.2.2.1
theorem tn_265 {U : State} (h : tn_K U) : va_Nw (Cond.declares ny_KI_findRank) U := h.2.2.2.2.2.2.2.2.2.1
theorem tn_270 {U : State} (h : tn_K U) : va_Nw (Cond.methodLinkNest "CommonBases$ClassesKind" (27) ny_CB_has "CommonBases") U := h.2.2.2.2.2.2.2.2.2.2.1
theorem tn_279 {U : State} (h : tn_K U) : va_Nw (Cond.methodLinkNest "CommonBases$GraphicKind" (26) ny_CB_has "CommonBases") U := h.2.2.2.2.2.2.2.2.2.2.2.1
theorem tn_287 {U : State} (h : tn_K U) : va_Nw (Cond.methodLinkNest "CommonBases$LinearKind" (39) ny_CB_has "CommonBases") U := h.2.2.2.2.2.2.2.2.2.2.2.2.1
theorem tn_570 {U : State} (h : tn_K U) : va_Nw (Cond.castable "CommonBases$GraphicKind" "CommonBases$GraphicKind") U := h.2.2.2.2.2.2.2.2.2.2.2.2.2.1
theorem tn_571 {U : State} (h : tn_K U) : va_Nw (Cond.castable "CommonBases$ClassesKind" "CommonBases$ClassesKind") U := h.2.2.2.2.2.2.2.2.2.2.2.2.2.2.1
theorem tn_572 {U : State} (h : tn_K U) : va_Nw (Cond.castable "CommonBases$LinearKind" "CommonBases$LinearKind") U := h.2.2.2.2.2.2.2.2.2.2.2.2.2.2.2.1
theorem tn_UK_GK {U : State} (h : tn_K U) : va_Nc nr_UK nr_GK U := h.2.2.2.2.2.2.2.2.2.2.2.2.2.2.2.2.1
theorem tn_CK_GK {U : State} (h : tn_K U) : va_Nc nr_CK nr_GK U := h.2.2.2.2.2.2.2.2.2.2.2.2.2.2.2.2.2.1
theorem tn_LK_GK {U : State} (h : tn_K U) : va_Nc nr_LK nr_GK U := h.2.2.2.2.2.2.2.2.2.2.2.2.2.2.2.2.2.2.1
theorem tn_UK_CK {U : State} (h : tn_K U) : va_Nc nr_UK nr_CK U := h.2.2.2.2.2.2.2.2.2.2.2.2.2.2.2.2.2.2.2.1
theorem tn_GK_CK {U : State} (h : tn_K U) : va_Nc nr_GK nr_CK U := h.2.2.2.2.2.2.2.2.2.2.2.2.2.2.2.2.2.2.2.2.1
theorem tn_LK_CK {U : State} (h : tn_K U) : va_Nc nr_LK nr_CK U := h.2.2.2.2.2.2.2.2.2.2.2.2.2.2.2.2.2.2.2.2.2.1
theorem tn_UK_LK {U : State} (h : tn_K U) : va_Nc nr_UK nr_LK U := h.2.2.2.2.2.2.2.2.2.2.2.2.2.2.2.2.2.2.2.2.2.2.1
theorem tn_GK_LK {U : State} (h : tn_K U) : va_Nc nr_GK nr_LK U := h.2.2.2.2.2.2.2.2.2.2.2.2.2.2.2.2.2.2.2.2.2.2.2.1
theorem tn_CK_LK {U : State} (h : tn_K U) : va_Nc nr_CK nr_LK U := h.2.2.2.2.2.2.2.2.2.2.2.2.2.2.2.2.2.2.2.2.2.2.2.2
theorem tn_warm {s U : State} (hW : s.WarmedH U.vm) (h : tn_K s) : tn_K U := ⟨va_Nw.warmM hW (tn_30 h), va_Nw.warmM hW (tn_33 h), va_Nw.warmF hW (tn_38 h), va_Nw.warmM hW (tn_48 h), va_Nw.warmF hW (tn_52 h), va_Nw.warmM hW (tn_64 h), va_Nw.warmF hW (tn_66 h), va_Nw.warmF hW (tn_68 h), va_Nw.warmM hW (tn_82 h), va_Nw.warmD hW (tn_265 h), va_Nw.warmM hW (tn_270 h), va_Nw.warmM hW (tn_279 h), va_Nw.warmM hW (tn_287 h), va_Nw.warmC hW (tn_570 h), va_Nw.warmC hW (tn_571 h), va_Nw.warmC hW (tn_572 h), va_Nc.moved hW.alike (tn_UK_GK h), va_Nc.moved hW.alike (tn_CK_GK h), va_Nc.moved hW.alike (tn_LK_GK h), va_Nc.moved hW.alike (tn_UK_CK h), va_Nc.moved hW.alike (tn_GK_CK h), va_Nc.moved hW.alike (tn_LK_CK h), va_Nc.moved hW.alike (tn_UK_LK h), va_Nc.moved hW.alike (tn_GK_LK h), va_Nc.moved hW.alike (tn_CK_LK h)⟩
theorem tn_same {u U : State} (q : u.vm = U.vm) (h : tn_K u) : tn_K U := ⟨va_Nw.same rfl q (tn_30 h), va_Nw.same rfl q (tn_33 h), va_Nw.same rfl q (tn_38 h), va_Nw.same rfl q (tn_48 h), va_Nw.same rfl q (tn_52 h), va_Nw.same rfl q (tn_64 h), va_Nw.same rfl q (tn_66 h), va_Nw.same rfl q (tn_68 h), va_Nw.same rfl q (tn_82 h), va_Nw.same rfl q (tn_265 h), va_Nw.same rfl q (tn_270 h), va_Nw.same rfl q (tn_279 h), va_Nw.same rfl q (tn_287 h), va_Nw.same rfl q (tn_570 h), va_Nw.same rfl q (tn_571 h), va_Nw.same rfl q (tn_572 h), va_Nc.moved (q ▸ Vm.Alike.refl _) (tn_UK_GK h), va_Nc.moved (q ▸ Vm.Alike.refl _) (tn_CK_GK h), va_Nc.moved (q ▸ Vm.Alike.refl _) (tn_LK_GK h), va_Nc.moved (q ▸ Vm.Alike.refl _) (tn_UK_CK h), va_Nc.moved (q ▸ Vm.Alike.refl _) (tn_GK_CK h), va_Nc.moved (q ▸ Vm.Alike.refl _) (tn_LK_CK h), va_Nc.moved (q ▸ Vm.Alike.refl _) (tn_UK_LK h), va_Nc.moved (q ▸ Vm.Alike.refl _) (tn_GK_LK h), va_Nc.moved (q ▸ Vm.Alike.refl _) (tn_CK_LK h)⟩
theorem tm_266 : (Cond.sameMethod nr_KI nr_KI "findRank" "(I)I") ∈ tg_ := tg_t 266 (by decide +kernel) (by decide +kernel)
theorem tf_of {C : String} {T : u_T} {N : Nat} (h : ∀ k, k < N → u_lay C T k ∈ tg_) : ∀ w ∈ u_ws C T N, w ∈ tg_ := fun w hw => by
  obtain ⟨k, hk, rfl⟩ := List.mem_map.mp hw
  exact h k (List.mem_range.mp hk)
theorem tf_CB : ∀ w ∈ u_ws nr_CB nt_CB 4, w ∈ tg_ := tf_of (fun k hk => by
  have q : k = 0 ∨ k = 1 ∨ k = 2 ∨ k = 3 := by omega
  rcases q with rfl | rfl | rfl | rfl
  · exact tm_126
  · exact tm_128
  · exact tm_130
  · exact tm_132)
theorem tf_MA : ∀ w ∈ u_ws nr_MA nt_MA 7, w ∈ tg_ := tf_of (fun k hk => by
  have q : k = 0 ∨ k = 1 ∨ k = 2 ∨ k = 3 ∨ k = 4 ∨ k = 5 ∨ k = 6 := by omega
  rcases q with rfl | rfl | rfl | rfl | rfl | rfl | rfl
  · exact tm_107
  · exact tm_109
  · exact tm_111
  · exact tm_113
  · exact tm_115
  · exact tm_117
  · exact tm_119)
theorem tf_UK : ∀ w ∈ u_ws nr_UK nt_UK 1, w ∈ tg_ := tf_of (fun k hk => by
  have q : k = 0 := by omega
  subst q
  exact tm_39)
theorem tf_GK : ∀ w ∈ u_ws nr_GK nt_GK 2, w ∈ tg_ := tf_of (fun k hk => by
  have q : k = 0 ∨ k = 1 := by omega
  rcases q with rfl | rfl
  · exact tm_54
  · exact tm_56)
theorem tf_CK : ∀ w ∈ u_ws nr_CK nt_CK 3, w ∈ tg_ := tf_of (fun k hk => by
  have q : k = 0 ∨ k = 1 ∨ k = 2 := by omega
  rcases q with rfl | rfl | rfl
  · exact tm_70
  · exact tm_72
  · exact tm_74)
theorem tf_LK : ∀ w ∈ u_ws nr_LK nt_LK 4, w ∈ tg_ := tf_of (fun k hk => by
  have q : k = 0 ∨ k = 1 ∨ k = 2 ∨ k = 3 := by omega
  rcases q with rfl | rfl | rfl | rfl
  · exact tm_88
  · exact tm_90
  · exact tm_92
  · exact tm_94)
theorem tf_CM : ∀ w ∈ u_ws nr_CM nt_CM 14, w ∈ tg_ := tf_of (fun k hk => by
  have q : k = 0 ∨ k = 1 ∨ k = 2 ∨ k = 3 ∨ k = 4 ∨ k = 5 ∨ k = 6 ∨ k = 7 ∨ k = 8 ∨ k = 9 ∨ k = 10 ∨ k = 11 ∨ k = 12 ∨ k = 13 := by omega
  rcases q with rfl | rfl | rfl | rfl | rfl | rfl | rfl | rfl | rfl | rfl | rfl | rfl | rfl | rfl
  · exact tm_397
  · exact tm_399
  · exact tm_401
  · exact tm_403
  · exact tm_405
  · exact tm_407
  · exact tm_409
  · exact tm_411
  · exact tm_413
  · exact tm_415
  · exact tm_417
  · exact tm_419
  · exact tm_421
  · exact tm_423)
theorem tg_g {w1 : Cond} (h : w1 ∈ tg_) : GoodIn tg_ (w1 :: tg_) := fun w hw => by
  have h1 : w ∈ tg_ := (List.mem_cons.mp hw).elim (fun e => e ▸ h) id
  exact ⟨h1, good_of_word (List.mem_filter.mp h1).2⟩
def wa_P (D : va_G) (tys : List (ClassId × FieldType)) (Y : va_W) : State → Prop := fun U => va_P D cl_all Y U.heap ∧ va_K D cl_all tys U ∧ tn_K U
def wb_P (D : va_G) (tys : List (ClassId × FieldType)) (Y : va_W) (sz : Nat) : State → Prop := fun U => U.heap.size = sz ∧ va_P D cl_all Y U.heap ∧ va_K D cl_all tys U ∧ tn_K U ∧ va_D (fun _ => True) Y
def wb_B {S : Type} (D : va_G) (Y : va_W) (sz : Nat) (Y' : S → va_W) : S → State → Prop := fun u t => va_P D cl_all (Y' u) t.heap ∧ va_D (va_A Y sz) (Y' u)
/-- a contract that reads and answers an int; one that writes and answers nothing, or an int -/
abbrev wa_M (l : Launch) (y : MethodName) (cc : ByteArray) (maxL : Nat) (ret : Option FieldType) (rm : Room) (D : va_G) (tys : List (ClassId × FieldType)) (Y : va_W) (av : List Value) (r : Int32) : Prop := Met l y (Cond.code y cc maxL ret :: tg_) rm (va_Pc av (wa_P D tys Y)) (QcRead r) 0 0 (fun _ => False)
abbrev wb_Mv {S : Type} (l : Launch) (y : MethodName) (cc : ByteArray) (maxL : Nat) (rm : Room) (D : va_G) (tys : List (ClassId × FieldType)) (Y : va_W) (sz : Nat) (av : List Value) (post : S → Prop) (Y' : S → va_W) : Prop := Met l y (Cond.code y cc maxL none :: tg_) rm (va_Pc av (wb_P D tys Y sz)) (va_Qv post (wb_B D Y sz Y') (va_A Y sz)) 0 0 (va_A Y sz)
abbrev wb_Mi {S : Type} (l : Launch) (y : MethodName) (cc : ByteArray) (maxL : Nat) (ret : Option FieldType) (rm : Room) (D : va_G) (tys : List (ClassId × FieldType)) (Y : va_W) (sz : Nat) (av : List Value) (post : Int32 → S → Prop) (Y' : S → va_W) : Prop := Met l y (Cond.code y cc maxL ret :: tg_) rm (va_Pc av (wb_P D tys Y sz)) (va_Qi post (wb_B D Y sz Y') (va_A Y sz)) 0 0 (va_A Y sz)
section WK
variable {p : Program} {l : Launch} {e : Env} {R : Room} {s : State} {m : MethodId} {args : Array Value} {below : List Frame} {meth : Method} {c : Code} {H : Heap} {locs : List Loc} {cells slots : Nat} {Q : State → Prop}
variable {cc : ByteArray} {pc : Nat} {ls : Array Slot} {rest : List Value} {D : va_G} {tys : List (ClassId × FieldType)} {Y : va_W} {av : List Value}
theorem wa_bl : FrameBlind (va_Pc av (wa_P D tys Y)) := fun a U g mk q => by
  obtain ⟨q0, qP, qK, qN⟩ := q
  exact ⟨q0, qP, va_K.moved (u := U) (U := U.calling g mk a) (Vm.Alike.refl U.vm) qK, tn_same (u := U) (U := U.calling g mk a) rfl qN⟩
theorem wa_pre (hP : va_P D cl_all Y H) (hK : va_K D cl_all tys s) (hN : tn_K s) : PreS s H (va_Pc av (wa_P D tys Y)) av :=
  ⟨wa_bl, fun U hU hW => ⟨rfl, by rw [hU]; exact hP, va_K.moved hW.alike hK, tn_warm hW hN⟩⟩
theorem wb_bl {sz : Nat} : FrameBlind (va_Pc av (wb_P D tys Y sz)) := fun a U g mk q => by
  obtain ⟨q0, q1, qP, qK, qN, qD⟩ := q
  exact ⟨q0, q1, qP, va_K.moved (u := U) (U := U.calling g mk a) (Vm.Alike.refl U.vm) qK, tn_same (u := U) (U := U.calling g mk a) rfl qN, qD⟩
theorem wb_pre {A : Nat → Prop} (hP : va_P D cl_all Y H) (hK : va_K D cl_all tys s) (hN : tn_K s) (hD : va_D A Y) : PreS s H (va_Pc av (wb_P D tys Y H.size)) av :=
  ⟨wb_bl, fun U hU hW => ⟨rfl, by rw [hU], by rw [hU]; exact hP, va_K.moved hW.alike hK, tn_warm hW hN, hD.weaken (fun _ _ _ _ => trivial)⟩⟩
/-- the start of a method that reads -/
theorem wa_start {y : MethodName} {maxL : Nat} {ret : Option FieldType} {rm : Room} {r : Int32} (hy : plainName y.cls = true) (hlen : (lg_sl av).length ≤ maxL)
    (body : ∀ (p : Program) (e : Env) (s : State) (m : MethodId) (below : List Frame) (meth : Method) (c : Code) (ls : Array Slot), p.tables.exec = Jvm.exec → c.code = cc → meth.sig.returnType = ret → c.maxLocals = maxL → (∀ w ∈ tg_, w.before av.toArray s = true) → s.vm.findClass y.cls = some m.cls → meth.locks = false → va_P D cl_all Y s.heap → va_K D cl_all tys s → tn_K s → lv_has ls maxL (lv_args 0 av) →
      W p l e rm s m av.toArray below meth c s.heap [] 0 0 (MQ below (QcRead r) av.toArray s 0 0 (fun _ => False)) (F0 m 0 ls [])) : wa_M l y cc maxL ret rm D tys Y av r := by
  refine Met.ofW (cc := cc) (maxL := maxL) (ret := ret) hy rfl ?_
  intro p e s m args below meth c s₁ B hml hv
  obtain ⟨rfl, hP, hK, hN⟩ := hv
  have hts := atoms_spec (ws := Cond.code y cc maxL ret :: tg_) B.pre
  have hl := lv_entry av (n := maxL) hlen
  rw [lg_entry_eq]
  exact body p e s m below meth c _ B.exec B.bytes B.returns hml (fun w h => hts w (List.mem_cons_of_mem _ h)) (findClass_of_methodNamed B.named) B.notSynchronized hP hK hN hl
/-- the start of a method that writes -/
theorem wb_start {S : Type} {y : MethodName} {maxL : Nat} {ret : Option FieldType} {rm : Room} {sz : Nat} {Qc : Array Value → State → Outcome → State → Prop} (hy : plainName y.cls = true) (hlen : (lg_sl av).length ≤ maxL)
    (body : ∀ (p : Program) (e : Env) (s : State) (m : MethodId) (below : List Frame) (meth : Method) (c : Code) (ls : Array Slot) (A : Nat → Prop), p.tables.exec = Jvm.exec → c.code = cc → meth.sig.returnType = ret → c.maxLocals = maxL → (∀ w ∈ tg_, w.before av.toArray s = true) → s.vm.findClass y.cls = some m.cls → meth.locks = false → va_P D cl_all Y s.heap → va_K D cl_all tys s → tn_K s → lv_has ls maxL (lv_args 0 av) → va_A Y sz = A → s.heap.size = sz → va_D A Y → (∀ q : Nat, s.heap.size ≤ q → A q) →
      W p l e rm s m av.toArray below meth c s.heap [] 0 0 (MQ below Qc av.toArray s 0 0 A) (F0 m 0 ls [])) : Met l y (Cond.code y cc maxL ret :: tg_) rm (va_Pc av (wb_P D tys Y sz)) Qc 0 0 (va_A Y sz) := by
  refine Met.ofW (cc := cc) (maxL := maxL) (ret := ret) hy rfl ?_
  intro p e s m args below meth c s₁ B hml hv
  obtain ⟨rfl, hsz, hP, hK, hN, hD0⟩ := hv
  have hts := atoms_spec (ws := Cond.code y cc maxL ret :: tg_) B.pre
  have hl := lv_entry av (n := maxL) hlen
  rw [lg_entry_eq]
  exact body p e s m below meth c _ (va_A Y sz) B.exec B.bytes B.returns hml (fun w h => hts w (List.mem_cons_of_mem _ h)) (findClass_of_methodNamed B.named) B.notSynchronized hP hK hN hl rfl hsz (hD0.self) (fun q h => Or.inr (by omega))
/-- the ends -/
theorem wa_iret {r v : Int32} (hx : p.tables.exec = Jvm.exec) (hb : c.code = cc) (hr : meth.sig.returnType = some .int) (hk : meth.locks = false) (hv : v = r) (hdg : decode cc pc = .ok (.ireturn, 1)) : W p l e R s m args below meth c s.heap [] 0 0 (MQ below (QcRead r) args s 0 0 (fun _ => False)) (F0 m pc ls [.int v]) :=
  W.iret hx hb hr (fun t ht _ => ⟨by rw [hv], ht⟩) (fun q h => by cases h) hdg hk
theorem wa_zret {r v : Int32} (hx : p.tables.exec = Jvm.exec) (hb : c.code = cc) (hr : meth.sig.returnType = some .boolean) (hk : meth.locks = false) (hn : narrow .boolean (.int v) = .int v) (hv : v = r) (hdg : decode cc pc = .ok (.ireturn, 1)) : W p l e R s m args below meth c s.heap [] 0 0 (MQ below (QcRead r) args s 0 0 (fun _ => False)) (F0 m pc ls [.int v]) :=
  W.zret (ty := .boolean) hx hb hr hn (fun t ht _ => ⟨by rw [hv], ht⟩) (fun q h => by cases h) hdg hk
theorem wb_vret {S : Type} {A : Nat → Prop} {sz : Nat} {post : S → Prop} {Y' : S → va_W} (u : S) (hx : p.tables.exec = Jvm.exec) (hb : c.code = cc) (hr : meth.sig.returnType = none) (hk : meth.locks = false) (hA : va_A Y sz = A) (hp : post u) (hP : va_P D cl_all (Y' u) H) (hD : va_D A (Y' u)) (hS : va_S A s.heap H locs) (hdg : decode cc pc = .ok (.return_, 1)) : W p l e R s m args below meth c H locs cells slots (MQ below (va_Qv post (wb_B D Y sz Y') (va_A Y sz)) args s cells slots A) (F0 m pc ls []) :=
  W.vret hx hb hr (fun t ht _ => ⟨⟨u, rfl, hp, by rw [ht]; exact hP, by rw [hA]; exact hD⟩, by rw [hA]; exact hS.F ht⟩) hS.2.2 hdg hk
theorem wb_iret {S : Type} {A : Nat → Prop} {sz : Nat} {v : Int32} {post : Int32 → S → Prop} {Y' : S → va_W} (u : S) (hx : p.tables.exec = Jvm.exec) (hb : c.code = cc) (hr : meth.sig.returnType = some .int) (hk : meth.locks = false) (hA : va_A Y sz = A) (hp : post v u) (hP : va_P D cl_all (Y' u) H) (hD : va_D A (Y' u)) (hS : va_S A s.heap H locs) (hdg : decode cc pc = .ok (.ireturn, 1)) : W p l e R s m args below meth c H locs cells slots (MQ below (va_Qi post (wb_B D Y sz Y') (va_A Y sz)) args s cells slots A) (F0 m pc ls [.int v]) :=
  W.iret hx hb hr (fun t ht _ => ⟨⟨v, u, rfl, hp, by rw [ht]; exact hP, by rw [hA]; exact hD⟩, by rw [hA]; exact hS.F ht⟩) hS.2.2 hdg hk
theorem wb_zret {S : Type} {A : Nat → Prop} {sz : Nat} {v : Int32} {post : Int32 → S → Prop} {Y' : S → va_W} (u : S) (hx : p.tables.exec = Jvm.exec) (hb : c.code = cc) (hr : meth.sig.returnType = some .boolean) (hk : meth.locks = false) (hn : narrow .boolean (.int v) = .int v) (hA : va_A Y sz = A) (hp : post v u) (hP : va_P D cl_all (Y' u) H) (hD : va_D A (Y' u)) (hS : va_S A s.heap H locs) (hdg : decode cc pc = .ok (.ireturn, 1)) : W p l e R s m args below meth c H locs cells slots (MQ below (va_Qi post (wb_B D Y sz Y') (va_A Y sz)) args s cells slots A) (F0 m pc ls [.int v]) :=
  W.zret (ty := .boolean) hx hb hr hn (fun t ht _ => ⟨⟨v, u, rfl, hp, by rw [ht]; exact hP, by rw [hA]; exact hD⟩, by rw [hA]; exact hS.F ht⟩) hS.2.2 hdg hk
-- calls of methods that read: static, of the nest's host, of an object
variable {y : MethodName} {bytes : ByteArray} {maxL nL n index : Nat} {ret : Option FieldType} {rm : Room} {own C host : String} {b : Addr} {As st : List Value} {r : Int32} {Pc : Array Value → State → Prop}
theorem wc_S (hx : p.tables.exec = Jvm.exec) (hb : c.code = cc) (hml : c.maxLocals = nL) (hown : s.vm.findClass own = some m.cls) (htg : ∀ w ∈ tg_, w.before args s = true) (hM : Met l y (Cond.code y bytes maxL ret :: tg_) rm Pc (QcRead r) 0 0 (fun _ => False)) (hc : Cond.code y bytes maxL ret ∈ tg_) (hl : Cond.methodLink own index y ∈ tg_) (hs : Cond.static y ∈ tg_) (hi : Cond.initialized y.cls ∈ tg_)
    (hd : y.cls ≠ "java/lang/invoke/MethodHandle" ∧ y.cls ≠ "java/lang/invoke/VarHandle" ∧ (parseMethodDescriptor y.desc).map (fun d => d.parameters.length) = some n) (hR : (rm.frames + 1 ≤ R.frames ∧ 8 + (maxL + 11) + rm.locals ≤ R.locals) ∧ rm.cells = 0 ∧ rm.slots = 0) (hp : PreS s H Pc As) (hn : As.length = n) (hsz : ls.size = nL) (hst : st = As.reverse ++ rest) (hW : (rest.map fun v => v.category).sum ≤ 8) (hdg : decode cc pc = .ok (.invokestatic index, 3)) (hf : cells ≤ R.cells ∧ slots ≤ R.slots)
    (kk : W p l e R s m args below meth c H locs cells slots Q (F0 m (pc + 3) ls (.int r :: rest))) : W p l e R s m args below meth c H locs cells slots Q (F0 m pc ls st) :=
  W.callR (W.runS (Ts := tg_) ⟨hx, hb, hml, hown, htg⟩ hM ⟨callB_of n htg (tg_g hc) rfl hR.2.1 hR.2.2 (htg _ hi) (htg _ hl) hd hR.1, htg _ hs⟩ hp rfl hn hsz hst (lv_room hW) hdg hf) kk
theorem wc_SN (hx : p.tables.exec = Jvm.exec) (hb : c.code = cc) (hml : c.maxLocals = nL) (hown : s.vm.findClass own = some m.cls) (htg : ∀ w ∈ tg_, w.before args s = true) (hM : Met l y (Cond.code y bytes maxL ret :: tg_) rm Pc (QcRead r) 0 0 (fun _ => False)) (hc : Cond.code y bytes maxL ret ∈ tg_) (hl : va_Nw (.methodLinkNest own index y host) s) (hs : Cond.static y ∈ tg_) (hi : Cond.initialized y.cls ∈ tg_)
    (hd : y.cls ≠ "java/lang/invoke/MethodHandle" ∧ y.cls ≠ "java/lang/invoke/VarHandle" ∧ (parseMethodDescriptor y.desc).map (fun d => d.parameters.length) = some n) (hR : (rm.frames + 1 ≤ R.frames ∧ 8 + (maxL + 11) + rm.locals ≤ R.locals) ∧ rm.cells = 0 ∧ rm.slots = 0) (hp : PreS s H Pc As) (hn : As.length = n) (hsz : ls.size = nL) (hst : st = As.reverse ++ rest) (hW : (rest.map fun v => v.category).sum ≤ 8) (hdg : decode cc pc = .ok (.invokestatic index, 3)) (hf : cells ≤ R.cells ∧ slots ≤ R.slots)
    (kk : W p l e R s m args below meth c H locs cells slots Q (F0 m (pc + 3) ls (.int r :: rest))) : W p l e R s m args below meth c H locs cells slots Q (F0 m pc ls st) :=
  W.callR (va_Run.run (va_runSN (Ts := tg_) ⟨hx, hb, hml, hown, htg⟩ hM ⟨va_cnB n htg (tg_g hc) rfl hR.2.1 hR.2.2 hl (htg _ hi) hd hR.1, htg _ hs, trivial⟩ hp rfl hn hsz hst (lv_room hW) hdg hf)) kk
theorem wc_V (hx : p.tables.exec = Jvm.exec) (hb : c.code = cc) (hml : c.maxLocals = nL) (hown : s.vm.findClass own = some m.cls) (htg : ∀ w ∈ tg_, w.before args s = true) (hM : Met l y (Cond.code y bytes maxL ret :: tg_) rm Pc (QcRead r) 0 0 (fun _ => False)) (hc : Cond.code y bytes maxL ret ∈ tg_) (hl : Cond.methodLink own index y ∈ tg_) (hs : Cond.instanceMethod y ∈ tg_) (he : Cond.selects C y y ∈ tg_) (hi : Cond.initialized y.cls ∈ tg_)
    (hd : y.cls ≠ "java/lang/invoke/MethodHandle" ∧ y.cls ≠ "java/lang/invoke/VarHandle" ∧ (parseMethodDescriptor y.desc).map (fun d => d.parameters.length) = some n) (hR : (rm.frames + 1 ≤ R.frames ∧ 8 + (maxL + 11) + rm.locals ≤ R.locals) ∧ rm.cells = 0 ∧ rm.slots = 0) (hp : PreS s H Pc (.ref b :: As)) (hq : ∃ cellB : Cell, H[b]? = some cellB ∧ cellB.vm.isStatics = false ∧ s.vm.findClass C = some cellB.cls) (hn : As.length = n) (hsz : ls.size = nL) (hst : st = As.reverse ++ .ref b :: rest) (hW : (rest.map fun v => v.category).sum ≤ 8) (hdg : decode cc pc = .ok (.invokevirtual index, 3)) (hf : cells ≤ R.cells ∧ slots ≤ R.slots)
    (kk : W p l e R s m args below meth c H locs cells slots Q (F0 m (pc + 3) ls (.int r :: rest))) : W p l e R s m args below meth c H locs cells slots Q (F0 m pc ls st) :=
  W.callR (W.runV (Ts := tg_) ⟨hx, hb, hml, hown, htg⟩ hM ⟨callB_of n htg (tg_g hc) rfl hR.2.1 hR.2.2 (htg _ hi) (htg _ hl) hd hR.1, htg _ hs, htg _ he⟩ ⟨hp.1, hq, hp.2⟩ rfl hn hsz hst (lv_room hW) hdg hf) kk
end WK
