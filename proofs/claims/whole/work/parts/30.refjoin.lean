/-! The reference: join, freeColumns, isFree. -/
theorem nI_ofInt (k : Nat) : nI k = Int32.ofInt (k : Int) := by
  apply Int32.toBitVec_inj.mp
  unfold nI
  simp
def js_ (c m : Nat → Nat) (Q r : Nat) (z : Int32 × Int32) : Int32 × Int32 := if Q.testBit r = true then (z.1 + z.2 * nI (c r) * nI (m (Q ^^^ 2 ^ r)), -z.2) else z
def jz_ (c m : Nat → Nat) (Q r : Nat) (z : Int × Int) : Int × Int := if Q.testBit r = true then (z.1 + z.2 * (c r : Int) * (m (Q ^^^ 2 ^ r) : Int), -z.2) else z
theorem jz_of (c m : Nat → Nat) (Q r : Nat) (z : Int × Int) : js_ c m Q r (Int32.ofInt z.1, Int32.ofInt z.2) = (Int32.ofInt (jz_ c m Q r z).1, Int32.ofInt (jz_ c m Q r z).2) := by
  unfold js_ jz_
  by_cases h : Q.testBit r = true
  · simp only [h, if_true]
    rw [nI_ofInt, nI_ofInt]
    rw [Int32.ofInt_add, Int32.ofInt_mul, Int32.ofInt_mul, Int32.ofInt_neg]
  · simp only [h]; rfl
theorem jz_4 (c m : Nat → Nat) {Q : Nat} (hQ : Q < 16) : (jz_ c m Q 0 (jz_ c m Q 1 (jz_ c m Q 2 (jz_ c m Q 3 (0, 1))))).1 = ml_wj (fun i => (c i : Int)) (fun q => (m q : Int)) Q := by
  refine ml_16 (P := fun Q => (jz_ c m Q 0 (jz_ c m Q 1 (jz_ c m Q 2 (jz_ c m Q 3 (0, 1))))).1 = ml_wj (fun i => (c i : Int)) (fun q => (m q : Int)) Q) ?_ hQ
  refine ⟨?_, ?_, ?_, ?_, ?_, ?_, ?_, ?_, ?_, ?_, ?_, ?_, ?_, ?_, ?_, ?_⟩ <;> simp [jz_, ml_wj, ml_sg, Nat.testBit, mt_cd] <;> omega
theorem ml_wj_b {c m : Nat → Nat} {p : Nat} (hp : p ≤ 7) (hc : ∀ i, i < 4 → c i < p) (hm : ∀ Q, Q < 16 → m Q < p) {Q : Nat} (hQ : Q < 16) : -200 ≤ ml_wj (fun i => (c i : Int)) (fun q => (m q : Int)) Q ∧ ml_wj (fun i => (c i : Int)) (fun q => (m q : Int)) Q ≤ 200 := by
  have key : ∀ r, r < 4 → -36 ≤ ml_sg Q r * (c r : Int) * (m (Q ^^^ 2 ^ r) : Int) ∧ ml_sg Q r * (c r : Int) * (m (Q ^^^ 2 ^ r) : Int) ≤ 36 := fun r hr => by
    have h1 := hc r hr
    have h2 := hm _ (ml_d4 Q hQ r hr)
    have h3 : c r * m (Q ^^^ 2 ^ r) ≤ 6 * 6 := Nat.mul_le_mul (by omega) (by omega)
    have h4 : ((c r * m (Q ^^^ 2 ^ r) : Nat) : Int) = (c r : Int) * (m (Q ^^^ 2 ^ r) : Int) := Int.natCast_mul _ _
    rw [Int.mul_assoc, ← h4]
    generalize c r * m (Q ^^^ 2 ^ r) = z at h3
    cases hb : Q.testBit r with
    | false => rw [(ml_sgv Q r).2 hb]; omega
    | true => rcases (ml_sgv Q r).1 hb with h | h <;> rw [h] <;> omega
  have k0 := key 0 (by omega)
  have k1 := key 1 (by omega)
  have k2 := key 2 (by omega)
  have k3 := key 3 (by omega)
  show -200 ≤ ml_sg Q 0 * (c 0 : Int) * (m (Q ^^^ 2 ^ 0) : Int) + ml_sg Q 1 * (c 1 : Int) * (m (Q ^^^ 2 ^ 1) : Int) + ml_sg Q 2 * (c 2 : Int) * (m (Q ^^^ 2 ^ 2) : Int) + ml_sg Q 3 * (c 3 : Int) * (m (Q ^^^ 2 ^ 3) : Int) ∧ ml_sg Q 0 * (c 0 : Int) * (m (Q ^^^ 2 ^ 0) : Int) + ml_sg Q 1 * (c 1 : Int) * (m (Q ^^^ 2 ^ 1) : Int) + ml_sg Q 2 * (c 2 : Int) * (m (Q ^^^ 2 ^ 2) : Int) + ml_sg Q 3 * (c 3 : Int) * (m (Q ^^^ 2 ^ 3) : Int) ≤ 200
  omega
theorem js_4 {c m : Nat → Nat} {p : Nat} (hp : p ≤ 7) (hc : ∀ i, i < 4 → c i < p) (hm : ∀ Q, Q < 16 → m Q < p) {Q : Nat} (hQ : Q < 16) : (js_ c m Q 0 (js_ c m Q 1 (js_ c m Q 2 (js_ c m Q 3 (nI 0, nI 1))))).1.toInt = ml_wj (fun i => (c i : Int)) (fun q => (m q : Int)) Q := by
  have h0 : (nI 0, nI 1) = (Int32.ofInt ((0, 1) : Int × Int).1, Int32.ofInt ((0, 1) : Int × Int).2) := rfl
  rw [h0, jz_of, jz_of, jz_of, jz_of]
  show (Int32.ofInt (jz_ c m Q 0 (jz_ c m Q 1 (jz_ c m Q 2 (jz_ c m Q 3 (0, 1))))).1).toInt = _
  rw [jz_4 c m hQ]
  have hb := ml_wj_b hp hc hm hQ
  exact Int32.toInt_ofInt_of_le (by omega) (by omega)
def fd_ (m : Nat → Nat) : Nat → Nat
  | 0 => 0
  | k + 1 => if fd_ m k = 0 ∧ m k = 0 then 0 else 1
theorem fd_01 (m : Nat → Nat) (k : Nat) : fd_ m k = 0 ∨ fd_ m k = 1 := by
  cases k with
  | zero => exact Or.inl rfl
  | succ k => simp only [fd_]; split; exact Or.inl rfl; exact Or.inr rfl
theorem fd_z (m : Nat → Nat) (k : Nat) : fd_ m k = 0 ↔ ∀ Q, Q < k → m Q = 0 := by
  induction k with
  | zero => exact ⟨fun _ Q hQ => by omega, fun _ => rfl⟩
  | succ k ih =>
    simp only [fd_]
    constructor
    · intro h Q hQ
      by_cases q : fd_ m k = 0 ∧ m k = 0
      · by_cases q2 : Q = k
        · rw [q2]; exact q.2
        · exact ih.mp q.1 Q (by omega)
      · rw [if_neg q] at h; omega
    · intro h
      exact if_pos ⟨ih.mpr (fun Q hQ => h Q (by omega)), h k (by omega)⟩
theorem nd_CM_join_0 : decode nc_CM_join 0 = .ok (.aload_n 0, 1) := by decide +kernel
theorem nd_CM_join_1 : decode nc_CM_join 1 = .ok (.getfield 19, 3) := by decide +kernel
theorem nd_CM_join_4 : decode nc_CM_join 4 = .ok (.iload_n 1, 1) := by decide +kernel
theorem nd_CM_join_5 : decode nc_CM_join 5 = .ok (.iaload, 1) := by decide +kernel
theorem nd_CM_join_6 : decode nc_CM_join 6 = .ok (.istore_n 3, 1) := by decide +kernel
theorem nd_CM_join_7 : decode nc_CM_join 7 = .ok (.iconst 0, 1) := by decide +kernel
theorem nd_CM_join_8 : decode nc_CM_join 8 = .ok (.istore 4, 2) := by decide +kernel
theorem nd_CM_join_10 : decode nc_CM_join 10 = .ok (.iload 4, 2) := by decide +kernel
theorem nd_CM_join_12 : decode nc_CM_join 12 = .ok (.bipush 16, 2) := by decide +kernel
theorem nd_CM_join_14 : decode nc_CM_join 14 = .ok (.if_icmp .ge 99, 3) := by decide +kernel
theorem nd_CM_join_17 : decode nc_CM_join 17 = .ok (.iconst 0, 1) := by decide +kernel
theorem nd_CM_join_18 : decode nc_CM_join 18 = .ok (.istore 5, 2) := by decide +kernel
theorem nd_CM_join_20 : decode nc_CM_join 20 = .ok (.iconst 1, 1) := by decide +kernel
theorem nd_CM_join_21 : decode nc_CM_join 21 = .ok (.istore 6, 2) := by decide +kernel
theorem nd_CM_join_23 : decode nc_CM_join 23 = .ok (.iconst 3, 1) := by decide +kernel
theorem nd_CM_join_24 : decode nc_CM_join 24 = .ok (.istore 7, 2) := by decide +kernel
theorem nd_CM_join_26 : decode nc_CM_join 26 = .ok (.iload 7, 2) := by decide +kernel
theorem nd_CM_join_28 : decode nc_CM_join 28 = .ok (.ifCond .lt 64, 3) := by decide +kernel
theorem nd_CM_join_31 : decode nc_CM_join 31 = .ok (.iload 4, 2) := by decide +kernel
theorem nd_CM_join_33 : decode nc_CM_join 33 = .ok (.iload 7, 2) := by decide +kernel
theorem nd_CM_join_35 : decode nc_CM_join 35 = .ok (.ishr, 1) := by decide +kernel
theorem nd_CM_join_36 : decode nc_CM_join 36 = .ok (.iconst 1, 1) := by decide +kernel
theorem nd_CM_join_37 : decode nc_CM_join 37 = .ok (.iand, 1) := by decide +kernel
theorem nd_CM_join_38 : decode nc_CM_join 38 = .ok (.iconst 1, 1) := by decide +kernel
theorem nd_CM_join_39 : decode nc_CM_join 39 = .ok (.if_icmp .ne 47, 3) := by decide +kernel
theorem nd_CM_join_42 : decode nc_CM_join 42 = .ok (.iload 5, 2) := by decide +kernel
theorem nd_CM_join_44 : decode nc_CM_join 44 = .ok (.iload 6, 2) := by decide +kernel
theorem nd_CM_join_46 : decode nc_CM_join 46 = .ok (.aload_n 0, 1) := by decide +kernel
theorem nd_CM_join_47 : decode nc_CM_join 47 = .ok (.getfield 34, 3) := by decide +kernel
theorem nd_CM_join_50 : decode nc_CM_join 50 = .ok (.bipush 40, 2) := by decide +kernel
theorem nd_CM_join_52 : decode nc_CM_join 52 = .ok (.iload_n 1, 1) := by decide +kernel
theorem nd_CM_join_53 : decode nc_CM_join 53 = .ok (.imul, 1) := by decide +kernel
theorem nd_CM_join_54 : decode nc_CM_join 54 = .ok (.iconst 4, 1) := by decide +kernel
theorem nd_CM_join_55 : decode nc_CM_join 55 = .ok (.iload_n 2, 1) := by decide +kernel
theorem nd_CM_join_56 : decode nc_CM_join 56 = .ok (.imul, 1) := by decide +kernel
theorem nd_CM_join_57 : decode nc_CM_join 57 = .ok (.iadd, 1) := by decide +kernel
theorem nd_CM_join_58 : decode nc_CM_join 58 = .ok (.iload 7, 2) := by decide +kernel
theorem nd_CM_join_60 : decode nc_CM_join 60 = .ok (.iadd, 1) := by decide +kernel
theorem nd_CM_join_61 : decode nc_CM_join 61 = .ok (.iaload, 1) := by decide +kernel
theorem nd_CM_join_62 : decode nc_CM_join 62 = .ok (.imul, 1) := by decide +kernel
theorem nd_CM_join_63 : decode nc_CM_join 63 = .ok (.aload_n 0, 1) := by decide +kernel
theorem nd_CM_join_64 : decode nc_CM_join 64 = .ok (.getfield 40, 3) := by decide +kernel
theorem nd_CM_join_67 : decode nc_CM_join 67 = .ok (.iload 4, 2) := by decide +kernel
theorem nd_CM_join_69 : decode nc_CM_join 69 = .ok (.iconst 1, 1) := by decide +kernel
theorem nd_CM_join_70 : decode nc_CM_join 70 = .ok (.iload 7, 2) := by decide +kernel
theorem nd_CM_join_72 : decode nc_CM_join 72 = .ok (.ishl, 1) := by decide +kernel
theorem nd_CM_join_73 : decode nc_CM_join 73 = .ok (.iconst (-1), 1) := by decide +kernel
theorem nd_CM_join_74 : decode nc_CM_join 74 = .ok (.ixor, 1) := by decide +kernel
theorem nd_CM_join_75 : decode nc_CM_join 75 = .ok (.iand, 1) := by decide +kernel
theorem nd_CM_join_76 : decode nc_CM_join 76 = .ok (.iaload, 1) := by decide +kernel
theorem nd_CM_join_77 : decode nc_CM_join 77 = .ok (.imul, 1) := by decide +kernel
theorem nd_CM_join_78 : decode nc_CM_join 78 = .ok (.iadd, 1) := by decide +kernel
theorem nd_CM_join_79 : decode nc_CM_join 79 = .ok (.istore 5, 2) := by decide +kernel
theorem nd_CM_join_81 : decode nc_CM_join 81 = .ok (.iload 6, 2) := by decide +kernel
theorem nd_CM_join_83 : decode nc_CM_join 83 = .ok (.ineg, 1) := by decide +kernel
theorem nd_CM_join_84 : decode nc_CM_join 84 = .ok (.istore 6, 2) := by decide +kernel
theorem nd_CM_join_86 : decode nc_CM_join 86 = .ok (.iinc 7 (-1), 3) := by decide +kernel
theorem nd_CM_join_89 : decode nc_CM_join 89 = .ok (.goto (-63), 3) := by decide +kernel
theorem nd_CM_join_92 : decode nc_CM_join 92 = .ok (.aload_n 0, 1) := by decide +kernel
theorem nd_CM_join_93 : decode nc_CM_join 93 = .ok (.getfield 43, 3) := by decide +kernel
theorem nd_CM_join_96 : decode nc_CM_join 96 = .ok (.iload 4, 2) := by decide +kernel
theorem nd_CM_join_98 : decode nc_CM_join 98 = .ok (.iload 5, 2) := by decide +kernel
theorem nd_CM_join_100 : decode nc_CM_join 100 = .ok (.iload_n 3, 1) := by decide +kernel
theorem nd_CM_join_101 : decode nc_CM_join 101 = .ok (.irem, 1) := by decide +kernel
theorem nd_CM_join_102 : decode nc_CM_join 102 = .ok (.iload_n 3, 1) := by decide +kernel
theorem nd_CM_join_103 : decode nc_CM_join 103 = .ok (.iadd, 1) := by decide +kernel
theorem nd_CM_join_104 : decode nc_CM_join 104 = .ok (.iload_n 3, 1) := by decide +kernel
theorem nd_CM_join_105 : decode nc_CM_join 105 = .ok (.irem, 1) := by decide +kernel
theorem nd_CM_join_106 : decode nc_CM_join 106 = .ok (.iastore, 1) := by decide +kernel
theorem nd_CM_join_107 : decode nc_CM_join 107 = .ok (.iinc 4 1, 3) := by decide +kernel
theorem nd_CM_join_110 : decode nc_CM_join 110 = .ok (.goto (-100), 3) := by decide +kernel
theorem nd_CM_join_113 : decode nc_CM_join 113 = .ok (.iconst 0, 1) := by decide +kernel
theorem nd_CM_join_114 : decode nc_CM_join 114 = .ok (.istore 4, 2) := by decide +kernel
theorem nd_CM_join_116 : decode nc_CM_join 116 = .ok (.iload 4, 2) := by decide +kernel
theorem nd_CM_join_118 : decode nc_CM_join 118 = .ok (.bipush 16, 2) := by decide +kernel
theorem nd_CM_join_120 : decode nc_CM_join 120 = .ok (.if_icmp .ge 23, 3) := by decide +kernel
theorem nd_CM_join_123 : decode nc_CM_join 123 = .ok (.aload_n 0, 1) := by decide +kernel
theorem nd_CM_join_124 : decode nc_CM_join 124 = .ok (.getfield 40, 3) := by decide +kernel
theorem nd_CM_join_127 : decode nc_CM_join 127 = .ok (.iload 4, 2) := by decide +kernel
theorem nd_CM_join_129 : decode nc_CM_join 129 = .ok (.aload_n 0, 1) := by decide +kernel
theorem nd_CM_join_130 : decode nc_CM_join 130 = .ok (.getfield 43, 3) := by decide +kernel
theorem nd_CM_join_133 : decode nc_CM_join 133 = .ok (.iload 4, 2) := by decide +kernel
theorem nd_CM_join_135 : decode nc_CM_join 135 = .ok (.iaload, 1) := by decide +kernel
theorem nd_CM_join_136 : decode nc_CM_join 136 = .ok (.iastore, 1) := by decide +kernel
theorem nd_CM_join_137 : decode nc_CM_join 137 = .ok (.iinc 4 1, 3) := by decide +kernel
theorem nd_CM_join_140 : decode nc_CM_join 140 = .ok (.goto (-24), 3) := by decide +kernel
theorem nd_CM_join_143 : decode nc_CM_join 143 = .ok (.return_, 1) := by decide +kernel
set_option maxRecDepth 20000 in
theorem lp_CM_join1 {p : Program} {l : Launch} {e0 : Env} {R : Room} {s0 : State} {m : MethodId} {args : Array Value} {below : List Frame} {meth : Method} {c : Code} {cells slots : Nat} {Qq : State → Prop} {D : va_G} {A : Nat → Prop} (cI cG cM : ClassId) (q : Nat → Nat) (n : Nat) (hn1 : 1 ≤ n) (hn : n ≤ 10) (g : rf_S) (w e md : Nat) (hw : w < 2) (hen : e < n) (hmd : md = 2 ∨ md = 3 ∨ md = 5 ∨ md = 7) (hmo : g 3 w = nI md) (cc mm : Nat → Nat) (hnu : ∀ i, i < 4 → g 8 (40 * w + 4 * e + i) = nI (cc i)) (hmi : ∀ Q, Q < 16 → g 10 Q = nI (mm Q)) (hc9 : ∀ i, i < 4 → cc i < md) (hm9 : ∀ Q, Q < 16 → mm Q < md) (f : Nat → Int32) (Q : Nat) (hQ : Q < 16) (r : Nat) (hr4 : r < 4) (z : Int32 × Int32)  (hx : p.tables.exec = Jvm.exec) (hb : c.code = nc_CM_join) (hml : c.maxLocals = 8) (htg : ∀ w ∈ tg_, w.before args s0 = true) (hown : s0.vm.findClass ny_CM_join.cls = some m.cls) (hK : va_K D cl_all (ty_all cI cG cM) s0) (hN : tn_K s0) (hA : ∀ q : Nat, s0.heap.size ≤ q → A q) (hRf : 0 ≤ R.frames) (hRl : 0 ≤ R.locals) (hCS : cells ≤ R.cells ∧ slots ≤ R.slots) (kx : ∀ (ls : Array Slot) (H : Heap) (locs : List Loc), lv_has ls 8 [(7, .int ((nI r + Int32.ofInt (-1)))), (5, .int ((js_ cc mm Q r z).1)), (6, .int ((js_ cc mm Q r z).2)), (0, .ref (q 0)), (1, .int (nI (w))), (2, .int (nI (e))), (3, .int (nI (md))), (4, .int (nI (Q)))] → va_P D cl_all ([((q 0), .inr (6, [.int (nI (n)), .ref (q 2), .ref (q 3), .ref (q 4), .ref (q 5), .ref (q 6), .ref (q 7), .ref (q 8), .ref (q 9), .ref (q 10), .ref (q 11), .ref (q 12), .ref (q 13), .ref (q 14)])), ((q 2), .inl (cI, 10, .inl (g 0))), ((q 3), .inl (cI, 2, .inl (g 1))), ((q 4), .inl (cI, 2, .inl (g 2))), ((q 5), .inl (cI, 2, .inl (g 3))), ((q 6), .inl (cI, 20, .inl (g 4))), ((q 7), .inl (cI, 20, .inl (g 5))), ((q 8), .inl (cI, 20, .inl (g 6))), ((q 9), .inl (cI, 8, .inl (g 7))), ((q 10), .inl (cI, 80, .inl (g 8))), ((q 11), .inl (cI, 8, .inl (g 9))), ((q 12), .inl (cI, 16, .inl (g 10))), ((q 13), .inl (cI, 16, .inl f)), ((q 14), .inl (cI, 2048, .inl (g 12)))]) H → va_D A ([((q 0), .inr (6, [.int (nI (n)), .ref (q 2), .ref (q 3), .ref (q 4), .ref (q 5), .ref (q 6), .ref (q 7), .ref (q 8), .ref (q 9), .ref (q 10), .ref (q 11), .ref (q 12), .ref (q 13), .ref (q 14)])), ((q 2), .inl (cI, 10, .inl (g 0))), ((q 3), .inl (cI, 2, .inl (g 1))), ((q 4), .inl (cI, 2, .inl (g 2))), ((q 5), .inl (cI, 2, .inl (g 3))), ((q 6), .inl (cI, 20, .inl (g 4))), ((q 7), .inl (cI, 20, .inl (g 5))), ((q 8), .inl (cI, 20, .inl (g 6))), ((q 9), .inl (cI, 8, .inl (g 7))), ((q 10), .inl (cI, 80, .inl (g 8))), ((q 11), .inl (cI, 8, .inl (g 9))), ((q 12), .inl (cI, 16, .inl (g 10))), ((q 13), .inl (cI, 16, .inl f)), ((q 14), .inl (cI, 2048, .inl (g 12)))]) → va_S A s0.heap H locs → W p l e0 R s0 m args below meth c H locs cells slots Qq (F0 m 26 ls [])) : ∀ (fuel : Nat) (ls : Array Slot) (H : Heap) (locs : List Loc), 0 < fuel → lv_has ls 8 [(7, .int (nI (r))), (5, .int (z.1)), (6, .int (z.2)), (0, .ref (q 0)), (1, .int (nI (w))), (2, .int (nI (e))), (3, .int (nI (md))), (4, .int (nI (Q)))] → va_P D cl_all ([((q 0), .inr (6, [.int (nI (n)), .ref (q 2), .ref (q 3), .ref (q 4), .ref (q 5), .ref (q 6), .ref (q 7), .ref (q 8), .ref (q 9), .ref (q 10), .ref (q 11), .ref (q 12), .ref (q 13), .ref (q 14)])), ((q 2), .inl (cI, 10, .inl (g 0))), ((q 3), .inl (cI, 2, .inl (g 1))), ((q 4), .inl (cI, 2, .inl (g 2))), ((q 5), .inl (cI, 2, .inl (g 3))), ((q 6), .inl (cI, 20, .inl (g 4))), ((q 7), .inl (cI, 20, .inl (g 5))), ((q 8), .inl (cI, 20, .inl (g 6))), ((q 9), .inl (cI, 8, .inl (g 7))), ((q 10), .inl (cI, 80, .inl (g 8))), ((q 11), .inl (cI, 8, .inl (g 9))), ((q 12), .inl (cI, 16, .inl (g 10))), ((q 13), .inl (cI, 16, .inl f)), ((q 14), .inl (cI, 2048, .inl (g 12)))]) H → va_D A ([((q 0), .inr (6, [.int (nI (n)), .ref (q 2), .ref (q 3), .ref (q 4), .ref (q 5), .ref (q 6), .ref (q 7), .ref (q 8), .ref (q 9), .ref (q 10), .ref (q 11), .ref (q 12), .ref (q 13), .ref (q 14)])), ((q 2), .inl (cI, 10, .inl (g 0))), ((q 3), .inl (cI, 2, .inl (g 1))), ((q 4), .inl (cI, 2, .inl (g 2))), ((q 5), .inl (cI, 2, .inl (g 3))), ((q 6), .inl (cI, 20, .inl (g 4))), ((q 7), .inl (cI, 20, .inl (g 5))), ((q 8), .inl (cI, 20, .inl (g 6))), ((q 9), .inl (cI, 8, .inl (g 7))), ((q 10), .inl (cI, 80, .inl (g 8))), ((q 11), .inl (cI, 8, .inl (g 9))), ((q 12), .inl (cI, 16, .inl (g 10))), ((q 13), .inl (cI, 16, .inl f)), ((q 14), .inl (cI, 2048, .inl (g 12)))]) → va_S A s0.heap H locs → W p l e0 R s0 m args below meth c H locs cells slots Qq (F0 m 26 ls []) := by
  intro fuel
  induction fuel with
  | zero => intro  ls H locs hfu; omega
  | succ fuel ih =>
    intro  ls H locs hfu  hl hP hD hS
    have h2n : 2 ^ n ≤ 1024 := Nat.pow_le_pow_right (by omega) hn
    have h2p : 1 ≤ 2 ^ n := Nat.one_le_two_pow
    refine lv_iload hx hb nd_CM_join_26 (lv_at hl 0 rfl) ?_
    refine wi_if_lt (tgt := 92) hx hb (by omega) nd_CM_join_28 rfl ?_
    refine lv_iload hx hb nd_CM_join_31 (lv_at hl 7 rfl) ?_
    refine lv_iload hx hb nd_CM_join_33 (lv_at hl 0 rfl) ?_
    refine wi_ishr hx hb (by omega) (by omega) nd_CM_join_35 ?_
    refine wi_ic hx hb (a := 1) nd_CM_join_36 ?_
    refine wi_bit hx hb nd_CM_join_37 ?_
    have hbt37 := mt_bt_lt Q r
    refine wi_ic hx hb (a := 1) nd_CM_join_38 ?_
    refine wi_icmp_ne (tgt := 86) hx hb (by omega) (by omega) nd_CM_join_39 rfl (fun hc39 => ?_) (fun hc39 => ?_)
    · refine lv_iinc (k := 0) (v := (nI (r) + Int32.ofInt (-1))) hx hb nd_CM_join_86 hl rfl rfl (by decide) rfl (fun ls hl => ?_)
      have hl : lv_has ls 8 [(7, .int ((nI (r) + Int32.ofInt (-1)))), (5, .int (z.1)), (6, .int (z.2)), (0, .ref (q 0)), (1, .int (nI (w))), (2, .int (nI (e))), (3, .int (nI (md))), (4, .int (nI (Q)))] := hl
      refine lv_goto (tgt := 26) hx hb nd_CM_join_89 rfl ?_
      have hl : lv_has ls 8 [(7, .int ((nI (r) + Int32.ofInt (-1)))), (5, .int (z.1)), (6, .int (z.2)), (0, .ref (q 0)), (1, .int (nI (w))), (2, .int (nI (e))), (3, .int (nI (md))), (4, .int (nI (Q)))] := lv_sub hl [0, 1, 2, 3, 4, 5, 6, 7] rfl
      have hjs : js_ cc mm Q r z = z := if_neg (fun q => by have := mt_bt_t.mpr q; omega)
      exact kx ls H locs (by rw [hjs]; exact hl) hP hD hS
    · refine lv_iload hx hb nd_CM_join_42 (lv_at hl 1 rfl) ?_
      refine lv_iload hx hb nd_CM_join_44 (lv_at hl 2 rfl) ?_
      refine lv_aload_n hx hb nd_CM_join_46 rfl (lv_at hl 3 rfl) ?_
      refine va_get (D := D) (C := nr_CM) (T := nt_CM) (N := 14) hx hb htg tf_CM hown hK hP 0 rfl rfl 9 (by decide) (htg _ tm_392) (fun _ h => h) rfl nd_CM_join_47 ?_
      refine lv_bipush (v := nI 40) hx hb nd_CM_join_50 (by decide) ?_
      refine lv_iload_n hx hb nd_CM_join_52 rfl (lv_at hl 4 rfl) ?_
      refine wi_imul hx hb nd_CM_join_53 ?_
      refine wi_ic hx hb (a := 4) nd_CM_join_54 ?_
      refine lv_iload_n hx hb nd_CM_join_55 rfl (lv_at hl 5 rfl) ?_
      refine wi_imul hx hb nd_CM_join_56 ?_
      refine wi_iadd hx hb nd_CM_join_57 ?_
      refine lv_iload hx hb nd_CM_join_58 (lv_at hl 0 rfl) ?_
      refine wi_iadd hx hb nd_CM_join_60 ?_
      refine wi_iald hx hb hK hP 9 0 rfl rfl (by omega) (by omega) nd_CM_join_61 ?_
      refine wi_top (hnu r (by omega)) ?_
      refine lv_imul hx hb nd_CM_join_62 ?_
      refine lv_aload_n hx hb nd_CM_join_63 rfl (lv_at hl 3 rfl) ?_
      refine va_get (D := D) (C := nr_CM) (T := nt_CM) (N := 14) hx hb htg tf_CM hown hK hP 0 rfl rfl 11 (by decide) (htg _ tm_394) (fun _ h => h) rfl nd_CM_join_64 ?_
      refine lv_iload hx hb nd_CM_join_67 (lv_at hl 7 rfl) ?_
      refine wi_ic hx hb (a := 1) nd_CM_join_69 ?_
      refine lv_iload hx hb nd_CM_join_70 (lv_at hl 0 rfl) ?_
      refine wi_ishl1 hx hb (by omega) nd_CM_join_72 ?_
      refine lv_iconst (v := -1) hx hb nd_CM_join_73 (by decide) ?_
      refine lv_ixor hx hb nd_CM_join_74 ?_
      refine lv_iand hx hb nd_CM_join_75 ?_
      refine wi_top (bs_rm (n := 4) (show Q < 2 ^ 4 by omega) (by omega) hr4) ?_
      rw [if_pos (mt_bt_t.mp (show mt_bt Q r = 1 by omega))]
      have hqr := ml_d4 Q hQ r hr4
      refine wi_iald hx hb hK hP 11 0 rfl rfl (by omega) (by omega) nd_CM_join_76 ?_
      refine wi_top (hmi _ (ml_d4 Q hQ r (by omega))) ?_
      refine lv_imul hx hb nd_CM_join_77 ?_
      refine lv_iadd hx hb nd_CM_join_78 ?_
      refine lv_istore hx hb nd_CM_join_79 hl (by decide) rfl (fun ls hl => ?_)
      have hl : lv_has ls 8 [(5, .int ((z.1 + ((z.2 * nI (cc r)) * nI (mm (Q ^^^ 2 ^ r)))))), (7, .int (nI (r))), (6, .int (z.2)), (0, .ref (q 0)), (1, .int (nI (w))), (2, .int (nI (e))), (3, .int (nI (md))), (4, .int (nI (Q)))] := hl
      refine lv_iload hx hb nd_CM_join_81 (lv_at hl 2 rfl) ?_
      refine lv_ineg hx hb nd_CM_join_83 ?_
      refine lv_istore hx hb nd_CM_join_84 hl (by decide) rfl (fun ls hl => ?_)
      have hl : lv_has ls 8 [(6, .int ((-z.2))), (5, .int ((z.1 + ((z.2 * nI (cc r)) * nI (mm (Q ^^^ 2 ^ r)))))), (7, .int (nI (r))), (0, .ref (q 0)), (1, .int (nI (w))), (2, .int (nI (e))), (3, .int (nI (md))), (4, .int (nI (Q)))] := hl
      refine lv_iinc (k := 2) (v := (nI (r) + Int32.ofInt (-1))) hx hb nd_CM_join_86 hl rfl rfl (by decide) rfl (fun ls hl => ?_)
      have hl : lv_has ls 8 [(7, .int ((nI (r) + Int32.ofInt (-1)))), (6, .int ((-z.2))), (5, .int ((z.1 + ((z.2 * nI (cc r)) * nI (mm (Q ^^^ 2 ^ r)))))), (0, .ref (q 0)), (1, .int (nI (w))), (2, .int (nI (e))), (3, .int (nI (md))), (4, .int (nI (Q)))] := hl
      refine lv_goto (tgt := 26) hx hb nd_CM_join_89 rfl ?_
      have hl : lv_has ls 8 [(7, .int ((nI (r) + Int32.ofInt (-1)))), (5, .int ((z.1 + ((z.2 * nI (cc r)) * nI (mm (Q ^^^ 2 ^ r)))))), (6, .int ((-z.2))), (0, .ref (q 0)), (1, .int (nI (w))), (2, .int (nI (e))), (3, .int (nI (md))), (4, .int (nI (Q)))] := lv_sub hl [0, 2, 1, 3, 4, 5, 6, 7] rfl
      have hjs : js_ cc mm Q r z = (z.1 + z.2 * nI (cc r) * nI (mm (Q ^^^ 2 ^ r)), -z.2) := if_pos (mt_bt_t.mp (by omega))
      exact kx ls H locs (by rw [hjs]; exact hl) hP hD hS
set_option maxRecDepth 20000 in
theorem lp_CM_join2 {p : Program} {l : Launch} {e0 : Env} {R : Room} {s0 : State} {m : MethodId} {args : Array Value} {below : List Frame} {meth : Method} {c : Code} {cells slots : Nat} {Qq : State → Prop} {D : va_G} {A : Nat → Prop} (cI cG cM : ClassId) (q : Nat → Nat) (n : Nat) (hn1 : 1 ≤ n) (hn : n ≤ 10) (g : rf_S) (w e md : Nat) (hw : w < 2) (hen : e < n) (hmd : md = 2 ∨ md = 3 ∨ md = 5 ∨ md = 7) (hmo : g 3 w = nI md) (cc mm : Nat → Nat) (hnu : ∀ i, i < 4 → g 8 (40 * w + 4 * e + i) = nI (cc i)) (hmi : ∀ Q, Q < 16 → g 10 Q = nI (mm Q)) (hc9 : ∀ i, i < 4 → cc i < md) (hm9 : ∀ Q, Q < 16 → mm Q < md)  (hx : p.tables.exec = Jvm.exec) (hb : c.code = nc_CM_join) (hml : c.maxLocals = 8) (htg : ∀ w ∈ tg_, w.before args s0 = true) (hown : s0.vm.findClass ny_CM_join.cls = some m.cls) (hK : va_K D cl_all (ty_all cI cG cM) s0) (hN : tn_K s0) (hA : ∀ q : Nat, s0.heap.size ≤ q → A q) (hRf : 0 ≤ R.frames) (hRl : 0 ≤ R.locals) (hCS : cells ≤ R.cells ∧ slots ≤ R.slots) (kx : ∀ (ls : Array Slot) (H : Heap) (locs : List Loc) (f : Nat → Int32), (∀ Q', Q' < 16 → f Q' = nI ((ml_wj (fun i => (cc i : Int)) (fun q => (mm q : Int)) Q' % (md : Int)).toNat)) → lv_has ls 8 [(0, .ref (q 0))] → va_P D cl_all ([((q 0), .inr (6, [.int (nI (n)), .ref (q 2), .ref (q 3), .ref (q 4), .ref (q 5), .ref (q 6), .ref (q 7), .ref (q 8), .ref (q 9), .ref (q 10), .ref (q 11), .ref (q 12), .ref (q 13), .ref (q 14)])), ((q 2), .inl (cI, 10, .inl (g 0))), ((q 3), .inl (cI, 2, .inl (g 1))), ((q 4), .inl (cI, 2, .inl (g 2))), ((q 5), .inl (cI, 2, .inl (g 3))), ((q 6), .inl (cI, 20, .inl (g 4))), ((q 7), .inl (cI, 20, .inl (g 5))), ((q 8), .inl (cI, 20, .inl (g 6))), ((q 9), .inl (cI, 8, .inl (g 7))), ((q 10), .inl (cI, 80, .inl (g 8))), ((q 11), .inl (cI, 8, .inl (g 9))), ((q 12), .inl (cI, 16, .inl (g 10))), ((q 13), .inl (cI, 16, .inl f)), ((q 14), .inl (cI, 2048, .inl (g 12)))]) H → va_D A ([((q 0), .inr (6, [.int (nI (n)), .ref (q 2), .ref (q 3), .ref (q 4), .ref (q 5), .ref (q 6), .ref (q 7), .ref (q 8), .ref (q 9), .ref (q 10), .ref (q 11), .ref (q 12), .ref (q 13), .ref (q 14)])), ((q 2), .inl (cI, 10, .inl (g 0))), ((q 3), .inl (cI, 2, .inl (g 1))), ((q 4), .inl (cI, 2, .inl (g 2))), ((q 5), .inl (cI, 2, .inl (g 3))), ((q 6), .inl (cI, 20, .inl (g 4))), ((q 7), .inl (cI, 20, .inl (g 5))), ((q 8), .inl (cI, 20, .inl (g 6))), ((q 9), .inl (cI, 8, .inl (g 7))), ((q 10), .inl (cI, 80, .inl (g 8))), ((q 11), .inl (cI, 8, .inl (g 9))), ((q 12), .inl (cI, 16, .inl (g 10))), ((q 13), .inl (cI, 16, .inl f)), ((q 14), .inl (cI, 2048, .inl (g 12)))]) → va_S A s0.heap H locs → W p l e0 R s0 m args below meth c H locs cells slots Qq (F0 m 113 ls [])) : ∀ (fuel : Nat) (Q : Nat) (f : Nat → Int32) (ls : Array Slot) (H : Heap) (locs : List Loc), 16 - Q < fuel → (Q ≤ 16) → (∀ Q', Q' < Q → f Q' = nI ((ml_wj (fun i => (cc i : Int)) (fun q => (mm q : Int)) Q' % (md : Int)).toNat)) → lv_has ls 8 [(4, .int (nI (Q))), (0, .ref (q 0)), (1, .int (nI (w))), (2, .int (nI (e))), (3, .int (nI (md)))] → va_P D cl_all ([((q 0), .inr (6, [.int (nI (n)), .ref (q 2), .ref (q 3), .ref (q 4), .ref (q 5), .ref (q 6), .ref (q 7), .ref (q 8), .ref (q 9), .ref (q 10), .ref (q 11), .ref (q 12), .ref (q 13), .ref (q 14)])), ((q 2), .inl (cI, 10, .inl (g 0))), ((q 3), .inl (cI, 2, .inl (g 1))), ((q 4), .inl (cI, 2, .inl (g 2))), ((q 5), .inl (cI, 2, .inl (g 3))), ((q 6), .inl (cI, 20, .inl (g 4))), ((q 7), .inl (cI, 20, .inl (g 5))), ((q 8), .inl (cI, 20, .inl (g 6))), ((q 9), .inl (cI, 8, .inl (g 7))), ((q 10), .inl (cI, 80, .inl (g 8))), ((q 11), .inl (cI, 8, .inl (g 9))), ((q 12), .inl (cI, 16, .inl (g 10))), ((q 13), .inl (cI, 16, .inl f)), ((q 14), .inl (cI, 2048, .inl (g 12)))]) H → va_D A ([((q 0), .inr (6, [.int (nI (n)), .ref (q 2), .ref (q 3), .ref (q 4), .ref (q 5), .ref (q 6), .ref (q 7), .ref (q 8), .ref (q 9), .ref (q 10), .ref (q 11), .ref (q 12), .ref (q 13), .ref (q 14)])), ((q 2), .inl (cI, 10, .inl (g 0))), ((q 3), .inl (cI, 2, .inl (g 1))), ((q 4), .inl (cI, 2, .inl (g 2))), ((q 5), .inl (cI, 2, .inl (g 3))), ((q 6), .inl (cI, 20, .inl (g 4))), ((q 7), .inl (cI, 20, .inl (g 5))), ((q 8), .inl (cI, 20, .inl (g 6))), ((q 9), .inl (cI, 8, .inl (g 7))), ((q 10), .inl (cI, 80, .inl (g 8))), ((q 11), .inl (cI, 8, .inl (g 9))), ((q 12), .inl (cI, 16, .inl (g 10))), ((q 13), .inl (cI, 16, .inl f)), ((q 14), .inl (cI, 2048, .inl (g 12)))]) → va_S A s0.heap H locs → W p l e0 R s0 m args below meth c H locs cells slots Qq (F0 m 10 ls []) := by
  intro fuel
  induction fuel with
  | zero => intro Q f ls H locs hfu; omega
  | succ fuel ih =>
    intro Q f ls H locs hfu hQ hf hl hP hD hS
    have h2n : 2 ^ n ≤ 1024 := Nat.pow_le_pow_right (by omega) hn
    have h2p : 1 ≤ 2 ^ n := Nat.one_le_two_pow
    refine lv_iload hx hb nd_CM_join_10 (lv_at hl 0 rfl) ?_
    refine lv_bipush (v := nI 16) hx hb nd_CM_join_12 (by decide) ?_
    refine wi_icmp_ge (tgt := 113) hx hb (by omega) (by omega) nd_CM_join_14 rfl (fun hc14 => ?_) (fun hc14 => ?_)
    · have hl : lv_has ls 8 [(0, .ref (q 0))] := lv_sub hl [1] rfl
      exact kx ls H locs f (fun Q' hq => hf Q' (by omega)) hl hP hD hS
    · refine wi_ic hx hb (a := 0) nd_CM_join_17 ?_
      refine lv_istore hx hb nd_CM_join_18 hl (by decide) rfl (fun ls hl => ?_)
      have hl : lv_has ls 8 [(5, .int (nI (0))), (4, .int (nI (Q))), (0, .ref (q 0)), (1, .int (nI (w))), (2, .int (nI (e))), (3, .int (nI (md)))] := hl
      refine wi_ic hx hb (a := 1) nd_CM_join_20 ?_
      refine lv_istore hx hb nd_CM_join_21 hl (by decide) rfl (fun ls hl => ?_)
      have hl : lv_has ls 8 [(6, .int (nI (1))), (5, .int (nI (0))), (4, .int (nI (Q))), (0, .ref (q 0)), (1, .int (nI (w))), (2, .int (nI (e))), (3, .int (nI (md)))] := hl
      refine wi_ic hx hb (a := 3) nd_CM_join_23 ?_
      refine lv_istore hx hb nd_CM_join_24 hl (by decide) rfl (fun ls hl => ?_)
      have hl : lv_has ls 8 [(7, .int (nI (3))), (6, .int (nI (1))), (5, .int (nI (0))), (4, .int (nI (Q))), (0, .ref (q 0)), (1, .int (nI (w))), (2, .int (nI (e))), (3, .int (nI (md)))] := hl
      have hl : lv_has ls 8 [(7, .int (nI (3))), (5, .int (nI (0))), (6, .int (nI (1))), (0, .ref (q 0)), (1, .int (nI (w))), (2, .int (nI (e))), (3, .int (nI (md))), (4, .int (nI (Q)))] := lv_sub hl [0, 2, 1, 4, 5, 6, 7, 3] rfl
      refine lp_CM_join1 cI cG cM q n hn1 hn g w e md hw hen hmd hmo cc mm hnu hmi hc9 hm9 f Q (by omega) 3 (by omega) (nI 0, nI 1) hx hb hml htg hown hK hN hA hRf hRl hCS (fun ls H locs hl hP hD hS => ?_) 1 ls H locs (by omega) hl hP hD hS
      rw [show nI 3 + Int32.ofInt (-1) = nI 2 by decide] at hl
      refine lp_CM_join1 cI cG cM q n hn1 hn g w e md hw hen hmd hmo cc mm hnu hmi hc9 hm9 f Q (by omega) 2 (by omega) (js_ cc mm Q 3 (nI 0, nI 1)) hx hb hml htg hown hK hN hA hRf hRl hCS (fun ls H locs hl hP hD hS => ?_) 1 ls H locs (by omega) hl hP hD hS
      rw [show nI 2 + Int32.ofInt (-1) = nI 1 by decide] at hl
      refine lp_CM_join1 cI cG cM q n hn1 hn g w e md hw hen hmd hmo cc mm hnu hmi hc9 hm9 f Q (by omega) 1 (by omega) (js_ cc mm Q 2 (js_ cc mm Q 3 (nI 0, nI 1))) hx hb hml htg hown hK hN hA hRf hRl hCS (fun ls H locs hl hP hD hS => ?_) 1 ls H locs (by omega) hl hP hD hS
      rw [show nI 1 + Int32.ofInt (-1) = nI 0 by decide] at hl
      refine lp_CM_join1 cI cG cM q n hn1 hn g w e md hw hen hmd hmo cc mm hnu hmi hc9 hm9 f Q (by omega) 0 (by omega) (js_ cc mm Q 1 (js_ cc mm Q 2 (js_ cc mm Q 3 (nI 0, nI 1)))) hx hb hml htg hown hK hN hA hRf hRl hCS (fun ls H locs hl hP hD hS => ?_) 1 ls H locs (by omega) hl hP hD hS
      rw [show nI 0 + Int32.ofInt (-1) = (-1 : Int32) by decide] at hl
      refine lv_iload hx hb nd_CM_join_26 (lv_at hl 0 rfl) ?_
      refine lv_if_lt (tgt := 92) hx hb nd_CM_join_28 rfl (fun hc28 => ?_) (fun hc28 => ?_)
      · refine lv_aload_n hx hb nd_CM_join_92 rfl (lv_at hl 3 rfl) ?_
        refine va_get (D := D) (C := nr_CM) (T := nt_CM) (N := 14) hx hb htg tf_CM hown hK hP 0 rfl rfl 12 (by decide) (htg _ tm_395) (fun _ h => h) rfl nd_CM_join_93 ?_
        refine lv_iload hx hb nd_CM_join_96 (lv_at hl 7 rfl) ?_
        refine lv_iload hx hb nd_CM_join_98 (lv_at hl 1 rfl) ?_
        refine lv_iload_n hx hb nd_CM_join_100 rfl (lv_at hl 6 rfl) ?_
        refine lv_irem hx hb nd_CM_join_101 (rm_nz hmd) ?_
        refine lv_iload_n hx hb nd_CM_join_102 rfl (lv_at hl 6 rfl) ?_
        refine lv_iadd hx hb nd_CM_join_103 ?_
        refine lv_iload_n hx hb nd_CM_join_104 rfl (lv_at hl 6 rfl) ?_
        refine lv_irem hx hb nd_CM_join_105 (rm_nz hmd) ?_
        refine wi_top (rm_ hmd) ?_
        refine wi_iast hx hb hK hP hD hS 12 0 rfl rfl (by omega) (by omega) nd_CM_join_106 (fun H locs hP hD hS => ?_)
        have hP : va_P D cl_all ([((q 0), .inr (6, [.int (nI (n)), .ref (q 2), .ref (q 3), .ref (q 4), .ref (q 5), .ref (q 6), .ref (q 7), .ref (q 8), .ref (q 9), .ref (q 10), .ref (q 11), .ref (q 12), .ref (q 13), .ref (q 14)])), ((q 2), .inl (cI, 10, .inl (g 0))), ((q 3), .inl (cI, 2, .inl (g 1))), ((q 4), .inl (cI, 2, .inl (g 2))), ((q 5), .inl (cI, 2, .inl (g 3))), ((q 6), .inl (cI, 20, .inl (g 4))), ((q 7), .inl (cI, 20, .inl (g 5))), ((q 8), .inl (cI, 20, .inl (g 6))), ((q 9), .inl (cI, 8, .inl (g 7))), ((q 10), .inl (cI, 80, .inl (g 8))), ((q 11), .inl (cI, 8, .inl (g 9))), ((q 12), .inl (cI, 16, .inl (g 10))), ((q 13), .inl (cI, 16, .inl (upd f Q (nI (fm_ (js_ cc mm Q 0 (js_ cc mm Q 1 (js_ cc mm Q 2 (js_ cc mm Q 3 (nI 0, nI 1))))).1 md))))), ((q 14), .inl (cI, 2048, .inl (g 12)))]) H := hP
        have hD : va_D A ([((q 0), .inr (6, [.int (nI (n)), .ref (q 2), .ref (q 3), .ref (q 4), .ref (q 5), .ref (q 6), .ref (q 7), .ref (q 8), .ref (q 9), .ref (q 10), .ref (q 11), .ref (q 12), .ref (q 13), .ref (q 14)])), ((q 2), .inl (cI, 10, .inl (g 0))), ((q 3), .inl (cI, 2, .inl (g 1))), ((q 4), .inl (cI, 2, .inl (g 2))), ((q 5), .inl (cI, 2, .inl (g 3))), ((q 6), .inl (cI, 20, .inl (g 4))), ((q 7), .inl (cI, 20, .inl (g 5))), ((q 8), .inl (cI, 20, .inl (g 6))), ((q 9), .inl (cI, 8, .inl (g 7))), ((q 10), .inl (cI, 80, .inl (g 8))), ((q 11), .inl (cI, 8, .inl (g 9))), ((q 12), .inl (cI, 16, .inl (g 10))), ((q 13), .inl (cI, 16, .inl (upd f Q (nI (fm_ (js_ cc mm Q 0 (js_ cc mm Q 1 (js_ cc mm Q 2 (js_ cc mm Q 3 (nI 0, nI 1))))).1 md))))), ((q 14), .inl (cI, 2048, .inl (g 12)))]) := hD
        refine lv_iinc (k := 7) (v := nI (Q + 1)) hx hb nd_CM_join_107 hl rfl (wi_inc _ 1) (by decide) rfl (fun ls hl => ?_)
        have hl : lv_has ls 8 [(4, .int (nI (Q + 1))), (7, .int ((-1 : Int32))), (5, .int ((js_ cc mm Q 0 (js_ cc mm Q 1 (js_ cc mm Q 2 (js_ cc mm Q 3 (nI 0, nI 1))))).1)), (6, .int ((js_ cc mm Q 0 (js_ cc mm Q 1 (js_ cc mm Q 2 (js_ cc mm Q 3 (nI 0, nI 1))))).2)), (0, .ref (q 0)), (1, .int (nI (w))), (2, .int (nI (e))), (3, .int (nI (md)))] := hl
        refine lv_goto (tgt := 10) hx hb nd_CM_join_110 rfl ?_
        have hl : lv_has ls 8 [(4, .int (nI (Q + 1))), (0, .ref (q 0)), (1, .int (nI (w))), (2, .int (nI (e))), (3, .int (nI (md)))] := lv_sub hl [0, 4, 5, 6, 7] rfl
        exact ih (Q + 1) (upd f Q (nI (fm_ (js_ cc mm Q 0 (js_ cc mm Q 1 (js_ cc mm Q 2 (js_ cc mm Q 3 (nI 0, nI 1))))).1 md))) ls H locs (by omega) (by omega) (fun Q' hq => if q : Q' = Q then by rw [q, upd_at]; unfold fm_; rw [js_4 (by omega) hc9 hm9 (by omega)] else by rw [upd_ne q]; exact hf Q' (by omega)) hl hP hD hS
      · exact absurd (show (-1 : Int32) < 0 by decide) hc28
set_option maxRecDepth 20000 in
theorem lp_CM_join3 {p : Program} {l : Launch} {e0 : Env} {R : Room} {s0 : State} {m : MethodId} {args : Array Value} {below : List Frame} {meth : Method} {c : Code} {cells slots : Nat} {Qq : State → Prop} {D : va_G} {A : Nat → Prop} (cI cG cM : ClassId) (q : Nat → Nat) (n : Nat) (hn1 : 1 ≤ n) (hn : n ≤ 10) (g : rf_S) (f : Nat → Int32)  (hx : p.tables.exec = Jvm.exec) (hb : c.code = nc_CM_join) (hml : c.maxLocals = 8) (htg : ∀ w ∈ tg_, w.before args s0 = true) (hown : s0.vm.findClass ny_CM_join.cls = some m.cls) (hK : va_K D cl_all (ty_all cI cG cM) s0) (hN : tn_K s0) (hA : ∀ q : Nat, s0.heap.size ≤ q → A q) (hRf : 0 ≤ R.frames) (hRl : 0 ≤ R.locals) (hCS : cells ≤ R.cells ∧ slots ≤ R.slots) (kx : ∀ (ls : Array Slot) (H : Heap) (locs : List Loc) (f0 : Nat → Int32), (∀ Q', Q' < 16 → f0 Q' = f Q') → lv_has ls 8 [] → va_P D cl_all ([((q 0), .inr (6, [.int (nI (n)), .ref (q 2), .ref (q 3), .ref (q 4), .ref (q 5), .ref (q 6), .ref (q 7), .ref (q 8), .ref (q 9), .ref (q 10), .ref (q 11), .ref (q 12), .ref (q 13), .ref (q 14)])), ((q 2), .inl (cI, 10, .inl (g 0))), ((q 3), .inl (cI, 2, .inl (g 1))), ((q 4), .inl (cI, 2, .inl (g 2))), ((q 5), .inl (cI, 2, .inl (g 3))), ((q 6), .inl (cI, 20, .inl (g 4))), ((q 7), .inl (cI, 20, .inl (g 5))), ((q 8), .inl (cI, 20, .inl (g 6))), ((q 9), .inl (cI, 8, .inl (g 7))), ((q 10), .inl (cI, 80, .inl (g 8))), ((q 11), .inl (cI, 8, .inl (g 9))), ((q 12), .inl (cI, 16, .inl f0)), ((q 13), .inl (cI, 16, .inl f)), ((q 14), .inl (cI, 2048, .inl (g 12)))]) H → va_D A ([((q 0), .inr (6, [.int (nI (n)), .ref (q 2), .ref (q 3), .ref (q 4), .ref (q 5), .ref (q 6), .ref (q 7), .ref (q 8), .ref (q 9), .ref (q 10), .ref (q 11), .ref (q 12), .ref (q 13), .ref (q 14)])), ((q 2), .inl (cI, 10, .inl (g 0))), ((q 3), .inl (cI, 2, .inl (g 1))), ((q 4), .inl (cI, 2, .inl (g 2))), ((q 5), .inl (cI, 2, .inl (g 3))), ((q 6), .inl (cI, 20, .inl (g 4))), ((q 7), .inl (cI, 20, .inl (g 5))), ((q 8), .inl (cI, 20, .inl (g 6))), ((q 9), .inl (cI, 8, .inl (g 7))), ((q 10), .inl (cI, 80, .inl (g 8))), ((q 11), .inl (cI, 8, .inl (g 9))), ((q 12), .inl (cI, 16, .inl f0)), ((q 13), .inl (cI, 16, .inl f)), ((q 14), .inl (cI, 2048, .inl (g 12)))]) → va_S A s0.heap H locs → W p l e0 R s0 m args below meth c H locs cells slots Qq (F0 m 143 ls [])) : ∀ (fuel : Nat) (Q : Nat) (f0 : Nat → Int32) (ls : Array Slot) (H : Heap) (locs : List Loc), 16 - Q < fuel → (Q ≤ 16) → (∀ Q', Q' < Q → f0 Q' = f Q') → lv_has ls 8 [(4, .int (nI (Q))), (0, .ref (q 0))] → va_P D cl_all ([((q 0), .inr (6, [.int (nI (n)), .ref (q 2), .ref (q 3), .ref (q 4), .ref (q 5), .ref (q 6), .ref (q 7), .ref (q 8), .ref (q 9), .ref (q 10), .ref (q 11), .ref (q 12), .ref (q 13), .ref (q 14)])), ((q 2), .inl (cI, 10, .inl (g 0))), ((q 3), .inl (cI, 2, .inl (g 1))), ((q 4), .inl (cI, 2, .inl (g 2))), ((q 5), .inl (cI, 2, .inl (g 3))), ((q 6), .inl (cI, 20, .inl (g 4))), ((q 7), .inl (cI, 20, .inl (g 5))), ((q 8), .inl (cI, 20, .inl (g 6))), ((q 9), .inl (cI, 8, .inl (g 7))), ((q 10), .inl (cI, 80, .inl (g 8))), ((q 11), .inl (cI, 8, .inl (g 9))), ((q 12), .inl (cI, 16, .inl f0)), ((q 13), .inl (cI, 16, .inl f)), ((q 14), .inl (cI, 2048, .inl (g 12)))]) H → va_D A ([((q 0), .inr (6, [.int (nI (n)), .ref (q 2), .ref (q 3), .ref (q 4), .ref (q 5), .ref (q 6), .ref (q 7), .ref (q 8), .ref (q 9), .ref (q 10), .ref (q 11), .ref (q 12), .ref (q 13), .ref (q 14)])), ((q 2), .inl (cI, 10, .inl (g 0))), ((q 3), .inl (cI, 2, .inl (g 1))), ((q 4), .inl (cI, 2, .inl (g 2))), ((q 5), .inl (cI, 2, .inl (g 3))), ((q 6), .inl (cI, 20, .inl (g 4))), ((q 7), .inl (cI, 20, .inl (g 5))), ((q 8), .inl (cI, 20, .inl (g 6))), ((q 9), .inl (cI, 8, .inl (g 7))), ((q 10), .inl (cI, 80, .inl (g 8))), ((q 11), .inl (cI, 8, .inl (g 9))), ((q 12), .inl (cI, 16, .inl f0)), ((q 13), .inl (cI, 16, .inl f)), ((q 14), .inl (cI, 2048, .inl (g 12)))]) → va_S A s0.heap H locs → W p l e0 R s0 m args below meth c H locs cells slots Qq (F0 m 116 ls []) := by
  intro fuel
  induction fuel with
  | zero => intro Q f0 ls H locs hfu; omega
  | succ fuel ih =>
    intro Q f0 ls H locs hfu hQ hf hl hP hD hS
    have h2n : 2 ^ n ≤ 1024 := Nat.pow_le_pow_right (by omega) hn
    have h2p : 1 ≤ 2 ^ n := Nat.one_le_two_pow
    refine lv_iload hx hb nd_CM_join_116 (lv_at hl 0 rfl) ?_
    refine lv_bipush (v := nI 16) hx hb nd_CM_join_118 (by decide) ?_
    refine wi_icmp_ge (tgt := 143) hx hb (by omega) (by omega) nd_CM_join_120 rfl (fun hc120 => ?_) (fun hc120 => ?_)
    · exact kx ls H locs f0 (fun Q' hq => hf Q' (by omega)) (lv_sub hl [] rfl) hP hD hS
    · refine lv_aload_n hx hb nd_CM_join_123 rfl (lv_at hl 1 rfl) ?_
      refine va_get (D := D) (C := nr_CM) (T := nt_CM) (N := 14) hx hb htg tf_CM hown hK hP 0 rfl rfl 11 (by decide) (htg _ tm_394) (fun _ h => h) rfl nd_CM_join_124 ?_
      refine lv_iload hx hb nd_CM_join_127 (lv_at hl 0 rfl) ?_
      refine lv_aload_n hx hb nd_CM_join_129 rfl (lv_at hl 1 rfl) ?_
      refine va_get (D := D) (C := nr_CM) (T := nt_CM) (N := 14) hx hb htg tf_CM hown hK hP 0 rfl rfl 12 (by decide) (htg _ tm_395) (fun _ h => h) rfl nd_CM_join_130 ?_
      refine lv_iload hx hb nd_CM_join_133 (lv_at hl 0 rfl) ?_
      refine wi_iald hx hb hK hP 12 0 rfl rfl (by omega) (by omega) nd_CM_join_135 ?_
      refine wi_iast hx hb hK hP hD hS 11 0 rfl rfl (by omega) (by omega) nd_CM_join_136 (fun H locs hP hD hS => ?_)
      have hP : va_P D cl_all ([((q 0), .inr (6, [.int (nI (n)), .ref (q 2), .ref (q 3), .ref (q 4), .ref (q 5), .ref (q 6), .ref (q 7), .ref (q 8), .ref (q 9), .ref (q 10), .ref (q 11), .ref (q 12), .ref (q 13), .ref (q 14)])), ((q 2), .inl (cI, 10, .inl (g 0))), ((q 3), .inl (cI, 2, .inl (g 1))), ((q 4), .inl (cI, 2, .inl (g 2))), ((q 5), .inl (cI, 2, .inl (g 3))), ((q 6), .inl (cI, 20, .inl (g 4))), ((q 7), .inl (cI, 20, .inl (g 5))), ((q 8), .inl (cI, 20, .inl (g 6))), ((q 9), .inl (cI, 8, .inl (g 7))), ((q 10), .inl (cI, 80, .inl (g 8))), ((q 11), .inl (cI, 8, .inl (g 9))), ((q 12), .inl (cI, 16, .inl (upd f0 Q (f Q)))), ((q 13), .inl (cI, 16, .inl f)), ((q 14), .inl (cI, 2048, .inl (g 12)))]) H := hP
      have hD : va_D A ([((q 0), .inr (6, [.int (nI (n)), .ref (q 2), .ref (q 3), .ref (q 4), .ref (q 5), .ref (q 6), .ref (q 7), .ref (q 8), .ref (q 9), .ref (q 10), .ref (q 11), .ref (q 12), .ref (q 13), .ref (q 14)])), ((q 2), .inl (cI, 10, .inl (g 0))), ((q 3), .inl (cI, 2, .inl (g 1))), ((q 4), .inl (cI, 2, .inl (g 2))), ((q 5), .inl (cI, 2, .inl (g 3))), ((q 6), .inl (cI, 20, .inl (g 4))), ((q 7), .inl (cI, 20, .inl (g 5))), ((q 8), .inl (cI, 20, .inl (g 6))), ((q 9), .inl (cI, 8, .inl (g 7))), ((q 10), .inl (cI, 80, .inl (g 8))), ((q 11), .inl (cI, 8, .inl (g 9))), ((q 12), .inl (cI, 16, .inl (upd f0 Q (f Q)))), ((q 13), .inl (cI, 16, .inl f)), ((q 14), .inl (cI, 2048, .inl (g 12)))]) := hD
      refine lv_iinc (k := 0) (v := nI (Q + 1)) hx hb nd_CM_join_137 hl rfl (wi_inc _ 1) (by decide) rfl (fun ls hl => ?_)
      have hl : lv_has ls 8 [(4, .int (nI (Q + 1))), (0, .ref (q 0))] := hl
      refine lv_goto (tgt := 116) hx hb nd_CM_join_140 rfl ?_
      have hl : lv_has ls 8 [(4, .int (nI (Q + 1))), (0, .ref (q 0))] := lv_sub hl [0, 1] rfl
      exact ih (Q + 1) (upd f0 Q (f Q)) ls H locs (by omega) (by omega) (fun Q' hq => if q : Q' = Q then by rw [q, upd_at] else by rw [upd_ne q]; exact hf Q' (by omega)) hl hP hD hS
set_option maxRecDepth 20000 in
theorem c_CM_join (l : Launch) (D : va_G) (cI cG cM : ClassId)  (q : Nat → Nat) (n : Nat) (hn1 : 1 ≤ n) (hn : n ≤ 10) (g : rf_S) (w e md : Nat) (hw : w < 2) (hen : e < n) (hmd : md = 2 ∨ md = 3 ∨ md = 5 ∨ md = 7) (hmo : g 3 w = nI md) (cc mm : Nat → Nat) (hnu : ∀ i, i < 4 → g 8 (40 * w + 4 * e + i) = nI (cc i)) (hmi : ∀ Q, Q < 16 → g 10 Q = nI (mm Q)) (hc9 : ∀ i, i < 4 → cc i < md) (hm9 : ∀ Q, Q < 16 → mm Q < md)  (sz : Nat) : wb_Mv l ny_CM_join nc_CM_join 8 ({ frames := 0, cells := 0, slots := 0, locals := 0 }) D (ty_all cI cG cM) (rf_ cI q n g) sz [.ref (q 0), .int (nI (w)), .int (nI (e))] (fun u : rf_S => (∀ Q, Q < 16 → u 10 Q = nI ((ml_wj (fun i => (cc i : Int)) (fun q => (mm q : Int)) Q % (md : Int)).toNat)) ∧ ∀ j, ¬ j = 10 → ¬ j = 11 → u j = g j) (fun u : rf_S => rf_ cI q n u) := by
  refine wb_start (S := rf_S) (by decide) (Nat.le_of_ble_eq_true rfl) ?_
  intro p e0 s0 m below meth c ls A hx hb hr hml htg hown hk hP hK hN hl hAe hsz hD hA
  have hl : lv_has ls 8 [(0, .ref (q 0)), (1, .int (nI (w))), (2, .int (nI (e)))] := hl
  have hP : va_P D cl_all ([((q 0), .inr (6, [.int (nI (n)), .ref (q 2), .ref (q 3), .ref (q 4), .ref (q 5), .ref (q 6), .ref (q 7), .ref (q 8), .ref (q 9), .ref (q 10), .ref (q 11), .ref (q 12), .ref (q 13), .ref (q 14)])), ((q 2), .inl (cI, 10, .inl (g 0))), ((q 3), .inl (cI, 2, .inl (g 1))), ((q 4), .inl (cI, 2, .inl (g 2))), ((q 5), .inl (cI, 2, .inl (g 3))), ((q 6), .inl (cI, 20, .inl (g 4))), ((q 7), .inl (cI, 20, .inl (g 5))), ((q 8), .inl (cI, 20, .inl (g 6))), ((q 9), .inl (cI, 8, .inl (g 7))), ((q 10), .inl (cI, 80, .inl (g 8))), ((q 11), .inl (cI, 8, .inl (g 9))), ((q 12), .inl (cI, 16, .inl (g 10))), ((q 13), .inl (cI, 16, .inl (g 11))), ((q 14), .inl (cI, 2048, .inl (g 12)))]) s0.heap := hP
  have hD : va_D A ([((q 0), .inr (6, [.int (nI (n)), .ref (q 2), .ref (q 3), .ref (q 4), .ref (q 5), .ref (q 6), .ref (q 7), .ref (q 8), .ref (q 9), .ref (q 10), .ref (q 11), .ref (q 12), .ref (q 13), .ref (q 14)])), ((q 2), .inl (cI, 10, .inl (g 0))), ((q 3), .inl (cI, 2, .inl (g 1))), ((q 4), .inl (cI, 2, .inl (g 2))), ((q 5), .inl (cI, 2, .inl (g 3))), ((q 6), .inl (cI, 20, .inl (g 4))), ((q 7), .inl (cI, 20, .inl (g 5))), ((q 8), .inl (cI, 20, .inl (g 6))), ((q 9), .inl (cI, 8, .inl (g 7))), ((q 10), .inl (cI, 80, .inl (g 8))), ((q 11), .inl (cI, 8, .inl (g 9))), ((q 12), .inl (cI, 16, .inl (g 10))), ((q 13), .inl (cI, 16, .inl (g 11))), ((q 14), .inl (cI, 2048, .inl (g 12)))]) := hD
  have hS : va_S A s0.heap s0.heap [] := va_S.rf
  have hRf : 0 ≤ ({ frames := 0, cells := 0, slots := 0, locals := 0 } : Room).frames := Nat.le_refl _
  have hRl : 0 ≤ ({ frames := 0, cells := 0, slots := 0, locals := 0 } : Room).locals := Nat.le_refl _
  have hCS : 0 ≤ ({ frames := 0, cells := 0, slots := 0, locals := 0 } : Room).cells ∧ 0 ≤ ({ frames := 0, cells := 0, slots := 0, locals := 0 } : Room).slots := ⟨Nat.zero_le _, Nat.zero_le _⟩
  have h2n : 2 ^ n ≤ 1024 := Nat.pow_le_pow_right (by omega) hn
  have h2p : 1 ≤ 2 ^ n := Nat.one_le_two_pow
  refine lv_aload_n hx hb nd_CM_join_0 rfl (lv_at hl 0 rfl) ?_
  refine va_get (D := D) (C := nr_CM) (T := nt_CM) (N := 14) hx hb htg tf_CM hown hK hP 0 rfl rfl 4 (by decide) (htg _ tm_387) (fun _ h => h) rfl nd_CM_join_1 ?_
  refine lv_iload_n hx hb nd_CM_join_4 rfl (lv_at hl 1 rfl) ?_
  refine wi_iald hx hb hK hP 4 0 rfl rfl (by omega) (by omega) nd_CM_join_5 ?_
  refine wi_top (hmo) ?_
  refine lv_istore_n hx hb nd_CM_join_6 rfl hl (by decide) rfl (fun ls hl => ?_)
  have hl : lv_has ls 8 [(3, .int (nI (md))), (0, .ref (q 0)), (1, .int (nI (w))), (2, .int (nI (e)))] := hl
  refine wi_ic hx hb (a := 0) nd_CM_join_7 ?_
  refine lv_istore hx hb nd_CM_join_8 hl (by decide) rfl (fun ls hl => ?_)
  have hl : lv_has ls 8 [(4, .int (nI (0))), (3, .int (nI (md))), (0, .ref (q 0)), (1, .int (nI (w))), (2, .int (nI (e)))] := hl
  have hl : lv_has ls 8 [(4, .int (nI (0))), (0, .ref (q 0)), (1, .int (nI (w))), (2, .int (nI (e))), (3, .int (nI (md)))] := lv_sub hl [0, 2, 3, 4, 1] rfl
  refine lp_CM_join2 cI cG cM q n hn1 hn g w e md hw hen hmd hmo cc mm hnu hmi hc9 hm9 hx hb hml htg hown hK hN hA hRf hRl hCS (fun ls H locs f hf hl hP hD hS => ?_) 17 0 (g 11) ls s0.heap [] (by omega) (by omega) (fun Q hq => by omega) hl hP hD hS
  refine wi_ic hx hb (a := 0) nd_CM_join_113 ?_
  refine lv_istore hx hb nd_CM_join_114 hl (by decide) rfl (fun ls hl => ?_)
  have hl : lv_has ls 8 [(4, .int (nI (0))), (0, .ref (q 0))] := hl
  have hl : lv_has ls 8 [(4, .int (nI (0))), (0, .ref (q 0))] := lv_sub hl [0, 1] rfl
  refine lp_CM_join3 cI cG cM q n hn1 hn g f hx hb hml htg hown hK hN hA hRf hRl hCS (fun ls H locs f0 hf0 hl hP hD hS => ?_) 17 0 (g 10) ls H locs (by omega) (by omega) (fun Q hq => by omega) hl hP hD hS
  exact wb_vret (va_up (va_up g 10 f0) 11 f) hx hb hr hk hAe (⟨fun Q hq => (hf0 Q hq).trans (hf Q hq), fun j h1 h2 => (if_neg h2).trans (if_neg h1)⟩) hP hD hS nd_CM_join_143
