/-! The reference: noRing, underCaps. -/
theorem mg_dg_le (fr to : Nat → Nat) (v k s : Nat) : mg_dg fr to v k s ≤ 2 * k := by
  induction k with
  | zero => exact Nat.le_refl _
  | succ k ih =>
    simp only [mg_dg]
    split
    · split <;> split <;> omega
    · omega
theorem nr_t {fr to : Nat → Nat} {s e : Nat} {d : Nat → Int32} (hd : ∀ v, v < 8 → d v = nI (mg_dg fr to v e s)) (hb : s.testBit e = true) : ∀ v, v < 8 → upd (upd d (fr e) (nI (mg_dg fr to (fr e) e s + 1))) (to e) (upd d (fr e) (nI (mg_dg fr to (fr e) e s + 1)) (to e) + nI 1) v = nI (mg_dg fr to v (e + 1) s) := by
  intro v hv
  simp only [mg_dg, hb, if_true]
  have h1 : ∀ z, z < 8 → upd d (fr e) (nI (mg_dg fr to (fr e) e s + 1)) z = nI (mg_dg fr to z e s + (if fr e = z then 1 else 0)) := fun z hz => by
    by_cases q : z = fr e
    · subst q; rw [upd_at]; simp
    · rw [upd_ne q, hd z hz, if_neg (fun h => q h.symm)]; rfl
  by_cases q : v = to e
  · subst q; rw [upd_at, h1 _ hv, nI_add]; simp [Nat.add_assoc]
  · rw [upd_ne q, h1 v hv, if_neg (c := to e = v) (fun h => q h.symm)]; rfl
theorem nr_f {fr to : Nat → Nat} {s e : Nat} {d : Nat → Int32} (hd : ∀ v, v < 8 → d v = nI (mg_dg fr to v e s)) (hb : s.testBit e = false) : ∀ v, v < 8 → d v = nI (mg_dg fr to v (e + 1) s) := by
  intro v hv
  simp only [mg_dg, hb]
  exact hd v hv
theorem mg_it_lt {n : Nat} {fr to : Nat → Nat} {s : Nat} (hs : s < 2 ^ n) : ∀ j, mg_it n fr to j s < 2 ^ n := by
  intro j
  induction j with
  | zero => exact hs
  | succ j ih => exact mg_sb_lt mg_ro_sb ih
theorem mg_pe_lt {n : Nat} {d fr to : Nat → Nat} {s : Nat} (hs : s < 2 ^ n) (k : Nat) : mg_pe d fr to k s < 2 ^ n := by
  refine mg_sb_lt (fun i hi => ?_) hs
  rw [mg_pe_bit] at hi
  cases h : s.testBit i with
  | true => rfl
  | false => rw [h] at hi; simp at hi
theorem nd_CM_noRing_0 : decode nc_CM_noRing 0 = .ok (.iload_n 2, 1) := by decide +kernel
theorem nd_CM_noRing_1 : decode nc_CM_noRing 1 = .ok (.istore_n 3, 1) := by decide +kernel
theorem nd_CM_noRing_2 : decode nc_CM_noRing 2 = .ok (.iconst 0, 1) := by decide +kernel
theorem nd_CM_noRing_3 : decode nc_CM_noRing 3 = .ok (.istore 4, 2) := by decide +kernel
theorem nd_CM_noRing_5 : decode nc_CM_noRing 5 = .ok (.iload 4, 2) := by decide +kernel
theorem nd_CM_noRing_7 : decode nc_CM_noRing 7 = .ok (.aload_n 0, 1) := by decide +kernel
theorem nd_CM_noRing_8 : decode nc_CM_noRing 8 = .ok (.getfield 49, 3) := by decide +kernel
theorem nd_CM_noRing_11 : decode nc_CM_noRing 11 = .ok (.if_icmp .gt 198, 3) := by decide +kernel
theorem nd_CM_noRing_14 : decode nc_CM_noRing 14 = .ok (.iconst 0, 1) := by decide +kernel
theorem nd_CM_noRing_15 : decode nc_CM_noRing 15 = .ok (.istore 5, 2) := by decide +kernel
theorem nd_CM_noRing_17 : decode nc_CM_noRing 17 = .ok (.iload 5, 2) := by decide +kernel
theorem nd_CM_noRing_19 : decode nc_CM_noRing 19 = .ok (.bipush 8, 2) := by decide +kernel
theorem nd_CM_noRing_21 : decode nc_CM_noRing 21 = .ok (.if_icmp .ge 17, 3) := by decide +kernel
theorem nd_CM_noRing_24 : decode nc_CM_noRing 24 = .ok (.aload_n 0, 1) := by decide +kernel
theorem nd_CM_noRing_25 : decode nc_CM_noRing 25 = .ok (.getfield 37, 3) := by decide +kernel
theorem nd_CM_noRing_28 : decode nc_CM_noRing 28 = .ok (.iload 5, 2) := by decide +kernel
theorem nd_CM_noRing_30 : decode nc_CM_noRing 30 = .ok (.iconst 0, 1) := by decide +kernel
theorem nd_CM_noRing_31 : decode nc_CM_noRing 31 = .ok (.iastore, 1) := by decide +kernel
theorem nd_CM_noRing_32 : decode nc_CM_noRing 32 = .ok (.iinc 5 1, 3) := by decide +kernel
theorem nd_CM_noRing_35 : decode nc_CM_noRing 35 = .ok (.goto (-18), 3) := by decide +kernel
theorem nd_CM_noRing_38 : decode nc_CM_noRing 38 = .ok (.iconst 0, 1) := by decide +kernel
theorem nd_CM_noRing_39 : decode nc_CM_noRing 39 = .ok (.istore 5, 2) := by decide +kernel
theorem nd_CM_noRing_41 : decode nc_CM_noRing 41 = .ok (.iload 5, 2) := by decide +kernel
theorem nd_CM_noRing_43 : decode nc_CM_noRing 43 = .ok (.aload_n 0, 1) := by decide +kernel
theorem nd_CM_noRing_44 : decode nc_CM_noRing 44 = .ok (.getfield 49, 3) := by decide +kernel
theorem nd_CM_noRing_47 : decode nc_CM_noRing 47 = .ok (.if_icmp .ge 61, 3) := by decide +kernel
theorem nd_CM_noRing_50 : decode nc_CM_noRing 50 = .ok (.iload_n 3, 1) := by decide +kernel
theorem nd_CM_noRing_51 : decode nc_CM_noRing 51 = .ok (.iload 5, 2) := by decide +kernel
theorem nd_CM_noRing_53 : decode nc_CM_noRing 53 = .ok (.ishr, 1) := by decide +kernel
theorem nd_CM_noRing_54 : decode nc_CM_noRing 54 = .ok (.iconst 1, 1) := by decide +kernel
theorem nd_CM_noRing_55 : decode nc_CM_noRing 55 = .ok (.iand, 1) := by decide +kernel
theorem nd_CM_noRing_56 : decode nc_CM_noRing 56 = .ok (.iconst 1, 1) := by decide +kernel
theorem nd_CM_noRing_57 : decode nc_CM_noRing 57 = .ok (.if_icmp .ne 45, 3) := by decide +kernel
theorem nd_CM_noRing_60 : decode nc_CM_noRing 60 = .ok (.aload_n 0, 1) := by decide +kernel
theorem nd_CM_noRing_61 : decode nc_CM_noRing 61 = .ok (.getfield 37, 3) := by decide +kernel
theorem nd_CM_noRing_64 : decode nc_CM_noRing 64 = .ok (.aload_n 0, 1) := by decide +kernel
theorem nd_CM_noRing_65 : decode nc_CM_noRing 65 = .ok (.getfield 22, 3) := by decide +kernel
theorem nd_CM_noRing_68 : decode nc_CM_noRing 68 = .ok (.bipush 10, 2) := by decide +kernel
theorem nd_CM_noRing_70 : decode nc_CM_noRing 70 = .ok (.iload_n 1, 1) := by decide +kernel
theorem nd_CM_noRing_71 : decode nc_CM_noRing 71 = .ok (.imul, 1) := by decide +kernel
theorem nd_CM_noRing_72 : decode nc_CM_noRing 72 = .ok (.iload 5, 2) := by decide +kernel
theorem nd_CM_noRing_74 : decode nc_CM_noRing 74 = .ok (.iadd, 1) := by decide +kernel
theorem nd_CM_noRing_75 : decode nc_CM_noRing 75 = .ok (.iaload, 1) := by decide +kernel
theorem nd_CM_noRing_76 : decode nc_CM_noRing 76 = .ok (.dup2, 1) := by decide +kernel
theorem nd_CM_noRing_77 : decode nc_CM_noRing 77 = .ok (.iaload, 1) := by decide +kernel
theorem nd_CM_noRing_78 : decode nc_CM_noRing 78 = .ok (.iconst 1, 1) := by decide +kernel
theorem nd_CM_noRing_79 : decode nc_CM_noRing 79 = .ok (.iadd, 1) := by decide +kernel
theorem nd_CM_noRing_80 : decode nc_CM_noRing 80 = .ok (.iastore, 1) := by decide +kernel
theorem nd_CM_noRing_81 : decode nc_CM_noRing 81 = .ok (.aload_n 0, 1) := by decide +kernel
theorem nd_CM_noRing_82 : decode nc_CM_noRing 82 = .ok (.getfield 37, 3) := by decide +kernel
theorem nd_CM_noRing_85 : decode nc_CM_noRing 85 = .ok (.aload_n 0, 1) := by decide +kernel
theorem nd_CM_noRing_86 : decode nc_CM_noRing 86 = .ok (.getfield 25, 3) := by decide +kernel
theorem nd_CM_noRing_89 : decode nc_CM_noRing 89 = .ok (.bipush 10, 2) := by decide +kernel
theorem nd_CM_noRing_91 : decode nc_CM_noRing 91 = .ok (.iload_n 1, 1) := by decide +kernel
theorem nd_CM_noRing_92 : decode nc_CM_noRing 92 = .ok (.imul, 1) := by decide +kernel
theorem nd_CM_noRing_93 : decode nc_CM_noRing 93 = .ok (.iload 5, 2) := by decide +kernel
theorem nd_CM_noRing_95 : decode nc_CM_noRing 95 = .ok (.iadd, 1) := by decide +kernel
theorem nd_CM_noRing_96 : decode nc_CM_noRing 96 = .ok (.iaload, 1) := by decide +kernel
theorem nd_CM_noRing_97 : decode nc_CM_noRing 97 = .ok (.dup2, 1) := by decide +kernel
theorem nd_CM_noRing_98 : decode nc_CM_noRing 98 = .ok (.iaload, 1) := by decide +kernel
theorem nd_CM_noRing_99 : decode nc_CM_noRing 99 = .ok (.iconst 1, 1) := by decide +kernel
theorem nd_CM_noRing_100 : decode nc_CM_noRing 100 = .ok (.iadd, 1) := by decide +kernel
theorem nd_CM_noRing_101 : decode nc_CM_noRing 101 = .ok (.iastore, 1) := by decide +kernel
theorem nd_CM_noRing_102 : decode nc_CM_noRing 102 = .ok (.iinc 5 1, 3) := by decide +kernel
theorem nd_CM_noRing_105 : decode nc_CM_noRing 105 = .ok (.goto (-64), 3) := by decide +kernel
theorem nd_CM_noRing_108 : decode nc_CM_noRing 108 = .ok (.iconst 0, 1) := by decide +kernel
theorem nd_CM_noRing_109 : decode nc_CM_noRing 109 = .ok (.istore 5, 2) := by decide +kernel
theorem nd_CM_noRing_111 : decode nc_CM_noRing 111 = .ok (.iload 5, 2) := by decide +kernel
theorem nd_CM_noRing_113 : decode nc_CM_noRing 113 = .ok (.aload_n 0, 1) := by decide +kernel
theorem nd_CM_noRing_114 : decode nc_CM_noRing 114 = .ok (.getfield 49, 3) := by decide +kernel
theorem nd_CM_noRing_117 : decode nc_CM_noRing 117 = .ok (.if_icmp .ge 86, 3) := by decide +kernel
theorem nd_CM_noRing_120 : decode nc_CM_noRing 120 = .ok (.aload_n 0, 1) := by decide +kernel
theorem nd_CM_noRing_121 : decode nc_CM_noRing 121 = .ok (.getfield 37, 3) := by decide +kernel
theorem nd_CM_noRing_124 : decode nc_CM_noRing 124 = .ok (.aload_n 0, 1) := by decide +kernel
theorem nd_CM_noRing_125 : decode nc_CM_noRing 125 = .ok (.getfield 22, 3) := by decide +kernel
theorem nd_CM_noRing_128 : decode nc_CM_noRing 128 = .ok (.bipush 10, 2) := by decide +kernel
theorem nd_CM_noRing_130 : decode nc_CM_noRing 130 = .ok (.iload_n 1, 1) := by decide +kernel
theorem nd_CM_noRing_131 : decode nc_CM_noRing 131 = .ok (.imul, 1) := by decide +kernel
theorem nd_CM_noRing_132 : decode nc_CM_noRing 132 = .ok (.iload 5, 2) := by decide +kernel
theorem nd_CM_noRing_134 : decode nc_CM_noRing 134 = .ok (.iadd, 1) := by decide +kernel
theorem nd_CM_noRing_135 : decode nc_CM_noRing 135 = .ok (.iaload, 1) := by decide +kernel
theorem nd_CM_noRing_136 : decode nc_CM_noRing 136 = .ok (.iaload, 1) := by decide +kernel
theorem nd_CM_noRing_137 : decode nc_CM_noRing 137 = .ok (.iconst 1, 1) := by decide +kernel
theorem nd_CM_noRing_138 : decode nc_CM_noRing 138 = .ok (.if_icmp .eq 24, 3) := by decide +kernel
theorem nd_CM_noRing_141 : decode nc_CM_noRing 141 = .ok (.aload_n 0, 1) := by decide +kernel
theorem nd_CM_noRing_142 : decode nc_CM_noRing 142 = .ok (.getfield 37, 3) := by decide +kernel
theorem nd_CM_noRing_145 : decode nc_CM_noRing 145 = .ok (.aload_n 0, 1) := by decide +kernel
theorem nd_CM_noRing_146 : decode nc_CM_noRing 146 = .ok (.getfield 25, 3) := by decide +kernel
theorem nd_CM_noRing_149 : decode nc_CM_noRing 149 = .ok (.bipush 10, 2) := by decide +kernel
theorem nd_CM_noRing_151 : decode nc_CM_noRing 151 = .ok (.iload_n 1, 1) := by decide +kernel
theorem nd_CM_noRing_152 : decode nc_CM_noRing 152 = .ok (.imul, 1) := by decide +kernel
theorem nd_CM_noRing_153 : decode nc_CM_noRing 153 = .ok (.iload 5, 2) := by decide +kernel
theorem nd_CM_noRing_155 : decode nc_CM_noRing 155 = .ok (.iadd, 1) := by decide +kernel
theorem nd_CM_noRing_156 : decode nc_CM_noRing 156 = .ok (.iaload, 1) := by decide +kernel
theorem nd_CM_noRing_157 : decode nc_CM_noRing 157 = .ok (.iaload, 1) := by decide +kernel
theorem nd_CM_noRing_158 : decode nc_CM_noRing 158 = .ok (.iconst 1, 1) := by decide +kernel
theorem nd_CM_noRing_159 : decode nc_CM_noRing 159 = .ok (.if_icmp .ne 7, 3) := by decide +kernel
theorem nd_CM_noRing_162 : decode nc_CM_noRing 162 = .ok (.iconst 1, 1) := by decide +kernel
theorem nd_CM_noRing_163 : decode nc_CM_noRing 163 = .ok (.goto 4, 3) := by decide +kernel
theorem nd_CM_noRing_166 : decode nc_CM_noRing 166 = .ok (.iconst 0, 1) := by decide +kernel
theorem nd_CM_noRing_167 : decode nc_CM_noRing 167 = .ok (.istore 6, 2) := by decide +kernel
theorem nd_CM_noRing_169 : decode nc_CM_noRing 169 = .ok (.iload_n 3, 1) := by decide +kernel
theorem nd_CM_noRing_170 : decode nc_CM_noRing 170 = .ok (.iload 5, 2) := by decide +kernel
theorem nd_CM_noRing_172 : decode nc_CM_noRing 172 = .ok (.ishr, 1) := by decide +kernel
theorem nd_CM_noRing_173 : decode nc_CM_noRing 173 = .ok (.iconst 1, 1) := by decide +kernel
theorem nd_CM_noRing_174 : decode nc_CM_noRing 174 = .ok (.iand, 1) := by decide +kernel
theorem nd_CM_noRing_175 : decode nc_CM_noRing 175 = .ok (.iconst 1, 1) := by decide +kernel
theorem nd_CM_noRing_176 : decode nc_CM_noRing 176 = .ok (.if_icmp .ne 19, 3) := by decide +kernel
theorem nd_CM_noRing_179 : decode nc_CM_noRing 179 = .ok (.iload 6, 2) := by decide +kernel
theorem nd_CM_noRing_181 : decode nc_CM_noRing 181 = .ok (.ifCond .eq 14, 3) := by decide +kernel
theorem nd_CM_noRing_184 : decode nc_CM_noRing 184 = .ok (.iload_n 3, 1) := by decide +kernel
theorem nd_CM_noRing_185 : decode nc_CM_noRing 185 = .ok (.iconst 1, 1) := by decide +kernel
theorem nd_CM_noRing_186 : decode nc_CM_noRing 186 = .ok (.iload 5, 2) := by decide +kernel
theorem nd_CM_noRing_188 : decode nc_CM_noRing 188 = .ok (.ishl, 1) := by decide +kernel
theorem nd_CM_noRing_189 : decode nc_CM_noRing 189 = .ok (.iconst (-1), 1) := by decide +kernel
theorem nd_CM_noRing_190 : decode nc_CM_noRing 190 = .ok (.ixor, 1) := by decide +kernel
theorem nd_CM_noRing_191 : decode nc_CM_noRing 191 = .ok (.iand, 1) := by decide +kernel
theorem nd_CM_noRing_192 : decode nc_CM_noRing 192 = .ok (.goto 4, 3) := by decide +kernel
theorem nd_CM_noRing_195 : decode nc_CM_noRing 195 = .ok (.iload_n 3, 1) := by decide +kernel
theorem nd_CM_noRing_196 : decode nc_CM_noRing 196 = .ok (.istore_n 3, 1) := by decide +kernel
theorem nd_CM_noRing_197 : decode nc_CM_noRing 197 = .ok (.iinc 5 1, 3) := by decide +kernel
theorem nd_CM_noRing_200 : decode nc_CM_noRing 200 = .ok (.goto (-89), 3) := by decide +kernel
theorem nd_CM_noRing_203 : decode nc_CM_noRing 203 = .ok (.iinc 4 1, 3) := by decide +kernel
theorem nd_CM_noRing_206 : decode nc_CM_noRing 206 = .ok (.goto (-201), 3) := by decide +kernel
theorem nd_CM_noRing_209 : decode nc_CM_noRing 209 = .ok (.iload_n 3, 1) := by decide +kernel
theorem nd_CM_noRing_210 : decode nc_CM_noRing 210 = .ok (.ifCond .ne 7, 3) := by decide +kernel
theorem nd_CM_noRing_213 : decode nc_CM_noRing 213 = .ok (.iconst 1, 1) := by decide +kernel
theorem nd_CM_noRing_214 : decode nc_CM_noRing 214 = .ok (.goto 4, 3) := by decide +kernel
theorem nd_CM_noRing_217 : decode nc_CM_noRing 217 = .ok (.iconst 0, 1) := by decide +kernel
theorem nd_CM_noRing_218 : decode nc_CM_noRing 218 = .ok (.ireturn, 1) := by decide +kernel
set_option maxRecDepth 20000 in
theorem lp_CM_noRing1 {p : Program} {l : Launch} {e0 : Env} {R : Room} {s0 : State} {m : MethodId} {args : Array Value} {below : List Frame} {meth : Method} {c : Code} {cells slots : Nat} {Q : State → Prop} {D : va_G} {A : Nat → Prop} (cI cG cM : ClassId) (q : Nat → Nat) (n : Nat) (hn1 : 1 ≤ n) (hn : n ≤ 10) (g : rf_S) (w t rd : Nat) (d : Nat → Int32)  (hx : p.tables.exec = Jvm.exec) (hb : c.code = nc_CM_noRing) (hml : c.maxLocals = 7) (htg : ∀ w ∈ tg_, w.before args s0 = true) (hown : s0.vm.findClass ny_CM_noRing.cls = some m.cls) (hK : va_K D cl_all (ty_all cI cG cM) s0) (hN : tn_K s0) (hA : ∀ q : Nat, s0.heap.size ≤ q → A q) (hRf : 0 ≤ R.frames) (hRl : 0 ≤ R.locals) (hCS : cells ≤ R.cells ∧ slots ≤ R.slots) (kx : ∀ (ls : Array Slot) (H : Heap) (locs : List Loc), lv_has ls 7 [(0, .ref (q 0)), (1, .int (nI (w))), (3, .int (nI (t))), (4, .int (nI (rd)))] → va_P D cl_all ([((q 0), .inr (6, [.int (nI (n)), .ref (q 2), .ref (q 3), .ref (q 4), .ref (q 5), .ref (q 6), .ref (q 7), .ref (q 8), .ref (q 9), .ref (q 10), .ref (q 11), .ref (q 12), .ref (q 13), .ref (q 14)])), ((q 2), .inl (cI, 10, .inl (g 0))), ((q 3), .inl (cI, 2, .inl (g 1))), ((q 4), .inl (cI, 2, .inl (g 2))), ((q 5), .inl (cI, 2, .inl (g 3))), ((q 6), .inl (cI, 20, .inl (g 4))), ((q 7), .inl (cI, 20, .inl (g 5))), ((q 8), .inl (cI, 20, .inl (g 6))), ((q 9), .inl (cI, 8, .inl (g 7))), ((q 10), .inl (cI, 80, .inl (g 8))), ((q 11), .inl (cI, 8, .inl (zz_ d 0 8))), ((q 12), .inl (cI, 16, .inl (g 10))), ((q 13), .inl (cI, 16, .inl (g 11))), ((q 14), .inl (cI, 2048, .inl (g 12)))]) H → va_D A ([((q 0), .inr (6, [.int (nI (n)), .ref (q 2), .ref (q 3), .ref (q 4), .ref (q 5), .ref (q 6), .ref (q 7), .ref (q 8), .ref (q 9), .ref (q 10), .ref (q 11), .ref (q 12), .ref (q 13), .ref (q 14)])), ((q 2), .inl (cI, 10, .inl (g 0))), ((q 3), .inl (cI, 2, .inl (g 1))), ((q 4), .inl (cI, 2, .inl (g 2))), ((q 5), .inl (cI, 2, .inl (g 3))), ((q 6), .inl (cI, 20, .inl (g 4))), ((q 7), .inl (cI, 20, .inl (g 5))), ((q 8), .inl (cI, 20, .inl (g 6))), ((q 9), .inl (cI, 8, .inl (g 7))), ((q 10), .inl (cI, 80, .inl (g 8))), ((q 11), .inl (cI, 8, .inl (zz_ d 0 8))), ((q 12), .inl (cI, 16, .inl (g 10))), ((q 13), .inl (cI, 16, .inl (g 11))), ((q 14), .inl (cI, 2048, .inl (g 12)))]) → va_S A s0.heap H locs → W p l e0 R s0 m args below meth c H locs cells slots Q (F0 m 38 ls [])) : ∀ (f : Nat) (v : Nat) (ls : Array Slot) (H : Heap) (locs : List Loc), 8 - v < f → (v ≤ 8) → lv_has ls 7 [(5, .int (nI (v))), (0, .ref (q 0)), (1, .int (nI (w))), (3, .int (nI (t))), (4, .int (nI (rd)))] → va_P D cl_all ([((q 0), .inr (6, [.int (nI (n)), .ref (q 2), .ref (q 3), .ref (q 4), .ref (q 5), .ref (q 6), .ref (q 7), .ref (q 8), .ref (q 9), .ref (q 10), .ref (q 11), .ref (q 12), .ref (q 13), .ref (q 14)])), ((q 2), .inl (cI, 10, .inl (g 0))), ((q 3), .inl (cI, 2, .inl (g 1))), ((q 4), .inl (cI, 2, .inl (g 2))), ((q 5), .inl (cI, 2, .inl (g 3))), ((q 6), .inl (cI, 20, .inl (g 4))), ((q 7), .inl (cI, 20, .inl (g 5))), ((q 8), .inl (cI, 20, .inl (g 6))), ((q 9), .inl (cI, 8, .inl (g 7))), ((q 10), .inl (cI, 80, .inl (g 8))), ((q 11), .inl (cI, 8, .inl (zz_ d 0 v))), ((q 12), .inl (cI, 16, .inl (g 10))), ((q 13), .inl (cI, 16, .inl (g 11))), ((q 14), .inl (cI, 2048, .inl (g 12)))]) H → va_D A ([((q 0), .inr (6, [.int (nI (n)), .ref (q 2), .ref (q 3), .ref (q 4), .ref (q 5), .ref (q 6), .ref (q 7), .ref (q 8), .ref (q 9), .ref (q 10), .ref (q 11), .ref (q 12), .ref (q 13), .ref (q 14)])), ((q 2), .inl (cI, 10, .inl (g 0))), ((q 3), .inl (cI, 2, .inl (g 1))), ((q 4), .inl (cI, 2, .inl (g 2))), ((q 5), .inl (cI, 2, .inl (g 3))), ((q 6), .inl (cI, 20, .inl (g 4))), ((q 7), .inl (cI, 20, .inl (g 5))), ((q 8), .inl (cI, 20, .inl (g 6))), ((q 9), .inl (cI, 8, .inl (g 7))), ((q 10), .inl (cI, 80, .inl (g 8))), ((q 11), .inl (cI, 8, .inl (zz_ d 0 v))), ((q 12), .inl (cI, 16, .inl (g 10))), ((q 13), .inl (cI, 16, .inl (g 11))), ((q 14), .inl (cI, 2048, .inl (g 12)))]) → va_S A s0.heap H locs → W p l e0 R s0 m args below meth c H locs cells slots Q (F0 m 17 ls []) := by
  intro f
  induction f with
  | zero => intro v ls H locs hfu; omega
  | succ f ih =>
    intro v ls H locs hfu hv hl hP hD hS
    have h2n : 2 ^ n ≤ 1024 := Nat.pow_le_pow_right (by omega) hn
    have h2p : 1 ≤ 2 ^ n := Nat.one_le_two_pow
    refine lv_iload hx hb nd_CM_noRing_17 (lv_at hl 0 rfl) ?_
    refine lv_bipush (v := nI 8) hx hb nd_CM_noRing_19 (by decide) ?_
    refine wi_icmp_ge (tgt := 38) hx hb (by omega) (by omega) nd_CM_noRing_21 rfl (fun hc21 => ?_) (fun hc21 => ?_)
    · have hl : lv_has ls 7 [(0, .ref (q 0)), (1, .int (nI (w))), (3, .int (nI (t))), (4, .int (nI (rd)))] := lv_sub hl [1, 2, 3, 4] rfl
      rw [show v = 8 by omega] at hP hD
      exact kx ls H locs hl hP hD hS
    · refine lv_aload_n hx hb nd_CM_noRing_24 rfl (lv_at hl 1 rfl) ?_
      refine va_get (D := D) (C := nr_CM) (T := nt_CM) (N := 14) hx hb htg tf_CM hown hK hP 0 rfl rfl 10 (by decide) (htg _ tm_393) (fun _ h => h) rfl nd_CM_noRing_25 ?_
      refine lv_iload hx hb nd_CM_noRing_28 (lv_at hl 0 rfl) ?_
      refine wi_ic hx hb (a := 0) nd_CM_noRing_30 ?_
      refine wi_iast hx hb hK hP hD hS 10 0 rfl rfl (by omega) (by omega) nd_CM_noRing_31 (fun H locs hP hD hS => ?_)
      have hP : va_P D cl_all ([((q 0), .inr (6, [.int (nI (n)), .ref (q 2), .ref (q 3), .ref (q 4), .ref (q 5), .ref (q 6), .ref (q 7), .ref (q 8), .ref (q 9), .ref (q 10), .ref (q 11), .ref (q 12), .ref (q 13), .ref (q 14)])), ((q 2), .inl (cI, 10, .inl (g 0))), ((q 3), .inl (cI, 2, .inl (g 1))), ((q 4), .inl (cI, 2, .inl (g 2))), ((q 5), .inl (cI, 2, .inl (g 3))), ((q 6), .inl (cI, 20, .inl (g 4))), ((q 7), .inl (cI, 20, .inl (g 5))), ((q 8), .inl (cI, 20, .inl (g 6))), ((q 9), .inl (cI, 8, .inl (g 7))), ((q 10), .inl (cI, 80, .inl (g 8))), ((q 11), .inl (cI, 8, .inl (upd (zz_ d 0 v) v (nI (0))))), ((q 12), .inl (cI, 16, .inl (g 10))), ((q 13), .inl (cI, 16, .inl (g 11))), ((q 14), .inl (cI, 2048, .inl (g 12)))]) H := hP
      have hD : va_D A ([((q 0), .inr (6, [.int (nI (n)), .ref (q 2), .ref (q 3), .ref (q 4), .ref (q 5), .ref (q 6), .ref (q 7), .ref (q 8), .ref (q 9), .ref (q 10), .ref (q 11), .ref (q 12), .ref (q 13), .ref (q 14)])), ((q 2), .inl (cI, 10, .inl (g 0))), ((q 3), .inl (cI, 2, .inl (g 1))), ((q 4), .inl (cI, 2, .inl (g 2))), ((q 5), .inl (cI, 2, .inl (g 3))), ((q 6), .inl (cI, 20, .inl (g 4))), ((q 7), .inl (cI, 20, .inl (g 5))), ((q 8), .inl (cI, 20, .inl (g 6))), ((q 9), .inl (cI, 8, .inl (g 7))), ((q 10), .inl (cI, 80, .inl (g 8))), ((q 11), .inl (cI, 8, .inl (upd (zz_ d 0 v) v (nI (0))))), ((q 12), .inl (cI, 16, .inl (g 10))), ((q 13), .inl (cI, 16, .inl (g 11))), ((q 14), .inl (cI, 2048, .inl (g 12)))]) := hD
      refine lv_iinc (k := 0) (v := nI (v + 1)) hx hb nd_CM_noRing_32 hl rfl (wi_inc _ 1) (by decide) rfl (fun ls hl => ?_)
      have hl : lv_has ls 7 [(5, .int (nI (v + 1))), (0, .ref (q 0)), (1, .int (nI (w))), (3, .int (nI (t))), (4, .int (nI (rd)))] := hl
      refine lv_goto (tgt := 17) hx hb nd_CM_noRing_35 rfl ?_
      have hl : lv_has ls 7 [(5, .int (nI (v + 1))), (0, .ref (q 0)), (1, .int (nI (w))), (3, .int (nI (t))), (4, .int (nI (rd)))] := lv_sub hl [0, 1, 2, 3, 4] rfl
      rw [zz_s d (by omega)] at hP hD
      exact ih (v + 1) ls H locs (by omega) (by omega) hl hP hD hS
set_option maxRecDepth 20000 in
theorem lp_CM_noRing2 {p : Program} {l : Launch} {e0 : Env} {R : Room} {s0 : State} {m : MethodId} {args : Array Value} {below : List Frame} {meth : Method} {c : Code} {cells slots : Nat} {Q : State → Prop} {D : va_G} {A : Nat → Prop} (cI cG cM : ClassId) (q : Nat → Nat) (n : Nat) (hn1 : 1 ≤ n) (hn : n ≤ 10) (g : rf_S) (w : Nat) (hw : w < 2) (fr to : Nat → Nat) (hfr : ∀ e, e < n → g 4 (10 * w + e) = nI (fr e) ∧ g 5 (10 * w + e) = nI (to e)) (hf : ∀ e, e < n → fr e < 8 ∧ to e < 8) (t rd : Nat) (ht : t < 2 ^ n)  (hx : p.tables.exec = Jvm.exec) (hb : c.code = nc_CM_noRing) (hml : c.maxLocals = 7) (htg : ∀ w ∈ tg_, w.before args s0 = true) (hown : s0.vm.findClass ny_CM_noRing.cls = some m.cls) (hK : va_K D cl_all (ty_all cI cG cM) s0) (hN : tn_K s0) (hA : ∀ q : Nat, s0.heap.size ≤ q → A q) (hRf : 0 ≤ R.frames) (hRl : 0 ≤ R.locals) (hCS : cells ≤ R.cells ∧ slots ≤ R.slots) (kx : ∀ (ls : Array Slot) (H : Heap) (locs : List Loc) (d : Nat → Int32), (∀ v, v < 8 → d v = nI (mg_dg fr to v n t)) → lv_has ls 7 [(0, .ref (q 0)), (1, .int (nI (w))), (3, .int (nI (t))), (4, .int (nI (rd)))] → va_P D cl_all ([((q 0), .inr (6, [.int (nI (n)), .ref (q 2), .ref (q 3), .ref (q 4), .ref (q 5), .ref (q 6), .ref (q 7), .ref (q 8), .ref (q 9), .ref (q 10), .ref (q 11), .ref (q 12), .ref (q 13), .ref (q 14)])), ((q 2), .inl (cI, 10, .inl (g 0))), ((q 3), .inl (cI, 2, .inl (g 1))), ((q 4), .inl (cI, 2, .inl (g 2))), ((q 5), .inl (cI, 2, .inl (g 3))), ((q 6), .inl (cI, 20, .inl (g 4))), ((q 7), .inl (cI, 20, .inl (g 5))), ((q 8), .inl (cI, 20, .inl (g 6))), ((q 9), .inl (cI, 8, .inl (g 7))), ((q 10), .inl (cI, 80, .inl (g 8))), ((q 11), .inl (cI, 8, .inl d)), ((q 12), .inl (cI, 16, .inl (g 10))), ((q 13), .inl (cI, 16, .inl (g 11))), ((q 14), .inl (cI, 2048, .inl (g 12)))]) H → va_D A ([((q 0), .inr (6, [.int (nI (n)), .ref (q 2), .ref (q 3), .ref (q 4), .ref (q 5), .ref (q 6), .ref (q 7), .ref (q 8), .ref (q 9), .ref (q 10), .ref (q 11), .ref (q 12), .ref (q 13), .ref (q 14)])), ((q 2), .inl (cI, 10, .inl (g 0))), ((q 3), .inl (cI, 2, .inl (g 1))), ((q 4), .inl (cI, 2, .inl (g 2))), ((q 5), .inl (cI, 2, .inl (g 3))), ((q 6), .inl (cI, 20, .inl (g 4))), ((q 7), .inl (cI, 20, .inl (g 5))), ((q 8), .inl (cI, 20, .inl (g 6))), ((q 9), .inl (cI, 8, .inl (g 7))), ((q 10), .inl (cI, 80, .inl (g 8))), ((q 11), .inl (cI, 8, .inl d)), ((q 12), .inl (cI, 16, .inl (g 10))), ((q 13), .inl (cI, 16, .inl (g 11))), ((q 14), .inl (cI, 2048, .inl (g 12)))]) → va_S A s0.heap H locs → W p l e0 R s0 m args below meth c H locs cells slots Q (F0 m 108 ls [])) : ∀ (f : Nat) (e : Nat) (d : Nat → Int32) (ls : Array Slot) (H : Heap) (locs : List Loc), n - e < f → (e ≤ n) → (∀ v, v < 8 → d v = nI (mg_dg fr to v e t)) → lv_has ls 7 [(5, .int (nI (e))), (0, .ref (q 0)), (1, .int (nI (w))), (3, .int (nI (t))), (4, .int (nI (rd)))] → va_P D cl_all ([((q 0), .inr (6, [.int (nI (n)), .ref (q 2), .ref (q 3), .ref (q 4), .ref (q 5), .ref (q 6), .ref (q 7), .ref (q 8), .ref (q 9), .ref (q 10), .ref (q 11), .ref (q 12), .ref (q 13), .ref (q 14)])), ((q 2), .inl (cI, 10, .inl (g 0))), ((q 3), .inl (cI, 2, .inl (g 1))), ((q 4), .inl (cI, 2, .inl (g 2))), ((q 5), .inl (cI, 2, .inl (g 3))), ((q 6), .inl (cI, 20, .inl (g 4))), ((q 7), .inl (cI, 20, .inl (g 5))), ((q 8), .inl (cI, 20, .inl (g 6))), ((q 9), .inl (cI, 8, .inl (g 7))), ((q 10), .inl (cI, 80, .inl (g 8))), ((q 11), .inl (cI, 8, .inl d)), ((q 12), .inl (cI, 16, .inl (g 10))), ((q 13), .inl (cI, 16, .inl (g 11))), ((q 14), .inl (cI, 2048, .inl (g 12)))]) H → va_D A ([((q 0), .inr (6, [.int (nI (n)), .ref (q 2), .ref (q 3), .ref (q 4), .ref (q 5), .ref (q 6), .ref (q 7), .ref (q 8), .ref (q 9), .ref (q 10), .ref (q 11), .ref (q 12), .ref (q 13), .ref (q 14)])), ((q 2), .inl (cI, 10, .inl (g 0))), ((q 3), .inl (cI, 2, .inl (g 1))), ((q 4), .inl (cI, 2, .inl (g 2))), ((q 5), .inl (cI, 2, .inl (g 3))), ((q 6), .inl (cI, 20, .inl (g 4))), ((q 7), .inl (cI, 20, .inl (g 5))), ((q 8), .inl (cI, 20, .inl (g 6))), ((q 9), .inl (cI, 8, .inl (g 7))), ((q 10), .inl (cI, 80, .inl (g 8))), ((q 11), .inl (cI, 8, .inl d)), ((q 12), .inl (cI, 16, .inl (g 10))), ((q 13), .inl (cI, 16, .inl (g 11))), ((q 14), .inl (cI, 2048, .inl (g 12)))]) → va_S A s0.heap H locs → W p l e0 R s0 m args below meth c H locs cells slots Q (F0 m 41 ls []) := by
  intro f
  induction f with
  | zero => intro e d ls H locs hfu; omega
  | succ f ih =>
    intro e d ls H locs hfu he hd hl hP hD hS
    have h2n : 2 ^ n ≤ 1024 := Nat.pow_le_pow_right (by omega) hn
    have h2p : 1 ≤ 2 ^ n := Nat.one_le_two_pow
    refine lv_iload hx hb nd_CM_noRing_41 (lv_at hl 0 rfl) ?_
    refine lv_aload_n hx hb nd_CM_noRing_43 rfl (lv_at hl 1 rfl) ?_
    refine va_get (D := D) (C := nr_CM) (T := nt_CM) (N := 14) hx hb htg tf_CM hown hK hP 0 rfl rfl 0 (by decide) (htg _ tm_383) (fun _ h => h) rfl nd_CM_noRing_44 ?_
    refine wi_icmp_ge (tgt := 108) hx hb (by omega) (by omega) nd_CM_noRing_47 rfl (fun hc47 => ?_) (fun hc47 => ?_)
    · have hl : lv_has ls 7 [(0, .ref (q 0)), (1, .int (nI (w))), (3, .int (nI (t))), (4, .int (nI (rd)))] := lv_sub hl [1, 2, 3, 4] rfl
      exact kx ls H locs d (by rw [show n = e by omega]; exact hd) hl hP hD hS
    · refine lv_iload_n hx hb nd_CM_noRing_50 rfl (lv_at hl 3 rfl) ?_
      refine lv_iload hx hb nd_CM_noRing_51 (lv_at hl 0 rfl) ?_
      refine wi_ishr hx hb (by omega) (by omega) nd_CM_noRing_53 ?_
      refine wi_ic hx hb (a := 1) nd_CM_noRing_54 ?_
      refine wi_bit hx hb nd_CM_noRing_55 ?_
      have hbt55 := mt_bt_lt t e
      refine wi_ic hx hb (a := 1) nd_CM_noRing_56 ?_
      refine wi_icmp_ne (tgt := 102) hx hb (by omega) (by omega) nd_CM_noRing_57 rfl (fun hc57 => ?_) (fun hc57 => ?_)
      · refine lv_iinc (k := 0) (v := nI (e + 1)) hx hb nd_CM_noRing_102 hl rfl (wi_inc _ 1) (by decide) rfl (fun ls hl => ?_)
        have hl : lv_has ls 7 [(5, .int (nI (e + 1))), (0, .ref (q 0)), (1, .int (nI (w))), (3, .int (nI (t))), (4, .int (nI (rd)))] := hl
        refine lv_goto (tgt := 41) hx hb nd_CM_noRing_105 rfl ?_
        have hl : lv_has ls 7 [(5, .int (nI (e + 1))), (0, .ref (q 0)), (1, .int (nI (w))), (3, .int (nI (t))), (4, .int (nI (rd)))] := lv_sub hl [0, 1, 2, 3, 4] rfl
        exact ih (e + 1) d ls H locs (by omega) (by omega) (nr_f hd (mt_bt_f.mp (by omega))) hl hP hD hS
      · have hfe := hf e (by omega)
        refine lv_aload_n hx hb nd_CM_noRing_60 rfl (lv_at hl 1 rfl) ?_
        refine va_get (D := D) (C := nr_CM) (T := nt_CM) (N := 14) hx hb htg tf_CM hown hK hP 0 rfl rfl 10 (by decide) (htg _ tm_393) (fun _ h => h) rfl nd_CM_noRing_61 ?_
        refine lv_aload_n hx hb nd_CM_noRing_64 rfl (lv_at hl 1 rfl) ?_
        refine va_get (D := D) (C := nr_CM) (T := nt_CM) (N := 14) hx hb htg tf_CM hown hK hP 0 rfl rfl 5 (by decide) (htg _ tm_388) (fun _ h => h) rfl nd_CM_noRing_65 ?_
        refine lv_bipush (v := nI 10) hx hb nd_CM_noRing_68 (by decide) ?_
        refine lv_iload_n hx hb nd_CM_noRing_70 rfl (lv_at hl 2 rfl) ?_
        refine wi_imul hx hb nd_CM_noRing_71 ?_
        refine lv_iload hx hb nd_CM_noRing_72 (lv_at hl 0 rfl) ?_
        refine wi_iadd hx hb nd_CM_noRing_74 ?_
        refine wi_iald hx hb hK hP 5 0 rfl rfl (by omega) (by omega) nd_CM_noRing_75 ?_
        refine wi_top ((hfr e (by omega)).1) ?_
        refine lv_dup2_11 hx hb nd_CM_noRing_76 rfl rfl ?_
        refine wi_iald hx hb hK hP 10 0 rfl rfl (by omega) (by omega) nd_CM_noRing_77 ?_
        refine wi_top (hd (fr e) (by omega)) ?_
        refine wi_ic hx hb (a := 1) nd_CM_noRing_78 ?_
        refine wi_iadd hx hb nd_CM_noRing_79 ?_
        refine wi_iast hx hb hK hP hD hS 10 0 rfl rfl (by omega) (by omega) nd_CM_noRing_80 (fun H locs hP hD hS => ?_)
        have hP : va_P D cl_all ([((q 0), .inr (6, [.int (nI (n)), .ref (q 2), .ref (q 3), .ref (q 4), .ref (q 5), .ref (q 6), .ref (q 7), .ref (q 8), .ref (q 9), .ref (q 10), .ref (q 11), .ref (q 12), .ref (q 13), .ref (q 14)])), ((q 2), .inl (cI, 10, .inl (g 0))), ((q 3), .inl (cI, 2, .inl (g 1))), ((q 4), .inl (cI, 2, .inl (g 2))), ((q 5), .inl (cI, 2, .inl (g 3))), ((q 6), .inl (cI, 20, .inl (g 4))), ((q 7), .inl (cI, 20, .inl (g 5))), ((q 8), .inl (cI, 20, .inl (g 6))), ((q 9), .inl (cI, 8, .inl (g 7))), ((q 10), .inl (cI, 80, .inl (g 8))), ((q 11), .inl (cI, 8, .inl (upd d (fr e) (nI ((mg_dg fr to (fr e) e t) + 1))))), ((q 12), .inl (cI, 16, .inl (g 10))), ((q 13), .inl (cI, 16, .inl (g 11))), ((q 14), .inl (cI, 2048, .inl (g 12)))]) H := hP
        have hD : va_D A ([((q 0), .inr (6, [.int (nI (n)), .ref (q 2), .ref (q 3), .ref (q 4), .ref (q 5), .ref (q 6), .ref (q 7), .ref (q 8), .ref (q 9), .ref (q 10), .ref (q 11), .ref (q 12), .ref (q 13), .ref (q 14)])), ((q 2), .inl (cI, 10, .inl (g 0))), ((q 3), .inl (cI, 2, .inl (g 1))), ((q 4), .inl (cI, 2, .inl (g 2))), ((q 5), .inl (cI, 2, .inl (g 3))), ((q 6), .inl (cI, 20, .inl (g 4))), ((q 7), .inl (cI, 20, .inl (g 5))), ((q 8), .inl (cI, 20, .inl (g 6))), ((q 9), .inl (cI, 8, .inl (g 7))), ((q 10), .inl (cI, 80, .inl (g 8))), ((q 11), .inl (cI, 8, .inl (upd d (fr e) (nI ((mg_dg fr to (fr e) e t) + 1))))), ((q 12), .inl (cI, 16, .inl (g 10))), ((q 13), .inl (cI, 16, .inl (g 11))), ((q 14), .inl (cI, 2048, .inl (g 12)))]) := hD
        refine lv_aload_n hx hb nd_CM_noRing_81 rfl (lv_at hl 1 rfl) ?_
        refine va_get (D := D) (C := nr_CM) (T := nt_CM) (N := 14) hx hb htg tf_CM hown hK hP 0 rfl rfl 10 (by decide) (htg _ tm_393) (fun _ h => h) rfl nd_CM_noRing_82 ?_
        refine lv_aload_n hx hb nd_CM_noRing_85 rfl (lv_at hl 1 rfl) ?_
        refine va_get (D := D) (C := nr_CM) (T := nt_CM) (N := 14) hx hb htg tf_CM hown hK hP 0 rfl rfl 6 (by decide) (htg _ tm_389) (fun _ h => h) rfl nd_CM_noRing_86 ?_
        refine lv_bipush (v := nI 10) hx hb nd_CM_noRing_89 (by decide) ?_
        refine lv_iload_n hx hb nd_CM_noRing_91 rfl (lv_at hl 2 rfl) ?_
        refine wi_imul hx hb nd_CM_noRing_92 ?_
        refine lv_iload hx hb nd_CM_noRing_93 (lv_at hl 0 rfl) ?_
        refine wi_iadd hx hb nd_CM_noRing_95 ?_
        refine wi_iald hx hb hK hP 6 0 rfl rfl (by omega) (by omega) nd_CM_noRing_96 ?_
        refine wi_top ((hfr e (by omega)).2) ?_
        refine lv_dup2_11 hx hb nd_CM_noRing_97 rfl rfl ?_
        refine wi_iald hx hb hK hP 10 0 rfl rfl (by omega) (by omega) nd_CM_noRing_98 ?_
        refine wi_ic hx hb (a := 1) nd_CM_noRing_99 ?_
        refine lv_iadd hx hb nd_CM_noRing_100 ?_
        refine wi_iast hx hb hK hP hD hS 10 0 rfl rfl (by omega) (by omega) nd_CM_noRing_101 (fun H locs hP hD hS => ?_)
        have hP : va_P D cl_all ([((q 0), .inr (6, [.int (nI (n)), .ref (q 2), .ref (q 3), .ref (q 4), .ref (q 5), .ref (q 6), .ref (q 7), .ref (q 8), .ref (q 9), .ref (q 10), .ref (q 11), .ref (q 12), .ref (q 13), .ref (q 14)])), ((q 2), .inl (cI, 10, .inl (g 0))), ((q 3), .inl (cI, 2, .inl (g 1))), ((q 4), .inl (cI, 2, .inl (g 2))), ((q 5), .inl (cI, 2, .inl (g 3))), ((q 6), .inl (cI, 20, .inl (g 4))), ((q 7), .inl (cI, 20, .inl (g 5))), ((q 8), .inl (cI, 20, .inl (g 6))), ((q 9), .inl (cI, 8, .inl (g 7))), ((q 10), .inl (cI, 80, .inl (g 8))), ((q 11), .inl (cI, 8, .inl (upd (upd d (fr e) (nI ((mg_dg fr to (fr e) e t) + 1))) (to e) ((upd d (fr e) (nI ((mg_dg fr to (fr e) e t) + 1))) (to e) + nI (1))))), ((q 12), .inl (cI, 16, .inl (g 10))), ((q 13), .inl (cI, 16, .inl (g 11))), ((q 14), .inl (cI, 2048, .inl (g 12)))]) H := hP
        have hD : va_D A ([((q 0), .inr (6, [.int (nI (n)), .ref (q 2), .ref (q 3), .ref (q 4), .ref (q 5), .ref (q 6), .ref (q 7), .ref (q 8), .ref (q 9), .ref (q 10), .ref (q 11), .ref (q 12), .ref (q 13), .ref (q 14)])), ((q 2), .inl (cI, 10, .inl (g 0))), ((q 3), .inl (cI, 2, .inl (g 1))), ((q 4), .inl (cI, 2, .inl (g 2))), ((q 5), .inl (cI, 2, .inl (g 3))), ((q 6), .inl (cI, 20, .inl (g 4))), ((q 7), .inl (cI, 20, .inl (g 5))), ((q 8), .inl (cI, 20, .inl (g 6))), ((q 9), .inl (cI, 8, .inl (g 7))), ((q 10), .inl (cI, 80, .inl (g 8))), ((q 11), .inl (cI, 8, .inl (upd (upd d (fr e) (nI ((mg_dg fr to (fr e) e t) + 1))) (to e) ((upd d (fr e) (nI ((mg_dg fr to (fr e) e t) + 1))) (to e) + nI (1))))), ((q 12), .inl (cI, 16, .inl (g 10))), ((q 13), .inl (cI, 16, .inl (g 11))), ((q 14), .inl (cI, 2048, .inl (g 12)))]) := hD
        refine lv_iinc (k := 0) (v := nI (e + 1)) hx hb nd_CM_noRing_102 hl rfl (wi_inc _ 1) (by decide) rfl (fun ls hl => ?_)
        have hl : lv_has ls 7 [(5, .int (nI (e + 1))), (0, .ref (q 0)), (1, .int (nI (w))), (3, .int (nI (t))), (4, .int (nI (rd)))] := hl
        refine lv_goto (tgt := 41) hx hb nd_CM_noRing_105 rfl ?_
        have hl : lv_has ls 7 [(5, .int (nI (e + 1))), (0, .ref (q 0)), (1, .int (nI (w))), (3, .int (nI (t))), (4, .int (nI (rd)))] := lv_sub hl [0, 1, 2, 3, 4] rfl
        exact ih (e + 1) (upd (upd d (fr e) (nI ((mg_dg fr to (fr e) e t) + 1))) (to e) ((upd d (fr e) (nI ((mg_dg fr to (fr e) e t) + 1))) (to e) + nI (1))) ls H locs (by omega) (by omega) (nr_t hd (mt_bt_t.mp (by omega))) hl hP hD hS
set_option maxRecDepth 20000 in
theorem lp_CM_noRing3 {p : Program} {l : Launch} {e0 : Env} {R : Room} {s0 : State} {m : MethodId} {args : Array Value} {below : List Frame} {meth : Method} {c : Code} {cells slots : Nat} {Q : State → Prop} {D : va_G} {A : Nat → Prop} (cI cG cM : ClassId) (q : Nat → Nat) (n : Nat) (hn1 : 1 ≤ n) (hn : n ≤ 10) (g : rf_S) (w : Nat) (hw : w < 2) (fr to : Nat → Nat) (hfr : ∀ e, e < n → g 4 (10 * w + e) = nI (fr e) ∧ g 5 (10 * w + e) = nI (to e)) (hf : ∀ e, e < n → fr e < 8 ∧ to e < 8) (t rd : Nat) (ht : t < 2 ^ n) (d : Nat → Int32) (hd : ∀ v, v < 8 → d v = nI (mg_dg fr to v n t))  (hx : p.tables.exec = Jvm.exec) (hb : c.code = nc_CM_noRing) (hml : c.maxLocals = 7) (htg : ∀ w ∈ tg_, w.before args s0 = true) (hown : s0.vm.findClass ny_CM_noRing.cls = some m.cls) (hK : va_K D cl_all (ty_all cI cG cM) s0) (hN : tn_K s0) (hA : ∀ q : Nat, s0.heap.size ≤ q → A q) (hRf : 0 ≤ R.frames) (hRl : 0 ≤ R.locals) (hCS : cells ≤ R.cells ∧ slots ≤ R.slots) (kx : ∀ (ls : Array Slot) (H : Heap) (locs : List Loc), lv_has ls 7 [(3, .int (nI (mg_ro n fr to t))), (0, .ref (q 0)), (1, .int (nI (w))), (4, .int (nI (rd)))] → va_P D cl_all ([((q 0), .inr (6, [.int (nI (n)), .ref (q 2), .ref (q 3), .ref (q 4), .ref (q 5), .ref (q 6), .ref (q 7), .ref (q 8), .ref (q 9), .ref (q 10), .ref (q 11), .ref (q 12), .ref (q 13), .ref (q 14)])), ((q 2), .inl (cI, 10, .inl (g 0))), ((q 3), .inl (cI, 2, .inl (g 1))), ((q 4), .inl (cI, 2, .inl (g 2))), ((q 5), .inl (cI, 2, .inl (g 3))), ((q 6), .inl (cI, 20, .inl (g 4))), ((q 7), .inl (cI, 20, .inl (g 5))), ((q 8), .inl (cI, 20, .inl (g 6))), ((q 9), .inl (cI, 8, .inl (g 7))), ((q 10), .inl (cI, 80, .inl (g 8))), ((q 11), .inl (cI, 8, .inl d)), ((q 12), .inl (cI, 16, .inl (g 10))), ((q 13), .inl (cI, 16, .inl (g 11))), ((q 14), .inl (cI, 2048, .inl (g 12)))]) H → va_D A ([((q 0), .inr (6, [.int (nI (n)), .ref (q 2), .ref (q 3), .ref (q 4), .ref (q 5), .ref (q 6), .ref (q 7), .ref (q 8), .ref (q 9), .ref (q 10), .ref (q 11), .ref (q 12), .ref (q 13), .ref (q 14)])), ((q 2), .inl (cI, 10, .inl (g 0))), ((q 3), .inl (cI, 2, .inl (g 1))), ((q 4), .inl (cI, 2, .inl (g 2))), ((q 5), .inl (cI, 2, .inl (g 3))), ((q 6), .inl (cI, 20, .inl (g 4))), ((q 7), .inl (cI, 20, .inl (g 5))), ((q 8), .inl (cI, 20, .inl (g 6))), ((q 9), .inl (cI, 8, .inl (g 7))), ((q 10), .inl (cI, 80, .inl (g 8))), ((q 11), .inl (cI, 8, .inl d)), ((q 12), .inl (cI, 16, .inl (g 10))), ((q 13), .inl (cI, 16, .inl (g 11))), ((q 14), .inl (cI, 2048, .inl (g 12)))]) → va_S A s0.heap H locs → W p l e0 R s0 m args below meth c H locs cells slots Q (F0 m 203 ls [])) : ∀ (f : Nat) (e : Nat) (ls : Array Slot) (H : Heap) (locs : List Loc), n - e < f → (e ≤ n) → lv_has ls 7 [(5, .int (nI (e))), (3, .int (nI (mg_pe (fun v => mg_dg fr to v n t) fr to e t))), (0, .ref (q 0)), (1, .int (nI (w))), (4, .int (nI (rd)))] → va_P D cl_all ([((q 0), .inr (6, [.int (nI (n)), .ref (q 2), .ref (q 3), .ref (q 4), .ref (q 5), .ref (q 6), .ref (q 7), .ref (q 8), .ref (q 9), .ref (q 10), .ref (q 11), .ref (q 12), .ref (q 13), .ref (q 14)])), ((q 2), .inl (cI, 10, .inl (g 0))), ((q 3), .inl (cI, 2, .inl (g 1))), ((q 4), .inl (cI, 2, .inl (g 2))), ((q 5), .inl (cI, 2, .inl (g 3))), ((q 6), .inl (cI, 20, .inl (g 4))), ((q 7), .inl (cI, 20, .inl (g 5))), ((q 8), .inl (cI, 20, .inl (g 6))), ((q 9), .inl (cI, 8, .inl (g 7))), ((q 10), .inl (cI, 80, .inl (g 8))), ((q 11), .inl (cI, 8, .inl d)), ((q 12), .inl (cI, 16, .inl (g 10))), ((q 13), .inl (cI, 16, .inl (g 11))), ((q 14), .inl (cI, 2048, .inl (g 12)))]) H → va_D A ([((q 0), .inr (6, [.int (nI (n)), .ref (q 2), .ref (q 3), .ref (q 4), .ref (q 5), .ref (q 6), .ref (q 7), .ref (q 8), .ref (q 9), .ref (q 10), .ref (q 11), .ref (q 12), .ref (q 13), .ref (q 14)])), ((q 2), .inl (cI, 10, .inl (g 0))), ((q 3), .inl (cI, 2, .inl (g 1))), ((q 4), .inl (cI, 2, .inl (g 2))), ((q 5), .inl (cI, 2, .inl (g 3))), ((q 6), .inl (cI, 20, .inl (g 4))), ((q 7), .inl (cI, 20, .inl (g 5))), ((q 8), .inl (cI, 20, .inl (g 6))), ((q 9), .inl (cI, 8, .inl (g 7))), ((q 10), .inl (cI, 80, .inl (g 8))), ((q 11), .inl (cI, 8, .inl d)), ((q 12), .inl (cI, 16, .inl (g 10))), ((q 13), .inl (cI, 16, .inl (g 11))), ((q 14), .inl (cI, 2048, .inl (g 12)))]) → va_S A s0.heap H locs → W p l e0 R s0 m args below meth c H locs cells slots Q (F0 m 111 ls []) := by
  intro f
  induction f with
  | zero => intro e ls H locs hfu; omega
  | succ f ih =>
    intro e ls H locs hfu he hl hP hD hS
    have h2n : 2 ^ n ≤ 1024 := Nat.pow_le_pow_right (by omega) hn
    have h2p : 1 ≤ 2 ^ n := Nat.one_le_two_pow
    have hpt := mg_pe_lt (d := (fun v => mg_dg fr to v n t)) (fr := fr) (to := to) ht e
    refine lv_iload hx hb nd_CM_noRing_111 (lv_at hl 0 rfl) ?_
    refine lv_aload_n hx hb nd_CM_noRing_113 rfl (lv_at hl 2 rfl) ?_
    refine va_get (D := D) (C := nr_CM) (T := nt_CM) (N := 14) hx hb htg tf_CM hown hK hP 0 rfl rfl 0 (by decide) (htg _ tm_383) (fun _ h => h) rfl nd_CM_noRing_114 ?_
    refine wi_icmp_ge (tgt := 203) hx hb (by omega) (by omega) nd_CM_noRing_117 rfl (fun hc117 => ?_) (fun hc117 => ?_)
    · have hl : lv_has ls 7 [(3, .int (nI (mg_pe (fun v => mg_dg fr to v n t) fr to e t))), (0, .ref (q 0)), (1, .int (nI (w))), (4, .int (nI (rd)))] := lv_sub hl [1, 2, 3, 4] rfl
      have hen : e = n := by omega
      exact kx ls H locs (by unfold mg_ro; simpa only [hen] using hl) hP hD hS
    · have hfe := hf e (by omega)
      have hg1 := mg_dg_le fr to (fr e) n t
      have hg2 := mg_dg_le fr to (to e) n t
      refine lv_aload_n hx hb nd_CM_noRing_120 rfl (lv_at hl 2 rfl) ?_
      refine va_get (D := D) (C := nr_CM) (T := nt_CM) (N := 14) hx hb htg tf_CM hown hK hP 0 rfl rfl 10 (by decide) (htg _ tm_393) (fun _ h => h) rfl nd_CM_noRing_121 ?_
      refine lv_aload_n hx hb nd_CM_noRing_124 rfl (lv_at hl 2 rfl) ?_
      refine va_get (D := D) (C := nr_CM) (T := nt_CM) (N := 14) hx hb htg tf_CM hown hK hP 0 rfl rfl 5 (by decide) (htg _ tm_388) (fun _ h => h) rfl nd_CM_noRing_125 ?_
      refine lv_bipush (v := nI 10) hx hb nd_CM_noRing_128 (by decide) ?_
      refine lv_iload_n hx hb nd_CM_noRing_130 rfl (lv_at hl 3 rfl) ?_
      refine wi_imul hx hb nd_CM_noRing_131 ?_
      refine lv_iload hx hb nd_CM_noRing_132 (lv_at hl 0 rfl) ?_
      refine wi_iadd hx hb nd_CM_noRing_134 ?_
      refine wi_iald hx hb hK hP 5 0 rfl rfl (by omega) (by omega) nd_CM_noRing_135 ?_
      refine wi_top ((hfr e (by omega)).1) ?_
      refine wi_iald hx hb hK hP 10 0 rfl rfl (by omega) (by omega) nd_CM_noRing_136 ?_
      refine wi_top (hd (fr e) (by omega)) ?_
      refine wi_ic hx hb (a := 1) nd_CM_noRing_137 ?_
      refine wi_icmp_eq (tgt := 162) hx hb (by omega) (by omega) nd_CM_noRing_138 rfl (fun hc138 => ?_) (fun hc138 => ?_)
      · refine wi_ic hx hb (a := 1) nd_CM_noRing_162 ?_
        refine lv_goto (tgt := 167) hx hb nd_CM_noRing_163 rfl ?_
        refine lv_istore hx hb nd_CM_noRing_167 hl (by decide) rfl (fun ls hl => ?_)
        have hl : lv_has ls 7 [(6, .int (nI (1))), (5, .int (nI (e))), (3, .int (nI (mg_pe (fun v => mg_dg fr to v n t) fr to e t))), (0, .ref (q 0)), (1, .int (nI (w))), (4, .int (nI (rd)))] := hl
        refine lv_iload_n hx hb nd_CM_noRing_169 rfl (lv_at hl 2 rfl) ?_
        refine lv_iload hx hb nd_CM_noRing_170 (lv_at hl 1 rfl) ?_
        refine wi_ishr hx hb (by omega) (by omega) nd_CM_noRing_172 ?_
        refine wi_ic hx hb (a := 1) nd_CM_noRing_173 ?_
        refine wi_bit hx hb nd_CM_noRing_174 ?_
        have hbt174 := mt_bt_lt (mg_pe (fun v => mg_dg fr to v n t) fr to e t) e
        refine wi_ic hx hb (a := 1) nd_CM_noRing_175 ?_
        refine wi_icmp_ne (tgt := 195) hx hb (by omega) (by omega) nd_CM_noRing_176 rfl (fun hc176 => ?_) (fun hc176 => ?_)
        · refine lv_iload_n hx hb nd_CM_noRing_195 rfl (lv_at hl 2 rfl) ?_
          refine lv_istore_n hx hb nd_CM_noRing_196 rfl hl (by decide) rfl (fun ls hl => ?_)
          have hl : lv_has ls 7 [(3, .int (nI (mg_pe (fun v => mg_dg fr to v n t) fr to e t))), (6, .int (nI (1))), (5, .int (nI (e))), (0, .ref (q 0)), (1, .int (nI (w))), (4, .int (nI (rd)))] := hl
          refine lv_iinc (k := 2) (v := nI (e + 1)) hx hb nd_CM_noRing_197 hl rfl (wi_inc _ 1) (by decide) rfl (fun ls hl => ?_)
          have hl : lv_has ls 7 [(5, .int (nI (e + 1))), (3, .int (nI (mg_pe (fun v => mg_dg fr to v n t) fr to e t))), (6, .int (nI (1))), (0, .ref (q 0)), (1, .int (nI (w))), (4, .int (nI (rd)))] := hl
          refine lv_goto (tgt := 111) hx hb nd_CM_noRing_200 rfl ?_
          have hl : lv_has ls 7 [(5, .int (nI (e + 1))), (3, .int (nI (mg_pe (fun v => mg_dg fr to v n t) fr to e t))), (0, .ref (q 0)), (1, .int (nI (w))), (4, .int (nI (rd)))] := lv_sub hl [0, 1, 3, 4, 5] rfl
          have hpe : mg_pe (fun v => mg_dg fr to v n t) fr to (e + 1) t = mg_pe (fun v => mg_dg fr to v n t) fr to e t := if_neg (fun z => by have := mt_bt_t.mpr z.1; omega)
          exact ih (e + 1) ls H locs (by omega) (by omega) (by rw [hpe]; exact hl) hP hD hS
        · refine lv_iload hx hb nd_CM_noRing_179 (lv_at hl 0 rfl) ?_
          refine wi_if_eq (tgt := 195) hx hb (by decide) nd_CM_noRing_181 rfl (fun h => absurd h (by decide)) (fun _ => ?_)
          refine lv_iload_n hx hb nd_CM_noRing_184 rfl (lv_at hl 2 rfl) ?_
          refine wi_ic hx hb (a := 1) nd_CM_noRing_185 ?_
          refine lv_iload hx hb nd_CM_noRing_186 (lv_at hl 1 rfl) ?_
          refine wi_ishl1 hx hb (by omega) nd_CM_noRing_188 ?_
          refine lv_iconst (v := -1) hx hb nd_CM_noRing_189 (by decide) ?_
          refine lv_ixor hx hb nd_CM_noRing_190 ?_
          refine lv_iand hx hb nd_CM_noRing_191 ?_
          refine wi_top (bs_rm hpt (by omega) (show e < n by omega)) ?_
          rw [if_pos (mt_bt_t.mp (show mt_bt (mg_pe (fun v => mg_dg fr to v n t) fr to e t) e = 1 by omega))]
          refine lv_goto (tgt := 196) hx hb nd_CM_noRing_192 rfl ?_
          refine lv_istore_n hx hb nd_CM_noRing_196 rfl hl (by decide) rfl (fun ls hl => ?_)
          have hl : lv_has ls 7 [(3, .int (nI ((mg_pe (fun v => mg_dg fr to v n t) fr to e t) ^^^ 2 ^ e))), (6, .int (nI (1))), (5, .int (nI (e))), (0, .ref (q 0)), (1, .int (nI (w))), (4, .int (nI (rd)))] := hl
          refine lv_iinc (k := 2) (v := nI (e + 1)) hx hb nd_CM_noRing_197 hl rfl (wi_inc _ 1) (by decide) rfl (fun ls hl => ?_)
          have hl : lv_has ls 7 [(5, .int (nI (e + 1))), (3, .int (nI ((mg_pe (fun v => mg_dg fr to v n t) fr to e t) ^^^ 2 ^ e))), (6, .int (nI (1))), (0, .ref (q 0)), (1, .int (nI (w))), (4, .int (nI (rd)))] := hl
          refine lv_goto (tgt := 111) hx hb nd_CM_noRing_200 rfl ?_
          have hl : lv_has ls 7 [(5, .int (nI (e + 1))), (3, .int (nI ((mg_pe (fun v => mg_dg fr to v n t) fr to e t) ^^^ 2 ^ e))), (0, .ref (q 0)), (1, .int (nI (w))), (4, .int (nI (rd)))] := lv_sub hl [0, 1, 3, 4, 5] rfl
          have hpe : mg_pe (fun v => mg_dg fr to v n t) fr to (e + 1) t = mg_pe (fun v => mg_dg fr to v n t) fr to e t ^^^ 2 ^ e := if_pos ⟨mt_bt_t.mp (by omega), Or.inl hc138⟩
          exact ih (e + 1) ls H locs (by omega) (by omega) (by rw [hpe]; exact hl) hP hD hS
      · refine lv_aload_n hx hb nd_CM_noRing_141 rfl (lv_at hl 2 rfl) ?_
        refine va_get (D := D) (C := nr_CM) (T := nt_CM) (N := 14) hx hb htg tf_CM hown hK hP 0 rfl rfl 10 (by decide) (htg _ tm_393) (fun _ h => h) rfl nd_CM_noRing_142 ?_
        refine lv_aload_n hx hb nd_CM_noRing_145 rfl (lv_at hl 2 rfl) ?_
        refine va_get (D := D) (C := nr_CM) (T := nt_CM) (N := 14) hx hb htg tf_CM hown hK hP 0 rfl rfl 6 (by decide) (htg _ tm_389) (fun _ h => h) rfl nd_CM_noRing_146 ?_
        refine lv_bipush (v := nI 10) hx hb nd_CM_noRing_149 (by decide) ?_
        refine lv_iload_n hx hb nd_CM_noRing_151 rfl (lv_at hl 3 rfl) ?_
        refine wi_imul hx hb nd_CM_noRing_152 ?_
        refine lv_iload hx hb nd_CM_noRing_153 (lv_at hl 0 rfl) ?_
        refine wi_iadd hx hb nd_CM_noRing_155 ?_
        refine wi_iald hx hb hK hP 6 0 rfl rfl (by omega) (by omega) nd_CM_noRing_156 ?_
        refine wi_top ((hfr e (by omega)).2) ?_
        refine wi_iald hx hb hK hP 10 0 rfl rfl (by omega) (by omega) nd_CM_noRing_157 ?_
        refine wi_top (hd (to e) (by omega)) ?_
        refine wi_ic hx hb (a := 1) nd_CM_noRing_158 ?_
        refine wi_icmp_ne (tgt := 166) hx hb (by omega) (by omega) nd_CM_noRing_159 rfl (fun hc159 => ?_) (fun hc159 => ?_)
        · refine wi_ic hx hb (a := 0) nd_CM_noRing_166 ?_
          refine lv_istore hx hb nd_CM_noRing_167 hl (by decide) rfl (fun ls hl => ?_)
          have hl : lv_has ls 7 [(6, .int (nI (0))), (5, .int (nI (e))), (3, .int (nI (mg_pe (fun v => mg_dg fr to v n t) fr to e t))), (0, .ref (q 0)), (1, .int (nI (w))), (4, .int (nI (rd)))] := hl
          refine lv_iload_n hx hb nd_CM_noRing_169 rfl (lv_at hl 2 rfl) ?_
          refine lv_iload hx hb nd_CM_noRing_170 (lv_at hl 1 rfl) ?_
          refine wi_ishr hx hb (by omega) (by omega) nd_CM_noRing_172 ?_
          refine wi_ic hx hb (a := 1) nd_CM_noRing_173 ?_
          refine wi_bit hx hb nd_CM_noRing_174 ?_
          have hbt174 := mt_bt_lt (mg_pe (fun v => mg_dg fr to v n t) fr to e t) e
          refine wi_ic hx hb (a := 1) nd_CM_noRing_175 ?_
          refine wi_icmp_ne (tgt := 195) hx hb (by omega) (by omega) nd_CM_noRing_176 rfl (fun hc176 => ?_) (fun hc176 => ?_)
          · refine lv_iload_n hx hb nd_CM_noRing_195 rfl (lv_at hl 2 rfl) ?_
            refine lv_istore_n hx hb nd_CM_noRing_196 rfl hl (by decide) rfl (fun ls hl => ?_)
            have hl : lv_has ls 7 [(3, .int (nI (mg_pe (fun v => mg_dg fr to v n t) fr to e t))), (6, .int (nI (0))), (5, .int (nI (e))), (0, .ref (q 0)), (1, .int (nI (w))), (4, .int (nI (rd)))] := hl
            refine lv_iinc (k := 2) (v := nI (e + 1)) hx hb nd_CM_noRing_197 hl rfl (wi_inc _ 1) (by decide) rfl (fun ls hl => ?_)
            have hl : lv_has ls 7 [(5, .int (nI (e + 1))), (3, .int (nI (mg_pe (fun v => mg_dg fr to v n t) fr to e t))), (6, .int (nI (0))), (0, .ref (q 0)), (1, .int (nI (w))), (4, .int (nI (rd)))] := hl
            refine lv_goto (tgt := 111) hx hb nd_CM_noRing_200 rfl ?_
            have hl : lv_has ls 7 [(5, .int (nI (e + 1))), (3, .int (nI (mg_pe (fun v => mg_dg fr to v n t) fr to e t))), (0, .ref (q 0)), (1, .int (nI (w))), (4, .int (nI (rd)))] := lv_sub hl [0, 1, 3, 4, 5] rfl
            have hpe : mg_pe (fun v => mg_dg fr to v n t) fr to (e + 1) t = mg_pe (fun v => mg_dg fr to v n t) fr to e t := if_neg (fun z => by have := mt_bt_t.mpr z.1; omega)
            exact ih (e + 1) ls H locs (by omega) (by omega) (by rw [hpe]; exact hl) hP hD hS
          · refine lv_iload hx hb nd_CM_noRing_179 (lv_at hl 0 rfl) ?_
            refine wi_if_eq (tgt := 195) hx hb (by decide) nd_CM_noRing_181 rfl (fun _ => ?_) (fun h => absurd h (by decide))
            refine lv_iload_n hx hb nd_CM_noRing_195 rfl (lv_at hl 2 rfl) ?_
            refine lv_istore_n hx hb nd_CM_noRing_196 rfl hl (by decide) rfl (fun ls hl => ?_)
            have hl : lv_has ls 7 [(3, .int (nI (mg_pe (fun v => mg_dg fr to v n t) fr to e t))), (6, .int (nI (0))), (5, .int (nI (e))), (0, .ref (q 0)), (1, .int (nI (w))), (4, .int (nI (rd)))] := hl
            refine lv_iinc (k := 2) (v := nI (e + 1)) hx hb nd_CM_noRing_197 hl rfl (wi_inc _ 1) (by decide) rfl (fun ls hl => ?_)
            have hl : lv_has ls 7 [(5, .int (nI (e + 1))), (3, .int (nI (mg_pe (fun v => mg_dg fr to v n t) fr to e t))), (6, .int (nI (0))), (0, .ref (q 0)), (1, .int (nI (w))), (4, .int (nI (rd)))] := hl
            refine lv_goto (tgt := 111) hx hb nd_CM_noRing_200 rfl ?_
            have hl : lv_has ls 7 [(5, .int (nI (e + 1))), (3, .int (nI (mg_pe (fun v => mg_dg fr to v n t) fr to e t))), (0, .ref (q 0)), (1, .int (nI (w))), (4, .int (nI (rd)))] := lv_sub hl [0, 1, 3, 4, 5] rfl
            have hpe : mg_pe (fun v => mg_dg fr to v n t) fr to (e + 1) t = mg_pe (fun v => mg_dg fr to v n t) fr to e t := if_neg (fun z => z.2.elim hc138 hc159)
            exact ih (e + 1) ls H locs (by omega) (by omega) (by rw [hpe]; exact hl) hP hD hS
        · refine wi_ic hx hb (a := 1) nd_CM_noRing_162 ?_
          refine lv_goto (tgt := 167) hx hb nd_CM_noRing_163 rfl ?_
          refine lv_istore hx hb nd_CM_noRing_167 hl (by decide) rfl (fun ls hl => ?_)
          have hl : lv_has ls 7 [(6, .int (nI (1))), (5, .int (nI (e))), (3, .int (nI (mg_pe (fun v => mg_dg fr to v n t) fr to e t))), (0, .ref (q 0)), (1, .int (nI (w))), (4, .int (nI (rd)))] := hl
          refine lv_iload_n hx hb nd_CM_noRing_169 rfl (lv_at hl 2 rfl) ?_
          refine lv_iload hx hb nd_CM_noRing_170 (lv_at hl 1 rfl) ?_
          refine wi_ishr hx hb (by omega) (by omega) nd_CM_noRing_172 ?_
          refine wi_ic hx hb (a := 1) nd_CM_noRing_173 ?_
          refine wi_bit hx hb nd_CM_noRing_174 ?_
          have hbt174 := mt_bt_lt (mg_pe (fun v => mg_dg fr to v n t) fr to e t) e
          refine wi_ic hx hb (a := 1) nd_CM_noRing_175 ?_
          refine wi_icmp_ne (tgt := 195) hx hb (by omega) (by omega) nd_CM_noRing_176 rfl (fun hc176 => ?_) (fun hc176 => ?_)
          · refine lv_iload_n hx hb nd_CM_noRing_195 rfl (lv_at hl 2 rfl) ?_
            refine lv_istore_n hx hb nd_CM_noRing_196 rfl hl (by decide) rfl (fun ls hl => ?_)
            have hl : lv_has ls 7 [(3, .int (nI (mg_pe (fun v => mg_dg fr to v n t) fr to e t))), (6, .int (nI (1))), (5, .int (nI (e))), (0, .ref (q 0)), (1, .int (nI (w))), (4, .int (nI (rd)))] := hl
            refine lv_iinc (k := 2) (v := nI (e + 1)) hx hb nd_CM_noRing_197 hl rfl (wi_inc _ 1) (by decide) rfl (fun ls hl => ?_)
            have hl : lv_has ls 7 [(5, .int (nI (e + 1))), (3, .int (nI (mg_pe (fun v => mg_dg fr to v n t) fr to e t))), (6, .int (nI (1))), (0, .ref (q 0)), (1, .int (nI (w))), (4, .int (nI (rd)))] := hl
            refine lv_goto (tgt := 111) hx hb nd_CM_noRing_200 rfl ?_
            have hl : lv_has ls 7 [(5, .int (nI (e + 1))), (3, .int (nI (mg_pe (fun v => mg_dg fr to v n t) fr to e t))), (0, .ref (q 0)), (1, .int (nI (w))), (4, .int (nI (rd)))] := lv_sub hl [0, 1, 3, 4, 5] rfl
            have hpe : mg_pe (fun v => mg_dg fr to v n t) fr to (e + 1) t = mg_pe (fun v => mg_dg fr to v n t) fr to e t := if_neg (fun z => by have := mt_bt_t.mpr z.1; omega)
            exact ih (e + 1) ls H locs (by omega) (by omega) (by rw [hpe]; exact hl) hP hD hS
          · refine lv_iload hx hb nd_CM_noRing_179 (lv_at hl 0 rfl) ?_
            refine wi_if_eq (tgt := 195) hx hb (by decide) nd_CM_noRing_181 rfl (fun h => absurd h (by decide)) (fun _ => ?_)
            refine lv_iload_n hx hb nd_CM_noRing_184 rfl (lv_at hl 2 rfl) ?_
            refine wi_ic hx hb (a := 1) nd_CM_noRing_185 ?_
            refine lv_iload hx hb nd_CM_noRing_186 (lv_at hl 1 rfl) ?_
            refine wi_ishl1 hx hb (by omega) nd_CM_noRing_188 ?_
            refine lv_iconst (v := -1) hx hb nd_CM_noRing_189 (by decide) ?_
            refine lv_ixor hx hb nd_CM_noRing_190 ?_
            refine lv_iand hx hb nd_CM_noRing_191 ?_
            refine wi_top (bs_rm hpt (by omega) (show e < n by omega)) ?_
            rw [if_pos (mt_bt_t.mp (show mt_bt (mg_pe (fun v => mg_dg fr to v n t) fr to e t) e = 1 by omega))]
            refine lv_goto (tgt := 196) hx hb nd_CM_noRing_192 rfl ?_
            refine lv_istore_n hx hb nd_CM_noRing_196 rfl hl (by decide) rfl (fun ls hl => ?_)
            have hl : lv_has ls 7 [(3, .int (nI ((mg_pe (fun v => mg_dg fr to v n t) fr to e t) ^^^ 2 ^ e))), (6, .int (nI (1))), (5, .int (nI (e))), (0, .ref (q 0)), (1, .int (nI (w))), (4, .int (nI (rd)))] := hl
            refine lv_iinc (k := 2) (v := nI (e + 1)) hx hb nd_CM_noRing_197 hl rfl (wi_inc _ 1) (by decide) rfl (fun ls hl => ?_)
            have hl : lv_has ls 7 [(5, .int (nI (e + 1))), (3, .int (nI ((mg_pe (fun v => mg_dg fr to v n t) fr to e t) ^^^ 2 ^ e))), (6, .int (nI (1))), (0, .ref (q 0)), (1, .int (nI (w))), (4, .int (nI (rd)))] := hl
            refine lv_goto (tgt := 111) hx hb nd_CM_noRing_200 rfl ?_
            have hl : lv_has ls 7 [(5, .int (nI (e + 1))), (3, .int (nI ((mg_pe (fun v => mg_dg fr to v n t) fr to e t) ^^^ 2 ^ e))), (0, .ref (q 0)), (1, .int (nI (w))), (4, .int (nI (rd)))] := lv_sub hl [0, 1, 3, 4, 5] rfl
            have hpe : mg_pe (fun v => mg_dg fr to v n t) fr to (e + 1) t = mg_pe (fun v => mg_dg fr to v n t) fr to e t ^^^ 2 ^ e := if_pos ⟨mt_bt_t.mp (by omega), Or.inr hc159⟩
            exact ih (e + 1) ls H locs (by omega) (by omega) (by rw [hpe]; exact hl) hP hD hS
set_option maxRecDepth 20000 in
theorem lp_CM_noRing4 {p : Program} {l : Launch} {e0 : Env} {R : Room} {s0 : State} {m : MethodId} {args : Array Value} {below : List Frame} {meth : Method} {c : Code} {cells slots : Nat} {Q : State → Prop} {D : va_G} {A : Nat → Prop} (cI cG cM : ClassId) (q : Nat → Nat) (n : Nat) (hn1 : 1 ≤ n) (hn : n ≤ 10) (g : rf_S) (w : Nat) (hw : w < 2) (fr to : Nat → Nat) (hfr : ∀ e, e < n → g 4 (10 * w + e) = nI (fr e) ∧ g 5 (10 * w + e) = nI (to e)) (hf : ∀ e, e < n → fr e < 8 ∧ to e < 8) (s : Nat) (hs : s < 2 ^ n)  (hx : p.tables.exec = Jvm.exec) (hb : c.code = nc_CM_noRing) (hml : c.maxLocals = 7) (htg : ∀ w ∈ tg_, w.before args s0 = true) (hown : s0.vm.findClass ny_CM_noRing.cls = some m.cls) (hK : va_K D cl_all (ty_all cI cG cM) s0) (hN : tn_K s0) (hA : ∀ q : Nat, s0.heap.size ≤ q → A q) (hRf : 0 ≤ R.frames) (hRl : 0 ≤ R.locals) (hCS : cells ≤ R.cells ∧ slots ≤ R.slots) (kx : ∀ (ls : Array Slot) (H : Heap) (locs : List Loc) (d : Nat → Int32), lv_has ls 7 [(3, .int (nI (mg_it n fr to (n + 1) s)))] → va_P D cl_all ([((q 0), .inr (6, [.int (nI (n)), .ref (q 2), .ref (q 3), .ref (q 4), .ref (q 5), .ref (q 6), .ref (q 7), .ref (q 8), .ref (q 9), .ref (q 10), .ref (q 11), .ref (q 12), .ref (q 13), .ref (q 14)])), ((q 2), .inl (cI, 10, .inl (g 0))), ((q 3), .inl (cI, 2, .inl (g 1))), ((q 4), .inl (cI, 2, .inl (g 2))), ((q 5), .inl (cI, 2, .inl (g 3))), ((q 6), .inl (cI, 20, .inl (g 4))), ((q 7), .inl (cI, 20, .inl (g 5))), ((q 8), .inl (cI, 20, .inl (g 6))), ((q 9), .inl (cI, 8, .inl (g 7))), ((q 10), .inl (cI, 80, .inl (g 8))), ((q 11), .inl (cI, 8, .inl d)), ((q 12), .inl (cI, 16, .inl (g 10))), ((q 13), .inl (cI, 16, .inl (g 11))), ((q 14), .inl (cI, 2048, .inl (g 12)))]) H → va_D A ([((q 0), .inr (6, [.int (nI (n)), .ref (q 2), .ref (q 3), .ref (q 4), .ref (q 5), .ref (q 6), .ref (q 7), .ref (q 8), .ref (q 9), .ref (q 10), .ref (q 11), .ref (q 12), .ref (q 13), .ref (q 14)])), ((q 2), .inl (cI, 10, .inl (g 0))), ((q 3), .inl (cI, 2, .inl (g 1))), ((q 4), .inl (cI, 2, .inl (g 2))), ((q 5), .inl (cI, 2, .inl (g 3))), ((q 6), .inl (cI, 20, .inl (g 4))), ((q 7), .inl (cI, 20, .inl (g 5))), ((q 8), .inl (cI, 20, .inl (g 6))), ((q 9), .inl (cI, 8, .inl (g 7))), ((q 10), .inl (cI, 80, .inl (g 8))), ((q 11), .inl (cI, 8, .inl d)), ((q 12), .inl (cI, 16, .inl (g 10))), ((q 13), .inl (cI, 16, .inl (g 11))), ((q 14), .inl (cI, 2048, .inl (g 12)))]) → va_S A s0.heap H locs → W p l e0 R s0 m args below meth c H locs cells slots Q (F0 m 209 ls [])) : ∀ (f : Nat) (rd : Nat) (d : Nat → Int32) (ls : Array Slot) (H : Heap) (locs : List Loc), n + 1 - rd < f → (rd ≤ n + 1) → lv_has ls 7 [(4, .int (nI (rd))), (3, .int (nI (mg_it n fr to rd s))), (0, .ref (q 0)), (1, .int (nI (w)))] → va_P D cl_all ([((q 0), .inr (6, [.int (nI (n)), .ref (q 2), .ref (q 3), .ref (q 4), .ref (q 5), .ref (q 6), .ref (q 7), .ref (q 8), .ref (q 9), .ref (q 10), .ref (q 11), .ref (q 12), .ref (q 13), .ref (q 14)])), ((q 2), .inl (cI, 10, .inl (g 0))), ((q 3), .inl (cI, 2, .inl (g 1))), ((q 4), .inl (cI, 2, .inl (g 2))), ((q 5), .inl (cI, 2, .inl (g 3))), ((q 6), .inl (cI, 20, .inl (g 4))), ((q 7), .inl (cI, 20, .inl (g 5))), ((q 8), .inl (cI, 20, .inl (g 6))), ((q 9), .inl (cI, 8, .inl (g 7))), ((q 10), .inl (cI, 80, .inl (g 8))), ((q 11), .inl (cI, 8, .inl d)), ((q 12), .inl (cI, 16, .inl (g 10))), ((q 13), .inl (cI, 16, .inl (g 11))), ((q 14), .inl (cI, 2048, .inl (g 12)))]) H → va_D A ([((q 0), .inr (6, [.int (nI (n)), .ref (q 2), .ref (q 3), .ref (q 4), .ref (q 5), .ref (q 6), .ref (q 7), .ref (q 8), .ref (q 9), .ref (q 10), .ref (q 11), .ref (q 12), .ref (q 13), .ref (q 14)])), ((q 2), .inl (cI, 10, .inl (g 0))), ((q 3), .inl (cI, 2, .inl (g 1))), ((q 4), .inl (cI, 2, .inl (g 2))), ((q 5), .inl (cI, 2, .inl (g 3))), ((q 6), .inl (cI, 20, .inl (g 4))), ((q 7), .inl (cI, 20, .inl (g 5))), ((q 8), .inl (cI, 20, .inl (g 6))), ((q 9), .inl (cI, 8, .inl (g 7))), ((q 10), .inl (cI, 80, .inl (g 8))), ((q 11), .inl (cI, 8, .inl d)), ((q 12), .inl (cI, 16, .inl (g 10))), ((q 13), .inl (cI, 16, .inl (g 11))), ((q 14), .inl (cI, 2048, .inl (g 12)))]) → va_S A s0.heap H locs → W p l e0 R s0 m args below meth c H locs cells slots Q (F0 m 5 ls []) := by
  intro f
  induction f with
  | zero => intro rd d ls H locs hfu; omega
  | succ f ih =>
    intro rd d ls H locs hfu hrd hl hP hD hS
    have h2n : 2 ^ n ≤ 1024 := Nat.pow_le_pow_right (by omega) hn
    have h2p : 1 ≤ 2 ^ n := Nat.one_le_two_pow
    have hit := mg_it_lt (fr := fr) (to := to) hs rd
    refine lv_iload hx hb nd_CM_noRing_5 (lv_at hl 0 rfl) ?_
    refine lv_aload_n hx hb nd_CM_noRing_7 rfl (lv_at hl 2 rfl) ?_
    refine va_get (D := D) (C := nr_CM) (T := nt_CM) (N := 14) hx hb htg tf_CM hown hK hP 0 rfl rfl 0 (by decide) (htg _ tm_383) (fun _ h => h) rfl nd_CM_noRing_8 ?_
    refine wi_icmp_gt (tgt := 209) hx hb (by omega) (by omega) nd_CM_noRing_11 rfl (fun hc11 => ?_) (fun hc11 => ?_)
    · have hl : lv_has ls 7 [(3, .int (nI (mg_it n fr to rd s)))] := lv_sub hl [1] rfl
      have hen : rd = n + 1 := by omega
      exact kx ls H locs d (by simpa only [hen] using hl) hP hD hS
    · refine wi_ic hx hb (a := 0) nd_CM_noRing_14 ?_
      refine lv_istore hx hb nd_CM_noRing_15 hl (by decide) rfl (fun ls hl => ?_)
      have hl : lv_has ls 7 [(5, .int (nI (0))), (4, .int (nI (rd))), (3, .int (nI (mg_it n fr to rd s))), (0, .ref (q 0)), (1, .int (nI (w)))] := hl
      have hl : lv_has ls 7 [(5, .int (nI (0))), (0, .ref (q 0)), (1, .int (nI (w))), (3, .int (nI (mg_it n fr to rd s))), (4, .int (nI (rd)))] := lv_sub hl [0, 3, 4, 2, 1] rfl
      refine lp_CM_noRing1 cI cG cM q n hn1 hn g w (mg_it n fr to rd s) rd d hx hb hml htg hown hK hN hA hRf hRl hCS (fun ls H locs hl hP hD hS => ?_) 9 0 ls H locs (by omega) (by omega) hl (show va_P D cl_all [((q 0), .inr (6, [.int (nI (n)), .ref (q 2), .ref (q 3), .ref (q 4), .ref (q 5), .ref (q 6), .ref (q 7), .ref (q 8), .ref (q 9), .ref (q 10), .ref (q 11), .ref (q 12), .ref (q 13), .ref (q 14)])), ((q 2), .inl (cI, 10, .inl (g 0))), ((q 3), .inl (cI, 2, .inl (g 1))), ((q 4), .inl (cI, 2, .inl (g 2))), ((q 5), .inl (cI, 2, .inl (g 3))), ((q 6), .inl (cI, 20, .inl (g 4))), ((q 7), .inl (cI, 20, .inl (g 5))), ((q 8), .inl (cI, 20, .inl (g 6))), ((q 9), .inl (cI, 8, .inl (g 7))), ((q 10), .inl (cI, 80, .inl (g 8))), ((q 11), .inl (cI, 8, .inl (zz_ d 0 0))), ((q 12), .inl (cI, 16, .inl (g 10))), ((q 13), .inl (cI, 16, .inl (g 11))), ((q 14), .inl (cI, 2048, .inl (g 12)))] H by rw [zz_0]; exact hP) (show va_D A [((q 0), .inr (6, [.int (nI (n)), .ref (q 2), .ref (q 3), .ref (q 4), .ref (q 5), .ref (q 6), .ref (q 7), .ref (q 8), .ref (q 9), .ref (q 10), .ref (q 11), .ref (q 12), .ref (q 13), .ref (q 14)])), ((q 2), .inl (cI, 10, .inl (g 0))), ((q 3), .inl (cI, 2, .inl (g 1))), ((q 4), .inl (cI, 2, .inl (g 2))), ((q 5), .inl (cI, 2, .inl (g 3))), ((q 6), .inl (cI, 20, .inl (g 4))), ((q 7), .inl (cI, 20, .inl (g 5))), ((q 8), .inl (cI, 20, .inl (g 6))), ((q 9), .inl (cI, 8, .inl (g 7))), ((q 10), .inl (cI, 80, .inl (g 8))), ((q 11), .inl (cI, 8, .inl (zz_ d 0 0))), ((q 12), .inl (cI, 16, .inl (g 10))), ((q 13), .inl (cI, 16, .inl (g 11))), ((q 14), .inl (cI, 2048, .inl (g 12)))] by rw [zz_0]; exact hD) hS
      refine wi_ic hx hb (a := 0) nd_CM_noRing_38 ?_
      refine lv_istore hx hb nd_CM_noRing_39 hl (by decide) rfl (fun ls hl => ?_)
      have hl : lv_has ls 7 [(5, .int (nI (0))), (0, .ref (q 0)), (1, .int (nI (w))), (3, .int (nI (mg_it n fr to rd s))), (4, .int (nI (rd)))] := hl
      have hl : lv_has ls 7 [(5, .int (nI (0))), (0, .ref (q 0)), (1, .int (nI (w))), (3, .int (nI (mg_it n fr to rd s))), (4, .int (nI (rd)))] := lv_sub hl [0, 1, 2, 3, 4] rfl
      refine lp_CM_noRing2 cI cG cM q n hn1 hn g w hw fr to hfr hf (mg_it n fr to rd s) rd hit hx hb hml htg hown hK hN hA hRf hRl hCS (fun ls H locs d hd hl hP hD hS => ?_) (n + 1) 0 (zz_ d 0 8) ls H locs (by omega) (by omega) (fun v hv => zz_in (by omega) hv) hl hP hD hS
      refine wi_ic hx hb (a := 0) nd_CM_noRing_108 ?_
      refine lv_istore hx hb nd_CM_noRing_109 hl (by decide) rfl (fun ls hl => ?_)
      have hl : lv_has ls 7 [(5, .int (nI (0))), (0, .ref (q 0)), (1, .int (nI (w))), (3, .int (nI (mg_it n fr to rd s))), (4, .int (nI (rd)))] := hl
      have hl : lv_has ls 7 [(5, .int (nI (0))), (3, .int (nI (mg_it n fr to rd s))), (0, .ref (q 0)), (1, .int (nI (w))), (4, .int (nI (rd)))] := lv_sub hl [0, 3, 1, 2, 4] rfl
      refine lp_CM_noRing3 cI cG cM q n hn1 hn g w hw fr to hfr hf (mg_it n fr to rd s) rd hit d hd hx hb hml htg hown hK hN hA hRf hRl hCS (fun ls H locs hl hP hD hS => ?_) (n + 1) 0 ls H locs (by omega) (by omega) hl hP hD hS
      have hl : lv_has ls 7 [(3, .int (nI (mg_it n fr to (rd + 1) s))), (0, .ref (q 0)), (1, .int (nI (w))), (4, .int (nI (rd)))] := hl
      refine lv_iinc (k := 3) (v := nI (rd + 1)) hx hb nd_CM_noRing_203 hl rfl (wi_inc _ 1) (by decide) rfl (fun ls hl => ?_)
      have hl : lv_has ls 7 [(4, .int (nI (rd + 1))), (3, .int (nI (mg_it n fr to (rd + 1) s))), (0, .ref (q 0)), (1, .int (nI (w)))] := hl
      refine lv_goto (tgt := 5) hx hb nd_CM_noRing_206 rfl ?_
      have hl : lv_has ls 7 [(4, .int (nI (rd + 1))), (3, .int (nI (mg_it n fr to (rd + 1) s))), (0, .ref (q 0)), (1, .int (nI (w)))] := lv_sub hl [0, 1, 2, 3] rfl
      exact ih (rd + 1) d ls H locs (by omega) (by omega) hl hP hD hS
set_option maxRecDepth 20000 in
theorem c_CM_noRing (l : Launch) (D : va_G) (cI cG cM : ClassId)  (q : Nat → Nat) (n : Nat) (hn1 : 1 ≤ n) (hn : n ≤ 10) (g : rf_S) (w : Nat) (hw : w < 2) (fr to : Nat → Nat) (hfr : ∀ e, e < n → g 4 (10 * w + e) = nI (fr e) ∧ g 5 (10 * w + e) = nI (to e)) (hf : ∀ e, e < n → fr e < 8 ∧ to e < 8) (s : Nat) (hs : s < 2 ^ n) (sz : Nat) : wb_Mi l ny_CM_noRing nc_CM_noRing 7 (some .boolean) ({ frames := 0, cells := 0, slots := 0, locals := 0 }) D (ty_all cI cG cM) (rf_ cI q n g) sz [.ref (q 0), .int (nI (w)), .int (nI (s))] (fun (v : Int32) (u : rf_S) => (mg_it n fr to (n + 1) s = 0 → v = nI 1) ∧ (¬ mg_it n fr to (n + 1) s = 0 → v = nI 0) ∧ ∀ j, ¬ j = 9 → u j = g j) (fun u : rf_S => rf_ cI q n u) := by
  refine wb_start (S := rf_S) (by decide) (Nat.le_of_ble_eq_true rfl) ?_
  intro p e0 s0 m below meth c ls A hx hb hr hml htg hown hk hP hK hN hl hAe hsz hD hA
  have hl : lv_has ls 7 [(0, .ref (q 0)), (1, .int (nI (w))), (2, .int (nI (s)))] := hl
  have hP : va_P D cl_all ([((q 0), .inr (6, [.int (nI (n)), .ref (q 2), .ref (q 3), .ref (q 4), .ref (q 5), .ref (q 6), .ref (q 7), .ref (q 8), .ref (q 9), .ref (q 10), .ref (q 11), .ref (q 12), .ref (q 13), .ref (q 14)])), ((q 2), .inl (cI, 10, .inl (g 0))), ((q 3), .inl (cI, 2, .inl (g 1))), ((q 4), .inl (cI, 2, .inl (g 2))), ((q 5), .inl (cI, 2, .inl (g 3))), ((q 6), .inl (cI, 20, .inl (g 4))), ((q 7), .inl (cI, 20, .inl (g 5))), ((q 8), .inl (cI, 20, .inl (g 6))), ((q 9), .inl (cI, 8, .inl (g 7))), ((q 10), .inl (cI, 80, .inl (g 8))), ((q 11), .inl (cI, 8, .inl (g 9))), ((q 12), .inl (cI, 16, .inl (g 10))), ((q 13), .inl (cI, 16, .inl (g 11))), ((q 14), .inl (cI, 2048, .inl (g 12)))]) s0.heap := hP
  have hD : va_D A ([((q 0), .inr (6, [.int (nI (n)), .ref (q 2), .ref (q 3), .ref (q 4), .ref (q 5), .ref (q 6), .ref (q 7), .ref (q 8), .ref (q 9), .ref (q 10), .ref (q 11), .ref (q 12), .ref (q 13), .ref (q 14)])), ((q 2), .inl (cI, 10, .inl (g 0))), ((q 3), .inl (cI, 2, .inl (g 1))), ((q 4), .inl (cI, 2, .inl (g 2))), ((q 5), .inl (cI, 2, .inl (g 3))), ((q 6), .inl (cI, 20, .inl (g 4))), ((q 7), .inl (cI, 20, .inl (g 5))), ((q 8), .inl (cI, 20, .inl (g 6))), ((q 9), .inl (cI, 8, .inl (g 7))), ((q 10), .inl (cI, 80, .inl (g 8))), ((q 11), .inl (cI, 8, .inl (g 9))), ((q 12), .inl (cI, 16, .inl (g 10))), ((q 13), .inl (cI, 16, .inl (g 11))), ((q 14), .inl (cI, 2048, .inl (g 12)))]) := hD
  have hS : va_S A s0.heap s0.heap [] := va_S.rf
  have hRf : 0 ≤ ({ frames := 0, cells := 0, slots := 0, locals := 0 } : Room).frames := Nat.le_refl _
  have hRl : 0 ≤ ({ frames := 0, cells := 0, slots := 0, locals := 0 } : Room).locals := Nat.le_refl _
  have hCS : 0 ≤ ({ frames := 0, cells := 0, slots := 0, locals := 0 } : Room).cells ∧ 0 ≤ ({ frames := 0, cells := 0, slots := 0, locals := 0 } : Room).slots := ⟨Nat.zero_le _, Nat.zero_le _⟩
  have h2n : 2 ^ n ≤ 1024 := Nat.pow_le_pow_right (by omega) hn
  have h2p : 1 ≤ 2 ^ n := Nat.one_le_two_pow
  refine lv_iload_n hx hb nd_CM_noRing_0 rfl (lv_at hl 2 rfl) ?_
  refine lv_istore_n hx hb nd_CM_noRing_1 rfl hl (by decide) rfl (fun ls hl => ?_)
  have hl : lv_has ls 7 [(3, .int (nI (s))), (0, .ref (q 0)), (1, .int (nI (w))), (2, .int (nI (s)))] := hl
  refine wi_ic hx hb (a := 0) nd_CM_noRing_2 ?_
  refine lv_istore hx hb nd_CM_noRing_3 hl (by decide) rfl (fun ls hl => ?_)
  have hl : lv_has ls 7 [(4, .int (nI (0))), (3, .int (nI (s))), (0, .ref (q 0)), (1, .int (nI (w))), (2, .int (nI (s)))] := hl
  have hl : lv_has ls 7 [(4, .int (nI (0))), (3, .int (nI (s))), (0, .ref (q 0)), (1, .int (nI (w)))] := lv_sub hl [0, 1, 2, 3] rfl
  refine lp_CM_noRing4 cI cG cM q n hn1 hn g w hw fr to hfr hf s hs hx hb hml htg hown hK hN hA hRf hRl hCS (fun ls H locs d hl hP hD hS => ?_) (n + 2) 0 (g 9) ls s0.heap [] (by omega) (by omega) hl hP hD hS
  have hit := mg_it_lt (fr := fr) (to := to) hs (n + 1)
  refine lv_iload_n hx hb nd_CM_noRing_209 rfl (lv_at hl 0 rfl) ?_
  refine wi_if_ne (tgt := 217) hx hb (by omega) nd_CM_noRing_210 rfl (fun hc210 => ?_) (fun hc210 => ?_)
  · refine wi_ic hx hb (a := 0) nd_CM_noRing_217 ?_
    exact wb_zret (va_up g 9 d) hx hb hr hk rfl hAe (⟨fun z => absurd z hc210, fun _ => rfl, fun j hj => if_neg hj⟩) hP hD hS nd_CM_noRing_218
  · refine wi_ic hx hb (a := 1) nd_CM_noRing_213 ?_
    refine lv_goto (tgt := 218) hx hb nd_CM_noRing_214 rfl ?_
    exact wb_zret (va_up g 9 d) hx hb hr hk rfl hAe (⟨fun _ => rfl, fun z => absurd hc210 z, fun j hj => if_neg hj⟩) hP hD hS nd_CM_noRing_218
theorem nd_CM_underCaps_0 : decode nc_CM_underCaps 0 = .ok (.iconst 0, 1) := by decide +kernel
theorem nd_CM_underCaps_1 : decode nc_CM_underCaps 1 = .ok (.istore_n 3, 1) := by decide +kernel
theorem nd_CM_underCaps_2 : decode nc_CM_underCaps 2 = .ok (.iload_n 3, 1) := by decide +kernel
theorem nd_CM_underCaps_3 : decode nc_CM_underCaps 3 = .ok (.iconst 4, 1) := by decide +kernel
theorem nd_CM_underCaps_4 : decode nc_CM_underCaps 4 = .ok (.if_icmp .ge 84, 3) := by decide +kernel
theorem nd_CM_underCaps_7 : decode nc_CM_underCaps 7 = .ok (.iconst 0, 1) := by decide +kernel
theorem nd_CM_underCaps_8 : decode nc_CM_underCaps 8 = .ok (.istore 4, 2) := by decide +kernel
theorem nd_CM_underCaps_10 : decode nc_CM_underCaps 10 = .ok (.iconst 0, 1) := by decide +kernel
theorem nd_CM_underCaps_11 : decode nc_CM_underCaps 11 = .ok (.istore 5, 2) := by decide +kernel
theorem nd_CM_underCaps_13 : decode nc_CM_underCaps 13 = .ok (.iload 5, 2) := by decide +kernel
theorem nd_CM_underCaps_15 : decode nc_CM_underCaps 15 = .ok (.aload_n 0, 1) := by decide +kernel
theorem nd_CM_underCaps_16 : decode nc_CM_underCaps 16 = .ok (.getfield 49, 3) := by decide +kernel
theorem nd_CM_underCaps_19 : decode nc_CM_underCaps 19 = .ok (.if_icmp .ge 46, 3) := by decide +kernel
theorem nd_CM_underCaps_22 : decode nc_CM_underCaps 22 = .ok (.iload_n 2, 1) := by decide +kernel
theorem nd_CM_underCaps_23 : decode nc_CM_underCaps 23 = .ok (.iload 5, 2) := by decide +kernel
theorem nd_CM_underCaps_25 : decode nc_CM_underCaps 25 = .ok (.ishr, 1) := by decide +kernel
theorem nd_CM_underCaps_26 : decode nc_CM_underCaps 26 = .ok (.iconst 1, 1) := by decide +kernel
theorem nd_CM_underCaps_27 : decode nc_CM_underCaps 27 = .ok (.iand, 1) := by decide +kernel
theorem nd_CM_underCaps_28 : decode nc_CM_underCaps 28 = .ok (.iconst 1, 1) := by decide +kernel
theorem nd_CM_underCaps_29 : decode nc_CM_underCaps 29 = .ok (.if_icmp .ne 26, 3) := by decide +kernel
theorem nd_CM_underCaps_32 : decode nc_CM_underCaps 32 = .ok (.aload_n 0, 1) := by decide +kernel
theorem nd_CM_underCaps_33 : decode nc_CM_underCaps 33 = .ok (.getfield 28, 3) := by decide +kernel
theorem nd_CM_underCaps_36 : decode nc_CM_underCaps 36 = .ok (.bipush 10, 2) := by decide +kernel
theorem nd_CM_underCaps_38 : decode nc_CM_underCaps 38 = .ok (.iload_n 1, 1) := by decide +kernel
theorem nd_CM_underCaps_39 : decode nc_CM_underCaps 39 = .ok (.imul, 1) := by decide +kernel
theorem nd_CM_underCaps_40 : decode nc_CM_underCaps 40 = .ok (.iload 5, 2) := by decide +kernel
theorem nd_CM_underCaps_42 : decode nc_CM_underCaps 42 = .ok (.iadd, 1) := by decide +kernel
theorem nd_CM_underCaps_43 : decode nc_CM_underCaps 43 = .ok (.iaload, 1) := by decide +kernel
theorem nd_CM_underCaps_44 : decode nc_CM_underCaps 44 = .ok (.iload_n 3, 1) := by decide +kernel
theorem nd_CM_underCaps_45 : decode nc_CM_underCaps 45 = .ok (.if_icmp .ne 10, 3) := by decide +kernel
theorem nd_CM_underCaps_48 : decode nc_CM_underCaps 48 = .ok (.iload 4, 2) := by decide +kernel
theorem nd_CM_underCaps_50 : decode nc_CM_underCaps 50 = .ok (.iconst 1, 1) := by decide +kernel
theorem nd_CM_underCaps_51 : decode nc_CM_underCaps 51 = .ok (.iadd, 1) := by decide +kernel
theorem nd_CM_underCaps_52 : decode nc_CM_underCaps 52 = .ok (.goto 5, 3) := by decide +kernel
theorem nd_CM_underCaps_55 : decode nc_CM_underCaps 55 = .ok (.iload 4, 2) := by decide +kernel
theorem nd_CM_underCaps_57 : decode nc_CM_underCaps 57 = .ok (.istore 4, 2) := by decide +kernel
theorem nd_CM_underCaps_59 : decode nc_CM_underCaps 59 = .ok (.iinc 5 1, 3) := by decide +kernel
theorem nd_CM_underCaps_62 : decode nc_CM_underCaps 62 = .ok (.goto (-49), 3) := by decide +kernel
theorem nd_CM_underCaps_65 : decode nc_CM_underCaps 65 = .ok (.iload 4, 2) := by decide +kernel
theorem nd_CM_underCaps_67 : decode nc_CM_underCaps 67 = .ok (.aload_n 0, 1) := by decide +kernel
theorem nd_CM_underCaps_68 : decode nc_CM_underCaps 68 = .ok (.getfield 31, 3) := by decide +kernel
theorem nd_CM_underCaps_71 : decode nc_CM_underCaps 71 = .ok (.iconst 4, 1) := by decide +kernel
theorem nd_CM_underCaps_72 : decode nc_CM_underCaps 72 = .ok (.iload_n 1, 1) := by decide +kernel
theorem nd_CM_underCaps_73 : decode nc_CM_underCaps 73 = .ok (.imul, 1) := by decide +kernel
theorem nd_CM_underCaps_74 : decode nc_CM_underCaps 74 = .ok (.iload_n 3, 1) := by decide +kernel
theorem nd_CM_underCaps_75 : decode nc_CM_underCaps 75 = .ok (.iadd, 1) := by decide +kernel
theorem nd_CM_underCaps_76 : decode nc_CM_underCaps 76 = .ok (.iaload, 1) := by decide +kernel
theorem nd_CM_underCaps_77 : decode nc_CM_underCaps 77 = .ok (.if_icmp .le 5, 3) := by decide +kernel
theorem nd_CM_underCaps_80 : decode nc_CM_underCaps 80 = .ok (.iconst 0, 1) := by decide +kernel
theorem nd_CM_underCaps_81 : decode nc_CM_underCaps 81 = .ok (.ireturn, 1) := by decide +kernel
theorem nd_CM_underCaps_82 : decode nc_CM_underCaps 82 = .ok (.iinc 3 1, 3) := by decide +kernel
theorem nd_CM_underCaps_85 : decode nc_CM_underCaps 85 = .ok (.goto (-83), 3) := by decide +kernel
theorem nd_CM_underCaps_88 : decode nc_CM_underCaps 88 = .ok (.iconst 1, 1) := by decide +kernel
theorem nd_CM_underCaps_89 : decode nc_CM_underCaps 89 = .ok (.ireturn, 1) := by decide +kernel
set_option maxRecDepth 20000 in
theorem lp_CM_underCaps1 {p : Program} {l : Launch} {e0 : Env} {R : Room} {s0 : State} {m : MethodId} {args : Array Value} {below : List Frame} {meth : Method} {c : Code} {cells slots : Nat} {Q : State → Prop} {D : va_G} {A : Nat → Prop} (cI cG cM : ClassId) (q : Nat → Nat) (n : Nat) (hn1 : 1 ≤ n) (hn : n ≤ 10) (g : rf_S) (w : Nat) (hw : w < 2) (cls cap : Nat → Nat) (hcl : ∀ e, e < n → g 6 (10 * w + e) = nI (cls e)) (hcq : ∀ e, e < n → cls e < 4) (hca : ∀ b, b < 4 → g 7 (4 * w + b) = nI (cap b)) (hcb : ∀ b, b < 4 → cap b ≤ 10) (s : Nat) (hs : s < 2 ^ n) (b : Nat) (hb4 : b < 4)  (hx : p.tables.exec = Jvm.exec) (hb : c.code = nc_CM_underCaps) (hml : c.maxLocals = 6) (htg : ∀ w ∈ tg_, w.before args s0 = true) (hown : s0.vm.findClass ny_CM_underCaps.cls = some m.cls) (hK : va_K D cl_all (ty_all cI cG cM) s0) (hN : tn_K s0) (hA : ∀ q : Nat, s0.heap.size ≤ q → A q) (hRf : 0 ≤ R.frames) (hRl : 0 ≤ R.locals) (hCS : cells ≤ R.cells ∧ slots ≤ R.slots) (kx : ∀ (ls : Array Slot) (H : Heap) (locs : List Loc), lv_has ls 6 [(4, .int (nI (mt_cc cls b n s))), (0, .ref (q 0)), (1, .int (nI (w))), (2, .int (nI (s))), (3, .int (nI (b)))] → va_P D cl_all ([((q 0), .inr (6, [.int (nI (n)), .ref (q 2), .ref (q 3), .ref (q 4), .ref (q 5), .ref (q 6), .ref (q 7), .ref (q 8), .ref (q 9), .ref (q 10), .ref (q 11), .ref (q 12), .ref (q 13), .ref (q 14)])), ((q 2), .inl (cI, 10, .inl (g 0))), ((q 3), .inl (cI, 2, .inl (g 1))), ((q 4), .inl (cI, 2, .inl (g 2))), ((q 5), .inl (cI, 2, .inl (g 3))), ((q 6), .inl (cI, 20, .inl (g 4))), ((q 7), .inl (cI, 20, .inl (g 5))), ((q 8), .inl (cI, 20, .inl (g 6))), ((q 9), .inl (cI, 8, .inl (g 7))), ((q 10), .inl (cI, 80, .inl (g 8))), ((q 11), .inl (cI, 8, .inl (g 9))), ((q 12), .inl (cI, 16, .inl (g 10))), ((q 13), .inl (cI, 16, .inl (g 11))), ((q 14), .inl (cI, 2048, .inl (g 12)))]) H → va_D A ([((q 0), .inr (6, [.int (nI (n)), .ref (q 2), .ref (q 3), .ref (q 4), .ref (q 5), .ref (q 6), .ref (q 7), .ref (q 8), .ref (q 9), .ref (q 10), .ref (q 11), .ref (q 12), .ref (q 13), .ref (q 14)])), ((q 2), .inl (cI, 10, .inl (g 0))), ((q 3), .inl (cI, 2, .inl (g 1))), ((q 4), .inl (cI, 2, .inl (g 2))), ((q 5), .inl (cI, 2, .inl (g 3))), ((q 6), .inl (cI, 20, .inl (g 4))), ((q 7), .inl (cI, 20, .inl (g 5))), ((q 8), .inl (cI, 20, .inl (g 6))), ((q 9), .inl (cI, 8, .inl (g 7))), ((q 10), .inl (cI, 80, .inl (g 8))), ((q 11), .inl (cI, 8, .inl (g 9))), ((q 12), .inl (cI, 16, .inl (g 10))), ((q 13), .inl (cI, 16, .inl (g 11))), ((q 14), .inl (cI, 2048, .inl (g 12)))]) → va_S A s0.heap H locs → W p l e0 R s0 m args below meth c H locs cells slots Q (F0 m 65 ls [])) : ∀ (f : Nat) (e : Nat) (ls : Array Slot) (H : Heap) (locs : List Loc), n - e < f → (e ≤ n) → lv_has ls 6 [(5, .int (nI (e))), (4, .int (nI (mt_cc cls b e s))), (0, .ref (q 0)), (1, .int (nI (w))), (2, .int (nI (s))), (3, .int (nI (b)))] → va_P D cl_all ([((q 0), .inr (6, [.int (nI (n)), .ref (q 2), .ref (q 3), .ref (q 4), .ref (q 5), .ref (q 6), .ref (q 7), .ref (q 8), .ref (q 9), .ref (q 10), .ref (q 11), .ref (q 12), .ref (q 13), .ref (q 14)])), ((q 2), .inl (cI, 10, .inl (g 0))), ((q 3), .inl (cI, 2, .inl (g 1))), ((q 4), .inl (cI, 2, .inl (g 2))), ((q 5), .inl (cI, 2, .inl (g 3))), ((q 6), .inl (cI, 20, .inl (g 4))), ((q 7), .inl (cI, 20, .inl (g 5))), ((q 8), .inl (cI, 20, .inl (g 6))), ((q 9), .inl (cI, 8, .inl (g 7))), ((q 10), .inl (cI, 80, .inl (g 8))), ((q 11), .inl (cI, 8, .inl (g 9))), ((q 12), .inl (cI, 16, .inl (g 10))), ((q 13), .inl (cI, 16, .inl (g 11))), ((q 14), .inl (cI, 2048, .inl (g 12)))]) H → va_D A ([((q 0), .inr (6, [.int (nI (n)), .ref (q 2), .ref (q 3), .ref (q 4), .ref (q 5), .ref (q 6), .ref (q 7), .ref (q 8), .ref (q 9), .ref (q 10), .ref (q 11), .ref (q 12), .ref (q 13), .ref (q 14)])), ((q 2), .inl (cI, 10, .inl (g 0))), ((q 3), .inl (cI, 2, .inl (g 1))), ((q 4), .inl (cI, 2, .inl (g 2))), ((q 5), .inl (cI, 2, .inl (g 3))), ((q 6), .inl (cI, 20, .inl (g 4))), ((q 7), .inl (cI, 20, .inl (g 5))), ((q 8), .inl (cI, 20, .inl (g 6))), ((q 9), .inl (cI, 8, .inl (g 7))), ((q 10), .inl (cI, 80, .inl (g 8))), ((q 11), .inl (cI, 8, .inl (g 9))), ((q 12), .inl (cI, 16, .inl (g 10))), ((q 13), .inl (cI, 16, .inl (g 11))), ((q 14), .inl (cI, 2048, .inl (g 12)))]) → va_S A s0.heap H locs → W p l e0 R s0 m args below meth c H locs cells slots Q (F0 m 13 ls []) := by
  intro f
  induction f with
  | zero => intro e ls H locs hfu; omega
  | succ f ih =>
    intro e ls H locs hfu he hl hP hD hS
    have h2n : 2 ^ n ≤ 1024 := Nat.pow_le_pow_right (by omega) hn
    have h2p : 1 ≤ 2 ^ n := Nat.one_le_two_pow
    refine lv_iload hx hb nd_CM_underCaps_13 (lv_at hl 0 rfl) ?_
    refine lv_aload_n hx hb nd_CM_underCaps_15 rfl (lv_at hl 2 rfl) ?_
    refine va_get (D := D) (C := nr_CM) (T := nt_CM) (N := 14) hx hb htg tf_CM hown hK hP 0 rfl rfl 0 (by decide) (htg _ tm_383) (fun _ h => h) rfl nd_CM_underCaps_16 ?_
    refine wi_icmp_ge (tgt := 65) hx hb (by omega) (by omega) nd_CM_underCaps_19 rfl (fun hc19 => ?_) (fun hc19 => ?_)
    · have hl : lv_has ls 6 [(4, .int (nI (mt_cc cls b e s))), (0, .ref (q 0)), (1, .int (nI (w))), (2, .int (nI (s))), (3, .int (nI (b)))] := lv_sub hl [1, 2, 3, 4, 5] rfl
      have hen : e = n := by omega
      exact kx ls H locs (by simpa only [hen] using hl) hP hD hS
    · refine lv_iload_n hx hb nd_CM_underCaps_22 rfl (lv_at hl 4 rfl) ?_
      refine lv_iload hx hb nd_CM_underCaps_23 (lv_at hl 0 rfl) ?_
      refine wi_ishr hx hb (by omega) (by omega) nd_CM_underCaps_25 ?_
      refine wi_ic hx hb (a := 1) nd_CM_underCaps_26 ?_
      refine wi_bit hx hb nd_CM_underCaps_27 ?_
      have hbt27 := mt_bt_lt s e
      refine wi_ic hx hb (a := 1) nd_CM_underCaps_28 ?_
      refine wi_icmp_ne (tgt := 55) hx hb (by omega) (by omega) nd_CM_underCaps_29 rfl (fun hc29 => ?_) (fun hc29 => ?_)
      · refine lv_iload hx hb nd_CM_underCaps_55 (lv_at hl 1 rfl) ?_
        refine lv_istore hx hb nd_CM_underCaps_57 hl (by decide) rfl (fun ls hl => ?_)
        have hl : lv_has ls 6 [(4, .int (nI (mt_cc cls b e s))), (5, .int (nI (e))), (0, .ref (q 0)), (1, .int (nI (w))), (2, .int (nI (s))), (3, .int (nI (b)))] := hl
        refine lv_iinc (k := 1) (v := nI (e + 1)) hx hb nd_CM_underCaps_59 hl rfl (wi_inc _ 1) (by decide) rfl (fun ls hl => ?_)
        have hl : lv_has ls 6 [(5, .int (nI (e + 1))), (4, .int (nI (mt_cc cls b e s))), (0, .ref (q 0)), (1, .int (nI (w))), (2, .int (nI (s))), (3, .int (nI (b)))] := hl
        refine lv_goto (tgt := 13) hx hb nd_CM_underCaps_62 rfl ?_
        have hl : lv_has ls 6 [(5, .int (nI (e + 1))), (4, .int (nI (mt_cc cls b e s))), (0, .ref (q 0)), (1, .int (nI (w))), (2, .int (nI (s))), (3, .int (nI (b)))] := lv_sub hl [0, 1, 2, 3, 4, 5] rfl
        have hcc : mt_cc cls b (e + 1) s = mt_cc cls b e s := by simp only [mt_cc]; rw [if_neg (fun z => by have := mt_bt_t.mpr z.1; omega)]; rfl
        exact ih (e + 1) ls H locs (by omega) (by omega) (by rw [hcc]; exact hl) hP hD hS
      · have hce := hcq e (by omega)
        refine lv_aload_n hx hb nd_CM_underCaps_32 rfl (lv_at hl 2 rfl) ?_
        refine va_get (D := D) (C := nr_CM) (T := nt_CM) (N := 14) hx hb htg tf_CM hown hK hP 0 rfl rfl 7 (by decide) (htg _ tm_390) (fun _ h => h) rfl nd_CM_underCaps_33 ?_
        refine lv_bipush (v := nI 10) hx hb nd_CM_underCaps_36 (by decide) ?_
        refine lv_iload_n hx hb nd_CM_underCaps_38 rfl (lv_at hl 3 rfl) ?_
        refine wi_imul hx hb nd_CM_underCaps_39 ?_
        refine lv_iload hx hb nd_CM_underCaps_40 (lv_at hl 0 rfl) ?_
        refine wi_iadd hx hb nd_CM_underCaps_42 ?_
        refine wi_iald hx hb hK hP 7 0 rfl rfl (by omega) (by omega) nd_CM_underCaps_43 ?_
        refine wi_top (hcl e (by omega)) ?_
        refine lv_iload_n hx hb nd_CM_underCaps_44 rfl (lv_at hl 5 rfl) ?_
        refine wi_icmp_ne (tgt := 55) hx hb (by omega) (by omega) nd_CM_underCaps_45 rfl (fun hc45 => ?_) (fun hc45 => ?_)
        · refine lv_iload hx hb nd_CM_underCaps_55 (lv_at hl 1 rfl) ?_
          refine lv_istore hx hb nd_CM_underCaps_57 hl (by decide) rfl (fun ls hl => ?_)
          have hl : lv_has ls 6 [(4, .int (nI (mt_cc cls b e s))), (5, .int (nI (e))), (0, .ref (q 0)), (1, .int (nI (w))), (2, .int (nI (s))), (3, .int (nI (b)))] := hl
          refine lv_iinc (k := 1) (v := nI (e + 1)) hx hb nd_CM_underCaps_59 hl rfl (wi_inc _ 1) (by decide) rfl (fun ls hl => ?_)
          have hl : lv_has ls 6 [(5, .int (nI (e + 1))), (4, .int (nI (mt_cc cls b e s))), (0, .ref (q 0)), (1, .int (nI (w))), (2, .int (nI (s))), (3, .int (nI (b)))] := hl
          refine lv_goto (tgt := 13) hx hb nd_CM_underCaps_62 rfl ?_
          have hl : lv_has ls 6 [(5, .int (nI (e + 1))), (4, .int (nI (mt_cc cls b e s))), (0, .ref (q 0)), (1, .int (nI (w))), (2, .int (nI (s))), (3, .int (nI (b)))] := lv_sub hl [0, 1, 2, 3, 4, 5] rfl
          have hcc : mt_cc cls b (e + 1) s = mt_cc cls b e s := by simp only [mt_cc]; rw [if_neg (fun z => hc45 z.2)]; rfl
          exact ih (e + 1) ls H locs (by omega) (by omega) (by rw [hcc]; exact hl) hP hD hS
        · refine lv_iload hx hb nd_CM_underCaps_48 (lv_at hl 1 rfl) ?_
          refine wi_ic hx hb (a := 1) nd_CM_underCaps_50 ?_
          refine wi_iadd hx hb nd_CM_underCaps_51 ?_
          refine lv_goto (tgt := 57) hx hb nd_CM_underCaps_52 rfl ?_
          refine lv_istore hx hb nd_CM_underCaps_57 hl (by decide) rfl (fun ls hl => ?_)
          have hl : lv_has ls 6 [(4, .int (nI ((mt_cc cls b e s) + 1))), (5, .int (nI (e))), (0, .ref (q 0)), (1, .int (nI (w))), (2, .int (nI (s))), (3, .int (nI (b)))] := hl
          refine lv_iinc (k := 1) (v := nI (e + 1)) hx hb nd_CM_underCaps_59 hl rfl (wi_inc _ 1) (by decide) rfl (fun ls hl => ?_)
          have hl : lv_has ls 6 [(5, .int (nI (e + 1))), (4, .int (nI ((mt_cc cls b e s) + 1))), (0, .ref (q 0)), (1, .int (nI (w))), (2, .int (nI (s))), (3, .int (nI (b)))] := hl
          refine lv_goto (tgt := 13) hx hb nd_CM_underCaps_62 rfl ?_
          have hl : lv_has ls 6 [(5, .int (nI (e + 1))), (4, .int (nI ((mt_cc cls b e s) + 1))), (0, .ref (q 0)), (1, .int (nI (w))), (2, .int (nI (s))), (3, .int (nI (b)))] := lv_sub hl [0, 1, 2, 3, 4, 5] rfl
          have hcc : mt_cc cls b (e + 1) s = mt_cc cls b e s + 1 := by simp only [mt_cc]; rw [if_pos ⟨mt_bt_t.mp (by omega), hc45⟩]
          exact ih (e + 1) ls H locs (by omega) (by omega) (by rw [hcc]; exact hl) hP hD hS
set_option maxRecDepth 20000 in
theorem lp_CM_underCaps2 {p : Program} {l : Launch} {e0 : Env} {R : Room} {s0 : State} {m : MethodId} {args : Array Value} {below : List Frame} {meth : Method} {c : Code} {cells slots : Nat} {Q : State → Prop} {D : va_G} {A : Nat → Prop} (cI cG cM : ClassId) (q : Nat → Nat) (n : Nat) (hn1 : 1 ≤ n) (hn : n ≤ 10) (g : rf_S) (w : Nat) (hw : w < 2) (cls cap : Nat → Nat) (hcl : ∀ e, e < n → g 6 (10 * w + e) = nI (cls e)) (hcq : ∀ e, e < n → cls e < 4) (hca : ∀ b, b < 4 → g 7 (4 * w + b) = nI (cap b)) (hcb : ∀ b, b < 4 → cap b ≤ 10) (s : Nat) (hs : s < 2 ^ n)  (hx : p.tables.exec = Jvm.exec) (hb : c.code = nc_CM_underCaps) (hml : c.maxLocals = 6) (htg : ∀ w ∈ tg_, w.before args s0 = true) (hown : s0.vm.findClass ny_CM_underCaps.cls = some m.cls) (hK : va_K D cl_all (ty_all cI cG cM) s0) (hN : tn_K s0) (hA : ∀ q : Nat, s0.heap.size ≤ q → A q) (hRf : 0 ≤ R.frames) (hRl : 0 ≤ R.locals) (hCS : cells ≤ R.cells ∧ slots ≤ R.slots) (kx : ∀ (ls : Array Slot) (H : Heap) (locs : List Loc), (∀ c, c < 4 → mt_cc cls c n s ≤ cap c) → lv_has ls 6 [] → va_P D cl_all ([((q 0), .inr (6, [.int (nI (n)), .ref (q 2), .ref (q 3), .ref (q 4), .ref (q 5), .ref (q 6), .ref (q 7), .ref (q 8), .ref (q 9), .ref (q 10), .ref (q 11), .ref (q 12), .ref (q 13), .ref (q 14)])), ((q 2), .inl (cI, 10, .inl (g 0))), ((q 3), .inl (cI, 2, .inl (g 1))), ((q 4), .inl (cI, 2, .inl (g 2))), ((q 5), .inl (cI, 2, .inl (g 3))), ((q 6), .inl (cI, 20, .inl (g 4))), ((q 7), .inl (cI, 20, .inl (g 5))), ((q 8), .inl (cI, 20, .inl (g 6))), ((q 9), .inl (cI, 8, .inl (g 7))), ((q 10), .inl (cI, 80, .inl (g 8))), ((q 11), .inl (cI, 8, .inl (g 9))), ((q 12), .inl (cI, 16, .inl (g 10))), ((q 13), .inl (cI, 16, .inl (g 11))), ((q 14), .inl (cI, 2048, .inl (g 12)))]) H → va_D A ([((q 0), .inr (6, [.int (nI (n)), .ref (q 2), .ref (q 3), .ref (q 4), .ref (q 5), .ref (q 6), .ref (q 7), .ref (q 8), .ref (q 9), .ref (q 10), .ref (q 11), .ref (q 12), .ref (q 13), .ref (q 14)])), ((q 2), .inl (cI, 10, .inl (g 0))), ((q 3), .inl (cI, 2, .inl (g 1))), ((q 4), .inl (cI, 2, .inl (g 2))), ((q 5), .inl (cI, 2, .inl (g 3))), ((q 6), .inl (cI, 20, .inl (g 4))), ((q 7), .inl (cI, 20, .inl (g 5))), ((q 8), .inl (cI, 20, .inl (g 6))), ((q 9), .inl (cI, 8, .inl (g 7))), ((q 10), .inl (cI, 80, .inl (g 8))), ((q 11), .inl (cI, 8, .inl (g 9))), ((q 12), .inl (cI, 16, .inl (g 10))), ((q 13), .inl (cI, 16, .inl (g 11))), ((q 14), .inl (cI, 2048, .inl (g 12)))]) → va_S A s0.heap H locs → W p l e0 R s0 m args below meth c H locs cells slots Q (F0 m 88 ls [])) (kf : ∀ (ls : Array Slot) (H : Heap) (locs : List Loc), (¬ ∀ c, c < 4 → mt_cc cls c n s ≤ cap c) → lv_has ls 6 [] → va_P D cl_all ([((q 0), .inr (6, [.int (nI (n)), .ref (q 2), .ref (q 3), .ref (q 4), .ref (q 5), .ref (q 6), .ref (q 7), .ref (q 8), .ref (q 9), .ref (q 10), .ref (q 11), .ref (q 12), .ref (q 13), .ref (q 14)])), ((q 2), .inl (cI, 10, .inl (g 0))), ((q 3), .inl (cI, 2, .inl (g 1))), ((q 4), .inl (cI, 2, .inl (g 2))), ((q 5), .inl (cI, 2, .inl (g 3))), ((q 6), .inl (cI, 20, .inl (g 4))), ((q 7), .inl (cI, 20, .inl (g 5))), ((q 8), .inl (cI, 20, .inl (g 6))), ((q 9), .inl (cI, 8, .inl (g 7))), ((q 10), .inl (cI, 80, .inl (g 8))), ((q 11), .inl (cI, 8, .inl (g 9))), ((q 12), .inl (cI, 16, .inl (g 10))), ((q 13), .inl (cI, 16, .inl (g 11))), ((q 14), .inl (cI, 2048, .inl (g 12)))]) H → va_D A ([((q 0), .inr (6, [.int (nI (n)), .ref (q 2), .ref (q 3), .ref (q 4), .ref (q 5), .ref (q 6), .ref (q 7), .ref (q 8), .ref (q 9), .ref (q 10), .ref (q 11), .ref (q 12), .ref (q 13), .ref (q 14)])), ((q 2), .inl (cI, 10, .inl (g 0))), ((q 3), .inl (cI, 2, .inl (g 1))), ((q 4), .inl (cI, 2, .inl (g 2))), ((q 5), .inl (cI, 2, .inl (g 3))), ((q 6), .inl (cI, 20, .inl (g 4))), ((q 7), .inl (cI, 20, .inl (g 5))), ((q 8), .inl (cI, 20, .inl (g 6))), ((q 9), .inl (cI, 8, .inl (g 7))), ((q 10), .inl (cI, 80, .inl (g 8))), ((q 11), .inl (cI, 8, .inl (g 9))), ((q 12), .inl (cI, 16, .inl (g 10))), ((q 13), .inl (cI, 16, .inl (g 11))), ((q 14), .inl (cI, 2048, .inl (g 12)))]) → va_S A s0.heap H locs → W p l e0 R s0 m args below meth c H locs cells slots Q (F0 m 80 ls [])) : ∀ (f : Nat) (b : Nat) (ls : Array Slot) (H : Heap) (locs : List Loc), 4 - b < f → (b ≤ 4) → (∀ c, c < b → mt_cc cls c n s ≤ cap c) → lv_has ls 6 [(3, .int (nI (b))), (0, .ref (q 0)), (1, .int (nI (w))), (2, .int (nI (s)))] → va_P D cl_all ([((q 0), .inr (6, [.int (nI (n)), .ref (q 2), .ref (q 3), .ref (q 4), .ref (q 5), .ref (q 6), .ref (q 7), .ref (q 8), .ref (q 9), .ref (q 10), .ref (q 11), .ref (q 12), .ref (q 13), .ref (q 14)])), ((q 2), .inl (cI, 10, .inl (g 0))), ((q 3), .inl (cI, 2, .inl (g 1))), ((q 4), .inl (cI, 2, .inl (g 2))), ((q 5), .inl (cI, 2, .inl (g 3))), ((q 6), .inl (cI, 20, .inl (g 4))), ((q 7), .inl (cI, 20, .inl (g 5))), ((q 8), .inl (cI, 20, .inl (g 6))), ((q 9), .inl (cI, 8, .inl (g 7))), ((q 10), .inl (cI, 80, .inl (g 8))), ((q 11), .inl (cI, 8, .inl (g 9))), ((q 12), .inl (cI, 16, .inl (g 10))), ((q 13), .inl (cI, 16, .inl (g 11))), ((q 14), .inl (cI, 2048, .inl (g 12)))]) H → va_D A ([((q 0), .inr (6, [.int (nI (n)), .ref (q 2), .ref (q 3), .ref (q 4), .ref (q 5), .ref (q 6), .ref (q 7), .ref (q 8), .ref (q 9), .ref (q 10), .ref (q 11), .ref (q 12), .ref (q 13), .ref (q 14)])), ((q 2), .inl (cI, 10, .inl (g 0))), ((q 3), .inl (cI, 2, .inl (g 1))), ((q 4), .inl (cI, 2, .inl (g 2))), ((q 5), .inl (cI, 2, .inl (g 3))), ((q 6), .inl (cI, 20, .inl (g 4))), ((q 7), .inl (cI, 20, .inl (g 5))), ((q 8), .inl (cI, 20, .inl (g 6))), ((q 9), .inl (cI, 8, .inl (g 7))), ((q 10), .inl (cI, 80, .inl (g 8))), ((q 11), .inl (cI, 8, .inl (g 9))), ((q 12), .inl (cI, 16, .inl (g 10))), ((q 13), .inl (cI, 16, .inl (g 11))), ((q 14), .inl (cI, 2048, .inl (g 12)))]) → va_S A s0.heap H locs → W p l e0 R s0 m args below meth c H locs cells slots Q (F0 m 2 ls []) := by
  intro f
  induction f with
  | zero => intro b ls H locs hfu; omega
  | succ f ih =>
    intro b ls H locs hfu hb4 hok hl hP hD hS
    have h2n : 2 ^ n ≤ 1024 := Nat.pow_le_pow_right (by omega) hn
    have h2p : 1 ≤ 2 ^ n := Nat.one_le_two_pow
    refine lv_iload_n hx hb nd_CM_underCaps_2 rfl (lv_at hl 0 rfl) ?_
    refine wi_ic hx hb (a := 4) nd_CM_underCaps_3 ?_
    refine wi_icmp_ge (tgt := 88) hx hb (by omega) (by omega) nd_CM_underCaps_4 rfl (fun hc4 => ?_) (fun hc4 => ?_)
    · exact kx ls H locs (fun c hc => hok c (by omega)) (lv_sub hl [] rfl) hP hD hS
    · refine wi_ic hx hb (a := 0) nd_CM_underCaps_7 ?_
      refine lv_istore hx hb nd_CM_underCaps_8 hl (by decide) rfl (fun ls hl => ?_)
      have hl : lv_has ls 6 [(4, .int (nI (0))), (3, .int (nI (b))), (0, .ref (q 0)), (1, .int (nI (w))), (2, .int (nI (s)))] := hl
      refine wi_ic hx hb (a := 0) nd_CM_underCaps_10 ?_
      refine lv_istore hx hb nd_CM_underCaps_11 hl (by decide) rfl (fun ls hl => ?_)
      have hl : lv_has ls 6 [(5, .int (nI (0))), (4, .int (nI (0))), (3, .int (nI (b))), (0, .ref (q 0)), (1, .int (nI (w))), (2, .int (nI (s)))] := hl
      have hl : lv_has ls 6 [(5, .int (nI (0))), (4, .int (nI (0))), (0, .ref (q 0)), (1, .int (nI (w))), (2, .int (nI (s))), (3, .int (nI (b)))] := lv_sub hl [0, 1, 3, 4, 5, 2] rfl
      refine lp_CM_underCaps1 cI cG cM q n hn1 hn g w hw cls cap hcl hcq hca hcb s hs b (by omega) hx hb hml htg hown hK hN hA hRf hRl hCS (fun ls H locs hl hP hD hS => ?_) (n + 1) 0 ls H locs (by omega) (by omega) hl hP hD hS
      have hcb9 := hcb b (by omega)
      have hcn := mt_cc_le cls b n s
      refine lv_iload hx hb nd_CM_underCaps_65 (lv_at hl 0 rfl) ?_
      refine lv_aload_n hx hb nd_CM_underCaps_67 rfl (lv_at hl 1 rfl) ?_
      refine va_get (D := D) (C := nr_CM) (T := nt_CM) (N := 14) hx hb htg tf_CM hown hK hP 0 rfl rfl 8 (by decide) (htg _ tm_391) (fun _ h => h) rfl nd_CM_underCaps_68 ?_
      refine wi_ic hx hb (a := 4) nd_CM_underCaps_71 ?_
      refine lv_iload_n hx hb nd_CM_underCaps_72 rfl (lv_at hl 2 rfl) ?_
      refine wi_imul hx hb nd_CM_underCaps_73 ?_
      refine lv_iload_n hx hb nd_CM_underCaps_74 rfl (lv_at hl 4 rfl) ?_
      refine wi_iadd hx hb nd_CM_underCaps_75 ?_
      refine wi_iald hx hb hK hP 8 0 rfl rfl (by omega) (by omega) nd_CM_underCaps_76 ?_
      refine wi_top (hca b (by omega)) ?_
      refine wi_icmp_le (tgt := 82) hx hb (by omega) (by omega) nd_CM_underCaps_77 rfl (fun hc77 => ?_) (fun hc77 => ?_)
      · refine lv_iinc (k := 4) (v := nI (b + 1)) hx hb nd_CM_underCaps_82 hl rfl (wi_inc _ 1) (by decide) rfl (fun ls hl => ?_)
        have hl : lv_has ls 6 [(3, .int (nI (b + 1))), (4, .int (nI (mt_cc cls b n s))), (0, .ref (q 0)), (1, .int (nI (w))), (2, .int (nI (s)))] := hl
        refine lv_goto (tgt := 2) hx hb nd_CM_underCaps_85 rfl ?_
        have hl : lv_has ls 6 [(3, .int (nI (b + 1))), (0, .ref (q 0)), (1, .int (nI (w))), (2, .int (nI (s)))] := lv_sub hl [0, 2, 3, 4] rfl
        exact ih (b + 1) ls H locs (by omega) (by omega) (fun c hc => if q : c = b then by rw [q]; omega else hok c (by omega)) hl hP hD hS
      · exact kf ls H locs (fun z => by have := z b (by omega); omega) (lv_sub hl [] rfl) hP hD hS
set_option maxRecDepth 20000 in
theorem c_CM_underCaps (l : Launch) (D : va_G) (cI cG cM : ClassId)  (q : Nat → Nat) (n : Nat) (hn1 : 1 ≤ n) (hn : n ≤ 10) (g : rf_S) (w : Nat) (hw : w < 2) (cls cap : Nat → Nat) (hcl : ∀ e, e < n → g 6 (10 * w + e) = nI (cls e)) (hcq : ∀ e, e < n → cls e < 4) (hca : ∀ b, b < 4 → g 7 (4 * w + b) = nI (cap b)) (hcb : ∀ b, b < 4 → cap b ≤ 10) (s : Nat) (hs : s < 2 ^ n)  (sz : Nat) : wb_Mi l ny_CM_underCaps nc_CM_underCaps 6 (some .boolean) ({ frames := 0, cells := 0, slots := 0, locals := 0 }) D (ty_all cI cG cM) (rf_ cI q n g) sz [.ref (q 0), .int (nI (w)), .int (nI (s))] (fun (v : Int32) (u : rf_S) => ((∀ c, c < 4 → mt_cc cls c n s ≤ cap c) → v = nI 1) ∧ (¬ (∀ c, c < 4 → mt_cc cls c n s ≤ cap c) → v = nI 0) ∧ u = g) (fun u : rf_S => rf_ cI q n u) := by
  refine wb_start (S := rf_S) (by decide) (Nat.le_of_ble_eq_true rfl) ?_
  intro p e0 s0 m below meth c ls A hx hb hr hml htg hown hk hP hK hN hl hAe hsz hD hA
  have hl : lv_has ls 6 [(0, .ref (q 0)), (1, .int (nI (w))), (2, .int (nI (s)))] := hl
  have hP : va_P D cl_all ([((q 0), .inr (6, [.int (nI (n)), .ref (q 2), .ref (q 3), .ref (q 4), .ref (q 5), .ref (q 6), .ref (q 7), .ref (q 8), .ref (q 9), .ref (q 10), .ref (q 11), .ref (q 12), .ref (q 13), .ref (q 14)])), ((q 2), .inl (cI, 10, .inl (g 0))), ((q 3), .inl (cI, 2, .inl (g 1))), ((q 4), .inl (cI, 2, .inl (g 2))), ((q 5), .inl (cI, 2, .inl (g 3))), ((q 6), .inl (cI, 20, .inl (g 4))), ((q 7), .inl (cI, 20, .inl (g 5))), ((q 8), .inl (cI, 20, .inl (g 6))), ((q 9), .inl (cI, 8, .inl (g 7))), ((q 10), .inl (cI, 80, .inl (g 8))), ((q 11), .inl (cI, 8, .inl (g 9))), ((q 12), .inl (cI, 16, .inl (g 10))), ((q 13), .inl (cI, 16, .inl (g 11))), ((q 14), .inl (cI, 2048, .inl (g 12)))]) s0.heap := hP
  have hD : va_D A ([((q 0), .inr (6, [.int (nI (n)), .ref (q 2), .ref (q 3), .ref (q 4), .ref (q 5), .ref (q 6), .ref (q 7), .ref (q 8), .ref (q 9), .ref (q 10), .ref (q 11), .ref (q 12), .ref (q 13), .ref (q 14)])), ((q 2), .inl (cI, 10, .inl (g 0))), ((q 3), .inl (cI, 2, .inl (g 1))), ((q 4), .inl (cI, 2, .inl (g 2))), ((q 5), .inl (cI, 2, .inl (g 3))), ((q 6), .inl (cI, 20, .inl (g 4))), ((q 7), .inl (cI, 20, .inl (g 5))), ((q 8), .inl (cI, 20, .inl (g 6))), ((q 9), .inl (cI, 8, .inl (g 7))), ((q 10), .inl (cI, 80, .inl (g 8))), ((q 11), .inl (cI, 8, .inl (g 9))), ((q 12), .inl (cI, 16, .inl (g 10))), ((q 13), .inl (cI, 16, .inl (g 11))), ((q 14), .inl (cI, 2048, .inl (g 12)))]) := hD
  have hS : va_S A s0.heap s0.heap [] := va_S.rf
  have hRf : 0 ≤ ({ frames := 0, cells := 0, slots := 0, locals := 0 } : Room).frames := Nat.le_refl _
  have hRl : 0 ≤ ({ frames := 0, cells := 0, slots := 0, locals := 0 } : Room).locals := Nat.le_refl _
  have hCS : 0 ≤ ({ frames := 0, cells := 0, slots := 0, locals := 0 } : Room).cells ∧ 0 ≤ ({ frames := 0, cells := 0, slots := 0, locals := 0 } : Room).slots := ⟨Nat.zero_le _, Nat.zero_le _⟩
  have h2n : 2 ^ n ≤ 1024 := Nat.pow_le_pow_right (by omega) hn
  have h2p : 1 ≤ 2 ^ n := Nat.one_le_two_pow
  refine wi_ic hx hb (a := 0) nd_CM_underCaps_0 ?_
  refine lv_istore_n hx hb nd_CM_underCaps_1 rfl hl (by decide) rfl (fun ls hl => ?_)
  have hl : lv_has ls 6 [(3, .int (nI (0))), (0, .ref (q 0)), (1, .int (nI (w))), (2, .int (nI (s)))] := hl
  have hl : lv_has ls 6 [(3, .int (nI (0))), (0, .ref (q 0)), (1, .int (nI (w))), (2, .int (nI (s)))] := lv_sub hl [0, 1, 2, 3] rfl
  exact lp_CM_underCaps2 cI cG cM q n hn1 hn g w hw cls cap hcl hcq hca hcb s hs hx hb hml htg hown hK hN hA hRf hRl hCS (fun ls H locs hok hl hP hD hS => wi_ic hx hb (a := 1) nd_CM_underCaps_88 (wb_zret g hx hb hr hk rfl hAe ⟨fun _ => rfl, fun z => absurd hok z, rfl⟩ hP hD hS nd_CM_underCaps_89)) (fun ls H locs hno hl hP hD hS => wi_ic hx hb (a := 0) nd_CM_underCaps_80 (wb_zret g hx hb hr hk rfl hAe ⟨fun z => absurd z hno, fun _ => rfl, rfl⟩ hP hD hS nd_CM_underCaps_81)) 5 0 ls s0.heap [] (by omega) (by omega) (fun c hc => by omega) hl hP hD hS
