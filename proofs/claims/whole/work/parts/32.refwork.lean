/-! The reference: work, and the questions of one matroid. -/
def bt_ (r : Nat → Nat) (s : Nat) : Nat → Nat
  | 0 => 0
  | k + 1 => if s.testBit k = true ∧ bt_ r s k < r (s ^^^ 2 ^ k) then r (s ^^^ 2 ^ k) else bt_ r s k
theorem bt_max (r : Nat → Nat) (s : Nat) : ∀ k e, e < k → s.testBit e = true → r (s ^^^ 2 ^ e) ≤ bt_ r s k := by
  intro k
  induction k with
  | zero => intro e he; omega
  | succ k ih =>
    intro e he hb
    simp only [bt_]
    by_cases q : e = k
    · subst q
      by_cases q2 : s.testBit e = true ∧ bt_ r s e < r (s ^^^ 2 ^ e)
      · rw [if_pos q2]; exact Nat.le_refl _
      · rw [if_neg q2]; exact Nat.le_of_not_lt fun z => q2 ⟨hb, z⟩
    · have h := ih e (by omega) hb
      split
      · omega
      · exact h
theorem bt_wit (r : Nat → Nat) (s : Nat) : ∀ k, bt_ r s k = 0 ∨ ∃ e, e < k ∧ s.testBit e = true ∧ r (s ^^^ 2 ^ e) = bt_ r s k := by
  intro k
  induction k with
  | zero => exact Or.inl rfl
  | succ k ih =>
    simp only [bt_]
    split
    · rename_i h; exact Or.inr ⟨k, by omega, h.1, rfl⟩
    · rcases ih with h | ⟨e, h1, h2, h3⟩
      · exact Or.inl h
      · exact Or.inr ⟨e, by omega, h2, h3⟩
theorem bt_le {n : Nat} {r : Nat → Nat} (hM : mt_M n r) {s : Nat} (hs : s < 2 ^ n) (k : Nat) (hk : k ≤ n) : bt_ r s k ≤ n := by
  rcases bt_wit r s k with h | ⟨e, h1, h2, h3⟩
  · omega
  · rw [← h3]; exact Nat.le_trans (mt_le_cd hM (mt_xorlt hs (by omega))) (mt_cd_le n _)
theorem nI_sub1 {a b : Nat} (ha : a + 1 < 2 ^ 31) (hb : b < 2 ^ 31) : nI a = nI b - nI 1 ↔ a + 1 = b := by
  constructor
  · intro h
    have h1 : nI a + nI 1 = nI b := by rw [h]; exact Int32.sub_add_cancel _ _
    rw [nI_add] at h1
    exact (nI_eq ha hb).mp h1
  · intro h
    subst h
    rw [pk_sub (by omega)]
    rfl
def rt_ (n : Nat) (y : cb_Y) (g : rf_S) : Prop := ∀ w s, w < 2 → s < 2 ^ n → g 12 (1024 * w + s) = nI (ma_r n (cb_m y w) s)
theorem ma_rb {n : Nat} {x : ma_T} (hv : ma_v n x) {s : Nat} (hs : s < 2 ^ n) : ma_r n x s ≤ n := Nat.le_trans (mt_le_cd (ma_M hv) hs) (mt_cd_le n s)
theorem nd_CM_work_0 : decode nc_CM_work 0 = .ok (.iconst 0, 1) := by decide +kernel
theorem nd_CM_work_1 : decode nc_CM_work 1 = .ok (.istore_n 1, 1) := by decide +kernel
theorem nd_CM_work_2 : decode nc_CM_work 2 = .ok (.iload_n 1, 1) := by decide +kernel
theorem nd_CM_work_3 : decode nc_CM_work 3 = .ok (.iconst 2, 1) := by decide +kernel
theorem nd_CM_work_4 : decode nc_CM_work 4 = .ok (.if_icmp .ge 154, 3) := by decide +kernel
theorem nd_CM_work_7 : decode nc_CM_work 7 = .ok (.iconst 0, 1) := by decide +kernel
theorem nd_CM_work_8 : decode nc_CM_work 8 = .ok (.istore_n 2, 1) := by decide +kernel
theorem nd_CM_work_9 : decode nc_CM_work 9 = .ok (.iload_n 2, 1) := by decide +kernel
theorem nd_CM_work_10 : decode nc_CM_work 10 = .ok (.iconst 1, 1) := by decide +kernel
theorem nd_CM_work_11 : decode nc_CM_work 11 = .ok (.aload_n 0, 1) := by decide +kernel
theorem nd_CM_work_12 : decode nc_CM_work 12 = .ok (.getfield 49, 3) := by decide +kernel
theorem nd_CM_work_15 : decode nc_CM_work 15 = .ok (.ishl, 1) := by decide +kernel
theorem nd_CM_work_16 : decode nc_CM_work 16 = .ok (.if_icmp .ge 136, 3) := by decide +kernel
theorem nd_CM_work_19 : decode nc_CM_work 19 = .ok (.iconst 0, 1) := by decide +kernel
theorem nd_CM_work_20 : decode nc_CM_work 20 = .ok (.istore_n 3, 1) := by decide +kernel
theorem nd_CM_work_21 : decode nc_CM_work 21 = .ok (.iconst 0, 1) := by decide +kernel
theorem nd_CM_work_22 : decode nc_CM_work 22 = .ok (.istore 4, 2) := by decide +kernel
theorem nd_CM_work_24 : decode nc_CM_work 24 = .ok (.iload 4, 2) := by decide +kernel
theorem nd_CM_work_26 : decode nc_CM_work 26 = .ok (.aload_n 0, 1) := by decide +kernel
theorem nd_CM_work_27 : decode nc_CM_work 27 = .ok (.getfield 49, 3) := by decide +kernel
theorem nd_CM_work_30 : decode nc_CM_work 30 = .ok (.if_icmp .ge 78, 3) := by decide +kernel
theorem nd_CM_work_33 : decode nc_CM_work 33 = .ok (.iload_n 2, 1) := by decide +kernel
theorem nd_CM_work_34 : decode nc_CM_work 34 = .ok (.iload 4, 2) := by decide +kernel
theorem nd_CM_work_36 : decode nc_CM_work 36 = .ok (.ishr, 1) := by decide +kernel
theorem nd_CM_work_37 : decode nc_CM_work 37 = .ok (.iconst 1, 1) := by decide +kernel
theorem nd_CM_work_38 : decode nc_CM_work 38 = .ok (.iand, 1) := by decide +kernel
theorem nd_CM_work_39 : decode nc_CM_work 39 = .ok (.iconst 1, 1) := by decide +kernel
theorem nd_CM_work_40 : decode nc_CM_work 40 = .ok (.if_icmp .ne 30, 3) := by decide +kernel
theorem nd_CM_work_43 : decode nc_CM_work 43 = .ok (.aload_n 0, 1) := by decide +kernel
theorem nd_CM_work_44 : decode nc_CM_work 44 = .ok (.getfield 46, 3) := by decide +kernel
theorem nd_CM_work_47 : decode nc_CM_work 47 = .ok (.sipush 1024, 3) := by decide +kernel
theorem nd_CM_work_50 : decode nc_CM_work 50 = .ok (.iload_n 1, 1) := by decide +kernel
theorem nd_CM_work_51 : decode nc_CM_work 51 = .ok (.imul, 1) := by decide +kernel
theorem nd_CM_work_52 : decode nc_CM_work 52 = .ok (.iload_n 2, 1) := by decide +kernel
theorem nd_CM_work_53 : decode nc_CM_work 53 = .ok (.iadd, 1) := by decide +kernel
theorem nd_CM_work_54 : decode nc_CM_work 54 = .ok (.iload_n 2, 1) := by decide +kernel
theorem nd_CM_work_55 : decode nc_CM_work 55 = .ok (.iconst 1, 1) := by decide +kernel
theorem nd_CM_work_56 : decode nc_CM_work 56 = .ok (.iload 4, 2) := by decide +kernel
theorem nd_CM_work_58 : decode nc_CM_work 58 = .ok (.ishl, 1) := by decide +kernel
theorem nd_CM_work_59 : decode nc_CM_work 59 = .ok (.iand, 1) := by decide +kernel
theorem nd_CM_work_60 : decode nc_CM_work 60 = .ok (.isub, 1) := by decide +kernel
theorem nd_CM_work_61 : decode nc_CM_work 61 = .ok (.iaload, 1) := by decide +kernel
theorem nd_CM_work_62 : decode nc_CM_work 62 = .ok (.iload_n 3, 1) := by decide +kernel
theorem nd_CM_work_63 : decode nc_CM_work 63 = .ok (.if_icmp .le 7, 3) := by decide +kernel
theorem nd_CM_work_66 : decode nc_CM_work 66 = .ok (.iconst 1, 1) := by decide +kernel
theorem nd_CM_work_67 : decode nc_CM_work 67 = .ok (.goto 4, 3) := by decide +kernel
theorem nd_CM_work_70 : decode nc_CM_work 70 = .ok (.iconst 0, 1) := by decide +kernel
theorem nd_CM_work_71 : decode nc_CM_work 71 = .ok (.istore 5, 2) := by decide +kernel
theorem nd_CM_work_73 : decode nc_CM_work 73 = .ok (.iload 5, 2) := by decide +kernel
theorem nd_CM_work_75 : decode nc_CM_work 75 = .ok (.ifCond .eq 25, 3) := by decide +kernel
theorem nd_CM_work_78 : decode nc_CM_work 78 = .ok (.aload_n 0, 1) := by decide +kernel
theorem nd_CM_work_79 : decode nc_CM_work 79 = .ok (.getfield 46, 3) := by decide +kernel
theorem nd_CM_work_82 : decode nc_CM_work 82 = .ok (.sipush 1024, 3) := by decide +kernel
theorem nd_CM_work_85 : decode nc_CM_work 85 = .ok (.iload_n 1, 1) := by decide +kernel
theorem nd_CM_work_86 : decode nc_CM_work 86 = .ok (.imul, 1) := by decide +kernel
theorem nd_CM_work_87 : decode nc_CM_work 87 = .ok (.iload_n 2, 1) := by decide +kernel
theorem nd_CM_work_88 : decode nc_CM_work 88 = .ok (.iadd, 1) := by decide +kernel
theorem nd_CM_work_89 : decode nc_CM_work 89 = .ok (.iload_n 2, 1) := by decide +kernel
theorem nd_CM_work_90 : decode nc_CM_work 90 = .ok (.iconst 1, 1) := by decide +kernel
theorem nd_CM_work_91 : decode nc_CM_work 91 = .ok (.iload 4, 2) := by decide +kernel
theorem nd_CM_work_93 : decode nc_CM_work 93 = .ok (.ishl, 1) := by decide +kernel
theorem nd_CM_work_94 : decode nc_CM_work 94 = .ok (.iand, 1) := by decide +kernel
theorem nd_CM_work_95 : decode nc_CM_work 95 = .ok (.isub, 1) := by decide +kernel
theorem nd_CM_work_96 : decode nc_CM_work 96 = .ok (.iaload, 1) := by decide +kernel
theorem nd_CM_work_97 : decode nc_CM_work 97 = .ok (.goto 4, 3) := by decide +kernel
theorem nd_CM_work_100 : decode nc_CM_work 100 = .ok (.iload_n 3, 1) := by decide +kernel
theorem nd_CM_work_101 : decode nc_CM_work 101 = .ok (.istore_n 3, 1) := by decide +kernel
theorem nd_CM_work_102 : decode nc_CM_work 102 = .ok (.iinc 4 1, 3) := by decide +kernel
theorem nd_CM_work_105 : decode nc_CM_work 105 = .ok (.goto (-81), 3) := by decide +kernel
theorem nd_CM_work_108 : decode nc_CM_work 108 = .ok (.aload_n 0, 1) := by decide +kernel
theorem nd_CM_work_109 : decode nc_CM_work 109 = .ok (.getfield 46, 3) := by decide +kernel
theorem nd_CM_work_112 : decode nc_CM_work 112 = .ok (.sipush 1024, 3) := by decide +kernel
theorem nd_CM_work_115 : decode nc_CM_work 115 = .ok (.iload_n 1, 1) := by decide +kernel
theorem nd_CM_work_116 : decode nc_CM_work 116 = .ok (.imul, 1) := by decide +kernel
theorem nd_CM_work_117 : decode nc_CM_work 117 = .ok (.iload_n 2, 1) := by decide +kernel
theorem nd_CM_work_118 : decode nc_CM_work 118 = .ok (.iadd, 1) := by decide +kernel
theorem nd_CM_work_119 : decode nc_CM_work 119 = .ok (.iload_n 3, 1) := by decide +kernel
theorem nd_CM_work_120 : decode nc_CM_work 120 = .ok (.iload_n 2, 1) := by decide +kernel
theorem nd_CM_work_121 : decode nc_CM_work 121 = .ok (.invokestatic 69, 3) := by decide +kernel
theorem nd_CM_work_124 : decode nc_CM_work 124 = .ok (.iconst 1, 1) := by decide +kernel
theorem nd_CM_work_125 : decode nc_CM_work 125 = .ok (.isub, 1) := by decide +kernel
theorem nd_CM_work_126 : decode nc_CM_work 126 = .ok (.if_icmp .ne 18, 3) := by decide +kernel
theorem nd_CM_work_129 : decode nc_CM_work 129 = .ok (.aload_n 0, 1) := by decide +kernel
theorem nd_CM_work_130 : decode nc_CM_work 130 = .ok (.iload_n 1, 1) := by decide +kernel
theorem nd_CM_work_131 : decode nc_CM_work 131 = .ok (.iload_n 2, 1) := by decide +kernel
theorem nd_CM_work_132 : decode nc_CM_work 132 = .ok (.invokevirtual 83, 3) := by decide +kernel
theorem nd_CM_work_135 : decode nc_CM_work 135 = .ok (.ifCond .eq 9, 3) := by decide +kernel
theorem nd_CM_work_138 : decode nc_CM_work 138 = .ok (.iload_n 3, 1) := by decide +kernel
theorem nd_CM_work_139 : decode nc_CM_work 139 = .ok (.iconst 1, 1) := by decide +kernel
theorem nd_CM_work_140 : decode nc_CM_work 140 = .ok (.iadd, 1) := by decide +kernel
theorem nd_CM_work_141 : decode nc_CM_work 141 = .ok (.goto 4, 3) := by decide +kernel
theorem nd_CM_work_144 : decode nc_CM_work 144 = .ok (.iload_n 3, 1) := by decide +kernel
theorem nd_CM_work_145 : decode nc_CM_work 145 = .ok (.iastore, 1) := by decide +kernel
theorem nd_CM_work_146 : decode nc_CM_work 146 = .ok (.iinc 2 1, 3) := by decide +kernel
theorem nd_CM_work_149 : decode nc_CM_work 149 = .ok (.goto (-140), 3) := by decide +kernel
theorem nd_CM_work_152 : decode nc_CM_work 152 = .ok (.iinc 1 1, 3) := by decide +kernel
theorem nd_CM_work_155 : decode nc_CM_work 155 = .ok (.goto (-153), 3) := by decide +kernel
theorem nd_CM_work_158 : decode nc_CM_work 158 = .ok (.return_, 1) := by decide +kernel
set_option maxRecDepth 20000 in
theorem lp_CM_work1 {p : Program} {l : Launch} {e0 : Env} {R : Room} {s0 : State} {m : MethodId} {args : Array Value} {below : List Frame} {meth : Method} {c : Code} {cells slots : Nat} {Qq : State → Prop} {D : va_G} {A : Nat → Prop} (cI cG cM : ClassId) (q : Nat → Nat) (n : Nat) (hn1 : 1 ≤ n) (hn : n ≤ 10) (g : rf_S) (y : cb_Y) (hI : rf_I n y g) (w : Nat) (hw : w < 2) (s : Nat) (hs : s < 2 ^ n) (h : rf_S) (hrr : ∀ w' s', w' < 2 → s' < 2 ^ n → (w' < w ∨ (w' = w ∧ s' < s)) → h 12 (1024 * w' + s') = nI (ma_r n (cb_m y w') s'))  (hx : p.tables.exec = Jvm.exec) (hb : c.code = nc_CM_work) (hml : c.maxLocals = 6) (htg : ∀ w ∈ tg_, w.before args s0 = true) (hown : s0.vm.findClass ny_CM_work.cls = some m.cls) (hK : va_K D cl_all (ty_all cI cG cM) s0) (hN : tn_K s0) (hA : ∀ q : Nat, s0.heap.size ≤ q → A q) (hRf : 3 ≤ R.frames) (hRl : 73 ≤ R.locals) (hCS : cells ≤ R.cells ∧ slots ≤ R.slots) (kx : ∀ (ls : Array Slot) (H : Heap) (locs : List Loc), lv_has ls 6 [(3, .int (nI (bt_ (ma_r n (cb_m y w)) s n))), (0, .ref (q 0)), (1, .int (nI (w))), (2, .int (nI (s)))] → va_P D cl_all ([((q 0), .inr (6, [.int (nI (n)), .ref (q 2), .ref (q 3), .ref (q 4), .ref (q 5), .ref (q 6), .ref (q 7), .ref (q 8), .ref (q 9), .ref (q 10), .ref (q 11), .ref (q 12), .ref (q 13), .ref (q 14)])), ((q 2), .inl (cI, 10, .inl (h 0))), ((q 3), .inl (cI, 2, .inl (h 1))), ((q 4), .inl (cI, 2, .inl (h 2))), ((q 5), .inl (cI, 2, .inl (h 3))), ((q 6), .inl (cI, 20, .inl (h 4))), ((q 7), .inl (cI, 20, .inl (h 5))), ((q 8), .inl (cI, 20, .inl (h 6))), ((q 9), .inl (cI, 8, .inl (h 7))), ((q 10), .inl (cI, 80, .inl (h 8))), ((q 11), .inl (cI, 8, .inl (h 9))), ((q 12), .inl (cI, 16, .inl (h 10))), ((q 13), .inl (cI, 16, .inl (h 11))), ((q 14), .inl (cI, 2048, .inl (h 12)))]) H → va_D A ([((q 0), .inr (6, [.int (nI (n)), .ref (q 2), .ref (q 3), .ref (q 4), .ref (q 5), .ref (q 6), .ref (q 7), .ref (q 8), .ref (q 9), .ref (q 10), .ref (q 11), .ref (q 12), .ref (q 13), .ref (q 14)])), ((q 2), .inl (cI, 10, .inl (h 0))), ((q 3), .inl (cI, 2, .inl (h 1))), ((q 4), .inl (cI, 2, .inl (h 2))), ((q 5), .inl (cI, 2, .inl (h 3))), ((q 6), .inl (cI, 20, .inl (h 4))), ((q 7), .inl (cI, 20, .inl (h 5))), ((q 8), .inl (cI, 20, .inl (h 6))), ((q 9), .inl (cI, 8, .inl (h 7))), ((q 10), .inl (cI, 80, .inl (h 8))), ((q 11), .inl (cI, 8, .inl (h 9))), ((q 12), .inl (cI, 16, .inl (h 10))), ((q 13), .inl (cI, 16, .inl (h 11))), ((q 14), .inl (cI, 2048, .inl (h 12)))]) → va_S A s0.heap H locs → W p l e0 R s0 m args below meth c H locs cells slots Qq (F0 m 108 ls [])) : ∀ (fuel : Nat) (e : Nat) (ls : Array Slot) (H : Heap) (locs : List Loc), n - e < fuel → (e ≤ n) → lv_has ls 6 [(4, .int (nI (e))), (3, .int (nI (bt_ (ma_r n (cb_m y w)) s e))), (0, .ref (q 0)), (1, .int (nI (w))), (2, .int (nI (s)))] → va_P D cl_all ([((q 0), .inr (6, [.int (nI (n)), .ref (q 2), .ref (q 3), .ref (q 4), .ref (q 5), .ref (q 6), .ref (q 7), .ref (q 8), .ref (q 9), .ref (q 10), .ref (q 11), .ref (q 12), .ref (q 13), .ref (q 14)])), ((q 2), .inl (cI, 10, .inl (h 0))), ((q 3), .inl (cI, 2, .inl (h 1))), ((q 4), .inl (cI, 2, .inl (h 2))), ((q 5), .inl (cI, 2, .inl (h 3))), ((q 6), .inl (cI, 20, .inl (h 4))), ((q 7), .inl (cI, 20, .inl (h 5))), ((q 8), .inl (cI, 20, .inl (h 6))), ((q 9), .inl (cI, 8, .inl (h 7))), ((q 10), .inl (cI, 80, .inl (h 8))), ((q 11), .inl (cI, 8, .inl (h 9))), ((q 12), .inl (cI, 16, .inl (h 10))), ((q 13), .inl (cI, 16, .inl (h 11))), ((q 14), .inl (cI, 2048, .inl (h 12)))]) H → va_D A ([((q 0), .inr (6, [.int (nI (n)), .ref (q 2), .ref (q 3), .ref (q 4), .ref (q 5), .ref (q 6), .ref (q 7), .ref (q 8), .ref (q 9), .ref (q 10), .ref (q 11), .ref (q 12), .ref (q 13), .ref (q 14)])), ((q 2), .inl (cI, 10, .inl (h 0))), ((q 3), .inl (cI, 2, .inl (h 1))), ((q 4), .inl (cI, 2, .inl (h 2))), ((q 5), .inl (cI, 2, .inl (h 3))), ((q 6), .inl (cI, 20, .inl (h 4))), ((q 7), .inl (cI, 20, .inl (h 5))), ((q 8), .inl (cI, 20, .inl (h 6))), ((q 9), .inl (cI, 8, .inl (h 7))), ((q 10), .inl (cI, 80, .inl (h 8))), ((q 11), .inl (cI, 8, .inl (h 9))), ((q 12), .inl (cI, 16, .inl (h 10))), ((q 13), .inl (cI, 16, .inl (h 11))), ((q 14), .inl (cI, 2048, .inl (h 12)))]) → va_S A s0.heap H locs → W p l e0 R s0 m args below meth c H locs cells slots Qq (F0 m 24 ls []) := by
  intro fuel
  induction fuel with
  | zero => intro e ls H locs hfu; omega
  | succ fuel ih =>
    intro e ls H locs hfu he hl hP hD hS
    have h2n : 2 ^ n ≤ 1024 := Nat.pow_le_pow_right (by omega) hn
    have h2p : 1 ≤ 2 ^ n := Nat.one_le_two_pow
    have hbl := bt_le (ma_M (hI.2 w hw).1) hs e he
    refine lv_iload hx hb nd_CM_work_24 (lv_at hl 0 rfl) ?_
    refine lv_aload_n hx hb nd_CM_work_26 rfl (lv_at hl 2 rfl) ?_
    refine va_get (D := D) (C := nr_CM) (T := nt_CM) (N := 14) hx hb htg tf_CM hown hK hP 0 rfl rfl 0 (by decide) (htg _ tm_383) (fun _ h => h) rfl nd_CM_work_27 ?_
    refine wi_icmp_ge (tgt := 108) hx hb (by omega) (by omega) nd_CM_work_30 rfl (fun hc30 => ?_) (fun hc30 => ?_)
    · have hl : lv_has ls 6 [(3, .int (nI (bt_ (ma_r n (cb_m y w)) s e))), (0, .ref (q 0)), (1, .int (nI (w))), (2, .int (nI (s)))] := lv_sub hl [1, 2, 3, 4] rfl
      have hen : e = n := by omega
      exact kx ls H locs (by simpa only [hen] using hl) hP hD hS
    · refine lv_iload_n hx hb nd_CM_work_33 rfl (lv_at hl 4 rfl) ?_
      refine lv_iload hx hb nd_CM_work_34 (lv_at hl 0 rfl) ?_
      refine wi_ishr hx hb (by omega) (by omega) nd_CM_work_36 ?_
      refine wi_ic hx hb (a := 1) nd_CM_work_37 ?_
      refine wi_bit hx hb nd_CM_work_38 ?_
      have hbt38 := mt_bt_lt s e
      refine wi_ic hx hb (a := 1) nd_CM_work_39 ?_
      refine wi_icmp_ne (tgt := 70) hx hb (by omega) (by omega) nd_CM_work_40 rfl (fun hc40 => ?_) (fun hc40 => ?_)
      · refine wi_ic hx hb (a := 0) nd_CM_work_70 ?_
        refine lv_istore hx hb nd_CM_work_71 hl (by decide) rfl (fun ls hl => ?_)
        have hl : lv_has ls 6 [(5, .int (nI (0))), (4, .int (nI (e))), (3, .int (nI (bt_ (ma_r n (cb_m y w)) s e))), (0, .ref (q 0)), (1, .int (nI (w))), (2, .int (nI (s)))] := hl
        refine lv_iload hx hb nd_CM_work_73 (lv_at hl 0 rfl) ?_
        refine wi_if_eq (tgt := 100) hx hb (by decide) nd_CM_work_75 rfl (fun _ => ?_) (fun h => absurd h (by decide))
        refine lv_iload_n hx hb nd_CM_work_100 rfl (lv_at hl 2 rfl) ?_
        refine lv_istore_n hx hb nd_CM_work_101 rfl hl (by decide) rfl (fun ls hl => ?_)
        have hl : lv_has ls 6 [(3, .int (nI (bt_ (ma_r n (cb_m y w)) s e))), (5, .int (nI (0))), (4, .int (nI (e))), (0, .ref (q 0)), (1, .int (nI (w))), (2, .int (nI (s)))] := hl
        refine lv_iinc (k := 2) (v := nI (e + 1)) hx hb nd_CM_work_102 hl rfl (wi_inc _ 1) (by decide) rfl (fun ls hl => ?_)
        have hl : lv_has ls 6 [(4, .int (nI (e + 1))), (3, .int (nI (bt_ (ma_r n (cb_m y w)) s e))), (5, .int (nI (0))), (0, .ref (q 0)), (1, .int (nI (w))), (2, .int (nI (s)))] := hl
        refine lv_goto (tgt := 24) hx hb nd_CM_work_105 rfl ?_
        have hl : lv_has ls 6 [(4, .int (nI (e + 1))), (3, .int (nI (bt_ (ma_r n (cb_m y w)) s e))), (0, .ref (q 0)), (1, .int (nI (w))), (2, .int (nI (s)))] := lv_sub hl [0, 1, 3, 4, 5] rfl
        have hbe : bt_ (ma_r n (cb_m y w)) s (e + 1) = bt_ (ma_r n (cb_m y w)) s e := if_neg (fun z => by have := mt_bt_t.mpr z.1; omega)
        exact ih (e + 1) ls H locs (by omega) (by omega) (by rw [hbe]; exact hl) hP hD hS
      · have hbt := mt_bt_t.mp (show mt_bt s e = 1 by omega)
        have hle := bs_le hbt
        have han : s &&& 2 ^ e = 2 ^ e := by rw [bs_andp, if_pos hbt]
        have hsb := bs_sub hbt
        have h2e := Nat.two_pow_pos e
        have hxl : s ^^^ 2 ^ e < s := by omega
        have hrk : h 12 (1024 * w + s - (s &&& 2 ^ e)) = nI ((ma_r n (cb_m y w)) (s ^^^ 2 ^ e)) := by rw [han, show 1024 * w + s - 2 ^ e = 1024 * w + (s ^^^ 2 ^ e) by omega]; exact hrr w (s ^^^ 2 ^ e) hw (by omega) (Or.inr ⟨rfl, hxl⟩)
        have hrb := ma_rb (hI.2 w hw).1 (show s ^^^ 2 ^ e < 2 ^ n by omega)
        refine lv_aload_n hx hb nd_CM_work_43 rfl (lv_at hl 2 rfl) ?_
        refine va_get (D := D) (C := nr_CM) (T := nt_CM) (N := 14) hx hb htg tf_CM hown hK hP 0 rfl rfl 13 (by decide) (htg _ tm_396) (fun _ h => h) rfl nd_CM_work_44 ?_
        refine lv_sipush (v := nI 1024) hx hb nd_CM_work_47 (by decide) ?_
        refine lv_iload_n hx hb nd_CM_work_50 rfl (lv_at hl 3 rfl) ?_
        refine wi_imul hx hb nd_CM_work_51 ?_
        refine lv_iload_n hx hb nd_CM_work_52 rfl (lv_at hl 4 rfl) ?_
        refine wi_iadd hx hb nd_CM_work_53 ?_
        refine lv_iload_n hx hb nd_CM_work_54 rfl (lv_at hl 4 rfl) ?_
        refine wi_ic hx hb (a := 1) nd_CM_work_55 ?_
        refine lv_iload hx hb nd_CM_work_56 (lv_at hl 0 rfl) ?_
        refine wi_ishl1 hx hb (by omega) nd_CM_work_58 ?_
        refine wi_iand hx hb nd_CM_work_59 ?_
        refine wi_isub hx hb (by omega) nd_CM_work_60 ?_
        refine wi_iald hx hb hK hP 13 0 rfl rfl (by omega) (by omega) nd_CM_work_61 ?_
        refine wi_top (hrk) ?_
        refine lv_iload_n hx hb nd_CM_work_62 rfl (lv_at hl 1 rfl) ?_
        refine wi_icmp_le (tgt := 70) hx hb (by omega) (by omega) nd_CM_work_63 rfl (fun hc63 => ?_) (fun hc63 => ?_)
        · refine wi_ic hx hb (a := 0) nd_CM_work_70 ?_
          refine lv_istore hx hb nd_CM_work_71 hl (by decide) rfl (fun ls hl => ?_)
          have hl : lv_has ls 6 [(5, .int (nI (0))), (4, .int (nI (e))), (3, .int (nI (bt_ (ma_r n (cb_m y w)) s e))), (0, .ref (q 0)), (1, .int (nI (w))), (2, .int (nI (s)))] := hl
          refine lv_iload hx hb nd_CM_work_73 (lv_at hl 0 rfl) ?_
          refine wi_if_eq (tgt := 100) hx hb (by decide) nd_CM_work_75 rfl (fun _ => ?_) (fun h => absurd h (by decide))
          refine lv_iload_n hx hb nd_CM_work_100 rfl (lv_at hl 2 rfl) ?_
          refine lv_istore_n hx hb nd_CM_work_101 rfl hl (by decide) rfl (fun ls hl => ?_)
          have hl : lv_has ls 6 [(3, .int (nI (bt_ (ma_r n (cb_m y w)) s e))), (5, .int (nI (0))), (4, .int (nI (e))), (0, .ref (q 0)), (1, .int (nI (w))), (2, .int (nI (s)))] := hl
          refine lv_iinc (k := 2) (v := nI (e + 1)) hx hb nd_CM_work_102 hl rfl (wi_inc _ 1) (by decide) rfl (fun ls hl => ?_)
          have hl : lv_has ls 6 [(4, .int (nI (e + 1))), (3, .int (nI (bt_ (ma_r n (cb_m y w)) s e))), (5, .int (nI (0))), (0, .ref (q 0)), (1, .int (nI (w))), (2, .int (nI (s)))] := hl
          refine lv_goto (tgt := 24) hx hb nd_CM_work_105 rfl ?_
          have hl : lv_has ls 6 [(4, .int (nI (e + 1))), (3, .int (nI (bt_ (ma_r n (cb_m y w)) s e))), (0, .ref (q 0)), (1, .int (nI (w))), (2, .int (nI (s)))] := lv_sub hl [0, 1, 3, 4, 5] rfl
          have hbe : bt_ (ma_r n (cb_m y w)) s (e + 1) = bt_ (ma_r n (cb_m y w)) s e := if_neg (fun z => by omega)
          exact ih (e + 1) ls H locs (by omega) (by omega) (by rw [hbe]; exact hl) hP hD hS
        · refine wi_ic hx hb (a := 1) nd_CM_work_66 ?_
          refine lv_goto (tgt := 71) hx hb nd_CM_work_67 rfl ?_
          refine lv_istore hx hb nd_CM_work_71 hl (by decide) rfl (fun ls hl => ?_)
          have hl : lv_has ls 6 [(5, .int (nI (1))), (4, .int (nI (e))), (3, .int (nI (bt_ (ma_r n (cb_m y w)) s e))), (0, .ref (q 0)), (1, .int (nI (w))), (2, .int (nI (s)))] := hl
          refine lv_iload hx hb nd_CM_work_73 (lv_at hl 0 rfl) ?_
          refine wi_if_eq (tgt := 100) hx hb (by decide) nd_CM_work_75 rfl (fun h => absurd h (by decide)) (fun _ => ?_)
          refine lv_aload_n hx hb nd_CM_work_78 rfl (lv_at hl 3 rfl) ?_
          refine va_get (D := D) (C := nr_CM) (T := nt_CM) (N := 14) hx hb htg tf_CM hown hK hP 0 rfl rfl 13 (by decide) (htg _ tm_396) (fun _ h => h) rfl nd_CM_work_79 ?_
          refine lv_sipush (v := nI 1024) hx hb nd_CM_work_82 (by decide) ?_
          refine lv_iload_n hx hb nd_CM_work_85 rfl (lv_at hl 4 rfl) ?_
          refine wi_imul hx hb nd_CM_work_86 ?_
          refine lv_iload_n hx hb nd_CM_work_87 rfl (lv_at hl 5 rfl) ?_
          refine wi_iadd hx hb nd_CM_work_88 ?_
          refine lv_iload_n hx hb nd_CM_work_89 rfl (lv_at hl 5 rfl) ?_
          refine wi_ic hx hb (a := 1) nd_CM_work_90 ?_
          refine lv_iload hx hb nd_CM_work_91 (lv_at hl 1 rfl) ?_
          refine wi_ishl1 hx hb (by omega) nd_CM_work_93 ?_
          refine wi_iand hx hb nd_CM_work_94 ?_
          refine wi_isub hx hb (by omega) nd_CM_work_95 ?_
          refine wi_iald hx hb hK hP 13 0 rfl rfl (by omega) (by omega) nd_CM_work_96 ?_
          refine wi_top (hrk) ?_
          refine lv_goto (tgt := 101) hx hb nd_CM_work_97 rfl ?_
          refine lv_istore_n hx hb nd_CM_work_101 rfl hl (by decide) rfl (fun ls hl => ?_)
          have hl : lv_has ls 6 [(3, .int (nI ((ma_r n (cb_m y w)) (s ^^^ 2 ^ e)))), (5, .int (nI (1))), (4, .int (nI (e))), (0, .ref (q 0)), (1, .int (nI (w))), (2, .int (nI (s)))] := hl
          refine lv_iinc (k := 2) (v := nI (e + 1)) hx hb nd_CM_work_102 hl rfl (wi_inc _ 1) (by decide) rfl (fun ls hl => ?_)
          have hl : lv_has ls 6 [(4, .int (nI (e + 1))), (3, .int (nI ((ma_r n (cb_m y w)) (s ^^^ 2 ^ e)))), (5, .int (nI (1))), (0, .ref (q 0)), (1, .int (nI (w))), (2, .int (nI (s)))] := hl
          refine lv_goto (tgt := 24) hx hb nd_CM_work_105 rfl ?_
          have hl : lv_has ls 6 [(4, .int (nI (e + 1))), (3, .int (nI ((ma_r n (cb_m y w)) (s ^^^ 2 ^ e)))), (0, .ref (q 0)), (1, .int (nI (w))), (2, .int (nI (s)))] := lv_sub hl [0, 1, 3, 4, 5] rfl
          have hbe : bt_ (ma_r n (cb_m y w)) s (e + 1) = (ma_r n (cb_m y w)) (s ^^^ 2 ^ e) := if_pos ⟨hbt, by omega⟩
          exact ih (e + 1) ls H locs (by omega) (by omega) (by rw [hbe]; exact hl) hP hD hS
set_option maxRecDepth 20000 in
theorem lp_CM_work2 {p : Program} {l : Launch} {e0 : Env} {R : Room} {s0 : State} {m : MethodId} {args : Array Value} {below : List Frame} {meth : Method} {c : Code} {cells slots : Nat} {Qq : State → Prop} {D : va_G} {A : Nat → Prop} (cI cG cM : ClassId) (q : Nat → Nat) (n : Nat) (hn1 : 1 ≤ n) (hn : n ≤ 10) (g : rf_S) (y : cb_Y) (hI : rf_I n y g) (w : Nat) (hw : w < 2)  (hx : p.tables.exec = Jvm.exec) (hb : c.code = nc_CM_work) (hml : c.maxLocals = 6) (htg : ∀ w ∈ tg_, w.before args s0 = true) (hown : s0.vm.findClass ny_CM_work.cls = some m.cls) (hK : va_K D cl_all (ty_all cI cG cM) s0) (hN : tn_K s0) (hA : ∀ q : Nat, s0.heap.size ≤ q → A q) (hRf : 3 ≤ R.frames) (hRl : 73 ≤ R.locals) (hCS : cells ≤ R.cells ∧ slots ≤ R.slots) (kx : ∀ (ls : Array Slot) (H : Heap) (locs : List Loc) (h : rf_S), (∀ j, j < 9 → h j = g j) → (∀ w' s', w' < 2 → s' < 2 ^ n → (w' < w ∨ (w' = w ∧ s' < 2 ^ n)) → h 12 (1024 * w' + s') = nI (ma_r n (cb_m y w') s')) → lv_has ls 6 [(0, .ref (q 0)), (1, .int (nI (w)))] → va_P D cl_all ([((q 0), .inr (6, [.int (nI (n)), .ref (q 2), .ref (q 3), .ref (q 4), .ref (q 5), .ref (q 6), .ref (q 7), .ref (q 8), .ref (q 9), .ref (q 10), .ref (q 11), .ref (q 12), .ref (q 13), .ref (q 14)])), ((q 2), .inl (cI, 10, .inl (h 0))), ((q 3), .inl (cI, 2, .inl (h 1))), ((q 4), .inl (cI, 2, .inl (h 2))), ((q 5), .inl (cI, 2, .inl (h 3))), ((q 6), .inl (cI, 20, .inl (h 4))), ((q 7), .inl (cI, 20, .inl (h 5))), ((q 8), .inl (cI, 20, .inl (h 6))), ((q 9), .inl (cI, 8, .inl (h 7))), ((q 10), .inl (cI, 80, .inl (h 8))), ((q 11), .inl (cI, 8, .inl (h 9))), ((q 12), .inl (cI, 16, .inl (h 10))), ((q 13), .inl (cI, 16, .inl (h 11))), ((q 14), .inl (cI, 2048, .inl (h 12)))]) H → va_D A ([((q 0), .inr (6, [.int (nI (n)), .ref (q 2), .ref (q 3), .ref (q 4), .ref (q 5), .ref (q 6), .ref (q 7), .ref (q 8), .ref (q 9), .ref (q 10), .ref (q 11), .ref (q 12), .ref (q 13), .ref (q 14)])), ((q 2), .inl (cI, 10, .inl (h 0))), ((q 3), .inl (cI, 2, .inl (h 1))), ((q 4), .inl (cI, 2, .inl (h 2))), ((q 5), .inl (cI, 2, .inl (h 3))), ((q 6), .inl (cI, 20, .inl (h 4))), ((q 7), .inl (cI, 20, .inl (h 5))), ((q 8), .inl (cI, 20, .inl (h 6))), ((q 9), .inl (cI, 8, .inl (h 7))), ((q 10), .inl (cI, 80, .inl (h 8))), ((q 11), .inl (cI, 8, .inl (h 9))), ((q 12), .inl (cI, 16, .inl (h 10))), ((q 13), .inl (cI, 16, .inl (h 11))), ((q 14), .inl (cI, 2048, .inl (h 12)))]) → va_S A s0.heap H locs → W p l e0 R s0 m args below meth c H locs cells slots Qq (F0 m 152 ls [])) : ∀ (fuel : Nat) (s : Nat) (h : rf_S) (ls : Array Slot) (H : Heap) (locs : List Loc), 2 ^ n - s < fuel → (s ≤ 2 ^ n) → (∀ j, j < 9 → h j = g j) → (∀ w' s', w' < 2 → s' < 2 ^ n → (w' < w ∨ (w' = w ∧ s' < s)) → h 12 (1024 * w' + s') = nI (ma_r n (cb_m y w') s')) → lv_has ls 6 [(2, .int (nI (s))), (0, .ref (q 0)), (1, .int (nI (w)))] → va_P D cl_all ([((q 0), .inr (6, [.int (nI (n)), .ref (q 2), .ref (q 3), .ref (q 4), .ref (q 5), .ref (q 6), .ref (q 7), .ref (q 8), .ref (q 9), .ref (q 10), .ref (q 11), .ref (q 12), .ref (q 13), .ref (q 14)])), ((q 2), .inl (cI, 10, .inl (h 0))), ((q 3), .inl (cI, 2, .inl (h 1))), ((q 4), .inl (cI, 2, .inl (h 2))), ((q 5), .inl (cI, 2, .inl (h 3))), ((q 6), .inl (cI, 20, .inl (h 4))), ((q 7), .inl (cI, 20, .inl (h 5))), ((q 8), .inl (cI, 20, .inl (h 6))), ((q 9), .inl (cI, 8, .inl (h 7))), ((q 10), .inl (cI, 80, .inl (h 8))), ((q 11), .inl (cI, 8, .inl (h 9))), ((q 12), .inl (cI, 16, .inl (h 10))), ((q 13), .inl (cI, 16, .inl (h 11))), ((q 14), .inl (cI, 2048, .inl (h 12)))]) H → va_D A ([((q 0), .inr (6, [.int (nI (n)), .ref (q 2), .ref (q 3), .ref (q 4), .ref (q 5), .ref (q 6), .ref (q 7), .ref (q 8), .ref (q 9), .ref (q 10), .ref (q 11), .ref (q 12), .ref (q 13), .ref (q 14)])), ((q 2), .inl (cI, 10, .inl (h 0))), ((q 3), .inl (cI, 2, .inl (h 1))), ((q 4), .inl (cI, 2, .inl (h 2))), ((q 5), .inl (cI, 2, .inl (h 3))), ((q 6), .inl (cI, 20, .inl (h 4))), ((q 7), .inl (cI, 20, .inl (h 5))), ((q 8), .inl (cI, 20, .inl (h 6))), ((q 9), .inl (cI, 8, .inl (h 7))), ((q 10), .inl (cI, 80, .inl (h 8))), ((q 11), .inl (cI, 8, .inl (h 9))), ((q 12), .inl (cI, 16, .inl (h 10))), ((q 13), .inl (cI, 16, .inl (h 11))), ((q 14), .inl (cI, 2048, .inl (h 12)))]) → va_S A s0.heap H locs → W p l e0 R s0 m args below meth c H locs cells slots Qq (F0 m 9 ls []) := by
  intro fuel
  induction fuel with
  | zero => intro s h ls H locs hfu; omega
  | succ fuel ih =>
    intro s h ls H locs hfu hs hk9 hrr hl hP hD hS
    have h2n : 2 ^ n ≤ 1024 := Nat.pow_le_pow_right (by omega) hn
    have h2p : 1 ≤ 2 ^ n := Nat.one_le_two_pow
    refine lv_iload_n hx hb nd_CM_work_9 rfl (lv_at hl 0 rfl) ?_
    refine wi_ic hx hb (a := 1) nd_CM_work_10 ?_
    refine lv_aload_n hx hb nd_CM_work_11 rfl (lv_at hl 1 rfl) ?_
    refine va_get (D := D) (C := nr_CM) (T := nt_CM) (N := 14) hx hb htg tf_CM hown hK hP 0 rfl rfl 0 (by decide) (htg _ tm_383) (fun _ h => h) rfl nd_CM_work_12 ?_
    refine wi_ishl1 hx hb (by omega) nd_CM_work_15 ?_
    refine wi_icmp_ge (tgt := 152) hx hb (by omega) (by omega) nd_CM_work_16 rfl (fun hc16 => ?_) (fun hc16 => ?_)
    · have hl : lv_has ls 6 [(0, .ref (q 0)), (1, .int (nI (w)))] := lv_sub hl [1, 2] rfl
      exact kx ls H locs h hk9 (fun w' s' h1 h2 h3 => hrr w' s' h1 h2 (by omega)) hl hP hD hS
    · refine wi_ic hx hb (a := 0) nd_CM_work_19 ?_
      refine lv_istore_n hx hb nd_CM_work_20 rfl hl (by decide) rfl (fun ls hl => ?_)
      have hl : lv_has ls 6 [(3, .int (nI (0))), (2, .int (nI (s))), (0, .ref (q 0)), (1, .int (nI (w)))] := hl
      refine wi_ic hx hb (a := 0) nd_CM_work_21 ?_
      refine lv_istore hx hb nd_CM_work_22 hl (by decide) rfl (fun ls hl => ?_)
      have hl : lv_has ls 6 [(4, .int (nI (0))), (3, .int (nI (0))), (2, .int (nI (s))), (0, .ref (q 0)), (1, .int (nI (w)))] := hl
      have hl : lv_has ls 6 [(4, .int (nI (0))), (3, .int (nI (0))), (0, .ref (q 0)), (1, .int (nI (w))), (2, .int (nI (s)))] := lv_sub hl [0, 1, 3, 4, 2] rfl
      refine lp_CM_work1 cI cG cM q n hn1 hn g y hI w hw s (by omega) h hrr hx hb hml htg hown hK hN hA hRf hRl hCS (fun ls H locs hl hP hD hS => ?_) (n + 1) 0 ls H locs (by omega) (by omega) hl hP hD hS
      have hbl := bt_le (ma_M (hI.2 w hw).1) (show s < 2 ^ n by omega) n (Nat.le_refl n)
      have htb := mt_tab (ma_M (hI.2 w hw).1) (show s < 2 ^ n by omega) (best := bt_ (ma_r n (cb_m y w)) s n) (fun e he hb => bt_max (ma_r n (cb_m y w)) s n e he hb) (bt_wit (ma_r n (cb_m y w)) s n)
      refine lv_aload_n hx hb nd_CM_work_108 rfl (lv_at hl 1 rfl) ?_
      refine va_get (D := D) (C := nr_CM) (T := nt_CM) (N := 14) hx hb htg tf_CM hown hK hP 0 rfl rfl 13 (by decide) (htg _ tm_396) (fun _ h => h) rfl nd_CM_work_109 ?_
      refine lv_sipush (v := nI 1024) hx hb nd_CM_work_112 (by decide) ?_
      refine lv_iload_n hx hb nd_CM_work_115 rfl (lv_at hl 2 rfl) ?_
      refine wi_imul hx hb nd_CM_work_116 ?_
      refine lv_iload_n hx hb nd_CM_work_117 rfl (lv_at hl 3 rfl) ?_
      refine wi_iadd hx hb nd_CM_work_118 ?_
      refine lv_iload_n hx hb nd_CM_work_119 rfl (lv_at hl 0 rfl) ?_
      refine lv_iload_n hx hb nd_CM_work_120 rfl (lv_at hl 3 rfl) ?_
      refine wc_S (n := 1) hx hb hml hown htg (c_CM_sizeOf l D cI cG cM s (by omega)) tm_489 tm_487 tm_488 tm_9 (by decide +kernel) ⟨⟨Nat.le_trans (by decide) hRf, Nat.le_trans (by decide) hRl⟩, rfl, rfl⟩ (wa_pre wa_nil hK hN) rfl hl.1 rfl (Nat.le_of_ble_eq_true rfl) nd_CM_work_121 hCS ?_
      have hcd121 := mt_cd_le 10 s
      refine wi_ic hx hb (a := 1) nd_CM_work_124 ?_
      refine lv_isub hx hb nd_CM_work_125 ?_
      refine lv_icmp_ne (tgt := 144) hx hb nd_CM_work_126 rfl (fun hc126 => ?_) (fun hc126 => ?_)
      · refine lv_iload_n hx hb nd_CM_work_144 rfl (lv_at hl 0 rfl) ?_
        refine wi_iast hx hb hK hP hD hS 13 0 rfl rfl (by omega) (by omega) nd_CM_work_145 (fun H locs hP hD hS => ?_)
        have hP : va_P D cl_all ([((q 0), .inr (6, [.int (nI (n)), .ref (q 2), .ref (q 3), .ref (q 4), .ref (q 5), .ref (q 6), .ref (q 7), .ref (q 8), .ref (q 9), .ref (q 10), .ref (q 11), .ref (q 12), .ref (q 13), .ref (q 14)])), ((q 2), .inl (cI, 10, .inl (h 0))), ((q 3), .inl (cI, 2, .inl (h 1))), ((q 4), .inl (cI, 2, .inl (h 2))), ((q 5), .inl (cI, 2, .inl (h 3))), ((q 6), .inl (cI, 20, .inl (h 4))), ((q 7), .inl (cI, 20, .inl (h 5))), ((q 8), .inl (cI, 20, .inl (h 6))), ((q 9), .inl (cI, 8, .inl (h 7))), ((q 10), .inl (cI, 80, .inl (h 8))), ((q 11), .inl (cI, 8, .inl (h 9))), ((q 12), .inl (cI, 16, .inl (h 10))), ((q 13), .inl (cI, 16, .inl (h 11))), ((q 14), .inl (cI, 2048, .inl (upd (h 12) ((1024 * w) + s) (nI (bt_ (ma_r n (cb_m y w)) s n)))))]) H := hP
        have hD : va_D A ([((q 0), .inr (6, [.int (nI (n)), .ref (q 2), .ref (q 3), .ref (q 4), .ref (q 5), .ref (q 6), .ref (q 7), .ref (q 8), .ref (q 9), .ref (q 10), .ref (q 11), .ref (q 12), .ref (q 13), .ref (q 14)])), ((q 2), .inl (cI, 10, .inl (h 0))), ((q 3), .inl (cI, 2, .inl (h 1))), ((q 4), .inl (cI, 2, .inl (h 2))), ((q 5), .inl (cI, 2, .inl (h 3))), ((q 6), .inl (cI, 20, .inl (h 4))), ((q 7), .inl (cI, 20, .inl (h 5))), ((q 8), .inl (cI, 20, .inl (h 6))), ((q 9), .inl (cI, 8, .inl (h 7))), ((q 10), .inl (cI, 80, .inl (h 8))), ((q 11), .inl (cI, 8, .inl (h 9))), ((q 12), .inl (cI, 16, .inl (h 10))), ((q 13), .inl (cI, 16, .inl (h 11))), ((q 14), .inl (cI, 2048, .inl (upd (h 12) ((1024 * w) + s) (nI (bt_ (ma_r n (cb_m y w)) s n)))))]) := hD
        refine lv_iinc (k := 3) (v := nI (s + 1)) hx hb nd_CM_work_146 hl rfl (wi_inc _ 1) (by decide) rfl (fun ls hl => ?_)
        have hl : lv_has ls 6 [(2, .int (nI (s + 1))), (3, .int (nI (bt_ (ma_r n (cb_m y w)) s n))), (0, .ref (q 0)), (1, .int (nI (w)))] := hl
        refine lv_goto (tgt := 9) hx hb nd_CM_work_149 rfl ?_
        have hl : lv_has ls 6 [(2, .int (nI (s + 1))), (0, .ref (q 0)), (1, .int (nI (w)))] := lv_sub hl [0, 2, 3] rfl
        have hrs : (ma_r n (cb_m y w)) s = bt_ (ma_r n (cb_m y w)) s n := htb.2 (fun z => hc126 ((nI_sub1 (by omega) (by omega)).mpr (by rw [bs_cd10 hn (by omega)]; exact z.1)))
        rw [← hrs] at hP hD
        exact ih (s + 1) (va_up h 12 (upd (h 12) (1024 * w + s) (nI ((ma_r n (cb_m y w)) s)))) ls H locs (by omega) (by omega) (fun j hj => (if_neg (by omega)).trans (hk9 j hj)) (fun w' s' h1 h2 h3 => show upd (h 12) (1024 * w + s) (nI ((ma_r n (cb_m y w)) s)) (1024 * w' + s') = _ from if q : w' = w ∧ s' = s then by rw [q.1, q.2, upd_at] else by rw [upd_ne (by omega)]; exact hrr w' s' h1 h2 (by omega)) hl hP hD hS
      · refine lv_aload_n hx hb nd_CM_work_129 rfl (lv_at hl 1 rfl) ?_
        refine lv_iload_n hx hb nd_CM_work_130 rfl (lv_at hl 2 rfl) ?_
        refine lv_iload_n hx hb nd_CM_work_131 rfl (lv_at hl 3 rfl) ?_
        refine wd_Vi0 (C := nr_CM) (n := 2) (Y := rf_ cI q n h) hx hb hml hown htg (c_CM_isFree l D cI cG cM q n hn1 hn h y (rf_keep hn hk9 hI) w s (by omega) (by omega) _) tm_486 tm_483 tm_485 tp_15 tm_9 (by decide +kernel) ⟨⟨Nat.le_trans (by decide) hRf, Nat.le_trans (by decide) hRl⟩, rfl, rfl⟩ hP hD hS hA hK hN (va_recv (q0 := 0) (ci := 6) hK hP rfl rfl) rfl hl.1 rfl (Nat.le_of_ble_eq_true rfl) nd_CM_work_132 hCS (fun v132 u132 H locs hp132 hP hD hS => ?_)
        have hP : va_P D cl_all ([((q 0), .inr (6, [.int (nI (n)), .ref (q 2), .ref (q 3), .ref (q 4), .ref (q 5), .ref (q 6), .ref (q 7), .ref (q 8), .ref (q 9), .ref (q 10), .ref (q 11), .ref (q 12), .ref (q 13), .ref (q 14)])), ((q 2), .inl (cI, 10, .inl (u132 0))), ((q 3), .inl (cI, 2, .inl (u132 1))), ((q 4), .inl (cI, 2, .inl (u132 2))), ((q 5), .inl (cI, 2, .inl (u132 3))), ((q 6), .inl (cI, 20, .inl (u132 4))), ((q 7), .inl (cI, 20, .inl (u132 5))), ((q 8), .inl (cI, 20, .inl (u132 6))), ((q 9), .inl (cI, 8, .inl (u132 7))), ((q 10), .inl (cI, 80, .inl (u132 8))), ((q 11), .inl (cI, 8, .inl (u132 9))), ((q 12), .inl (cI, 16, .inl (u132 10))), ((q 13), .inl (cI, 16, .inl (u132 11))), ((q 14), .inl (cI, 2048, .inl (u132 12)))]) H := hP
        have hD : va_D A ([((q 0), .inr (6, [.int (nI (n)), .ref (q 2), .ref (q 3), .ref (q 4), .ref (q 5), .ref (q 6), .ref (q 7), .ref (q 8), .ref (q 9), .ref (q 10), .ref (q 11), .ref (q 12), .ref (q 13), .ref (q 14)])), ((q 2), .inl (cI, 10, .inl (u132 0))), ((q 3), .inl (cI, 2, .inl (u132 1))), ((q 4), .inl (cI, 2, .inl (u132 2))), ((q 5), .inl (cI, 2, .inl (u132 3))), ((q 6), .inl (cI, 20, .inl (u132 4))), ((q 7), .inl (cI, 20, .inl (u132 5))), ((q 8), .inl (cI, 20, .inl (u132 6))), ((q 9), .inl (cI, 8, .inl (u132 7))), ((q 10), .inl (cI, 80, .inl (u132 8))), ((q 11), .inl (cI, 8, .inl (u132 9))), ((q 12), .inl (cI, 16, .inl (u132 10))), ((q 13), .inl (cI, 16, .inl (u132 11))), ((q 14), .inl (cI, 2048, .inl (u132 12)))]) := hD
        refine lv_if_eq (tgt := 144) hx hb nd_CM_work_135 rfl (fun hc135 => ?_) (fun hc135 => ?_)
        · refine lv_iload_n hx hb nd_CM_work_144 rfl (lv_at hl 0 rfl) ?_
          refine wi_iast hx hb hK hP hD hS 13 0 rfl rfl (by omega) (by omega) nd_CM_work_145 (fun H locs hP hD hS => ?_)
          have hP : va_P D cl_all ([((q 0), .inr (6, [.int (nI (n)), .ref (q 2), .ref (q 3), .ref (q 4), .ref (q 5), .ref (q 6), .ref (q 7), .ref (q 8), .ref (q 9), .ref (q 10), .ref (q 11), .ref (q 12), .ref (q 13), .ref (q 14)])), ((q 2), .inl (cI, 10, .inl (u132 0))), ((q 3), .inl (cI, 2, .inl (u132 1))), ((q 4), .inl (cI, 2, .inl (u132 2))), ((q 5), .inl (cI, 2, .inl (u132 3))), ((q 6), .inl (cI, 20, .inl (u132 4))), ((q 7), .inl (cI, 20, .inl (u132 5))), ((q 8), .inl (cI, 20, .inl (u132 6))), ((q 9), .inl (cI, 8, .inl (u132 7))), ((q 10), .inl (cI, 80, .inl (u132 8))), ((q 11), .inl (cI, 8, .inl (u132 9))), ((q 12), .inl (cI, 16, .inl (u132 10))), ((q 13), .inl (cI, 16, .inl (u132 11))), ((q 14), .inl (cI, 2048, .inl (upd (u132 12) ((1024 * w) + s) (nI (bt_ (ma_r n (cb_m y w)) s n)))))]) H := hP
          have hD : va_D A ([((q 0), .inr (6, [.int (nI (n)), .ref (q 2), .ref (q 3), .ref (q 4), .ref (q 5), .ref (q 6), .ref (q 7), .ref (q 8), .ref (q 9), .ref (q 10), .ref (q 11), .ref (q 12), .ref (q 13), .ref (q 14)])), ((q 2), .inl (cI, 10, .inl (u132 0))), ((q 3), .inl (cI, 2, .inl (u132 1))), ((q 4), .inl (cI, 2, .inl (u132 2))), ((q 5), .inl (cI, 2, .inl (u132 3))), ((q 6), .inl (cI, 20, .inl (u132 4))), ((q 7), .inl (cI, 20, .inl (u132 5))), ((q 8), .inl (cI, 20, .inl (u132 6))), ((q 9), .inl (cI, 8, .inl (u132 7))), ((q 10), .inl (cI, 80, .inl (u132 8))), ((q 11), .inl (cI, 8, .inl (u132 9))), ((q 12), .inl (cI, 16, .inl (u132 10))), ((q 13), .inl (cI, 16, .inl (u132 11))), ((q 14), .inl (cI, 2048, .inl (upd (u132 12) ((1024 * w) + s) (nI (bt_ (ma_r n (cb_m y w)) s n)))))]) := hD
          refine lv_iinc (k := 3) (v := nI (s + 1)) hx hb nd_CM_work_146 hl rfl (wi_inc _ 1) (by decide) rfl (fun ls hl => ?_)
          have hl : lv_has ls 6 [(2, .int (nI (s + 1))), (3, .int (nI (bt_ (ma_r n (cb_m y w)) s n))), (0, .ref (q 0)), (1, .int (nI (w)))] := hl
          refine lv_goto (tgt := 9) hx hb nd_CM_work_149 rfl ?_
          have hl : lv_has ls 6 [(2, .int (nI (s + 1))), (0, .ref (q 0)), (1, .int (nI (w)))] := lv_sub hl [0, 2, 3] rfl
          have hrs : (ma_r n (cb_m y w)) s = bt_ (ma_r n (cb_m y w)) s n := htb.2 (fun z => nI_ne0 (n := 1) (by omega) (by omega) ((hp132.1 z.2).symm.trans hc135))
          rw [← hrs] at hP hD
          exact ih (s + 1) (va_up u132 12 (upd (u132 12) (1024 * w + s) (nI ((ma_r n (cb_m y w)) s)))) ls H locs (by omega) (by omega) (fun j hj => (if_neg (by omega)).trans ((fun j hj => (hp132.2.2 j (Or.inl hj)).trans (hk9 j hj)) j hj)) (fun w' s' h1 h2 h3 => show upd (u132 12) (1024 * w + s) (nI ((ma_r n (cb_m y w)) s)) (1024 * w' + s') = _ from if q : w' = w ∧ s' = s then by rw [q.1, q.2, upd_at] else by rw [upd_ne (by omega)]; exact (fun w' s' h1 h2 h3 => (congrFun (hp132.2.2 12 (Or.inr rfl)) _).trans (hrr w' s' h1 h2 h3)) w' s' h1 h2 (by omega)) hl hP hD hS
        · refine lv_iload_n hx hb nd_CM_work_138 rfl (lv_at hl 0 rfl) ?_
          refine wi_ic hx hb (a := 1) nd_CM_work_139 ?_
          refine wi_iadd hx hb nd_CM_work_140 ?_
          refine lv_goto (tgt := 145) hx hb nd_CM_work_141 rfl ?_
          refine wi_iast hx hb hK hP hD hS 13 0 rfl rfl (by omega) (by omega) nd_CM_work_145 (fun H locs hP hD hS => ?_)
          have hP : va_P D cl_all ([((q 0), .inr (6, [.int (nI (n)), .ref (q 2), .ref (q 3), .ref (q 4), .ref (q 5), .ref (q 6), .ref (q 7), .ref (q 8), .ref (q 9), .ref (q 10), .ref (q 11), .ref (q 12), .ref (q 13), .ref (q 14)])), ((q 2), .inl (cI, 10, .inl (u132 0))), ((q 3), .inl (cI, 2, .inl (u132 1))), ((q 4), .inl (cI, 2, .inl (u132 2))), ((q 5), .inl (cI, 2, .inl (u132 3))), ((q 6), .inl (cI, 20, .inl (u132 4))), ((q 7), .inl (cI, 20, .inl (u132 5))), ((q 8), .inl (cI, 20, .inl (u132 6))), ((q 9), .inl (cI, 8, .inl (u132 7))), ((q 10), .inl (cI, 80, .inl (u132 8))), ((q 11), .inl (cI, 8, .inl (u132 9))), ((q 12), .inl (cI, 16, .inl (u132 10))), ((q 13), .inl (cI, 16, .inl (u132 11))), ((q 14), .inl (cI, 2048, .inl (upd (u132 12) ((1024 * w) + s) (nI ((bt_ (ma_r n (cb_m y w)) s n) + 1)))))]) H := hP
          have hD : va_D A ([((q 0), .inr (6, [.int (nI (n)), .ref (q 2), .ref (q 3), .ref (q 4), .ref (q 5), .ref (q 6), .ref (q 7), .ref (q 8), .ref (q 9), .ref (q 10), .ref (q 11), .ref (q 12), .ref (q 13), .ref (q 14)])), ((q 2), .inl (cI, 10, .inl (u132 0))), ((q 3), .inl (cI, 2, .inl (u132 1))), ((q 4), .inl (cI, 2, .inl (u132 2))), ((q 5), .inl (cI, 2, .inl (u132 3))), ((q 6), .inl (cI, 20, .inl (u132 4))), ((q 7), .inl (cI, 20, .inl (u132 5))), ((q 8), .inl (cI, 20, .inl (u132 6))), ((q 9), .inl (cI, 8, .inl (u132 7))), ((q 10), .inl (cI, 80, .inl (u132 8))), ((q 11), .inl (cI, 8, .inl (u132 9))), ((q 12), .inl (cI, 16, .inl (u132 10))), ((q 13), .inl (cI, 16, .inl (u132 11))), ((q 14), .inl (cI, 2048, .inl (upd (u132 12) ((1024 * w) + s) (nI ((bt_ (ma_r n (cb_m y w)) s n) + 1)))))]) := hD
          refine lv_iinc (k := 3) (v := nI (s + 1)) hx hb nd_CM_work_146 hl rfl (wi_inc _ 1) (by decide) rfl (fun ls hl => ?_)
          have hl : lv_has ls 6 [(2, .int (nI (s + 1))), (3, .int (nI (bt_ (ma_r n (cb_m y w)) s n))), (0, .ref (q 0)), (1, .int (nI (w)))] := hl
          refine lv_goto (tgt := 9) hx hb nd_CM_work_149 rfl ?_
          have hl : lv_has ls 6 [(2, .int (nI (s + 1))), (0, .ref (q 0)), (1, .int (nI (w)))] := lv_sub hl [0, 2, 3] rfl
          have hrs : (ma_r n (cb_m y w)) s = bt_ (ma_r n (cb_m y w)) s n + 1 := htb.1 ⟨by have := (nI_sub1 (by omega) (by omega)).mp hc126; rw [bs_cd10 hn (by omega)] at this; exact this, Classical.byContradiction fun q => hc135 ((hp132.2.1 q).trans nI_0)⟩
          rw [← hrs] at hP hD
          exact ih (s + 1) (va_up u132 12 (upd (u132 12) (1024 * w + s) (nI ((ma_r n (cb_m y w)) s)))) ls H locs (by omega) (by omega) (fun j hj => (if_neg (by omega)).trans ((fun j hj => (hp132.2.2 j (Or.inl hj)).trans (hk9 j hj)) j hj)) (fun w' s' h1 h2 h3 => show upd (u132 12) (1024 * w + s) (nI ((ma_r n (cb_m y w)) s)) (1024 * w' + s') = _ from if q : w' = w ∧ s' = s then by rw [q.1, q.2, upd_at] else by rw [upd_ne (by omega)]; exact (fun w' s' h1 h2 h3 => (congrFun (hp132.2.2 12 (Or.inr rfl)) _).trans (hrr w' s' h1 h2 h3)) w' s' h1 h2 (by omega)) hl hP hD hS
set_option maxRecDepth 20000 in
theorem lp_CM_work3 {p : Program} {l : Launch} {e0 : Env} {R : Room} {s0 : State} {m : MethodId} {args : Array Value} {below : List Frame} {meth : Method} {c : Code} {cells slots : Nat} {Qq : State → Prop} {D : va_G} {A : Nat → Prop} (cI cG cM : ClassId) (q : Nat → Nat) (n : Nat) (hn1 : 1 ≤ n) (hn : n ≤ 10) (g : rf_S) (y : cb_Y) (hI : rf_I n y g)  (hx : p.tables.exec = Jvm.exec) (hb : c.code = nc_CM_work) (hml : c.maxLocals = 6) (htg : ∀ w ∈ tg_, w.before args s0 = true) (hown : s0.vm.findClass ny_CM_work.cls = some m.cls) (hK : va_K D cl_all (ty_all cI cG cM) s0) (hN : tn_K s0) (hA : ∀ q : Nat, s0.heap.size ≤ q → A q) (hRf : 3 ≤ R.frames) (hRl : 73 ≤ R.locals) (hCS : cells ≤ R.cells ∧ slots ≤ R.slots) (kx : ∀ (ls : Array Slot) (H : Heap) (locs : List Loc) (h : rf_S), (∀ j, j < 9 → h j = g j) → (∀ w' s', w' < 2 → s' < 2 ^ n → (w' < 2 ∨ (w' = 2 ∧ s' < 0)) → h 12 (1024 * w' + s') = nI (ma_r n (cb_m y w') s')) → lv_has ls 6 [] → va_P D cl_all ([((q 0), .inr (6, [.int (nI (n)), .ref (q 2), .ref (q 3), .ref (q 4), .ref (q 5), .ref (q 6), .ref (q 7), .ref (q 8), .ref (q 9), .ref (q 10), .ref (q 11), .ref (q 12), .ref (q 13), .ref (q 14)])), ((q 2), .inl (cI, 10, .inl (h 0))), ((q 3), .inl (cI, 2, .inl (h 1))), ((q 4), .inl (cI, 2, .inl (h 2))), ((q 5), .inl (cI, 2, .inl (h 3))), ((q 6), .inl (cI, 20, .inl (h 4))), ((q 7), .inl (cI, 20, .inl (h 5))), ((q 8), .inl (cI, 20, .inl (h 6))), ((q 9), .inl (cI, 8, .inl (h 7))), ((q 10), .inl (cI, 80, .inl (h 8))), ((q 11), .inl (cI, 8, .inl (h 9))), ((q 12), .inl (cI, 16, .inl (h 10))), ((q 13), .inl (cI, 16, .inl (h 11))), ((q 14), .inl (cI, 2048, .inl (h 12)))]) H → va_D A ([((q 0), .inr (6, [.int (nI (n)), .ref (q 2), .ref (q 3), .ref (q 4), .ref (q 5), .ref (q 6), .ref (q 7), .ref (q 8), .ref (q 9), .ref (q 10), .ref (q 11), .ref (q 12), .ref (q 13), .ref (q 14)])), ((q 2), .inl (cI, 10, .inl (h 0))), ((q 3), .inl (cI, 2, .inl (h 1))), ((q 4), .inl (cI, 2, .inl (h 2))), ((q 5), .inl (cI, 2, .inl (h 3))), ((q 6), .inl (cI, 20, .inl (h 4))), ((q 7), .inl (cI, 20, .inl (h 5))), ((q 8), .inl (cI, 20, .inl (h 6))), ((q 9), .inl (cI, 8, .inl (h 7))), ((q 10), .inl (cI, 80, .inl (h 8))), ((q 11), .inl (cI, 8, .inl (h 9))), ((q 12), .inl (cI, 16, .inl (h 10))), ((q 13), .inl (cI, 16, .inl (h 11))), ((q 14), .inl (cI, 2048, .inl (h 12)))]) → va_S A s0.heap H locs → W p l e0 R s0 m args below meth c H locs cells slots Qq (F0 m 158 ls [])) : ∀ (fuel : Nat) (w : Nat) (h : rf_S) (ls : Array Slot) (H : Heap) (locs : List Loc), 2 - w < fuel → (w ≤ 2) → (∀ j, j < 9 → h j = g j) → (∀ w' s', w' < 2 → s' < 2 ^ n → (w' < w ∨ (w' = w ∧ s' < 0)) → h 12 (1024 * w' + s') = nI (ma_r n (cb_m y w') s')) → lv_has ls 6 [(1, .int (nI (w))), (0, .ref (q 0))] → va_P D cl_all ([((q 0), .inr (6, [.int (nI (n)), .ref (q 2), .ref (q 3), .ref (q 4), .ref (q 5), .ref (q 6), .ref (q 7), .ref (q 8), .ref (q 9), .ref (q 10), .ref (q 11), .ref (q 12), .ref (q 13), .ref (q 14)])), ((q 2), .inl (cI, 10, .inl (h 0))), ((q 3), .inl (cI, 2, .inl (h 1))), ((q 4), .inl (cI, 2, .inl (h 2))), ((q 5), .inl (cI, 2, .inl (h 3))), ((q 6), .inl (cI, 20, .inl (h 4))), ((q 7), .inl (cI, 20, .inl (h 5))), ((q 8), .inl (cI, 20, .inl (h 6))), ((q 9), .inl (cI, 8, .inl (h 7))), ((q 10), .inl (cI, 80, .inl (h 8))), ((q 11), .inl (cI, 8, .inl (h 9))), ((q 12), .inl (cI, 16, .inl (h 10))), ((q 13), .inl (cI, 16, .inl (h 11))), ((q 14), .inl (cI, 2048, .inl (h 12)))]) H → va_D A ([((q 0), .inr (6, [.int (nI (n)), .ref (q 2), .ref (q 3), .ref (q 4), .ref (q 5), .ref (q 6), .ref (q 7), .ref (q 8), .ref (q 9), .ref (q 10), .ref (q 11), .ref (q 12), .ref (q 13), .ref (q 14)])), ((q 2), .inl (cI, 10, .inl (h 0))), ((q 3), .inl (cI, 2, .inl (h 1))), ((q 4), .inl (cI, 2, .inl (h 2))), ((q 5), .inl (cI, 2, .inl (h 3))), ((q 6), .inl (cI, 20, .inl (h 4))), ((q 7), .inl (cI, 20, .inl (h 5))), ((q 8), .inl (cI, 20, .inl (h 6))), ((q 9), .inl (cI, 8, .inl (h 7))), ((q 10), .inl (cI, 80, .inl (h 8))), ((q 11), .inl (cI, 8, .inl (h 9))), ((q 12), .inl (cI, 16, .inl (h 10))), ((q 13), .inl (cI, 16, .inl (h 11))), ((q 14), .inl (cI, 2048, .inl (h 12)))]) → va_S A s0.heap H locs → W p l e0 R s0 m args below meth c H locs cells slots Qq (F0 m 2 ls []) := by
  intro fuel
  induction fuel with
  | zero => intro w h ls H locs hfu; omega
  | succ fuel ih =>
    intro w h ls H locs hfu hw hk9 hrr hl hP hD hS
    have h2n : 2 ^ n ≤ 1024 := Nat.pow_le_pow_right (by omega) hn
    have h2p : 1 ≤ 2 ^ n := Nat.one_le_two_pow
    refine lv_iload_n hx hb nd_CM_work_2 rfl (lv_at hl 0 rfl) ?_
    refine wi_ic hx hb (a := 2) nd_CM_work_3 ?_
    refine wi_icmp_ge (tgt := 158) hx hb (by omega) (by omega) nd_CM_work_4 rfl (fun hc4 => ?_) (fun hc4 => ?_)
    · exact kx ls H locs h hk9 (fun w' s' h1 h2 h3 => hrr w' s' h1 h2 (by omega)) (lv_sub hl [] rfl) hP hD hS
    · refine wi_ic hx hb (a := 0) nd_CM_work_7 ?_
      refine lv_istore_n hx hb nd_CM_work_8 rfl hl (by decide) rfl (fun ls hl => ?_)
      have hl : lv_has ls 6 [(2, .int (nI (0))), (1, .int (nI (w))), (0, .ref (q 0))] := hl
      have hl : lv_has ls 6 [(2, .int (nI (0))), (0, .ref (q 0)), (1, .int (nI (w)))] := lv_sub hl [0, 2, 1] rfl
      refine lp_CM_work2 cI cG cM q n hn1 hn g y hI w (by omega) hx hb hml htg hown hK hN hA hRf hRl hCS (fun ls H locs h hk9 hrr hl hP hD hS => ?_) (2 ^ n + 1) 0 h ls H locs (by omega) (by omega) hk9 (fun w' s' h1 h2 h3 => hrr w' s' h1 h2 (by omega)) hl hP hD hS
      refine lv_iinc (k := 1) (v := nI (w + 1)) hx hb nd_CM_work_152 hl rfl (wi_inc _ 1) (by decide) rfl (fun ls hl => ?_)
      have hl : lv_has ls 6 [(1, .int (nI (w + 1))), (0, .ref (q 0))] := hl
      refine lv_goto (tgt := 2) hx hb nd_CM_work_155 rfl ?_
      have hl : lv_has ls 6 [(1, .int (nI (w + 1))), (0, .ref (q 0))] := lv_sub hl [0, 1] rfl
      exact ih (w + 1) h ls H locs (by omega) (by omega) hk9 (fun w' s' h1 h2 h3 => hrr w' s' h1 h2 (by omega)) hl hP hD hS
set_option maxRecDepth 20000 in
theorem c_CM_work (l : Launch) (D : va_G) (cI cG cM : ClassId)  (q : Nat → Nat) (n : Nat) (hn1 : 1 ≤ n) (hn : n ≤ 10) (g : rf_S) (y : cb_Y) (hI : rf_I n y g)  (sz : Nat) : wb_Mv l ny_CM_work nc_CM_work 6 ({ frames := 3, cells := 0, slots := 0, locals := 73 }) D (ty_all cI cG cM) (rf_ cI q n g) sz [.ref (q 0)] (fun u : rf_S => (∀ j, j < 9 → u j = g j) ∧ rt_ n y u) (fun u : rf_S => rf_ cI q n u) := by
  refine wb_start (S := rf_S) (by decide) (Nat.le_of_ble_eq_true rfl) ?_
  intro p e0 s0 m below meth c ls A hx hb hr hml htg hown hk hP hK hN hl hAe hsz hD hA
  have hl : lv_has ls 6 [(0, .ref (q 0))] := hl
  have hP : va_P D cl_all ([((q 0), .inr (6, [.int (nI (n)), .ref (q 2), .ref (q 3), .ref (q 4), .ref (q 5), .ref (q 6), .ref (q 7), .ref (q 8), .ref (q 9), .ref (q 10), .ref (q 11), .ref (q 12), .ref (q 13), .ref (q 14)])), ((q 2), .inl (cI, 10, .inl (g 0))), ((q 3), .inl (cI, 2, .inl (g 1))), ((q 4), .inl (cI, 2, .inl (g 2))), ((q 5), .inl (cI, 2, .inl (g 3))), ((q 6), .inl (cI, 20, .inl (g 4))), ((q 7), .inl (cI, 20, .inl (g 5))), ((q 8), .inl (cI, 20, .inl (g 6))), ((q 9), .inl (cI, 8, .inl (g 7))), ((q 10), .inl (cI, 80, .inl (g 8))), ((q 11), .inl (cI, 8, .inl (g 9))), ((q 12), .inl (cI, 16, .inl (g 10))), ((q 13), .inl (cI, 16, .inl (g 11))), ((q 14), .inl (cI, 2048, .inl (g 12)))]) s0.heap := hP
  have hD : va_D A ([((q 0), .inr (6, [.int (nI (n)), .ref (q 2), .ref (q 3), .ref (q 4), .ref (q 5), .ref (q 6), .ref (q 7), .ref (q 8), .ref (q 9), .ref (q 10), .ref (q 11), .ref (q 12), .ref (q 13), .ref (q 14)])), ((q 2), .inl (cI, 10, .inl (g 0))), ((q 3), .inl (cI, 2, .inl (g 1))), ((q 4), .inl (cI, 2, .inl (g 2))), ((q 5), .inl (cI, 2, .inl (g 3))), ((q 6), .inl (cI, 20, .inl (g 4))), ((q 7), .inl (cI, 20, .inl (g 5))), ((q 8), .inl (cI, 20, .inl (g 6))), ((q 9), .inl (cI, 8, .inl (g 7))), ((q 10), .inl (cI, 80, .inl (g 8))), ((q 11), .inl (cI, 8, .inl (g 9))), ((q 12), .inl (cI, 16, .inl (g 10))), ((q 13), .inl (cI, 16, .inl (g 11))), ((q 14), .inl (cI, 2048, .inl (g 12)))]) := hD
  have hS : va_S A s0.heap s0.heap [] := va_S.rf
  have hRf : 3 ≤ ({ frames := 3, cells := 0, slots := 0, locals := 73 } : Room).frames := Nat.le_refl _
  have hRl : 73 ≤ ({ frames := 3, cells := 0, slots := 0, locals := 73 } : Room).locals := Nat.le_refl _
  have hCS : 0 ≤ ({ frames := 3, cells := 0, slots := 0, locals := 73 } : Room).cells ∧ 0 ≤ ({ frames := 3, cells := 0, slots := 0, locals := 73 } : Room).slots := ⟨Nat.zero_le _, Nat.zero_le _⟩
  have h2n : 2 ^ n ≤ 1024 := Nat.pow_le_pow_right (by omega) hn
  have h2p : 1 ≤ 2 ^ n := Nat.one_le_two_pow
  refine wi_ic hx hb (a := 0) nd_CM_work_0 ?_
  refine lv_istore_n hx hb nd_CM_work_1 rfl hl (by decide) rfl (fun ls hl => ?_)
  have hl : lv_has ls 6 [(1, .int (nI (0))), (0, .ref (q 0))] := hl
  have hl : lv_has ls 6 [(1, .int (nI (0))), (0, .ref (q 0))] := lv_sub hl [0, 1] rfl
  refine lp_CM_work3 cI cG cM q n hn1 hn g y hI hx hb hml htg hown hK hN hA hRf hRl hCS (fun ls H locs h hk9 hrr hl hP hD hS => ?_) 3 0 g ls s0.heap [] (by omega) (by omega) (fun j hj => rfl) (fun w' s' h1 h2 h3 => by omega) hl hP hD hS
  exact wb_vret h hx hb hr hk hAe (⟨hk9, fun w s hw hs => hrr w s hw hs (Or.inl hw)⟩) hP hD hS nd_CM_work_158
