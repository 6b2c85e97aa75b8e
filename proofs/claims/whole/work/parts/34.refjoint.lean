/-! The reference: least, isJoint, joint. -/
theorem fi_min (h : Nat → Nat) : ∀ k, (∀ s, s ≤ k → h (fi_ h k) ≤ h s) ∧ ∀ s, s < fi_ h k → h (fi_ h k) < h s := by
  intro k
  induction k with
  | zero => exact ⟨fun s hs => by rw [show s = 0 by omega]; exact Nat.le_refl _, fun s hs => by have : fi_ h 0 = 0 := rfl; omega⟩
  | succ k ih =>
    have hle := fi_le h k
    simp only [fi_]
    by_cases q : h (k + 1) < h (fi_ h k)
    · rw [if_pos q]
      refine ⟨fun s hs => ?_, fun s hs => ?_⟩
      · by_cases q2 : s = k + 1
        · rw [q2]; exact Nat.le_refl _
        · have := ih.1 s (by omega); omega
      · have := ih.1 s (by omega); omega
    · rw [if_neg q]
      refine ⟨fun s hs => ?_, ih.2⟩
      by_cases q2 : s = k + 1
      · rw [q2]; omega
      · exact ih.1 s (by omega)
def lm_ (h : Nat → Nat) (all : Nat) : Nat → Nat × Nat
  | 0 => (100, all)
  | i + 1 => (if h i < (lm_ h all i).1 then h i else (lm_ h all i).1, if h i < (lm_ h all i).1 then i else if h i = (lm_ h all i).1 then (lm_ h all i).2 &&& i else (lm_ h all i).2)
theorem lm_b (h : Nat → Nat) (n : Nat) : ∀ i, i ≤ 2 ^ n → (lm_ h (2 ^ n - 1) i).1 ≤ 100 ∧ (lm_ h (2 ^ n - 1) i).2 < 2 ^ n := by
  intro i
  induction i with
  | zero => intro _; have := Nat.two_pow_pos n; exact ⟨Nat.le_refl _, by show 2 ^ n - 1 < 2 ^ n; omega⟩
  | succ i ih =>
    intro hi
    have := ih (by omega)
    simp only [lm_]
    refine ⟨?_, ?_⟩
    · split <;> omega
    · split
      · omega
      · split
        · exact Nat.lt_of_le_of_lt Nat.and_le_left this.2
        · exact this.2
theorem lm_e {n : Nat} {h : Nat → Nat} (hs : ∀ a b, a < 2 ^ n → b < 2 ^ n → h (a ||| b) + h (a &&& b) ≤ h a + h b) (hb : ∀ s, s < 2 ^ n → h s ≤ 30) : (lm_ h (2 ^ n - 1) (2 ^ n)).2 = fi_ h (2 ^ n - 1) := by
  have h2 := Nat.two_pow_pos n
  have hx := fi_le h (2 ^ n - 1)
  have hm := fi_min h (2 ^ n - 1)
  generalize fi_ h (2 ^ n - 1) = x at hx hm ⊢
  have key : ∀ i, i ≤ 2 ^ n → (i ≤ x → h x < (lm_ h (2 ^ n - 1) i).1) ∧ (x < i → (lm_ h (2 ^ n - 1) i).1 = h x ∧ (lm_ h (2 ^ n - 1) i).2 = x) := by
    intro i
    induction i with
    | zero => intro _; exact ⟨fun _ => by have := hb x (by omega); show h x < 100; omega, fun z => by omega⟩
    | succ i ih =>
      intro hi
      have ih := ih (by omega)
      simp only [lm_]
      refine ⟨fun hix => ?_, fun hix => ?_⟩
      · have a := ih.1 (by omega)
        have b := hm.2 i (by omega)
        split <;> omega
      · by_cases q : i = x
        · subst q
          have a := ih.1 (Nat.le_refl _)
          rw [if_pos a, if_pos a]
          exact ⟨rfl, rfl⟩
        · obtain ⟨a, b⟩ := ih.2 (by omega)
          have c := hm.1 i (by omega)
          rw [a, b, if_neg (by omega), if_neg (by omega)]
          refine ⟨rfl, ?_⟩
          by_cases q2 : h i = h x
          · rw [if_pos q2]
            exact mt_least hs (by omega) (fun s hs => hm.1 s (by omega)) (fun s hs => hm.2 s hs) (by omega) q2
          · rw [if_neg q2]
  exact ((key (2 ^ n) (Nat.le_refl _)).2 (by omega)).2
def jt_ (n : Nat) (y : cb_Y) (s : Nat) : Prop := ∃ t, mt_sb t s ∧ ma_r n (cb_m y 0) t = mt_cd n t ∧ ma_r n (cb_m y 1) (s - t) = mt_cd n (s - t)
noncomputable def jm_ (n : Nat) (y : cb_Y) : Nat → Nat
  | 0 => 0
  | i + 1 => @ite Nat (jm_ n y i < mt_cd 10 i ∧ jt_ n y i) (Classical.propDecidable _) (mt_cd 10 i) (jm_ n y i)
theorem jm_t {n : Nat} {y : cb_Y} {i : Nat} (h : jm_ n y i < mt_cd 10 i ∧ jt_ n y i) : jm_ n y (i + 1) = mt_cd 10 i := by simp only [jm_]; rw [if_pos h]
theorem jm_f {n : Nat} {y : cb_Y} {i : Nat} (h : ¬ (jm_ n y i < mt_cd 10 i ∧ jt_ n y i)) : jm_ n y (i + 1) = jm_ n y i := by simp only [jm_]; rw [if_neg h]
theorem jm_le (n : Nat) (y : cb_Y) (i : Nat) : jm_ n y i ≤ 10 := by
  induction i with
  | zero => simp [jm_]
  | succ i ih =>
    by_cases q : jm_ n y i < mt_cd 10 i ∧ jt_ n y i
    · rw [jm_t q]; exact mt_cd_le 10 i
    · rw [jm_f q]; exact ih
theorem jm_max (n : Nat) (y : cb_Y) : ∀ k s, s < k → jt_ n y s → mt_cd 10 s ≤ jm_ n y k := by
  intro k
  induction k with
  | zero => intro s hs; omega
  | succ k ih =>
    intro s hs hj
    by_cases q : jm_ n y k < mt_cd 10 k ∧ jt_ n y k
    · rw [jm_t q]
      by_cases q2 : s = k
      · rw [q2]; exact Nat.le_refl _
      · have := ih s (by omega) hj; omega
    · rw [jm_f q]
      by_cases q2 : s = k
      · subst q2; exact Nat.le_of_not_lt fun z => q ⟨z, hj⟩
      · exact ih s (by omega) hj
theorem jm_wit (n : Nat) (y : cb_Y) : ∀ k, jm_ n y k = 0 ∨ ∃ s, s < k ∧ jt_ n y s ∧ mt_cd 10 s = jm_ n y k := by
  intro k
  induction k with
  | zero => exact Or.inl rfl
  | succ k ih =>
    by_cases q : jm_ n y k < mt_cd 10 k ∧ jt_ n y k
    · rw [jm_t q]; exact Or.inr ⟨k, by omega, q.2, rfl⟩
    · rw [jm_f q]
      rcases ih with h | ⟨s, h1, h2, h3⟩
      · exact Or.inl h
      · exact Or.inr ⟨s, by omega, h2, h3⟩
theorem mt_sb_le {t s : Nat} (h : mt_sb t s) : t ≤ s := by
  have : t &&& s = t := by
    apply Nat.eq_of_testBit_eq
    intro i
    rw [Nat.testBit_and]
    cases hb : t.testBit i with
    | false => rfl
    | true => rw [h i hb]; rfl
  rw [← this]; exact Nat.and_le_right
theorem mt_sb_sub {t s : Nat} (h : mt_sb t s) : t ||| (s - t) = s ∧ t &&& (s - t) = 0 := by
  have hx : s - t = s ^^^ t := by
    have hd : t &&& (s ^^^ t) = 0 := by
      apply Nat.eq_of_testBit_eq
      intro i
      rw [Nat.testBit_and, Nat.testBit_xor]
      cases hb : t.testBit i with
      | false => simp
      | true => rw [h i hb]; simp
    have ho : t ||| (s ^^^ t) = s := by
      apply Nat.eq_of_testBit_eq
      intro i
      rw [Nat.testBit_or, Nat.testBit_xor]
      cases hb : t.testBit i with
      | false => simp
      | true => rw [h i hb]; simp
    have := bs_disj hd
    rw [ho] at this
    omega
  rw [hx]
  constructor
  · apply Nat.eq_of_testBit_eq
    intro i
    rw [Nat.testBit_or, Nat.testBit_xor]
    cases hb : t.testBit i with
    | false => simp
    | true => rw [h i hb]; simp
  · apply Nat.eq_of_testBit_eq
    intro i
    rw [Nat.testBit_and, Nat.testBit_xor]
    cases hb : t.testBit i with
    | false => simp
    | true => rw [h i hb]; simp
theorem jm_e {n : Nat} (hn : n ≤ 10) {y : cb_Y} (hv : ∀ w, w < 2 → ma_v n (cb_m y w)) : jm_ n y (2 ^ n) = h2_ n y (fi_ (h2_ n y) (2 ^ n - 1)) := by
  have h2 := Nat.two_pow_pos n
  have hx := fi_le (h2_ n y) (2 ^ n - 1)
  have hm := fi_min (h2_ n y) (2 ^ n - 1)
  generalize fi_ (h2_ n y) (2 ^ n - 1) = x at hx hm ⊢
  have M0 : mt_M n (ma_r n y.2.1) := ma_M (hv 0 (by omega))
  have M1 : mt_M n (ma_r n y.2.2) := ma_M (hv 1 (by omega))
  have up : ∀ s, s < 2 ^ n → jt_ n y s → mt_cd 10 s ≤ h2_ n y x := fun s hs ⟨t, t1, t2, t3⟩ => by
    have hle := mt_sb_le t1
    have hsp := mt_sb_sub t1
    have := mt_union_le M0 M1 (i := t) (b := s - t) (a := x) (by omega) (by omega) (by omega) t2 t3
    rw [hsp.1] at this
    rw [bs_cd10 hn hs]
    exact this
  have hge : ma_r n y.2.2 (2 ^ n - 1) ≤ h2_ n y x := by
    have a := mt_du_ge M1 (s := mt_co n x) (mt_colt (by omega))
    rw [mt_co2] at a
    have b := mt_cd_co n x n (Nat.le_refl n)
    unfold h2_
    omega
  obtain ⟨i, b, i1, b1, ib, fi, gb, cd⟩ := mt_union M0 M1 hge (fun a ha => hm.1 a (by omega))
  have hor := bs_disj ib
  have hlt : i ||| b < 2 ^ n := Nat.or_lt_two_pow i1 b1
  have hj : jt_ n y (i ||| b) := ⟨i, mt_sb_orl i b, fi, by rw [hor, show i + b - i = b by omega]; exact gb⟩
  have lo := jm_max n y (2 ^ n) (i ||| b) hlt hj
  rw [bs_cd10 hn hlt, cd] at lo
  rcases jm_wit n y (2 ^ n) with h | ⟨s, s1, s2, s3⟩
  · omega
  · have := up s s1 s2; omega
theorem cb_01 (y : cb_Y) : cb_m y 0 = y.2.1 ∧ cb_m y 1 = y.2.2 := ⟨rfl, rfl⟩
theorem nd_CM_least_0 : decode nc_CM_least 0 = .ok (.aload_n 0, 1) := by decide +kernel
theorem nd_CM_least_1 : decode nc_CM_least 1 = .ok (.invokevirtual 89, 3) := by decide +kernel
theorem nd_CM_least_4 : decode nc_CM_least 4 = .ok (.iconst 1, 1) := by decide +kernel
theorem nd_CM_least_5 : decode nc_CM_least 5 = .ok (.aload_n 0, 1) := by decide +kernel
theorem nd_CM_least_6 : decode nc_CM_least 6 = .ok (.getfield 49, 3) := by decide +kernel
theorem nd_CM_least_9 : decode nc_CM_least 9 = .ok (.ishl, 1) := by decide +kernel
theorem nd_CM_least_10 : decode nc_CM_least 10 = .ok (.iconst 1, 1) := by decide +kernel
theorem nd_CM_least_11 : decode nc_CM_least 11 = .ok (.isub, 1) := by decide +kernel
theorem nd_CM_least_12 : decode nc_CM_least 12 = .ok (.istore_n 2, 1) := by decide +kernel
theorem nd_CM_least_13 : decode nc_CM_least 13 = .ok (.bipush 100, 2) := by decide +kernel
theorem nd_CM_least_15 : decode nc_CM_least 15 = .ok (.istore_n 3, 1) := by decide +kernel
theorem nd_CM_least_16 : decode nc_CM_least 16 = .ok (.iload_n 2, 1) := by decide +kernel
theorem nd_CM_least_17 : decode nc_CM_least 17 = .ok (.istore 4, 2) := by decide +kernel
theorem nd_CM_least_19 : decode nc_CM_least 19 = .ok (.iconst 0, 1) := by decide +kernel
theorem nd_CM_least_20 : decode nc_CM_least 20 = .ok (.istore 5, 2) := by decide +kernel
theorem nd_CM_least_22 : decode nc_CM_least 22 = .ok (.iload 5, 2) := by decide +kernel
theorem nd_CM_least_24 : decode nc_CM_least 24 = .ok (.iload_n 2, 1) := by decide +kernel
theorem nd_CM_least_25 : decode nc_CM_least 25 = .ok (.if_icmp .gt 111, 3) := by decide +kernel
theorem nd_CM_least_28 : decode nc_CM_least 28 = .ok (.iload_n 1, 1) := by decide +kernel
theorem nd_CM_least_29 : decode nc_CM_least 29 = .ok (.ifCond .eq 36, 3) := by decide +kernel
theorem nd_CM_least_32 : decode nc_CM_least 32 = .ok (.aload_n 0, 1) := by decide +kernel
theorem nd_CM_least_33 : decode nc_CM_least 33 = .ok (.getfield 46, 3) := by decide +kernel
theorem nd_CM_least_36 : decode nc_CM_least 36 = .ok (.iload 5, 2) := by decide +kernel
theorem nd_CM_least_38 : decode nc_CM_least 38 = .ok (.iaload, 1) := by decide +kernel
theorem nd_CM_least_39 : decode nc_CM_least 39 = .ok (.aload_n 0, 1) := by decide +kernel
theorem nd_CM_least_40 : decode nc_CM_least 40 = .ok (.getfield 46, 3) := by decide +kernel
theorem nd_CM_least_43 : decode nc_CM_least 43 = .ok (.sipush 1024, 3) := by decide +kernel
theorem nd_CM_least_46 : decode nc_CM_least 46 = .ok (.iload 5, 2) := by decide +kernel
theorem nd_CM_least_48 : decode nc_CM_least 48 = .ok (.iadd, 1) := by decide +kernel
theorem nd_CM_least_49 : decode nc_CM_least 49 = .ok (.iaload, 1) := by decide +kernel
theorem nd_CM_least_50 : decode nc_CM_least 50 = .ok (.iadd, 1) := by decide +kernel
theorem nd_CM_least_51 : decode nc_CM_least 51 = .ok (.aload_n 0, 1) := by decide +kernel
theorem nd_CM_least_52 : decode nc_CM_least 52 = .ok (.getfield 49, 3) := by decide +kernel
theorem nd_CM_least_55 : decode nc_CM_least 55 = .ok (.iadd, 1) := by decide +kernel
theorem nd_CM_least_56 : decode nc_CM_least 56 = .ok (.iload 5, 2) := by decide +kernel
theorem nd_CM_least_58 : decode nc_CM_least 58 = .ok (.invokestatic 69, 3) := by decide +kernel
theorem nd_CM_least_61 : decode nc_CM_least 61 = .ok (.isub, 1) := by decide +kernel
theorem nd_CM_least_62 : decode nc_CM_least 62 = .ok (.goto 24, 3) := by decide +kernel
theorem nd_CM_least_65 : decode nc_CM_least 65 = .ok (.aload_n 0, 1) := by decide +kernel
theorem nd_CM_least_66 : decode nc_CM_least 66 = .ok (.getfield 46, 3) := by decide +kernel
theorem nd_CM_least_69 : decode nc_CM_least 69 = .ok (.iload 5, 2) := by decide +kernel
theorem nd_CM_least_71 : decode nc_CM_least 71 = .ok (.iaload, 1) := by decide +kernel
theorem nd_CM_least_72 : decode nc_CM_least 72 = .ok (.aload_n 0, 1) := by decide +kernel
theorem nd_CM_least_73 : decode nc_CM_least 73 = .ok (.getfield 46, 3) := by decide +kernel
theorem nd_CM_least_76 : decode nc_CM_least 76 = .ok (.sipush 1024, 3) := by decide +kernel
theorem nd_CM_least_79 : decode nc_CM_least 79 = .ok (.iload_n 2, 1) := by decide +kernel
theorem nd_CM_least_80 : decode nc_CM_least 80 = .ok (.iadd, 1) := by decide +kernel
theorem nd_CM_least_81 : decode nc_CM_least 81 = .ok (.iload 5, 2) := by decide +kernel
theorem nd_CM_least_83 : decode nc_CM_least 83 = .ok (.isub, 1) := by decide +kernel
theorem nd_CM_least_84 : decode nc_CM_least 84 = .ok (.iaload, 1) := by decide +kernel
theorem nd_CM_least_85 : decode nc_CM_least 85 = .ok (.iadd, 1) := by decide +kernel
theorem nd_CM_least_86 : decode nc_CM_least 86 = .ok (.istore 6, 2) := by decide +kernel
theorem nd_CM_least_88 : decode nc_CM_least 88 = .ok (.iload 6, 2) := by decide +kernel
theorem nd_CM_least_90 : decode nc_CM_least 90 = .ok (.iload_n 3, 1) := by decide +kernel
theorem nd_CM_least_91 : decode nc_CM_least 91 = .ok (.if_icmp .ge 8, 3) := by decide +kernel
theorem nd_CM_least_94 : decode nc_CM_least 94 = .ok (.iload 5, 2) := by decide +kernel
theorem nd_CM_least_96 : decode nc_CM_least 96 = .ok (.goto 19, 3) := by decide +kernel
theorem nd_CM_least_99 : decode nc_CM_least 99 = .ok (.iload 6, 2) := by decide +kernel
theorem nd_CM_least_101 : decode nc_CM_least 101 = .ok (.iload_n 3, 1) := by decide +kernel
theorem nd_CM_least_102 : decode nc_CM_least 102 = .ok (.if_icmp .ne 11, 3) := by decide +kernel
theorem nd_CM_least_105 : decode nc_CM_least 105 = .ok (.iload 4, 2) := by decide +kernel
theorem nd_CM_least_107 : decode nc_CM_least 107 = .ok (.iload 5, 2) := by decide +kernel
theorem nd_CM_least_109 : decode nc_CM_least 109 = .ok (.iand, 1) := by decide +kernel
theorem nd_CM_least_110 : decode nc_CM_least 110 = .ok (.goto 5, 3) := by decide +kernel
theorem nd_CM_least_113 : decode nc_CM_least 113 = .ok (.iload 4, 2) := by decide +kernel
theorem nd_CM_least_115 : decode nc_CM_least 115 = .ok (.istore 4, 2) := by decide +kernel
theorem nd_CM_least_117 : decode nc_CM_least 117 = .ok (.iload 6, 2) := by decide +kernel
theorem nd_CM_least_119 : decode nc_CM_least 119 = .ok (.iload_n 3, 1) := by decide +kernel
theorem nd_CM_least_120 : decode nc_CM_least 120 = .ok (.if_icmp .ge 8, 3) := by decide +kernel
theorem nd_CM_least_123 : decode nc_CM_least 123 = .ok (.iload 6, 2) := by decide +kernel
theorem nd_CM_least_125 : decode nc_CM_least 125 = .ok (.goto 4, 3) := by decide +kernel
theorem nd_CM_least_128 : decode nc_CM_least 128 = .ok (.iload_n 3, 1) := by decide +kernel
theorem nd_CM_least_129 : decode nc_CM_least 129 = .ok (.istore_n 3, 1) := by decide +kernel
theorem nd_CM_least_130 : decode nc_CM_least 130 = .ok (.iinc 5 1, 3) := by decide +kernel
theorem nd_CM_least_133 : decode nc_CM_least 133 = .ok (.goto (-111), 3) := by decide +kernel
theorem nd_CM_least_136 : decode nc_CM_least 136 = .ok (.iload 4, 2) := by decide +kernel
theorem nd_CM_least_138 : decode nc_CM_least 138 = .ok (.ireturn, 1) := by decide +kernel
set_option maxRecDepth 20000 in
theorem lp_CM_least0 {p : Program} {l : Launch} {e0 : Env} {R : Room} {s0 : State} {m : MethodId} {args : Array Value} {below : List Frame} {meth : Method} {c : Code} {cells slots : Nat} {Qq : State → Prop} {D : va_G} {A : Nat → Prop} (cI cG cM : ClassId) (q : Nat → Nat) (n : Nat) (hn1 : 1 ≤ n) (hn : n ≤ 10) (g : rf_S) (y : cb_Y) (hrt : rt_ n y g) (hv : ∀ w, w < 2 → ma_v n (cb_m y w))  (hx : p.tables.exec = Jvm.exec) (hb : c.code = nc_CM_least) (hml : c.maxLocals = 7) (htg : ∀ w ∈ tg_, w.before args s0 = true) (hown : s0.vm.findClass ny_CM_least.cls = some m.cls) (hK : va_K D cl_all (ty_all cI cG cM) s0) (hN : tn_K s0) (hA : ∀ q : Nat, s0.heap.size ≤ q → A q) (hRf : 4 ≤ R.frames) (hRl : 98 ≤ R.locals) (hCS : cells ≤ R.cells ∧ slots ≤ R.slots) (kx : ∀ (ls : Array Slot) (H : Heap) (locs : List Loc), lv_has ls 7 [(4, .int (nI ((lm_ (h1_ n y) (2 ^ n - 1) (2 ^ n)).2)))] → va_P D cl_all ([((q 0), .inr (6, [.int (nI (n)), .ref (q 2), .ref (q 3), .ref (q 4), .ref (q 5), .ref (q 6), .ref (q 7), .ref (q 8), .ref (q 9), .ref (q 10), .ref (q 11), .ref (q 12), .ref (q 13), .ref (q 14)])), ((q 2), .inl (cI, 10, .inl (g 0))), ((q 3), .inl (cI, 2, .inl (g 1))), ((q 4), .inl (cI, 2, .inl (g 2))), ((q 5), .inl (cI, 2, .inl (g 3))), ((q 6), .inl (cI, 20, .inl (g 4))), ((q 7), .inl (cI, 20, .inl (g 5))), ((q 8), .inl (cI, 20, .inl (g 6))), ((q 9), .inl (cI, 8, .inl (g 7))), ((q 10), .inl (cI, 80, .inl (g 8))), ((q 11), .inl (cI, 8, .inl (g 9))), ((q 12), .inl (cI, 16, .inl (g 10))), ((q 13), .inl (cI, 16, .inl (g 11))), ((q 14), .inl (cI, 2048, .inl (g 12)))]) H → va_D A ([((q 0), .inr (6, [.int (nI (n)), .ref (q 2), .ref (q 3), .ref (q 4), .ref (q 5), .ref (q 6), .ref (q 7), .ref (q 8), .ref (q 9), .ref (q 10), .ref (q 11), .ref (q 12), .ref (q 13), .ref (q 14)])), ((q 2), .inl (cI, 10, .inl (g 0))), ((q 3), .inl (cI, 2, .inl (g 1))), ((q 4), .inl (cI, 2, .inl (g 2))), ((q 5), .inl (cI, 2, .inl (g 3))), ((q 6), .inl (cI, 20, .inl (g 4))), ((q 7), .inl (cI, 20, .inl (g 5))), ((q 8), .inl (cI, 20, .inl (g 6))), ((q 9), .inl (cI, 8, .inl (g 7))), ((q 10), .inl (cI, 80, .inl (g 8))), ((q 11), .inl (cI, 8, .inl (g 9))), ((q 12), .inl (cI, 16, .inl (g 10))), ((q 13), .inl (cI, 16, .inl (g 11))), ((q 14), .inl (cI, 2048, .inl (g 12)))]) → va_S A s0.heap H locs → W p l e0 R s0 m args below meth c H locs cells slots Qq (F0 m 136 ls [])) : ∀ (fuel : Nat) (i : Nat) (ls : Array Slot) (H : Heap) (locs : List Loc), 2 ^ n - i < fuel → (i ≤ 2 ^ n) → lv_has ls 7 [(5, .int (nI (i))), (3, .int (nI ((lm_ (h1_ n y) (2 ^ n - 1) i).1))), (4, .int (nI ((lm_ (h1_ n y) (2 ^ n - 1) i).2))), (0, .ref (q 0)), (1, .int (nI (0))), (2, .int (nI (2 ^ n - 1)))] → va_P D cl_all ([((q 0), .inr (6, [.int (nI (n)), .ref (q 2), .ref (q 3), .ref (q 4), .ref (q 5), .ref (q 6), .ref (q 7), .ref (q 8), .ref (q 9), .ref (q 10), .ref (q 11), .ref (q 12), .ref (q 13), .ref (q 14)])), ((q 2), .inl (cI, 10, .inl (g 0))), ((q 3), .inl (cI, 2, .inl (g 1))), ((q 4), .inl (cI, 2, .inl (g 2))), ((q 5), .inl (cI, 2, .inl (g 3))), ((q 6), .inl (cI, 20, .inl (g 4))), ((q 7), .inl (cI, 20, .inl (g 5))), ((q 8), .inl (cI, 20, .inl (g 6))), ((q 9), .inl (cI, 8, .inl (g 7))), ((q 10), .inl (cI, 80, .inl (g 8))), ((q 11), .inl (cI, 8, .inl (g 9))), ((q 12), .inl (cI, 16, .inl (g 10))), ((q 13), .inl (cI, 16, .inl (g 11))), ((q 14), .inl (cI, 2048, .inl (g 12)))]) H → va_D A ([((q 0), .inr (6, [.int (nI (n)), .ref (q 2), .ref (q 3), .ref (q 4), .ref (q 5), .ref (q 6), .ref (q 7), .ref (q 8), .ref (q 9), .ref (q 10), .ref (q 11), .ref (q 12), .ref (q 13), .ref (q 14)])), ((q 2), .inl (cI, 10, .inl (g 0))), ((q 3), .inl (cI, 2, .inl (g 1))), ((q 4), .inl (cI, 2, .inl (g 2))), ((q 5), .inl (cI, 2, .inl (g 3))), ((q 6), .inl (cI, 20, .inl (g 4))), ((q 7), .inl (cI, 20, .inl (g 5))), ((q 8), .inl (cI, 20, .inl (g 6))), ((q 9), .inl (cI, 8, .inl (g 7))), ((q 10), .inl (cI, 80, .inl (g 8))), ((q 11), .inl (cI, 8, .inl (g 9))), ((q 12), .inl (cI, 16, .inl (g 10))), ((q 13), .inl (cI, 16, .inl (g 11))), ((q 14), .inl (cI, 2048, .inl (g 12)))]) → va_S A s0.heap H locs → W p l e0 R s0 m args below meth c H locs cells slots Qq (F0 m 22 ls []) := by
  intro fuel
  induction fuel with
  | zero => intro i ls H locs hfu; omega
  | succ fuel ih =>
    intro i ls H locs hfu hi hl hP hD hS
    have h2n : 2 ^ n ≤ 1024 := Nat.pow_le_pow_right (by omega) hn
    have h2p : 1 ≤ 2 ^ n := Nat.one_le_two_pow
    have hlb := lm_b (h1_ n y) n i hi
    refine lv_iload hx hb nd_CM_least_22 (lv_at hl 0 rfl) ?_
    refine lv_iload_n hx hb nd_CM_least_24 rfl (lv_at hl 5 rfl) ?_
    refine wi_icmp_gt (tgt := 136) hx hb (by omega) (by omega) nd_CM_least_25 rfl (fun hc25 => ?_) (fun hc25 => ?_)
    · have hl : lv_has ls 7 [(4, .int (nI ((lm_ (h1_ n y) (2 ^ n - 1) i).2)))] := lv_sub hl [2] rfl
      have hin : i = 2 ^ n := by omega
      exact kx ls H locs (by simpa only [hin] using hl) hP hD hS
    · have hin : i < 2 ^ n := by omega
      have hr0 : g 12 i = nI (ma_r n (cb_m y 0) i) := by have := hrt 0 i (by omega) hin; rwa [Nat.mul_zero, Nat.zero_add] at this
      have hr1 : g 12 (1024 + i) = nI (ma_r n (cb_m y 1) i) := hrt 1 i (by omega) hin
      have hcl := mt_colt hin
      have hcs := bs_cosub hin
      have hr2 : g 12 (1024 + (2 ^ n - 1) - i) = nI (ma_r n (cb_m y 1) (mt_co n i)) := by rw [show 1024 + (2 ^ n - 1) - i = 1024 * 1 + mt_co n i by omega]; exact hrt 1 _ (by omega) hcl
      have hb0 := ma_rb (hv 0 (by omega)) hin
      have hb1 := ma_rb (hv 1 (by omega)) hin
      have hb2 := ma_rb (hv 1 (by omega)) hcl
      have hcn := mt_cd_le n i
      have hc10 := bs_cd10 hn hin
      have hhb := h1_le hn (hv 0 (by omega)) (hv 1 (by omega)) hin
      refine lv_iload_n hx hb nd_CM_least_28 rfl (lv_at hl 4 rfl) ?_
      refine wi_if_eq (tgt := 65) hx hb (by decide) nd_CM_least_29 rfl (fun _ => ?_) (fun h => absurd h (by decide))
      refine lv_aload_n hx hb nd_CM_least_65 rfl (lv_at hl 3 rfl) ?_
      refine va_get (D := D) (C := nr_CM) (T := nt_CM) (N := 14) hx hb htg tf_CM hown hK hP 0 rfl rfl 13 (by decide) (htg _ tm_396) (fun _ h => h) rfl nd_CM_least_66 ?_
      refine lv_iload hx hb nd_CM_least_69 (lv_at hl 0 rfl) ?_
      refine wi_iald hx hb hK hP 13 0 rfl rfl (by omega) (by omega) nd_CM_least_71 ?_
      refine wi_top (hr0) ?_
      refine lv_aload_n hx hb nd_CM_least_72 rfl (lv_at hl 3 rfl) ?_
      refine va_get (D := D) (C := nr_CM) (T := nt_CM) (N := 14) hx hb htg tf_CM hown hK hP 0 rfl rfl 13 (by decide) (htg _ tm_396) (fun _ h => h) rfl nd_CM_least_73 ?_
      refine lv_sipush (v := nI 1024) hx hb nd_CM_least_76 (by decide) ?_
      refine lv_iload_n hx hb nd_CM_least_79 rfl (lv_at hl 5 rfl) ?_
      refine wi_iadd hx hb nd_CM_least_80 ?_
      refine lv_iload hx hb nd_CM_least_81 (lv_at hl 0 rfl) ?_
      refine wi_isub hx hb (by omega) nd_CM_least_83 ?_
      refine wi_iald hx hb hK hP 13 0 rfl rfl (by omega) (by omega) nd_CM_least_84 ?_
      refine wi_top (hr2) ?_
      refine wi_iadd hx hb nd_CM_least_85 ?_
      refine wi_top (congrArg nI (show _ = h1_ n y i by unfold h1_; simp only [cb_01])) ?_
      refine lv_istore hx hb nd_CM_least_86 hl (by decide) rfl (fun ls hl => ?_)
      have hl : lv_has ls 7 [(6, .int (nI (h1_ n y i))), (5, .int (nI (i))), (3, .int (nI ((lm_ (h1_ n y) (2 ^ n - 1) i).1))), (4, .int (nI ((lm_ (h1_ n y) (2 ^ n - 1) i).2))), (0, .ref (q 0)), (1, .int (nI (0))), (2, .int (nI (2 ^ n - 1)))] := hl
      refine lv_iload hx hb nd_CM_least_88 (lv_at hl 0 rfl) ?_
      refine lv_iload_n hx hb nd_CM_least_90 rfl (lv_at hl 2 rfl) ?_
      refine wi_icmp_ge (tgt := 99) hx hb (by omega) (by omega) nd_CM_least_91 rfl (fun hc91 => ?_) (fun hc91 => ?_)
      · refine lv_iload hx hb nd_CM_least_99 (lv_at hl 0 rfl) ?_
        refine lv_iload_n hx hb nd_CM_least_101 rfl (lv_at hl 2 rfl) ?_
        refine wi_icmp_ne (tgt := 113) hx hb (by omega) (by omega) nd_CM_least_102 rfl (fun hc102 => ?_) (fun hc102 => ?_)
        · refine lv_iload hx hb nd_CM_least_113 (lv_at hl 3 rfl) ?_
          refine lv_istore hx hb nd_CM_least_115 hl (by decide) rfl (fun ls hl => ?_)
          have hl : lv_has ls 7 [(4, .int (nI ((lm_ (h1_ n y) (2 ^ n - 1) i).2))), (6, .int (nI (h1_ n y i))), (5, .int (nI (i))), (3, .int (nI ((lm_ (h1_ n y) (2 ^ n - 1) i).1))), (0, .ref (q 0)), (1, .int (nI (0))), (2, .int (nI (2 ^ n - 1)))] := hl
          refine lv_iload hx hb nd_CM_least_117 (lv_at hl 1 rfl) ?_
          refine lv_iload_n hx hb nd_CM_least_119 rfl (lv_at hl 3 rfl) ?_
          refine wi_icmp_ge (tgt := 128) hx hb (by omega) (by omega) nd_CM_least_120 rfl (fun hc120 => ?_) (fun hc120 => ?_)
          · refine lv_iload_n hx hb nd_CM_least_128 rfl (lv_at hl 3 rfl) ?_
            refine lv_istore_n hx hb nd_CM_least_129 rfl hl (by decide) rfl (fun ls hl => ?_)
            have hl : lv_has ls 7 [(3, .int (nI ((lm_ (h1_ n y) (2 ^ n - 1) i).1))), (4, .int (nI ((lm_ (h1_ n y) (2 ^ n - 1) i).2))), (6, .int (nI (h1_ n y i))), (5, .int (nI (i))), (0, .ref (q 0)), (1, .int (nI (0))), (2, .int (nI (2 ^ n - 1)))] := hl
            refine lv_iinc (k := 3) (v := nI (i + 1)) hx hb nd_CM_least_130 hl rfl (wi_inc _ 1) (by decide) rfl (fun ls hl => ?_)
            have hl : lv_has ls 7 [(5, .int (nI (i + 1))), (3, .int (nI ((lm_ (h1_ n y) (2 ^ n - 1) i).1))), (4, .int (nI ((lm_ (h1_ n y) (2 ^ n - 1) i).2))), (6, .int (nI (h1_ n y i))), (0, .ref (q 0)), (1, .int (nI (0))), (2, .int (nI (2 ^ n - 1)))] := hl
            refine lv_goto (tgt := 22) hx hb nd_CM_least_133 rfl ?_
            have hl : lv_has ls 7 [(5, .int (nI (i + 1))), (3, .int (nI ((lm_ (h1_ n y) (2 ^ n - 1) i).1))), (4, .int (nI ((lm_ (h1_ n y) (2 ^ n - 1) i).2))), (0, .ref (q 0)), (1, .int (nI (0))), (2, .int (nI (2 ^ n - 1)))] := lv_sub hl [0, 1, 2, 4, 5, 6] rfl
            have hlm : lm_ (h1_ n y) (2 ^ n - 1) (i + 1) = ((lm_ (h1_ n y) (2 ^ n - 1) i).1, (lm_ (h1_ n y) (2 ^ n - 1) i).2) := by simp only [lm_]; rw [if_neg (by omega), if_neg (by omega), if_neg hc102]
            exact ih (i + 1) ls H locs (by omega) (by omega) (by rw [hlm]; exact hl) hP hD hS
          · refine lv_iload hx hb nd_CM_least_123 (lv_at hl 1 rfl) ?_
            refine lv_goto (tgt := 129) hx hb nd_CM_least_125 rfl ?_
            refine lv_istore_n hx hb nd_CM_least_129 rfl hl (by decide) rfl (fun ls hl => ?_)
            have hl : lv_has ls 7 [(3, .int (nI (h1_ n y i))), (4, .int (nI ((lm_ (h1_ n y) (2 ^ n - 1) i).2))), (6, .int (nI (h1_ n y i))), (5, .int (nI (i))), (0, .ref (q 0)), (1, .int (nI (0))), (2, .int (nI (2 ^ n - 1)))] := hl
            refine lv_iinc (k := 3) (v := nI (i + 1)) hx hb nd_CM_least_130 hl rfl (wi_inc _ 1) (by decide) rfl (fun ls hl => ?_)
            have hl : lv_has ls 7 [(5, .int (nI (i + 1))), (3, .int (nI (h1_ n y i))), (4, .int (nI ((lm_ (h1_ n y) (2 ^ n - 1) i).2))), (6, .int (nI (h1_ n y i))), (0, .ref (q 0)), (1, .int (nI (0))), (2, .int (nI (2 ^ n - 1)))] := hl
            refine lv_goto (tgt := 22) hx hb nd_CM_least_133 rfl ?_
            have hl : lv_has ls 7 [(5, .int (nI (i + 1))), (3, .int (nI (h1_ n y i))), (4, .int (nI ((lm_ (h1_ n y) (2 ^ n - 1) i).2))), (0, .ref (q 0)), (1, .int (nI (0))), (2, .int (nI (2 ^ n - 1)))] := lv_sub hl [0, 1, 2, 4, 5, 6] rfl
            exact absurd hc120 (by omega)
        · refine lv_iload hx hb nd_CM_least_105 (lv_at hl 3 rfl) ?_
          refine lv_iload hx hb nd_CM_least_107 (lv_at hl 1 rfl) ?_
          refine wi_iand hx hb nd_CM_least_109 ?_
          refine lv_goto (tgt := 115) hx hb nd_CM_least_110 rfl ?_
          refine lv_istore hx hb nd_CM_least_115 hl (by decide) rfl (fun ls hl => ?_)
          have hl : lv_has ls 7 [(4, .int (nI (((lm_ (h1_ n y) (2 ^ n - 1) i).2) &&& i))), (6, .int (nI (h1_ n y i))), (5, .int (nI (i))), (3, .int (nI ((lm_ (h1_ n y) (2 ^ n - 1) i).1))), (0, .ref (q 0)), (1, .int (nI (0))), (2, .int (nI (2 ^ n - 1)))] := hl
          refine lv_iload hx hb nd_CM_least_117 (lv_at hl 1 rfl) ?_
          refine lv_iload_n hx hb nd_CM_least_119 rfl (lv_at hl 3 rfl) ?_
          refine wi_icmp_ge (tgt := 128) hx hb (by omega) (by omega) nd_CM_least_120 rfl (fun hc120 => ?_) (fun hc120 => ?_)
          · refine lv_iload_n hx hb nd_CM_least_128 rfl (lv_at hl 3 rfl) ?_
            refine lv_istore_n hx hb nd_CM_least_129 rfl hl (by decide) rfl (fun ls hl => ?_)
            have hl : lv_has ls 7 [(3, .int (nI ((lm_ (h1_ n y) (2 ^ n - 1) i).1))), (4, .int (nI (((lm_ (h1_ n y) (2 ^ n - 1) i).2) &&& i))), (6, .int (nI (h1_ n y i))), (5, .int (nI (i))), (0, .ref (q 0)), (1, .int (nI (0))), (2, .int (nI (2 ^ n - 1)))] := hl
            refine lv_iinc (k := 3) (v := nI (i + 1)) hx hb nd_CM_least_130 hl rfl (wi_inc _ 1) (by decide) rfl (fun ls hl => ?_)
            have hl : lv_has ls 7 [(5, .int (nI (i + 1))), (3, .int (nI ((lm_ (h1_ n y) (2 ^ n - 1) i).1))), (4, .int (nI (((lm_ (h1_ n y) (2 ^ n - 1) i).2) &&& i))), (6, .int (nI (h1_ n y i))), (0, .ref (q 0)), (1, .int (nI (0))), (2, .int (nI (2 ^ n - 1)))] := hl
            refine lv_goto (tgt := 22) hx hb nd_CM_least_133 rfl ?_
            have hl : lv_has ls 7 [(5, .int (nI (i + 1))), (3, .int (nI ((lm_ (h1_ n y) (2 ^ n - 1) i).1))), (4, .int (nI (((lm_ (h1_ n y) (2 ^ n - 1) i).2) &&& i))), (0, .ref (q 0)), (1, .int (nI (0))), (2, .int (nI (2 ^ n - 1)))] := lv_sub hl [0, 1, 2, 4, 5, 6] rfl
            have hlm : lm_ (h1_ n y) (2 ^ n - 1) (i + 1) = ((lm_ (h1_ n y) (2 ^ n - 1) i).1, (lm_ (h1_ n y) (2 ^ n - 1) i).2 &&& i) := by simp only [lm_]; rw [if_neg (by omega), if_neg (by omega), if_pos hc102]
            exact ih (i + 1) ls H locs (by omega) (by omega) (by rw [hlm]; exact hl) hP hD hS
          · refine lv_iload hx hb nd_CM_least_123 (lv_at hl 1 rfl) ?_
            refine lv_goto (tgt := 129) hx hb nd_CM_least_125 rfl ?_
            refine lv_istore_n hx hb nd_CM_least_129 rfl hl (by decide) rfl (fun ls hl => ?_)
            have hl : lv_has ls 7 [(3, .int (nI (h1_ n y i))), (4, .int (nI (((lm_ (h1_ n y) (2 ^ n - 1) i).2) &&& i))), (6, .int (nI (h1_ n y i))), (5, .int (nI (i))), (0, .ref (q 0)), (1, .int (nI (0))), (2, .int (nI (2 ^ n - 1)))] := hl
            refine lv_iinc (k := 3) (v := nI (i + 1)) hx hb nd_CM_least_130 hl rfl (wi_inc _ 1) (by decide) rfl (fun ls hl => ?_)
            have hl : lv_has ls 7 [(5, .int (nI (i + 1))), (3, .int (nI (h1_ n y i))), (4, .int (nI (((lm_ (h1_ n y) (2 ^ n - 1) i).2) &&& i))), (6, .int (nI (h1_ n y i))), (0, .ref (q 0)), (1, .int (nI (0))), (2, .int (nI (2 ^ n - 1)))] := hl
            refine lv_goto (tgt := 22) hx hb nd_CM_least_133 rfl ?_
            have hl : lv_has ls 7 [(5, .int (nI (i + 1))), (3, .int (nI (h1_ n y i))), (4, .int (nI (((lm_ (h1_ n y) (2 ^ n - 1) i).2) &&& i))), (0, .ref (q 0)), (1, .int (nI (0))), (2, .int (nI (2 ^ n - 1)))] := lv_sub hl [0, 1, 2, 4, 5, 6] rfl
            exact absurd hc120 (by omega)
      · refine lv_iload hx hb nd_CM_least_94 (lv_at hl 1 rfl) ?_
        refine lv_goto (tgt := 115) hx hb nd_CM_least_96 rfl ?_
        refine lv_istore hx hb nd_CM_least_115 hl (by decide) rfl (fun ls hl => ?_)
        have hl : lv_has ls 7 [(4, .int (nI (i))), (6, .int (nI (h1_ n y i))), (5, .int (nI (i))), (3, .int (nI ((lm_ (h1_ n y) (2 ^ n - 1) i).1))), (0, .ref (q 0)), (1, .int (nI (0))), (2, .int (nI (2 ^ n - 1)))] := hl
        refine lv_iload hx hb nd_CM_least_117 (lv_at hl 1 rfl) ?_
        refine lv_iload_n hx hb nd_CM_least_119 rfl (lv_at hl 3 rfl) ?_
        refine wi_icmp_ge (tgt := 128) hx hb (by omega) (by omega) nd_CM_least_120 rfl (fun hc120 => ?_) (fun hc120 => ?_)
        · refine lv_iload_n hx hb nd_CM_least_128 rfl (lv_at hl 3 rfl) ?_
          refine lv_istore_n hx hb nd_CM_least_129 rfl hl (by decide) rfl (fun ls hl => ?_)
          have hl : lv_has ls 7 [(3, .int (nI ((lm_ (h1_ n y) (2 ^ n - 1) i).1))), (4, .int (nI (i))), (6, .int (nI (h1_ n y i))), (5, .int (nI (i))), (0, .ref (q 0)), (1, .int (nI (0))), (2, .int (nI (2 ^ n - 1)))] := hl
          refine lv_iinc (k := 3) (v := nI (i + 1)) hx hb nd_CM_least_130 hl rfl (wi_inc _ 1) (by decide) rfl (fun ls hl => ?_)
          have hl : lv_has ls 7 [(5, .int (nI (i + 1))), (3, .int (nI ((lm_ (h1_ n y) (2 ^ n - 1) i).1))), (4, .int (nI (i))), (6, .int (nI (h1_ n y i))), (0, .ref (q 0)), (1, .int (nI (0))), (2, .int (nI (2 ^ n - 1)))] := hl
          refine lv_goto (tgt := 22) hx hb nd_CM_least_133 rfl ?_
          have hl : lv_has ls 7 [(5, .int (nI (i + 1))), (3, .int (nI ((lm_ (h1_ n y) (2 ^ n - 1) i).1))), (4, .int (nI (i))), (0, .ref (q 0)), (1, .int (nI (0))), (2, .int (nI (2 ^ n - 1)))] := lv_sub hl [0, 1, 2, 4, 5, 6] rfl
          exact absurd hc120 (by omega)
        · refine lv_iload hx hb nd_CM_least_123 (lv_at hl 1 rfl) ?_
          refine lv_goto (tgt := 129) hx hb nd_CM_least_125 rfl ?_
          refine lv_istore_n hx hb nd_CM_least_129 rfl hl (by decide) rfl (fun ls hl => ?_)
          have hl : lv_has ls 7 [(3, .int (nI (h1_ n y i))), (4, .int (nI (i))), (6, .int (nI (h1_ n y i))), (5, .int (nI (i))), (0, .ref (q 0)), (1, .int (nI (0))), (2, .int (nI (2 ^ n - 1)))] := hl
          refine lv_iinc (k := 3) (v := nI (i + 1)) hx hb nd_CM_least_130 hl rfl (wi_inc _ 1) (by decide) rfl (fun ls hl => ?_)
          have hl : lv_has ls 7 [(5, .int (nI (i + 1))), (3, .int (nI (h1_ n y i))), (4, .int (nI (i))), (6, .int (nI (h1_ n y i))), (0, .ref (q 0)), (1, .int (nI (0))), (2, .int (nI (2 ^ n - 1)))] := hl
          refine lv_goto (tgt := 22) hx hb nd_CM_least_133 rfl ?_
          have hl : lv_has ls 7 [(5, .int (nI (i + 1))), (3, .int (nI (h1_ n y i))), (4, .int (nI (i))), (0, .ref (q 0)), (1, .int (nI (0))), (2, .int (nI (2 ^ n - 1)))] := lv_sub hl [0, 1, 2, 4, 5, 6] rfl
          have hlm : lm_ (h1_ n y) (2 ^ n - 1) (i + 1) = (h1_ n y i, i) := by simp only [lm_]; rw [if_pos (by omega), if_pos (by omega)]
          exact ih (i + 1) ls H locs (by omega) (by omega) (by rw [hlm]; exact hl) hP hD hS
set_option maxRecDepth 20000 in
theorem c_CM_least0 (l : Launch) (D : va_G) (cI cG cM : ClassId)  (q : Nat → Nat) (n : Nat) (hn1 : 1 ≤ n) (hn : n ≤ 10) (g : rf_S) (y : cb_Y) (hI : rf_I n y g)  (sz : Nat) : wb_Mi l ny_CM_least nc_CM_least 7 (some .int) ({ frames := 4, cells := 0, slots := 0, locals := 98 }) D (ty_all cI cG cM) (rf_ cI q n g) sz [.ref (q 0), .int (nI (0))] (fun (v : Int32) (u : rf_S) => v = nI (fi_ (h1_ n y) (2 ^ n - 1)) ∧ rf_I n y u) (fun u : rf_S => rf_ cI q n u) := by
  refine wb_start (S := rf_S) (by decide) (Nat.le_of_ble_eq_true rfl) ?_
  intro p e0 s0 m below meth c ls A hx hb hr hml htg hown hk hP hK hN hl hAe hsz hD hA
  have hl : lv_has ls 7 [(0, .ref (q 0)), (1, .int (nI (0)))] := hl
  have hP : va_P D cl_all ([((q 0), .inr (6, [.int (nI (n)), .ref (q 2), .ref (q 3), .ref (q 4), .ref (q 5), .ref (q 6), .ref (q 7), .ref (q 8), .ref (q 9), .ref (q 10), .ref (q 11), .ref (q 12), .ref (q 13), .ref (q 14)])), ((q 2), .inl (cI, 10, .inl (g 0))), ((q 3), .inl (cI, 2, .inl (g 1))), ((q 4), .inl (cI, 2, .inl (g 2))), ((q 5), .inl (cI, 2, .inl (g 3))), ((q 6), .inl (cI, 20, .inl (g 4))), ((q 7), .inl (cI, 20, .inl (g 5))), ((q 8), .inl (cI, 20, .inl (g 6))), ((q 9), .inl (cI, 8, .inl (g 7))), ((q 10), .inl (cI, 80, .inl (g 8))), ((q 11), .inl (cI, 8, .inl (g 9))), ((q 12), .inl (cI, 16, .inl (g 10))), ((q 13), .inl (cI, 16, .inl (g 11))), ((q 14), .inl (cI, 2048, .inl (g 12)))]) s0.heap := hP
  have hD : va_D A ([((q 0), .inr (6, [.int (nI (n)), .ref (q 2), .ref (q 3), .ref (q 4), .ref (q 5), .ref (q 6), .ref (q 7), .ref (q 8), .ref (q 9), .ref (q 10), .ref (q 11), .ref (q 12), .ref (q 13), .ref (q 14)])), ((q 2), .inl (cI, 10, .inl (g 0))), ((q 3), .inl (cI, 2, .inl (g 1))), ((q 4), .inl (cI, 2, .inl (g 2))), ((q 5), .inl (cI, 2, .inl (g 3))), ((q 6), .inl (cI, 20, .inl (g 4))), ((q 7), .inl (cI, 20, .inl (g 5))), ((q 8), .inl (cI, 20, .inl (g 6))), ((q 9), .inl (cI, 8, .inl (g 7))), ((q 10), .inl (cI, 80, .inl (g 8))), ((q 11), .inl (cI, 8, .inl (g 9))), ((q 12), .inl (cI, 16, .inl (g 10))), ((q 13), .inl (cI, 16, .inl (g 11))), ((q 14), .inl (cI, 2048, .inl (g 12)))]) := hD
  have hS : va_S A s0.heap s0.heap [] := va_S.rf
  have hRf : 4 ≤ ({ frames := 4, cells := 0, slots := 0, locals := 98 } : Room).frames := Nat.le_refl _
  have hRl : 98 ≤ ({ frames := 4, cells := 0, slots := 0, locals := 98 } : Room).locals := Nat.le_refl _
  have hCS : 0 ≤ ({ frames := 4, cells := 0, slots := 0, locals := 98 } : Room).cells ∧ 0 ≤ ({ frames := 4, cells := 0, slots := 0, locals := 98 } : Room).slots := ⟨Nat.zero_le _, Nat.zero_le _⟩
  have h2n : 2 ^ n ≤ 1024 := Nat.pow_le_pow_right (by omega) hn
  have h2p : 1 ≤ 2 ^ n := Nat.one_le_two_pow
  refine lv_aload_n hx hb nd_CM_least_0 rfl (lv_at hl 0 rfl) ?_
  refine wd_Vv0 (C := nr_CM) (n := 0) (Y := rf_ cI q n g) hx hb hml hown htg (c_CM_work l D cI cG cM q n hn1 hn g y hI _) tm_513 tm_510 tm_512 tp_20 tm_9 (by decide +kernel) ⟨⟨Nat.le_trans (by decide) hRf, Nat.le_trans (by decide) hRl⟩, rfl, rfl⟩ hP hD hS hA hK hN (va_recv (q0 := 0) (ci := 6) hK hP rfl rfl) rfl hl.1 rfl (Nat.le_of_ble_eq_true rfl) nd_CM_least_1 hCS (fun u1 H locs hp1 hP hD hS => ?_)
  have hP : va_P D cl_all ([((q 0), .inr (6, [.int (nI (n)), .ref (q 2), .ref (q 3), .ref (q 4), .ref (q 5), .ref (q 6), .ref (q 7), .ref (q 8), .ref (q 9), .ref (q 10), .ref (q 11), .ref (q 12), .ref (q 13), .ref (q 14)])), ((q 2), .inl (cI, 10, .inl (u1 0))), ((q 3), .inl (cI, 2, .inl (u1 1))), ((q 4), .inl (cI, 2, .inl (u1 2))), ((q 5), .inl (cI, 2, .inl (u1 3))), ((q 6), .inl (cI, 20, .inl (u1 4))), ((q 7), .inl (cI, 20, .inl (u1 5))), ((q 8), .inl (cI, 20, .inl (u1 6))), ((q 9), .inl (cI, 8, .inl (u1 7))), ((q 10), .inl (cI, 80, .inl (u1 8))), ((q 11), .inl (cI, 8, .inl (u1 9))), ((q 12), .inl (cI, 16, .inl (u1 10))), ((q 13), .inl (cI, 16, .inl (u1 11))), ((q 14), .inl (cI, 2048, .inl (u1 12)))]) H := hP
  have hD : va_D A ([((q 0), .inr (6, [.int (nI (n)), .ref (q 2), .ref (q 3), .ref (q 4), .ref (q 5), .ref (q 6), .ref (q 7), .ref (q 8), .ref (q 9), .ref (q 10), .ref (q 11), .ref (q 12), .ref (q 13), .ref (q 14)])), ((q 2), .inl (cI, 10, .inl (u1 0))), ((q 3), .inl (cI, 2, .inl (u1 1))), ((q 4), .inl (cI, 2, .inl (u1 2))), ((q 5), .inl (cI, 2, .inl (u1 3))), ((q 6), .inl (cI, 20, .inl (u1 4))), ((q 7), .inl (cI, 20, .inl (u1 5))), ((q 8), .inl (cI, 20, .inl (u1 6))), ((q 9), .inl (cI, 8, .inl (u1 7))), ((q 10), .inl (cI, 80, .inl (u1 8))), ((q 11), .inl (cI, 8, .inl (u1 9))), ((q 12), .inl (cI, 16, .inl (u1 10))), ((q 13), .inl (cI, 16, .inl (u1 11))), ((q 14), .inl (cI, 2048, .inl (u1 12)))]) := hD
  refine wi_ic hx hb (a := 1) nd_CM_least_4 ?_
  refine lv_aload_n hx hb nd_CM_least_5 rfl (lv_at hl 0 rfl) ?_
  refine va_get (D := D) (C := nr_CM) (T := nt_CM) (N := 14) hx hb htg tf_CM hown hK hP 0 rfl rfl 0 (by decide) (htg _ tm_383) (fun _ h => h) rfl nd_CM_least_6 ?_
  refine wi_ishl1 hx hb (by omega) nd_CM_least_9 ?_
  refine wi_ic hx hb (a := 1) nd_CM_least_10 ?_
  refine wi_isub hx hb (by omega) nd_CM_least_11 ?_
  refine lv_istore_n hx hb nd_CM_least_12 rfl hl (by decide) rfl (fun ls hl => ?_)
  have hl : lv_has ls 7 [(2, .int (nI ((2 ^ n) - 1))), (0, .ref (q 0)), (1, .int (nI (0)))] := hl
  refine lv_bipush (v := nI 100) hx hb nd_CM_least_13 (by decide) ?_
  refine lv_istore_n hx hb nd_CM_least_15 rfl hl (by decide) rfl (fun ls hl => ?_)
  have hl : lv_has ls 7 [(3, .int (nI (100))), (2, .int (nI ((2 ^ n) - 1))), (0, .ref (q 0)), (1, .int (nI (0)))] := hl
  refine lv_iload_n hx hb nd_CM_least_16 rfl (lv_at hl 1 rfl) ?_
  refine lv_istore hx hb nd_CM_least_17 hl (by decide) rfl (fun ls hl => ?_)
  have hl : lv_has ls 7 [(4, .int (nI ((2 ^ n) - 1))), (3, .int (nI (100))), (2, .int (nI ((2 ^ n) - 1))), (0, .ref (q 0)), (1, .int (nI (0)))] := hl
  refine wi_ic hx hb (a := 0) nd_CM_least_19 ?_
  refine lv_istore hx hb nd_CM_least_20 hl (by decide) rfl (fun ls hl => ?_)
  have hl : lv_has ls 7 [(5, .int (nI (0))), (4, .int (nI ((2 ^ n) - 1))), (3, .int (nI (100))), (2, .int (nI ((2 ^ n) - 1))), (0, .ref (q 0)), (1, .int (nI (0)))] := hl
  have hl : lv_has ls 7 [(5, .int (nI (0))), (3, .int (nI (100))), (4, .int (nI ((2 ^ n) - 1))), (0, .ref (q 0)), (1, .int (nI (0))), (2, .int (nI ((2 ^ n) - 1)))] := lv_sub hl [0, 2, 1, 4, 5, 3] rfl
  refine lp_CM_least0 cI cG cM q n hn1 hn u1 y hp1.2 (fun w hw => (hI.2 w hw).1) hx hb hml htg hown hK hN hA hRf hRl hCS (fun ls H locs hl hP hD hS => ?_) (2 ^ n + 1) 0 ls H locs (by omega) (by omega) hl hP hD hS
  have hle := lm_e (h := h1_ n y) (mt_sub_w (ma_M (hI.2 0 (by omega)).1) (ma_M (hI.2 1 (by omega)).1)) (fun s hs => h1_le hn (hI.2 0 (by omega)).1 (hI.2 1 (by omega)).1 hs)
  refine lv_iload hx hb nd_CM_least_136 (lv_at hl 0 rfl) ?_
  exact wb_iret u1 hx hb hr hk hAe (⟨congrArg nI hle, rf_keep hn (fun j hj => hp1.1 j hj) hI⟩) hP hD hS nd_CM_least_138
set_option maxRecDepth 20000 in
theorem lp_CM_least1 {p : Program} {l : Launch} {e0 : Env} {R : Room} {s0 : State} {m : MethodId} {args : Array Value} {below : List Frame} {meth : Method} {c : Code} {cells slots : Nat} {Qq : State → Prop} {D : va_G} {A : Nat → Prop} (cI cG cM : ClassId) (q : Nat → Nat) (n : Nat) (hn1 : 1 ≤ n) (hn : n ≤ 10) (g : rf_S) (y : cb_Y) (hrt : rt_ n y g) (hv : ∀ w, w < 2 → ma_v n (cb_m y w))  (hx : p.tables.exec = Jvm.exec) (hb : c.code = nc_CM_least) (hml : c.maxLocals = 7) (htg : ∀ w ∈ tg_, w.before args s0 = true) (hown : s0.vm.findClass ny_CM_least.cls = some m.cls) (hK : va_K D cl_all (ty_all cI cG cM) s0) (hN : tn_K s0) (hA : ∀ q : Nat, s0.heap.size ≤ q → A q) (hRf : 4 ≤ R.frames) (hRl : 98 ≤ R.locals) (hCS : cells ≤ R.cells ∧ slots ≤ R.slots) (kx : ∀ (ls : Array Slot) (H : Heap) (locs : List Loc), lv_has ls 7 [(4, .int (nI ((lm_ (h2_ n y) (2 ^ n - 1) (2 ^ n)).2)))] → va_P D cl_all ([((q 0), .inr (6, [.int (nI (n)), .ref (q 2), .ref (q 3), .ref (q 4), .ref (q 5), .ref (q 6), .ref (q 7), .ref (q 8), .ref (q 9), .ref (q 10), .ref (q 11), .ref (q 12), .ref (q 13), .ref (q 14)])), ((q 2), .inl (cI, 10, .inl (g 0))), ((q 3), .inl (cI, 2, .inl (g 1))), ((q 4), .inl (cI, 2, .inl (g 2))), ((q 5), .inl (cI, 2, .inl (g 3))), ((q 6), .inl (cI, 20, .inl (g 4))), ((q 7), .inl (cI, 20, .inl (g 5))), ((q 8), .inl (cI, 20, .inl (g 6))), ((q 9), .inl (cI, 8, .inl (g 7))), ((q 10), .inl (cI, 80, .inl (g 8))), ((q 11), .inl (cI, 8, .inl (g 9))), ((q 12), .inl (cI, 16, .inl (g 10))), ((q 13), .inl (cI, 16, .inl (g 11))), ((q 14), .inl (cI, 2048, .inl (g 12)))]) H → va_D A ([((q 0), .inr (6, [.int (nI (n)), .ref (q 2), .ref (q 3), .ref (q 4), .ref (q 5), .ref (q 6), .ref (q 7), .ref (q 8), .ref (q 9), .ref (q 10), .ref (q 11), .ref (q 12), .ref (q 13), .ref (q 14)])), ((q 2), .inl (cI, 10, .inl (g 0))), ((q 3), .inl (cI, 2, .inl (g 1))), ((q 4), .inl (cI, 2, .inl (g 2))), ((q 5), .inl (cI, 2, .inl (g 3))), ((q 6), .inl (cI, 20, .inl (g 4))), ((q 7), .inl (cI, 20, .inl (g 5))), ((q 8), .inl (cI, 20, .inl (g 6))), ((q 9), .inl (cI, 8, .inl (g 7))), ((q 10), .inl (cI, 80, .inl (g 8))), ((q 11), .inl (cI, 8, .inl (g 9))), ((q 12), .inl (cI, 16, .inl (g 10))), ((q 13), .inl (cI, 16, .inl (g 11))), ((q 14), .inl (cI, 2048, .inl (g 12)))]) → va_S A s0.heap H locs → W p l e0 R s0 m args below meth c H locs cells slots Qq (F0 m 136 ls [])) : ∀ (fuel : Nat) (i : Nat) (ls : Array Slot) (H : Heap) (locs : List Loc), 2 ^ n - i < fuel → (i ≤ 2 ^ n) → lv_has ls 7 [(5, .int (nI (i))), (3, .int (nI ((lm_ (h2_ n y) (2 ^ n - 1) i).1))), (4, .int (nI ((lm_ (h2_ n y) (2 ^ n - 1) i).2))), (0, .ref (q 0)), (1, .int (nI (1))), (2, .int (nI (2 ^ n - 1)))] → va_P D cl_all ([((q 0), .inr (6, [.int (nI (n)), .ref (q 2), .ref (q 3), .ref (q 4), .ref (q 5), .ref (q 6), .ref (q 7), .ref (q 8), .ref (q 9), .ref (q 10), .ref (q 11), .ref (q 12), .ref (q 13), .ref (q 14)])), ((q 2), .inl (cI, 10, .inl (g 0))), ((q 3), .inl (cI, 2, .inl (g 1))), ((q 4), .inl (cI, 2, .inl (g 2))), ((q 5), .inl (cI, 2, .inl (g 3))), ((q 6), .inl (cI, 20, .inl (g 4))), ((q 7), .inl (cI, 20, .inl (g 5))), ((q 8), .inl (cI, 20, .inl (g 6))), ((q 9), .inl (cI, 8, .inl (g 7))), ((q 10), .inl (cI, 80, .inl (g 8))), ((q 11), .inl (cI, 8, .inl (g 9))), ((q 12), .inl (cI, 16, .inl (g 10))), ((q 13), .inl (cI, 16, .inl (g 11))), ((q 14), .inl (cI, 2048, .inl (g 12)))]) H → va_D A ([((q 0), .inr (6, [.int (nI (n)), .ref (q 2), .ref (q 3), .ref (q 4), .ref (q 5), .ref (q 6), .ref (q 7), .ref (q 8), .ref (q 9), .ref (q 10), .ref (q 11), .ref (q 12), .ref (q 13), .ref (q 14)])), ((q 2), .inl (cI, 10, .inl (g 0))), ((q 3), .inl (cI, 2, .inl (g 1))), ((q 4), .inl (cI, 2, .inl (g 2))), ((q 5), .inl (cI, 2, .inl (g 3))), ((q 6), .inl (cI, 20, .inl (g 4))), ((q 7), .inl (cI, 20, .inl (g 5))), ((q 8), .inl (cI, 20, .inl (g 6))), ((q 9), .inl (cI, 8, .inl (g 7))), ((q 10), .inl (cI, 80, .inl (g 8))), ((q 11), .inl (cI, 8, .inl (g 9))), ((q 12), .inl (cI, 16, .inl (g 10))), ((q 13), .inl (cI, 16, .inl (g 11))), ((q 14), .inl (cI, 2048, .inl (g 12)))]) → va_S A s0.heap H locs → W p l e0 R s0 m args below meth c H locs cells slots Qq (F0 m 22 ls []) := by
  intro fuel
  induction fuel with
  | zero => intro i ls H locs hfu; omega
  | succ fuel ih =>
    intro i ls H locs hfu hi hl hP hD hS
    have h2n : 2 ^ n ≤ 1024 := Nat.pow_le_pow_right (by omega) hn
    have h2p : 1 ≤ 2 ^ n := Nat.one_le_two_pow
    have hlb := lm_b (h2_ n y) n i hi
    refine lv_iload hx hb nd_CM_least_22 (lv_at hl 0 rfl) ?_
    refine lv_iload_n hx hb nd_CM_least_24 rfl (lv_at hl 5 rfl) ?_
    refine wi_icmp_gt (tgt := 136) hx hb (by omega) (by omega) nd_CM_least_25 rfl (fun hc25 => ?_) (fun hc25 => ?_)
    · have hl : lv_has ls 7 [(4, .int (nI ((lm_ (h2_ n y) (2 ^ n - 1) i).2)))] := lv_sub hl [2] rfl
      have hin : i = 2 ^ n := by omega
      exact kx ls H locs (by simpa only [hin] using hl) hP hD hS
    · have hin : i < 2 ^ n := by omega
      have hr0 : g 12 i = nI (ma_r n (cb_m y 0) i) := by have := hrt 0 i (by omega) hin; rwa [Nat.mul_zero, Nat.zero_add] at this
      have hr1 : g 12 (1024 + i) = nI (ma_r n (cb_m y 1) i) := hrt 1 i (by omega) hin
      have hcl := mt_colt hin
      have hcs := bs_cosub hin
      have hr2 : g 12 (1024 + (2 ^ n - 1) - i) = nI (ma_r n (cb_m y 1) (mt_co n i)) := by rw [show 1024 + (2 ^ n - 1) - i = 1024 * 1 + mt_co n i by omega]; exact hrt 1 _ (by omega) hcl
      have hb0 := ma_rb (hv 0 (by omega)) hin
      have hb1 := ma_rb (hv 1 (by omega)) hin
      have hb2 := ma_rb (hv 1 (by omega)) hcl
      have hcn := mt_cd_le n i
      have hc10 := bs_cd10 hn hin
      have hhb := h2_le hn (hv 0 (by omega)) (hv 1 (by omega)) hin
      refine lv_iload_n hx hb nd_CM_least_28 rfl (lv_at hl 4 rfl) ?_
      refine wi_if_eq (tgt := 65) hx hb (by decide) nd_CM_least_29 rfl (fun h => absurd h (by decide)) (fun _ => ?_)
      refine lv_aload_n hx hb nd_CM_least_32 rfl (lv_at hl 3 rfl) ?_
      refine va_get (D := D) (C := nr_CM) (T := nt_CM) (N := 14) hx hb htg tf_CM hown hK hP 0 rfl rfl 13 (by decide) (htg _ tm_396) (fun _ h => h) rfl nd_CM_least_33 ?_
      refine lv_iload hx hb nd_CM_least_36 (lv_at hl 0 rfl) ?_
      refine wi_iald hx hb hK hP 13 0 rfl rfl (by omega) (by omega) nd_CM_least_38 ?_
      refine wi_top (hr0) ?_
      refine lv_aload_n hx hb nd_CM_least_39 rfl (lv_at hl 3 rfl) ?_
      refine va_get (D := D) (C := nr_CM) (T := nt_CM) (N := 14) hx hb htg tf_CM hown hK hP 0 rfl rfl 13 (by decide) (htg _ tm_396) (fun _ h => h) rfl nd_CM_least_40 ?_
      refine lv_sipush (v := nI 1024) hx hb nd_CM_least_43 (by decide) ?_
      refine lv_iload hx hb nd_CM_least_46 (lv_at hl 0 rfl) ?_
      refine wi_iadd hx hb nd_CM_least_48 ?_
      refine wi_iald hx hb hK hP 13 0 rfl rfl (by omega) (by omega) nd_CM_least_49 ?_
      refine wi_top (hr1) ?_
      refine wi_iadd hx hb nd_CM_least_50 ?_
      refine lv_aload_n hx hb nd_CM_least_51 rfl (lv_at hl 3 rfl) ?_
      refine va_get (D := D) (C := nr_CM) (T := nt_CM) (N := 14) hx hb htg tf_CM hown hK hP 0 rfl rfl 0 (by decide) (htg _ tm_383) (fun _ h => h) rfl nd_CM_least_52 ?_
      refine wi_iadd hx hb nd_CM_least_55 ?_
      refine lv_iload hx hb nd_CM_least_56 (lv_at hl 0 rfl) ?_
      refine wc_S (n := 1) hx hb hml hown htg (c_CM_sizeOf l D cI cG cM i (by omega)) tm_489 tm_487 tm_488 tm_9 (by decide +kernel) ⟨⟨Nat.le_trans (by decide) hRf, Nat.le_trans (by decide) hRl⟩, rfl, rfl⟩ (wa_pre wa_nil hK hN) rfl hl.1 rfl (Nat.le_of_ble_eq_true rfl) nd_CM_least_58 hCS ?_
      have hcd58 := mt_cd_le 10 i
      refine wi_isub hx hb (by omega) nd_CM_least_61 ?_
      refine lv_goto (tgt := 86) hx hb nd_CM_least_62 rfl ?_
      refine wi_top (congrArg nI (show _ = h2_ n y i by unfold h2_; simp only [cb_01]; simp only [cb_01] at hb0 hb1 hb2; omega)) ?_
      refine lv_istore hx hb nd_CM_least_86 hl (by decide) rfl (fun ls hl => ?_)
      have hl : lv_has ls 7 [(6, .int (nI (h2_ n y i))), (5, .int (nI (i))), (3, .int (nI ((lm_ (h2_ n y) (2 ^ n - 1) i).1))), (4, .int (nI ((lm_ (h2_ n y) (2 ^ n - 1) i).2))), (0, .ref (q 0)), (1, .int (nI (1))), (2, .int (nI (2 ^ n - 1)))] := hl
      refine lv_iload hx hb nd_CM_least_88 (lv_at hl 0 rfl) ?_
      refine lv_iload_n hx hb nd_CM_least_90 rfl (lv_at hl 2 rfl) ?_
      refine wi_icmp_ge (tgt := 99) hx hb (by omega) (by omega) nd_CM_least_91 rfl (fun hc91 => ?_) (fun hc91 => ?_)
      · refine lv_iload hx hb nd_CM_least_99 (lv_at hl 0 rfl) ?_
        refine lv_iload_n hx hb nd_CM_least_101 rfl (lv_at hl 2 rfl) ?_
        refine wi_icmp_ne (tgt := 113) hx hb (by omega) (by omega) nd_CM_least_102 rfl (fun hc102 => ?_) (fun hc102 => ?_)
        · refine lv_iload hx hb nd_CM_least_113 (lv_at hl 3 rfl) ?_
          refine lv_istore hx hb nd_CM_least_115 hl (by decide) rfl (fun ls hl => ?_)
          have hl : lv_has ls 7 [(4, .int (nI ((lm_ (h2_ n y) (2 ^ n - 1) i).2))), (6, .int (nI (h2_ n y i))), (5, .int (nI (i))), (3, .int (nI ((lm_ (h2_ n y) (2 ^ n - 1) i).1))), (0, .ref (q 0)), (1, .int (nI (1))), (2, .int (nI (2 ^ n - 1)))] := hl
          refine lv_iload hx hb nd_CM_least_117 (lv_at hl 1 rfl) ?_
          refine lv_iload_n hx hb nd_CM_least_119 rfl (lv_at hl 3 rfl) ?_
          refine wi_icmp_ge (tgt := 128) hx hb (by omega) (by omega) nd_CM_least_120 rfl (fun hc120 => ?_) (fun hc120 => ?_)
          · refine lv_iload_n hx hb nd_CM_least_128 rfl (lv_at hl 3 rfl) ?_
            refine lv_istore_n hx hb nd_CM_least_129 rfl hl (by decide) rfl (fun ls hl => ?_)
            have hl : lv_has ls 7 [(3, .int (nI ((lm_ (h2_ n y) (2 ^ n - 1) i).1))), (4, .int (nI ((lm_ (h2_ n y) (2 ^ n - 1) i).2))), (6, .int (nI (h2_ n y i))), (5, .int (nI (i))), (0, .ref (q 0)), (1, .int (nI (1))), (2, .int (nI (2 ^ n - 1)))] := hl
            refine lv_iinc (k := 3) (v := nI (i + 1)) hx hb nd_CM_least_130 hl rfl (wi_inc _ 1) (by decide) rfl (fun ls hl => ?_)
            have hl : lv_has ls 7 [(5, .int (nI (i + 1))), (3, .int (nI ((lm_ (h2_ n y) (2 ^ n - 1) i).1))), (4, .int (nI ((lm_ (h2_ n y) (2 ^ n - 1) i).2))), (6, .int (nI (h2_ n y i))), (0, .ref (q 0)), (1, .int (nI (1))), (2, .int (nI (2 ^ n - 1)))] := hl
            refine lv_goto (tgt := 22) hx hb nd_CM_least_133 rfl ?_
            have hl : lv_has ls 7 [(5, .int (nI (i + 1))), (3, .int (nI ((lm_ (h2_ n y) (2 ^ n - 1) i).1))), (4, .int (nI ((lm_ (h2_ n y) (2 ^ n - 1) i).2))), (0, .ref (q 0)), (1, .int (nI (1))), (2, .int (nI (2 ^ n - 1)))] := lv_sub hl [0, 1, 2, 4, 5, 6] rfl
            have hlm : lm_ (h2_ n y) (2 ^ n - 1) (i + 1) = ((lm_ (h2_ n y) (2 ^ n - 1) i).1, (lm_ (h2_ n y) (2 ^ n - 1) i).2) := by simp only [lm_]; rw [if_neg (by omega), if_neg (by omega), if_neg hc102]
            exact ih (i + 1) ls H locs (by omega) (by omega) (by rw [hlm]; exact hl) hP hD hS
          · refine lv_iload hx hb nd_CM_least_123 (lv_at hl 1 rfl) ?_
            refine lv_goto (tgt := 129) hx hb nd_CM_least_125 rfl ?_
            refine lv_istore_n hx hb nd_CM_least_129 rfl hl (by decide) rfl (fun ls hl => ?_)
            have hl : lv_has ls 7 [(3, .int (nI (h2_ n y i))), (4, .int (nI ((lm_ (h2_ n y) (2 ^ n - 1) i).2))), (6, .int (nI (h2_ n y i))), (5, .int (nI (i))), (0, .ref (q 0)), (1, .int (nI (1))), (2, .int (nI (2 ^ n - 1)))] := hl
            refine lv_iinc (k := 3) (v := nI (i + 1)) hx hb nd_CM_least_130 hl rfl (wi_inc _ 1) (by decide) rfl (fun ls hl => ?_)
            have hl : lv_has ls 7 [(5, .int (nI (i + 1))), (3, .int (nI (h2_ n y i))), (4, .int (nI ((lm_ (h2_ n y) (2 ^ n - 1) i).2))), (6, .int (nI (h2_ n y i))), (0, .ref (q 0)), (1, .int (nI (1))), (2, .int (nI (2 ^ n - 1)))] := hl
            refine lv_goto (tgt := 22) hx hb nd_CM_least_133 rfl ?_
            have hl : lv_has ls 7 [(5, .int (nI (i + 1))), (3, .int (nI (h2_ n y i))), (4, .int (nI ((lm_ (h2_ n y) (2 ^ n - 1) i).2))), (0, .ref (q 0)), (1, .int (nI (1))), (2, .int (nI (2 ^ n - 1)))] := lv_sub hl [0, 1, 2, 4, 5, 6] rfl
            exact absurd hc120 (by omega)
        · refine lv_iload hx hb nd_CM_least_105 (lv_at hl 3 rfl) ?_
          refine lv_iload hx hb nd_CM_least_107 (lv_at hl 1 rfl) ?_
          refine wi_iand hx hb nd_CM_least_109 ?_
          refine lv_goto (tgt := 115) hx hb nd_CM_least_110 rfl ?_
          refine lv_istore hx hb nd_CM_least_115 hl (by decide) rfl (fun ls hl => ?_)
          have hl : lv_has ls 7 [(4, .int (nI (((lm_ (h2_ n y) (2 ^ n - 1) i).2) &&& i))), (6, .int (nI (h2_ n y i))), (5, .int (nI (i))), (3, .int (nI ((lm_ (h2_ n y) (2 ^ n - 1) i).1))), (0, .ref (q 0)), (1, .int (nI (1))), (2, .int (nI (2 ^ n - 1)))] := hl
          refine lv_iload hx hb nd_CM_least_117 (lv_at hl 1 rfl) ?_
          refine lv_iload_n hx hb nd_CM_least_119 rfl (lv_at hl 3 rfl) ?_
          refine wi_icmp_ge (tgt := 128) hx hb (by omega) (by omega) nd_CM_least_120 rfl (fun hc120 => ?_) (fun hc120 => ?_)
          · refine lv_iload_n hx hb nd_CM_least_128 rfl (lv_at hl 3 rfl) ?_
            refine lv_istore_n hx hb nd_CM_least_129 rfl hl (by decide) rfl (fun ls hl => ?_)
            have hl : lv_has ls 7 [(3, .int (nI ((lm_ (h2_ n y) (2 ^ n - 1) i).1))), (4, .int (nI (((lm_ (h2_ n y) (2 ^ n - 1) i).2) &&& i))), (6, .int (nI (h2_ n y i))), (5, .int (nI (i))), (0, .ref (q 0)), (1, .int (nI (1))), (2, .int (nI (2 ^ n - 1)))] := hl
            refine lv_iinc (k := 3) (v := nI (i + 1)) hx hb nd_CM_least_130 hl rfl (wi_inc _ 1) (by decide) rfl (fun ls hl => ?_)
            have hl : lv_has ls 7 [(5, .int (nI (i + 1))), (3, .int (nI ((lm_ (h2_ n y) (2 ^ n - 1) i).1))), (4, .int (nI (((lm_ (h2_ n y) (2 ^ n - 1) i).2) &&& i))), (6, .int (nI (h2_ n y i))), (0, .ref (q 0)), (1, .int (nI (1))), (2, .int (nI (2 ^ n - 1)))] := hl
            refine lv_goto (tgt := 22) hx hb nd_CM_least_133 rfl ?_
            have hl : lv_has ls 7 [(5, .int (nI (i + 1))), (3, .int (nI ((lm_ (h2_ n y) (2 ^ n - 1) i).1))), (4, .int (nI (((lm_ (h2_ n y) (2 ^ n - 1) i).2) &&& i))), (0, .ref (q 0)), (1, .int (nI (1))), (2, .int (nI (2 ^ n - 1)))] := lv_sub hl [0, 1, 2, 4, 5, 6] rfl
            have hlm : lm_ (h2_ n y) (2 ^ n - 1) (i + 1) = ((lm_ (h2_ n y) (2 ^ n - 1) i).1, (lm_ (h2_ n y) (2 ^ n - 1) i).2 &&& i) := by simp only [lm_]; rw [if_neg (by omega), if_neg (by omega), if_pos hc102]
            exact ih (i + 1) ls H locs (by omega) (by omega) (by rw [hlm]; exact hl) hP hD hS
          · refine lv_iload hx hb nd_CM_least_123 (lv_at hl 1 rfl) ?_
            refine lv_goto (tgt := 129) hx hb nd_CM_least_125 rfl ?_
            refine lv_istore_n hx hb nd_CM_least_129 rfl hl (by decide) rfl (fun ls hl => ?_)
            have hl : lv_has ls 7 [(3, .int (nI (h2_ n y i))), (4, .int (nI (((lm_ (h2_ n y) (2 ^ n - 1) i).2) &&& i))), (6, .int (nI (h2_ n y i))), (5, .int (nI (i))), (0, .ref (q 0)), (1, .int (nI (1))), (2, .int (nI (2 ^ n - 1)))] := hl
            refine lv_iinc (k := 3) (v := nI (i + 1)) hx hb nd_CM_least_130 hl rfl (wi_inc _ 1) (by decide) rfl (fun ls hl => ?_)
            have hl : lv_has ls 7 [(5, .int (nI (i + 1))), (3, .int (nI (h2_ n y i))), (4, .int (nI (((lm_ (h2_ n y) (2 ^ n - 1) i).2) &&& i))), (6, .int (nI (h2_ n y i))), (0, .ref (q 0)), (1, .int (nI (1))), (2, .int (nI (2 ^ n - 1)))] := hl
            refine lv_goto (tgt := 22) hx hb nd_CM_least_133 rfl ?_
            have hl : lv_has ls 7 [(5, .int (nI (i + 1))), (3, .int (nI (h2_ n y i))), (4, .int (nI (((lm_ (h2_ n y) (2 ^ n - 1) i).2) &&& i))), (0, .ref (q 0)), (1, .int (nI (1))), (2, .int (nI (2 ^ n - 1)))] := lv_sub hl [0, 1, 2, 4, 5, 6] rfl
            exact absurd hc120 (by omega)
      · refine lv_iload hx hb nd_CM_least_94 (lv_at hl 1 rfl) ?_
        refine lv_goto (tgt := 115) hx hb nd_CM_least_96 rfl ?_
        refine lv_istore hx hb nd_CM_least_115 hl (by decide) rfl (fun ls hl => ?_)
        have hl : lv_has ls 7 [(4, .int (nI (i))), (6, .int (nI (h2_ n y i))), (5, .int (nI (i))), (3, .int (nI ((lm_ (h2_ n y) (2 ^ n - 1) i).1))), (0, .ref (q 0)), (1, .int (nI (1))), (2, .int (nI (2 ^ n - 1)))] := hl
        refine lv_iload hx hb nd_CM_least_117 (lv_at hl 1 rfl) ?_
        refine lv_iload_n hx hb nd_CM_least_119 rfl (lv_at hl 3 rfl) ?_
        refine wi_icmp_ge (tgt := 128) hx hb (by omega) (by omega) nd_CM_least_120 rfl (fun hc120 => ?_) (fun hc120 => ?_)
        · refine lv_iload_n hx hb nd_CM_least_128 rfl (lv_at hl 3 rfl) ?_
          refine lv_istore_n hx hb nd_CM_least_129 rfl hl (by decide) rfl (fun ls hl => ?_)
          have hl : lv_has ls 7 [(3, .int (nI ((lm_ (h2_ n y) (2 ^ n - 1) i).1))), (4, .int (nI (i))), (6, .int (nI (h2_ n y i))), (5, .int (nI (i))), (0, .ref (q 0)), (1, .int (nI (1))), (2, .int (nI (2 ^ n - 1)))] := hl
          refine lv_iinc (k := 3) (v := nI (i + 1)) hx hb nd_CM_least_130 hl rfl (wi_inc _ 1) (by decide) rfl (fun ls hl => ?_)
          have hl : lv_has ls 7 [(5, .int (nI (i + 1))), (3, .int (nI ((lm_ (h2_ n y) (2 ^ n - 1) i).1))), (4, .int (nI (i))), (6, .int (nI (h2_ n y i))), (0, .ref (q 0)), (1, .int (nI (1))), (2, .int (nI (2 ^ n - 1)))] := hl
          refine lv_goto (tgt := 22) hx hb nd_CM_least_133 rfl ?_
          have hl : lv_has ls 7 [(5, .int (nI (i + 1))), (3, .int (nI ((lm_ (h2_ n y) (2 ^ n - 1) i).1))), (4, .int (nI (i))), (0, .ref (q 0)), (1, .int (nI (1))), (2, .int (nI (2 ^ n - 1)))] := lv_sub hl [0, 1, 2, 4, 5, 6] rfl
          exact absurd hc120 (by omega)
        · refine lv_iload hx hb nd_CM_least_123 (lv_at hl 1 rfl) ?_
          refine lv_goto (tgt := 129) hx hb nd_CM_least_125 rfl ?_
          refine lv_istore_n hx hb nd_CM_least_129 rfl hl (by decide) rfl (fun ls hl => ?_)
          have hl : lv_has ls 7 [(3, .int (nI (h2_ n y i))), (4, .int (nI (i))), (6, .int (nI (h2_ n y i))), (5, .int (nI (i))), (0, .ref (q 0)), (1, .int (nI (1))), (2, .int (nI (2 ^ n - 1)))] := hl
          refine lv_iinc (k := 3) (v := nI (i + 1)) hx hb nd_CM_least_130 hl rfl (wi_inc _ 1) (by decide) rfl (fun ls hl => ?_)
          have hl : lv_has ls 7 [(5, .int (nI (i + 1))), (3, .int (nI (h2_ n y i))), (4, .int (nI (i))), (6, .int (nI (h2_ n y i))), (0, .ref (q 0)), (1, .int (nI (1))), (2, .int (nI (2 ^ n - 1)))] := hl
          refine lv_goto (tgt := 22) hx hb nd_CM_least_133 rfl ?_
          have hl : lv_has ls 7 [(5, .int (nI (i + 1))), (3, .int (nI (h2_ n y i))), (4, .int (nI (i))), (0, .ref (q 0)), (1, .int (nI (1))), (2, .int (nI (2 ^ n - 1)))] := lv_sub hl [0, 1, 2, 4, 5, 6] rfl
          have hlm : lm_ (h2_ n y) (2 ^ n - 1) (i + 1) = (h2_ n y i, i) := by simp only [lm_]; rw [if_pos (by omega), if_pos (by omega)]
          exact ih (i + 1) ls H locs (by omega) (by omega) (by rw [hlm]; exact hl) hP hD hS
set_option maxRecDepth 20000 in
theorem c_CM_least1 (l : Launch) (D : va_G) (cI cG cM : ClassId)  (q : Nat → Nat) (n : Nat) (hn1 : 1 ≤ n) (hn : n ≤ 10) (g : rf_S) (y : cb_Y) (hI : rf_I n y g)  (sz : Nat) : wb_Mi l ny_CM_least nc_CM_least 7 (some .int) ({ frames := 4, cells := 0, slots := 0, locals := 98 }) D (ty_all cI cG cM) (rf_ cI q n g) sz [.ref (q 0), .int (nI (1))] (fun (v : Int32) (u : rf_S) => v = nI (fi_ (h2_ n y) (2 ^ n - 1)) ∧ rf_I n y u) (fun u : rf_S => rf_ cI q n u) := by
  refine wb_start (S := rf_S) (by decide) (Nat.le_of_ble_eq_true rfl) ?_
  intro p e0 s0 m below meth c ls A hx hb hr hml htg hown hk hP hK hN hl hAe hsz hD hA
  have hl : lv_has ls 7 [(0, .ref (q 0)), (1, .int (nI (1)))] := hl
  have hP : va_P D cl_all ([((q 0), .inr (6, [.int (nI (n)), .ref (q 2), .ref (q 3), .ref (q 4), .ref (q 5), .ref (q 6), .ref (q 7), .ref (q 8), .ref (q 9), .ref (q 10), .ref (q 11), .ref (q 12), .ref (q 13), .ref (q 14)])), ((q 2), .inl (cI, 10, .inl (g 0))), ((q 3), .inl (cI, 2, .inl (g 1))), ((q 4), .inl (cI, 2, .inl (g 2))), ((q 5), .inl (cI, 2, .inl (g 3))), ((q 6), .inl (cI, 20, .inl (g 4))), ((q 7), .inl (cI, 20, .inl (g 5))), ((q 8), .inl (cI, 20, .inl (g 6))), ((q 9), .inl (cI, 8, .inl (g 7))), ((q 10), .inl (cI, 80, .inl (g 8))), ((q 11), .inl (cI, 8, .inl (g 9))), ((q 12), .inl (cI, 16, .inl (g 10))), ((q 13), .inl (cI, 16, .inl (g 11))), ((q 14), .inl (cI, 2048, .inl (g 12)))]) s0.heap := hP
  have hD : va_D A ([((q 0), .inr (6, [.int (nI (n)), .ref (q 2), .ref (q 3), .ref (q 4), .ref (q 5), .ref (q 6), .ref (q 7), .ref (q 8), .ref (q 9), .ref (q 10), .ref (q 11), .ref (q 12), .ref (q 13), .ref (q 14)])), ((q 2), .inl (cI, 10, .inl (g 0))), ((q 3), .inl (cI, 2, .inl (g 1))), ((q 4), .inl (cI, 2, .inl (g 2))), ((q 5), .inl (cI, 2, .inl (g 3))), ((q 6), .inl (cI, 20, .inl (g 4))), ((q 7), .inl (cI, 20, .inl (g 5))), ((q 8), .inl (cI, 20, .inl (g 6))), ((q 9), .inl (cI, 8, .inl (g 7))), ((q 10), .inl (cI, 80, .inl (g 8))), ((q 11), .inl (cI, 8, .inl (g 9))), ((q 12), .inl (cI, 16, .inl (g 10))), ((q 13), .inl (cI, 16, .inl (g 11))), ((q 14), .inl (cI, 2048, .inl (g 12)))]) := hD
  have hS : va_S A s0.heap s0.heap [] := va_S.rf
  have hRf : 4 ≤ ({ frames := 4, cells := 0, slots := 0, locals := 98 } : Room).frames := Nat.le_refl _
  have hRl : 98 ≤ ({ frames := 4, cells := 0, slots := 0, locals := 98 } : Room).locals := Nat.le_refl _
  have hCS : 0 ≤ ({ frames := 4, cells := 0, slots := 0, locals := 98 } : Room).cells ∧ 0 ≤ ({ frames := 4, cells := 0, slots := 0, locals := 98 } : Room).slots := ⟨Nat.zero_le _, Nat.zero_le _⟩
  have h2n : 2 ^ n ≤ 1024 := Nat.pow_le_pow_right (by omega) hn
  have h2p : 1 ≤ 2 ^ n := Nat.one_le_two_pow
  refine lv_aload_n hx hb nd_CM_least_0 rfl (lv_at hl 0 rfl) ?_
  refine wd_Vv0 (C := nr_CM) (n := 0) (Y := rf_ cI q n g) hx hb hml hown htg (c_CM_work l D cI cG cM q n hn1 hn g y hI _) tm_513 tm_510 tm_512 tp_20 tm_9 (by decide +kernel) ⟨⟨Nat.le_trans (by decide) hRf, Nat.le_trans (by decide) hRl⟩, rfl, rfl⟩ hP hD hS hA hK hN (va_recv (q0 := 0) (ci := 6) hK hP rfl rfl) rfl hl.1 rfl (Nat.le_of_ble_eq_true rfl) nd_CM_least_1 hCS (fun u1 H locs hp1 hP hD hS => ?_)
  have hP : va_P D cl_all ([((q 0), .inr (6, [.int (nI (n)), .ref (q 2), .ref (q 3), .ref (q 4), .ref (q 5), .ref (q 6), .ref (q 7), .ref (q 8), .ref (q 9), .ref (q 10), .ref (q 11), .ref (q 12), .ref (q 13), .ref (q 14)])), ((q 2), .inl (cI, 10, .inl (u1 0))), ((q 3), .inl (cI, 2, .inl (u1 1))), ((q 4), .inl (cI, 2, .inl (u1 2))), ((q 5), .inl (cI, 2, .inl (u1 3))), ((q 6), .inl (cI, 20, .inl (u1 4))), ((q 7), .inl (cI, 20, .inl (u1 5))), ((q 8), .inl (cI, 20, .inl (u1 6))), ((q 9), .inl (cI, 8, .inl (u1 7))), ((q 10), .inl (cI, 80, .inl (u1 8))), ((q 11), .inl (cI, 8, .inl (u1 9))), ((q 12), .inl (cI, 16, .inl (u1 10))), ((q 13), .inl (cI, 16, .inl (u1 11))), ((q 14), .inl (cI, 2048, .inl (u1 12)))]) H := hP
  have hD : va_D A ([((q 0), .inr (6, [.int (nI (n)), .ref (q 2), .ref (q 3), .ref (q 4), .ref (q 5), .ref (q 6), .ref (q 7), .ref (q 8), .ref (q 9), .ref (q 10), .ref (q 11), .ref (q 12), .ref (q 13), .ref (q 14)])), ((q 2), .inl (cI, 10, .inl (u1 0))), ((q 3), .inl (cI, 2, .inl (u1 1))), ((q 4), .inl (cI, 2, .inl (u1 2))), ((q 5), .inl (cI, 2, .inl (u1 3))), ((q 6), .inl (cI, 20, .inl (u1 4))), ((q 7), .inl (cI, 20, .inl (u1 5))), ((q 8), .inl (cI, 20, .inl (u1 6))), ((q 9), .inl (cI, 8, .inl (u1 7))), ((q 10), .inl (cI, 80, .inl (u1 8))), ((q 11), .inl (cI, 8, .inl (u1 9))), ((q 12), .inl (cI, 16, .inl (u1 10))), ((q 13), .inl (cI, 16, .inl (u1 11))), ((q 14), .inl (cI, 2048, .inl (u1 12)))]) := hD
  refine wi_ic hx hb (a := 1) nd_CM_least_4 ?_
  refine lv_aload_n hx hb nd_CM_least_5 rfl (lv_at hl 0 rfl) ?_
  refine va_get (D := D) (C := nr_CM) (T := nt_CM) (N := 14) hx hb htg tf_CM hown hK hP 0 rfl rfl 0 (by decide) (htg _ tm_383) (fun _ h => h) rfl nd_CM_least_6 ?_
  refine wi_ishl1 hx hb (by omega) nd_CM_least_9 ?_
  refine wi_ic hx hb (a := 1) nd_CM_least_10 ?_
  refine wi_isub hx hb (by omega) nd_CM_least_11 ?_
  refine lv_istore_n hx hb nd_CM_least_12 rfl hl (by decide) rfl (fun ls hl => ?_)
  have hl : lv_has ls 7 [(2, .int (nI ((2 ^ n) - 1))), (0, .ref (q 0)), (1, .int (nI (1)))] := hl
  refine lv_bipush (v := nI 100) hx hb nd_CM_least_13 (by decide) ?_
  refine lv_istore_n hx hb nd_CM_least_15 rfl hl (by decide) rfl (fun ls hl => ?_)
  have hl : lv_has ls 7 [(3, .int (nI (100))), (2, .int (nI ((2 ^ n) - 1))), (0, .ref (q 0)), (1, .int (nI (1)))] := hl
  refine lv_iload_n hx hb nd_CM_least_16 rfl (lv_at hl 1 rfl) ?_
  refine lv_istore hx hb nd_CM_least_17 hl (by decide) rfl (fun ls hl => ?_)
  have hl : lv_has ls 7 [(4, .int (nI ((2 ^ n) - 1))), (3, .int (nI (100))), (2, .int (nI ((2 ^ n) - 1))), (0, .ref (q 0)), (1, .int (nI (1)))] := hl
  refine wi_ic hx hb (a := 0) nd_CM_least_19 ?_
  refine lv_istore hx hb nd_CM_least_20 hl (by decide) rfl (fun ls hl => ?_)
  have hl : lv_has ls 7 [(5, .int (nI (0))), (4, .int (nI ((2 ^ n) - 1))), (3, .int (nI (100))), (2, .int (nI ((2 ^ n) - 1))), (0, .ref (q 0)), (1, .int (nI (1)))] := hl
  have hl : lv_has ls 7 [(5, .int (nI (0))), (3, .int (nI (100))), (4, .int (nI ((2 ^ n) - 1))), (0, .ref (q 0)), (1, .int (nI (1))), (2, .int (nI ((2 ^ n) - 1)))] := lv_sub hl [0, 2, 1, 4, 5, 3] rfl
  refine lp_CM_least1 cI cG cM q n hn1 hn u1 y hp1.2 (fun w hw => (hI.2 w hw).1) hx hb hml htg hown hK hN hA hRf hRl hCS (fun ls H locs hl hP hD hS => ?_) (2 ^ n + 1) 0 ls H locs (by omega) (by omega) hl hP hD hS
  have hle := lm_e (h := h2_ n y) (mt_sub_j (ma_M (hI.2 0 (by omega)).1) (ma_M (hI.2 1 (by omega)).1)) (fun s hs => h2_le hn (hI.2 0 (by omega)).1 (hI.2 1 (by omega)).1 hs)
  refine lv_iload hx hb nd_CM_least_136 (lv_at hl 0 rfl) ?_
  exact wb_iret u1 hx hb hr hk hAe (⟨congrArg nI hle, rf_keep hn (fun j hj => hp1.1 j hj) hI⟩) hP hD hS nd_CM_least_138
theorem nd_CM_witness_0 : decode nc_CM_witness 0 = .ok (.aload_n 0, 1) := by decide +kernel
theorem nd_CM_witness_1 : decode nc_CM_witness 1 = .ok (.iconst 0, 1) := by decide +kernel
theorem nd_CM_witness_2 : decode nc_CM_witness 2 = .ok (.invokevirtual 101, 3) := by decide +kernel
theorem nd_CM_witness_5 : decode nc_CM_witness 5 = .ok (.ireturn, 1) := by decide +kernel
set_option maxRecDepth 20000 in
theorem c_CM_witness (l : Launch) (D : va_G) (cI cG cM : ClassId)  (q : Nat → Nat) (n : Nat) (hn1 : 1 ≤ n) (hn : n ≤ 10) (g : rf_S) (y : cb_Y) (hI : rf_I n y g)  (sz : Nat) : wb_Mi l ny_CM_witness nc_CM_witness 1 (some .int) ({ frames := 5, cells := 0, slots := 0, locals := 124 }) D (ty_all cI cG cM) (rf_ cI q n g) sz [.ref (q 0)] (fun (v : Int32) (u : rf_S) => v = nI (fi_ (h1_ n y) (2 ^ n - 1)) ∧ rf_I n y u) (fun u : rf_S => rf_ cI q n u) := by
  refine wb_start (S := rf_S) (by decide) (Nat.le_of_ble_eq_true rfl) ?_
  intro p e0 s0 m below meth c ls A hx hb hr hml htg hown hk hP hK hN hl hAe hsz hD hA
  have hl : lv_has ls 1 [(0, .ref (q 0))] := hl
  have hP : va_P D cl_all ([((q 0), .inr (6, [.int (nI (n)), .ref (q 2), .ref (q 3), .ref (q 4), .ref (q 5), .ref (q 6), .ref (q 7), .ref (q 8), .ref (q 9), .ref (q 10), .ref (q 11), .ref (q 12), .ref (q 13), .ref (q 14)])), ((q 2), .inl (cI, 10, .inl (g 0))), ((q 3), .inl (cI, 2, .inl (g 1))), ((q 4), .inl (cI, 2, .inl (g 2))), ((q 5), .inl (cI, 2, .inl (g 3))), ((q 6), .inl (cI, 20, .inl (g 4))), ((q 7), .inl (cI, 20, .inl (g 5))), ((q 8), .inl (cI, 20, .inl (g 6))), ((q 9), .inl (cI, 8, .inl (g 7))), ((q 10), .inl (cI, 80, .inl (g 8))), ((q 11), .inl (cI, 8, .inl (g 9))), ((q 12), .inl (cI, 16, .inl (g 10))), ((q 13), .inl (cI, 16, .inl (g 11))), ((q 14), .inl (cI, 2048, .inl (g 12)))]) s0.heap := hP
  have hD : va_D A ([((q 0), .inr (6, [.int (nI (n)), .ref (q 2), .ref (q 3), .ref (q 4), .ref (q 5), .ref (q 6), .ref (q 7), .ref (q 8), .ref (q 9), .ref (q 10), .ref (q 11), .ref (q 12), .ref (q 13), .ref (q 14)])), ((q 2), .inl (cI, 10, .inl (g 0))), ((q 3), .inl (cI, 2, .inl (g 1))), ((q 4), .inl (cI, 2, .inl (g 2))), ((q 5), .inl (cI, 2, .inl (g 3))), ((q 6), .inl (cI, 20, .inl (g 4))), ((q 7), .inl (cI, 20, .inl (g 5))), ((q 8), .inl (cI, 20, .inl (g 6))), ((q 9), .inl (cI, 8, .inl (g 7))), ((q 10), .inl (cI, 80, .inl (g 8))), ((q 11), .inl (cI, 8, .inl (g 9))), ((q 12), .inl (cI, 16, .inl (g 10))), ((q 13), .inl (cI, 16, .inl (g 11))), ((q 14), .inl (cI, 2048, .inl (g 12)))]) := hD
  have hS : va_S A s0.heap s0.heap [] := va_S.rf
  have hRf : 5 ≤ ({ frames := 5, cells := 0, slots := 0, locals := 124 } : Room).frames := Nat.le_refl _
  have hRl : 124 ≤ ({ frames := 5, cells := 0, slots := 0, locals := 124 } : Room).locals := Nat.le_refl _
  have hCS : 0 ≤ ({ frames := 5, cells := 0, slots := 0, locals := 124 } : Room).cells ∧ 0 ≤ ({ frames := 5, cells := 0, slots := 0, locals := 124 } : Room).slots := ⟨Nat.zero_le _, Nat.zero_le _⟩
  have h2n : 2 ^ n ≤ 1024 := Nat.pow_le_pow_right (by omega) hn
  have h2p : 1 ≤ 2 ^ n := Nat.one_le_two_pow
  refine lv_aload_n hx hb nd_CM_witness_0 rfl (lv_at hl 0 rfl) ?_
  refine wi_ic hx hb (a := 0) nd_CM_witness_1 ?_
  refine wd_Vi0 (C := nr_CM) (n := 1) (Y := rf_ cI q n g) hx hb hml hown htg (c_CM_least0 l D cI cG cM q n hn1 hn g y hI _) tm_557 tm_554 tm_556 tp_24 tm_9 (by decide +kernel) ⟨⟨Nat.le_trans (by decide) hRf, Nat.le_trans (by decide) hRl⟩, rfl, rfl⟩ hP hD hS hA hK hN (va_recv (q0 := 0) (ci := 6) hK hP rfl rfl) rfl hl.1 rfl (Nat.le_of_ble_eq_true rfl) nd_CM_witness_2 hCS (fun v2 u2 H locs hp2 hP hD hS => ?_)
  have hP : va_P D cl_all ([((q 0), .inr (6, [.int (nI (n)), .ref (q 2), .ref (q 3), .ref (q 4), .ref (q 5), .ref (q 6), .ref (q 7), .ref (q 8), .ref (q 9), .ref (q 10), .ref (q 11), .ref (q 12), .ref (q 13), .ref (q 14)])), ((q 2), .inl (cI, 10, .inl (u2 0))), ((q 3), .inl (cI, 2, .inl (u2 1))), ((q 4), .inl (cI, 2, .inl (u2 2))), ((q 5), .inl (cI, 2, .inl (u2 3))), ((q 6), .inl (cI, 20, .inl (u2 4))), ((q 7), .inl (cI, 20, .inl (u2 5))), ((q 8), .inl (cI, 20, .inl (u2 6))), ((q 9), .inl (cI, 8, .inl (u2 7))), ((q 10), .inl (cI, 80, .inl (u2 8))), ((q 11), .inl (cI, 8, .inl (u2 9))), ((q 12), .inl (cI, 16, .inl (u2 10))), ((q 13), .inl (cI, 16, .inl (u2 11))), ((q 14), .inl (cI, 2048, .inl (u2 12)))]) H := hP
  have hD : va_D A ([((q 0), .inr (6, [.int (nI (n)), .ref (q 2), .ref (q 3), .ref (q 4), .ref (q 5), .ref (q 6), .ref (q 7), .ref (q 8), .ref (q 9), .ref (q 10), .ref (q 11), .ref (q 12), .ref (q 13), .ref (q 14)])), ((q 2), .inl (cI, 10, .inl (u2 0))), ((q 3), .inl (cI, 2, .inl (u2 1))), ((q 4), .inl (cI, 2, .inl (u2 2))), ((q 5), .inl (cI, 2, .inl (u2 3))), ((q 6), .inl (cI, 20, .inl (u2 4))), ((q 7), .inl (cI, 20, .inl (u2 5))), ((q 8), .inl (cI, 20, .inl (u2 6))), ((q 9), .inl (cI, 8, .inl (u2 7))), ((q 10), .inl (cI, 80, .inl (u2 8))), ((q 11), .inl (cI, 8, .inl (u2 9))), ((q 12), .inl (cI, 16, .inl (u2 10))), ((q 13), .inl (cI, 16, .inl (u2 11))), ((q 14), .inl (cI, 2048, .inl (u2 12)))]) := hD
  exact wb_iret u2 hx hb hr hk hAe hp2 hP hD hS nd_CM_witness_5
theorem nd_CM_jointWitness_0 : decode nc_CM_jointWitness 0 = .ok (.aload_n 0, 1) := by decide +kernel
theorem nd_CM_jointWitness_1 : decode nc_CM_jointWitness 1 = .ok (.iconst 1, 1) := by decide +kernel
theorem nd_CM_jointWitness_2 : decode nc_CM_jointWitness 2 = .ok (.invokevirtual 101, 3) := by decide +kernel
theorem nd_CM_jointWitness_5 : decode nc_CM_jointWitness 5 = .ok (.ireturn, 1) := by decide +kernel
set_option maxRecDepth 20000 in
theorem c_CM_jointWitness (l : Launch) (D : va_G) (cI cG cM : ClassId)  (q : Nat → Nat) (n : Nat) (hn1 : 1 ≤ n) (hn : n ≤ 10) (g : rf_S) (y : cb_Y) (hI : rf_I n y g)  (sz : Nat) : wb_Mi l ny_CM_jointWitness nc_CM_jointWitness 1 (some .int) ({ frames := 5, cells := 0, slots := 0, locals := 124 }) D (ty_all cI cG cM) (rf_ cI q n g) sz [.ref (q 0)] (fun (v : Int32) (u : rf_S) => v = nI (fi_ (h2_ n y) (2 ^ n - 1)) ∧ rf_I n y u) (fun u : rf_S => rf_ cI q n u) := by
  refine wb_start (S := rf_S) (by decide) (Nat.le_of_ble_eq_true rfl) ?_
  intro p e0 s0 m below meth c ls A hx hb hr hml htg hown hk hP hK hN hl hAe hsz hD hA
  have hl : lv_has ls 1 [(0, .ref (q 0))] := hl
  have hP : va_P D cl_all ([((q 0), .inr (6, [.int (nI (n)), .ref (q 2), .ref (q 3), .ref (q 4), .ref (q 5), .ref (q 6), .ref (q 7), .ref (q 8), .ref (q 9), .ref (q 10), .ref (q 11), .ref (q 12), .ref (q 13), .ref (q 14)])), ((q 2), .inl (cI, 10, .inl (g 0))), ((q 3), .inl (cI, 2, .inl (g 1))), ((q 4), .inl (cI, 2, .inl (g 2))), ((q 5), .inl (cI, 2, .inl (g 3))), ((q 6), .inl (cI, 20, .inl (g 4))), ((q 7), .inl (cI, 20, .inl (g 5))), ((q 8), .inl (cI, 20, .inl (g 6))), ((q 9), .inl (cI, 8, .inl (g 7))), ((q 10), .inl (cI, 80, .inl (g 8))), ((q 11), .inl (cI, 8, .inl (g 9))), ((q 12), .inl (cI, 16, .inl (g 10))), ((q 13), .inl (cI, 16, .inl (g 11))), ((q 14), .inl (cI, 2048, .inl (g 12)))]) s0.heap := hP
  have hD : va_D A ([((q 0), .inr (6, [.int (nI (n)), .ref (q 2), .ref (q 3), .ref (q 4), .ref (q 5), .ref (q 6), .ref (q 7), .ref (q 8), .ref (q 9), .ref (q 10), .ref (q 11), .ref (q 12), .ref (q 13), .ref (q 14)])), ((q 2), .inl (cI, 10, .inl (g 0))), ((q 3), .inl (cI, 2, .inl (g 1))), ((q 4), .inl (cI, 2, .inl (g 2))), ((q 5), .inl (cI, 2, .inl (g 3))), ((q 6), .inl (cI, 20, .inl (g 4))), ((q 7), .inl (cI, 20, .inl (g 5))), ((q 8), .inl (cI, 20, .inl (g 6))), ((q 9), .inl (cI, 8, .inl (g 7))), ((q 10), .inl (cI, 80, .inl (g 8))), ((q 11), .inl (cI, 8, .inl (g 9))), ((q 12), .inl (cI, 16, .inl (g 10))), ((q 13), .inl (cI, 16, .inl (g 11))), ((q 14), .inl (cI, 2048, .inl (g 12)))]) := hD
  have hS : va_S A s0.heap s0.heap [] := va_S.rf
  have hRf : 5 ≤ ({ frames := 5, cells := 0, slots := 0, locals := 124 } : Room).frames := Nat.le_refl _
  have hRl : 124 ≤ ({ frames := 5, cells := 0, slots := 0, locals := 124 } : Room).locals := Nat.le_refl _
  have hCS : 0 ≤ ({ frames := 5, cells := 0, slots := 0, locals := 124 } : Room).cells ∧ 0 ≤ ({ frames := 5, cells := 0, slots := 0, locals := 124 } : Room).slots := ⟨Nat.zero_le _, Nat.zero_le _⟩
  have h2n : 2 ^ n ≤ 1024 := Nat.pow_le_pow_right (by omega) hn
  have h2p : 1 ≤ 2 ^ n := Nat.one_le_two_pow
  refine lv_aload_n hx hb nd_CM_jointWitness_0 rfl (lv_at hl 0 rfl) ?_
  refine wi_ic hx hb (a := 1) nd_CM_jointWitness_1 ?_
  refine wd_Vi0 (C := nr_CM) (n := 1) (Y := rf_ cI q n g) hx hb hml hown htg (c_CM_least1 l D cI cG cM q n hn1 hn g y hI _) tm_557 tm_554 tm_556 tp_24 tm_9 (by decide +kernel) ⟨⟨Nat.le_trans (by decide) hRf, Nat.le_trans (by decide) hRl⟩, rfl, rfl⟩ hP hD hS hA hK hN (va_recv (q0 := 0) (ci := 6) hK hP rfl rfl) rfl hl.1 rfl (Nat.le_of_ble_eq_true rfl) nd_CM_jointWitness_2 hCS (fun v2 u2 H locs hp2 hP hD hS => ?_)
  have hP : va_P D cl_all ([((q 0), .inr (6, [.int (nI (n)), .ref (q 2), .ref (q 3), .ref (q 4), .ref (q 5), .ref (q 6), .ref (q 7), .ref (q 8), .ref (q 9), .ref (q 10), .ref (q 11), .ref (q 12), .ref (q 13), .ref (q 14)])), ((q 2), .inl (cI, 10, .inl (u2 0))), ((q 3), .inl (cI, 2, .inl (u2 1))), ((q 4), .inl (cI, 2, .inl (u2 2))), ((q 5), .inl (cI, 2, .inl (u2 3))), ((q 6), .inl (cI, 20, .inl (u2 4))), ((q 7), .inl (cI, 20, .inl (u2 5))), ((q 8), .inl (cI, 20, .inl (u2 6))), ((q 9), .inl (cI, 8, .inl (u2 7))), ((q 10), .inl (cI, 80, .inl (u2 8))), ((q 11), .inl (cI, 8, .inl (u2 9))), ((q 12), .inl (cI, 16, .inl (u2 10))), ((q 13), .inl (cI, 16, .inl (u2 11))), ((q 14), .inl (cI, 2048, .inl (u2 12)))]) H := hP
  have hD : va_D A ([((q 0), .inr (6, [.int (nI (n)), .ref (q 2), .ref (q 3), .ref (q 4), .ref (q 5), .ref (q 6), .ref (q 7), .ref (q 8), .ref (q 9), .ref (q 10), .ref (q 11), .ref (q 12), .ref (q 13), .ref (q 14)])), ((q 2), .inl (cI, 10, .inl (u2 0))), ((q 3), .inl (cI, 2, .inl (u2 1))), ((q 4), .inl (cI, 2, .inl (u2 2))), ((q 5), .inl (cI, 2, .inl (u2 3))), ((q 6), .inl (cI, 20, .inl (u2 4))), ((q 7), .inl (cI, 20, .inl (u2 5))), ((q 8), .inl (cI, 20, .inl (u2 6))), ((q 9), .inl (cI, 8, .inl (u2 7))), ((q 10), .inl (cI, 80, .inl (u2 8))), ((q 11), .inl (cI, 8, .inl (u2 9))), ((q 12), .inl (cI, 16, .inl (u2 10))), ((q 13), .inl (cI, 16, .inl (u2 11))), ((q 14), .inl (cI, 2048, .inl (u2 12)))]) := hD
  exact wb_iret u2 hx hb hr hk hAe hp2 hP hD hS nd_CM_jointWitness_5
theorem nd_CM_isJoint_0 : decode nc_CM_isJoint 0 = .ok (.iload_n 1, 1) := by decide +kernel
theorem nd_CM_isJoint_1 : decode nc_CM_isJoint 1 = .ok (.istore_n 2, 1) := by decide +kernel
theorem nd_CM_isJoint_2 : decode nc_CM_isJoint 2 = .ok (.aload_n 0, 1) := by decide +kernel
theorem nd_CM_isJoint_3 : decode nc_CM_isJoint 3 = .ok (.iconst 0, 1) := by decide +kernel
theorem nd_CM_isJoint_4 : decode nc_CM_isJoint 4 = .ok (.iload_n 1, 1) := by decide +kernel
theorem nd_CM_isJoint_5 : decode nc_CM_isJoint 5 = .ok (.invokevirtual 92, 3) := by decide +kernel
theorem nd_CM_isJoint_8 : decode nc_CM_isJoint 8 = .ok (.istore_n 3, 1) := by decide +kernel
theorem nd_CM_isJoint_9 : decode nc_CM_isJoint 9 = .ok (.iload_n 2, 1) := by decide +kernel
theorem nd_CM_isJoint_10 : decode nc_CM_isJoint 10 = .ok (.ifCond .le 42, 3) := by decide +kernel
theorem nd_CM_isJoint_13 : decode nc_CM_isJoint 13 = .ok (.iload_n 3, 1) := by decide +kernel
theorem nd_CM_isJoint_14 : decode nc_CM_isJoint 14 = .ok (.ifCond .ne 38, 3) := by decide +kernel
theorem nd_CM_isJoint_17 : decode nc_CM_isJoint 17 = .ok (.iload_n 2, 1) := by decide +kernel
theorem nd_CM_isJoint_18 : decode nc_CM_isJoint 18 = .ok (.iconst 1, 1) := by decide +kernel
theorem nd_CM_isJoint_19 : decode nc_CM_isJoint 19 = .ok (.isub, 1) := by decide +kernel
theorem nd_CM_isJoint_20 : decode nc_CM_isJoint 20 = .ok (.iload_n 1, 1) := by decide +kernel
theorem nd_CM_isJoint_21 : decode nc_CM_isJoint 21 = .ok (.iand, 1) := by decide +kernel
theorem nd_CM_isJoint_22 : decode nc_CM_isJoint 22 = .ok (.istore_n 2, 1) := by decide +kernel
theorem nd_CM_isJoint_23 : decode nc_CM_isJoint 23 = .ok (.aload_n 0, 1) := by decide +kernel
theorem nd_CM_isJoint_24 : decode nc_CM_isJoint 24 = .ok (.iconst 0, 1) := by decide +kernel
theorem nd_CM_isJoint_25 : decode nc_CM_isJoint 25 = .ok (.iload_n 2, 1) := by decide +kernel
theorem nd_CM_isJoint_26 : decode nc_CM_isJoint 26 = .ok (.invokevirtual 92, 3) := by decide +kernel
theorem nd_CM_isJoint_29 : decode nc_CM_isJoint 29 = .ok (.ifCond .eq 18, 3) := by decide +kernel
theorem nd_CM_isJoint_32 : decode nc_CM_isJoint 32 = .ok (.aload_n 0, 1) := by decide +kernel
theorem nd_CM_isJoint_33 : decode nc_CM_isJoint 33 = .ok (.iconst 1, 1) := by decide +kernel
theorem nd_CM_isJoint_34 : decode nc_CM_isJoint 34 = .ok (.iload_n 1, 1) := by decide +kernel
theorem nd_CM_isJoint_35 : decode nc_CM_isJoint 35 = .ok (.iload_n 2, 1) := by decide +kernel
theorem nd_CM_isJoint_36 : decode nc_CM_isJoint 36 = .ok (.isub, 1) := by decide +kernel
theorem nd_CM_isJoint_37 : decode nc_CM_isJoint 37 = .ok (.invokevirtual 92, 3) := by decide +kernel
theorem nd_CM_isJoint_40 : decode nc_CM_isJoint 40 = .ok (.ifCond .eq 7, 3) := by decide +kernel
theorem nd_CM_isJoint_43 : decode nc_CM_isJoint 43 = .ok (.iconst 1, 1) := by decide +kernel
theorem nd_CM_isJoint_44 : decode nc_CM_isJoint 44 = .ok (.goto 4, 3) := by decide +kernel
theorem nd_CM_isJoint_47 : decode nc_CM_isJoint 47 = .ok (.iconst 0, 1) := by decide +kernel
theorem nd_CM_isJoint_48 : decode nc_CM_isJoint 48 = .ok (.istore_n 3, 1) := by decide +kernel
theorem nd_CM_isJoint_49 : decode nc_CM_isJoint 49 = .ok (.goto (-40), 3) := by decide +kernel
theorem nd_CM_isJoint_52 : decode nc_CM_isJoint 52 = .ok (.iload_n 3, 1) := by decide +kernel
theorem nd_CM_isJoint_53 : decode nc_CM_isJoint 53 = .ok (.ireturn, 1) := by decide +kernel
set_option maxRecDepth 20000 in
theorem lp_CM_isJoint {p : Program} {l : Launch} {e0 : Env} {R : Room} {s0 : State} {m : MethodId} {args : Array Value} {below : List Frame} {meth : Method} {c : Code} {cells slots : Nat} {Qq : State → Prop} {D : va_G} {A : Nat → Prop} (cI cG cM : ClassId) (q : Nat → Nat) (n : Nat) (hn1 : 1 ≤ n) (hn : n ≤ 10) (g : rf_S) (y : cb_Y) (hrt : rt_ n y g) (hv : ∀ w, w < 2 → ma_v n (cb_m y w)) (s : Nat) (hs : s < 2 ^ n)  (hx : p.tables.exec = Jvm.exec) (hb : c.code = nc_CM_isJoint) (hml : c.maxLocals = 4) (htg : ∀ w ∈ tg_, w.before args s0 = true) (hown : s0.vm.findClass ny_CM_isJoint.cls = some m.cls) (hK : va_K D cl_all (ty_all cI cG cM) s0) (hN : tn_K s0) (hA : ∀ q : Nat, s0.heap.size ≤ q → A q) (hRf : 2 ≤ R.frames) (hRl : 44 ≤ R.locals) (hCS : cells ≤ R.cells ∧ slots ≤ R.slots) (kx : ∀ (ls : Array Slot) (H : Heap) (locs : List Loc) (fd : Nat), (fd < 2) → (¬ fd = 0 → jt_ n y s) → (fd = 0 → ¬ jt_ n y s) → lv_has ls 4 [(3, .int (nI (fd)))] → va_P D cl_all ([((q 0), .inr (6, [.int (nI (n)), .ref (q 2), .ref (q 3), .ref (q 4), .ref (q 5), .ref (q 6), .ref (q 7), .ref (q 8), .ref (q 9), .ref (q 10), .ref (q 11), .ref (q 12), .ref (q 13), .ref (q 14)])), ((q 2), .inl (cI, 10, .inl (g 0))), ((q 3), .inl (cI, 2, .inl (g 1))), ((q 4), .inl (cI, 2, .inl (g 2))), ((q 5), .inl (cI, 2, .inl (g 3))), ((q 6), .inl (cI, 20, .inl (g 4))), ((q 7), .inl (cI, 20, .inl (g 5))), ((q 8), .inl (cI, 20, .inl (g 6))), ((q 9), .inl (cI, 8, .inl (g 7))), ((q 10), .inl (cI, 80, .inl (g 8))), ((q 11), .inl (cI, 8, .inl (g 9))), ((q 12), .inl (cI, 16, .inl (g 10))), ((q 13), .inl (cI, 16, .inl (g 11))), ((q 14), .inl (cI, 2048, .inl (g 12)))]) H → va_D A ([((q 0), .inr (6, [.int (nI (n)), .ref (q 2), .ref (q 3), .ref (q 4), .ref (q 5), .ref (q 6), .ref (q 7), .ref (q 8), .ref (q 9), .ref (q 10), .ref (q 11), .ref (q 12), .ref (q 13), .ref (q 14)])), ((q 2), .inl (cI, 10, .inl (g 0))), ((q 3), .inl (cI, 2, .inl (g 1))), ((q 4), .inl (cI, 2, .inl (g 2))), ((q 5), .inl (cI, 2, .inl (g 3))), ((q 6), .inl (cI, 20, .inl (g 4))), ((q 7), .inl (cI, 20, .inl (g 5))), ((q 8), .inl (cI, 20, .inl (g 6))), ((q 9), .inl (cI, 8, .inl (g 7))), ((q 10), .inl (cI, 80, .inl (g 8))), ((q 11), .inl (cI, 8, .inl (g 9))), ((q 12), .inl (cI, 16, .inl (g 10))), ((q 13), .inl (cI, 16, .inl (g 11))), ((q 14), .inl (cI, 2048, .inl (g 12)))]) → va_S A s0.heap H locs → W p l e0 R s0 m args below meth c H locs cells slots Qq (F0 m 52 ls [])) : ∀ (fuel : Nat) (t : Nat) (fd : Nat) (ls : Array Slot) (H : Heap) (locs : List Loc), t < fuel → (fd < 2 ∧ t ≤ s) → (mt_sb t s) → (¬ fd = 0 → jt_ n y s) → (fd = 0 → ∀ t', mt_sb t' s → t ≤ t' → ¬ (ma_r n (cb_m y 0) t' = mt_cd n t' ∧ ma_r n (cb_m y 1) (s - t') = mt_cd n (s - t'))) → lv_has ls 4 [(2, .int (nI (t))), (3, .int (nI (fd))), (0, .ref (q 0)), (1, .int (nI (s)))] → va_P D cl_all ([((q 0), .inr (6, [.int (nI (n)), .ref (q 2), .ref (q 3), .ref (q 4), .ref (q 5), .ref (q 6), .ref (q 7), .ref (q 8), .ref (q 9), .ref (q 10), .ref (q 11), .ref (q 12), .ref (q 13), .ref (q 14)])), ((q 2), .inl (cI, 10, .inl (g 0))), ((q 3), .inl (cI, 2, .inl (g 1))), ((q 4), .inl (cI, 2, .inl (g 2))), ((q 5), .inl (cI, 2, .inl (g 3))), ((q 6), .inl (cI, 20, .inl (g 4))), ((q 7), .inl (cI, 20, .inl (g 5))), ((q 8), .inl (cI, 20, .inl (g 6))), ((q 9), .inl (cI, 8, .inl (g 7))), ((q 10), .inl (cI, 80, .inl (g 8))), ((q 11), .inl (cI, 8, .inl (g 9))), ((q 12), .inl (cI, 16, .inl (g 10))), ((q 13), .inl (cI, 16, .inl (g 11))), ((q 14), .inl (cI, 2048, .inl (g 12)))]) H → va_D A ([((q 0), .inr (6, [.int (nI (n)), .ref (q 2), .ref (q 3), .ref (q 4), .ref (q 5), .ref (q 6), .ref (q 7), .ref (q 8), .ref (q 9), .ref (q 10), .ref (q 11), .ref (q 12), .ref (q 13), .ref (q 14)])), ((q 2), .inl (cI, 10, .inl (g 0))), ((q 3), .inl (cI, 2, .inl (g 1))), ((q 4), .inl (cI, 2, .inl (g 2))), ((q 5), .inl (cI, 2, .inl (g 3))), ((q 6), .inl (cI, 20, .inl (g 4))), ((q 7), .inl (cI, 20, .inl (g 5))), ((q 8), .inl (cI, 20, .inl (g 6))), ((q 9), .inl (cI, 8, .inl (g 7))), ((q 10), .inl (cI, 80, .inl (g 8))), ((q 11), .inl (cI, 8, .inl (g 9))), ((q 12), .inl (cI, 16, .inl (g 10))), ((q 13), .inl (cI, 16, .inl (g 11))), ((q 14), .inl (cI, 2048, .inl (g 12)))]) → va_S A s0.heap H locs → W p l e0 R s0 m args below meth c H locs cells slots Qq (F0 m 9 ls []) := by
  intro fuel
  induction fuel with
  | zero => intro t fd ls H locs hfu; omega
  | succ fuel ih =>
    intro t fd ls H locs hfu hfd hts h1 h0 hl hP hD hS
    have h2n : 2 ^ n ≤ 1024 := Nat.pow_le_pow_right (by omega) hn
    have h2p : 1 ≤ 2 ^ n := Nat.one_le_two_pow
    refine lv_iload_n hx hb nd_CM_isJoint_9 rfl (lv_at hl 0 rfl) ?_
    refine wi_if_le (tgt := 52) hx hb (by omega) nd_CM_isJoint_10 rfl (fun hc10 => ?_) (fun hc10 => ?_)
    · have hl : lv_has ls 4 [(3, .int (nI (fd)))] := lv_sub hl [1] rfl
      exact kx ls H locs fd hfd.1 h1 (fun z => fun ⟨t', a, b⟩ => h0 z t' a (by omega) b) hl hP hD hS
    · refine lv_iload_n hx hb nd_CM_isJoint_13 rfl (lv_at hl 1 rfl) ?_
      refine wi_if_ne (tgt := 52) hx hb (by omega) nd_CM_isJoint_14 rfl (fun hc14 => ?_) (fun hc14 => ?_)
      · have hl : lv_has ls 4 [(3, .int (nI (fd)))] := lv_sub hl [1] rfl
        exact kx ls H locs fd hfd.1 h1 (fun z => absurd z hc14) hl hP hD hS
      · have hnx := fun t' => bs_next n s t t' hs hts
        have hal : (t - 1) &&& s ≤ s := Nat.and_le_right
        have hal2 : (t - 1) &&& s ≤ t - 1 := Nat.and_le_left
        have hsb2 : mt_sb ((t - 1) &&& s) s := fun i hi => by rw [Nat.testBit_and] at hi; exact (Bool.and_eq_true_iff.mp hi).2
        refine lv_iload_n hx hb nd_CM_isJoint_17 rfl (lv_at hl 0 rfl) ?_
        refine wi_ic hx hb (a := 1) nd_CM_isJoint_18 ?_
        refine wi_isub hx hb (by omega) nd_CM_isJoint_19 ?_
        refine lv_iload_n hx hb nd_CM_isJoint_20 rfl (lv_at hl 3 rfl) ?_
        refine wi_iand hx hb nd_CM_isJoint_21 ?_
        refine lv_istore_n hx hb nd_CM_isJoint_22 rfl hl (by decide) rfl (fun ls hl => ?_)
        have hl : lv_has ls 4 [(2, .int (nI ((t - 1) &&& s))), (3, .int (nI (fd))), (0, .ref (q 0)), (1, .int (nI (s)))] := hl
        refine lv_aload_n hx hb nd_CM_isJoint_23 rfl (lv_at hl 2 rfl) ?_
        refine wi_ic hx hb (a := 0) nd_CM_isJoint_24 ?_
        refine lv_iload_n hx hb nd_CM_isJoint_25 rfl (lv_at hl 0 rfl) ?_
        refine wc_V (C := nr_CM) (n := 2) hx hb hml hown htg (c_tf l D cI cG cM q n hn g y hrt hv 0 ((t - 1) &&& s) (by omega) (by omega)) tm_529 tm_526 tm_528 tp_21 tm_9 (by decide +kernel) ⟨⟨Nat.le_trans (by decide) hRf, Nat.le_trans (by decide) hRl⟩, rfl, rfl⟩ (wa_pre (hP.sub [0, 13] rfl) hK hN) (va_recv (q0 := 0) (ci := 6) hK hP rfl rfl) rfl hl.1 rfl (Nat.le_of_ble_eq_true rfl) nd_CM_isJoint_26 hCS ?_
        have htf26 := tf_lt n y 0 ((t - 1) &&& s)
        refine wi_if_eq (tgt := 47) hx hb (by omega) nd_CM_isJoint_29 rfl (fun hc29 => ?_) (fun hc29 => ?_)
        · refine wi_ic hx hb (a := 0) nd_CM_isJoint_47 ?_
          refine lv_istore_n hx hb nd_CM_isJoint_48 rfl hl (by decide) rfl (fun ls hl => ?_)
          have hl : lv_has ls 4 [(3, .int (nI (0))), (2, .int (nI ((t - 1) &&& s))), (0, .ref (q 0)), (1, .int (nI (s)))] := hl
          refine lv_goto (tgt := 9) hx hb nd_CM_isJoint_49 rfl ?_
          have hl : lv_has ls 4 [(2, .int (nI ((t - 1) &&& s))), (3, .int (nI (0))), (0, .ref (q 0)), (1, .int (nI (s)))] := lv_sub hl [1, 0, 2, 3] rfl
          exact ih ((t - 1) &&& s) 0 ls H locs (by omega) (by omega) hsb2 (fun z => absurd rfl z) (fun _ t' h1 h2 h3 => if q : t ≤ t' then h0 (by omega) t' h1 q h3 else by have := hnx t' h1 (by omega); have e : t' = (t - 1) &&& s := (by omega); rw [e] at h3; exact tf_z.mp hc29 h3.1) hl hP hD hS
        · refine lv_aload_n hx hb nd_CM_isJoint_32 rfl (lv_at hl 2 rfl) ?_
          refine wi_ic hx hb (a := 1) nd_CM_isJoint_33 ?_
          refine lv_iload_n hx hb nd_CM_isJoint_34 rfl (lv_at hl 3 rfl) ?_
          refine lv_iload_n hx hb nd_CM_isJoint_35 rfl (lv_at hl 0 rfl) ?_
          refine wi_isub hx hb (by omega) nd_CM_isJoint_36 ?_
          refine wc_V (C := nr_CM) (n := 2) hx hb hml hown htg (c_tf l D cI cG cM q n hn g y hrt hv 1 (s - ((t - 1) &&& s)) (by omega) (by omega)) tm_529 tm_526 tm_528 tp_21 tm_9 (by decide +kernel) ⟨⟨Nat.le_trans (by decide) hRf, Nat.le_trans (by decide) hRl⟩, rfl, rfl⟩ (wa_pre (hP.sub [0, 13] rfl) hK hN) (va_recv (q0 := 0) (ci := 6) hK hP rfl rfl) rfl hl.1 rfl (Nat.le_of_ble_eq_true rfl) nd_CM_isJoint_37 hCS ?_
          have htf37 := tf_lt n y 1 (s - ((t - 1) &&& s))
          refine wi_if_eq (tgt := 47) hx hb (by omega) nd_CM_isJoint_40 rfl (fun hc40 => ?_) (fun hc40 => ?_)
          · refine wi_ic hx hb (a := 0) nd_CM_isJoint_47 ?_
            refine lv_istore_n hx hb nd_CM_isJoint_48 rfl hl (by decide) rfl (fun ls hl => ?_)
            have hl : lv_has ls 4 [(3, .int (nI (0))), (2, .int (nI ((t - 1) &&& s))), (0, .ref (q 0)), (1, .int (nI (s)))] := hl
            refine lv_goto (tgt := 9) hx hb nd_CM_isJoint_49 rfl ?_
            have hl : lv_has ls 4 [(2, .int (nI ((t - 1) &&& s))), (3, .int (nI (0))), (0, .ref (q 0)), (1, .int (nI (s)))] := lv_sub hl [1, 0, 2, 3] rfl
            exact ih ((t - 1) &&& s) 0 ls H locs (by omega) (by omega) hsb2 (fun z => absurd rfl z) (fun _ t' h1 h2 h3 => if q : t ≤ t' then h0 (by omega) t' h1 q h3 else by have := hnx t' h1 (by omega); have e : t' = (t - 1) &&& s := (by omega); rw [e] at h3; exact tf_z.mp hc40 h3.2) hl hP hD hS
          · refine wi_ic hx hb (a := 1) nd_CM_isJoint_43 ?_
            refine lv_goto (tgt := 48) hx hb nd_CM_isJoint_44 rfl ?_
            refine lv_istore_n hx hb nd_CM_isJoint_48 rfl hl (by decide) rfl (fun ls hl => ?_)
            have hl : lv_has ls 4 [(3, .int (nI (1))), (2, .int (nI ((t - 1) &&& s))), (0, .ref (q 0)), (1, .int (nI (s)))] := hl
            refine lv_goto (tgt := 9) hx hb nd_CM_isJoint_49 rfl ?_
            have hl : lv_has ls 4 [(2, .int (nI ((t - 1) &&& s))), (3, .int (nI (1))), (0, .ref (q 0)), (1, .int (nI (s)))] := lv_sub hl [1, 0, 2, 3] rfl
            exact ih ((t - 1) &&& s) 1 ls H locs (by omega) (by omega) hsb2 (fun _ => ⟨_, hsb2, tf_n.mp hc29, tf_n.mp hc40⟩) (fun z => by omega) hl hP hD hS
set_option maxRecDepth 20000 in
theorem c_CM_isJoint (l : Launch) (D : va_G) (cI cG cM : ClassId)  (q : Nat → Nat) (n : Nat) (hn1 : 1 ≤ n) (hn : n ≤ 10) (g : rf_S) (y : cb_Y) (hrt : rt_ n y g) (hv : ∀ w, w < 2 → ma_v n (cb_m y w)) (s : Nat) (hs : s < 2 ^ n) (sz : Nat) : wb_Mi l ny_CM_isJoint nc_CM_isJoint 4 (some .boolean) ({ frames := 2, cells := 0, slots := 0, locals := 44 }) D (ty_all cI cG cM) (rf_ cI q n g) sz [.ref (q 0), .int (nI (s))] (fun (v : Int32) (u : rf_S) => (jt_ n y s → v = nI 1) ∧ (¬ jt_ n y s → v = nI 0) ∧ u = g) (fun u : rf_S => rf_ cI q n u) := by
  refine wb_start (S := rf_S) (by decide) (Nat.le_of_ble_eq_true rfl) ?_
  intro p e0 s0 m below meth c ls A hx hb hr hml htg hown hk hP hK hN hl hAe hsz hD hA
  have hl : lv_has ls 4 [(0, .ref (q 0)), (1, .int (nI (s)))] := hl
  have hP : va_P D cl_all ([((q 0), .inr (6, [.int (nI (n)), .ref (q 2), .ref (q 3), .ref (q 4), .ref (q 5), .ref (q 6), .ref (q 7), .ref (q 8), .ref (q 9), .ref (q 10), .ref (q 11), .ref (q 12), .ref (q 13), .ref (q 14)])), ((q 2), .inl (cI, 10, .inl (g 0))), ((q 3), .inl (cI, 2, .inl (g 1))), ((q 4), .inl (cI, 2, .inl (g 2))), ((q 5), .inl (cI, 2, .inl (g 3))), ((q 6), .inl (cI, 20, .inl (g 4))), ((q 7), .inl (cI, 20, .inl (g 5))), ((q 8), .inl (cI, 20, .inl (g 6))), ((q 9), .inl (cI, 8, .inl (g 7))), ((q 10), .inl (cI, 80, .inl (g 8))), ((q 11), .inl (cI, 8, .inl (g 9))), ((q 12), .inl (cI, 16, .inl (g 10))), ((q 13), .inl (cI, 16, .inl (g 11))), ((q 14), .inl (cI, 2048, .inl (g 12)))]) s0.heap := hP
  have hD : va_D A ([((q 0), .inr (6, [.int (nI (n)), .ref (q 2), .ref (q 3), .ref (q 4), .ref (q 5), .ref (q 6), .ref (q 7), .ref (q 8), .ref (q 9), .ref (q 10), .ref (q 11), .ref (q 12), .ref (q 13), .ref (q 14)])), ((q 2), .inl (cI, 10, .inl (g 0))), ((q 3), .inl (cI, 2, .inl (g 1))), ((q 4), .inl (cI, 2, .inl (g 2))), ((q 5), .inl (cI, 2, .inl (g 3))), ((q 6), .inl (cI, 20, .inl (g 4))), ((q 7), .inl (cI, 20, .inl (g 5))), ((q 8), .inl (cI, 20, .inl (g 6))), ((q 9), .inl (cI, 8, .inl (g 7))), ((q 10), .inl (cI, 80, .inl (g 8))), ((q 11), .inl (cI, 8, .inl (g 9))), ((q 12), .inl (cI, 16, .inl (g 10))), ((q 13), .inl (cI, 16, .inl (g 11))), ((q 14), .inl (cI, 2048, .inl (g 12)))]) := hD
  have hS : va_S A s0.heap s0.heap [] := va_S.rf
  have hRf : 2 ≤ ({ frames := 2, cells := 0, slots := 0, locals := 44 } : Room).frames := Nat.le_refl _
  have hRl : 44 ≤ ({ frames := 2, cells := 0, slots := 0, locals := 44 } : Room).locals := Nat.le_refl _
  have hCS : 0 ≤ ({ frames := 2, cells := 0, slots := 0, locals := 44 } : Room).cells ∧ 0 ≤ ({ frames := 2, cells := 0, slots := 0, locals := 44 } : Room).slots := ⟨Nat.zero_le _, Nat.zero_le _⟩
  have h2n : 2 ^ n ≤ 1024 := Nat.pow_le_pow_right (by omega) hn
  have h2p : 1 ≤ 2 ^ n := Nat.one_le_two_pow
  refine lv_iload_n hx hb nd_CM_isJoint_0 rfl (lv_at hl 1 rfl) ?_
  refine lv_istore_n hx hb nd_CM_isJoint_1 rfl hl (by decide) rfl (fun ls hl => ?_)
  have hl : lv_has ls 4 [(2, .int (nI (s))), (0, .ref (q 0)), (1, .int (nI (s)))] := hl
  refine lv_aload_n hx hb nd_CM_isJoint_2 rfl (lv_at hl 1 rfl) ?_
  refine wi_ic hx hb (a := 0) nd_CM_isJoint_3 ?_
  refine lv_iload_n hx hb nd_CM_isJoint_4 rfl (lv_at hl 2 rfl) ?_
  refine wc_V (C := nr_CM) (n := 2) hx hb hml hown htg (c_tf l D cI cG cM q n hn g y hrt hv 0 s (by omega) (by omega)) tm_529 tm_526 tm_528 tp_21 tm_9 (by decide +kernel) ⟨⟨Nat.le_trans (by decide) hRf, Nat.le_trans (by decide) hRl⟩, rfl, rfl⟩ (wa_pre (hP.sub [0, 13] rfl) hK hN) (va_recv (q0 := 0) (ci := 6) hK hP rfl rfl) rfl hl.1 rfl (Nat.le_of_ble_eq_true rfl) nd_CM_isJoint_5 hCS ?_
  have htf5 := tf_lt n y 0 s
  refine lv_istore_n hx hb nd_CM_isJoint_8 rfl hl (by decide) rfl (fun ls hl => ?_)
  have hl : lv_has ls 4 [(3, .int (nI (tf_ n y 0 s))), (2, .int (nI (s))), (0, .ref (q 0)), (1, .int (nI (s)))] := hl
  have hl : lv_has ls 4 [(2, .int (nI (s))), (3, .int (nI (tf_ n y 0 s))), (0, .ref (q 0)), (1, .int (nI (s)))] := lv_sub hl [1, 0, 2, 3] rfl
  have hz1 : ma_r n (cb_m y 1) (s - s) = mt_cd n (s - s) := by rw [Nat.sub_self, mt_cd_0]; exact (ma_M (hv 1 (by omega))).1
  refine lp_CM_isJoint cI cG cM q n hn1 hn g y hrt hv s hs hx hb hml htg hown hK hN hA hRf hRl hCS (fun ls H locs fd hfd h1 h0 hl hP hD hS => ?_) (s + 1) s (tf_ n y 0 s) ls s0.heap [] (by omega) ⟨htf5, Nat.le_refl _⟩ (fun _ h => h) (fun z => ⟨s, fun _ h => h, tf_n.mp z, hz1⟩) (fun z t' a b c => by have := mt_sb_le a; have e : t' = s := (by omega); rw [e] at c; exact tf_z.mp z c.1) hl hP hD hS
  refine lv_iload_n hx hb nd_CM_isJoint_52 rfl (lv_at hl 0 rfl) ?_
  by_cases hz : fd = 0
  · refine wi_top (congrArg nI hz) ?_
    exact wb_zret g hx hb hr hk rfl hAe ⟨fun z => absurd z (h0 hz), fun _ => rfl, rfl⟩ hP hD hS nd_CM_isJoint_53
  · refine wi_top (congrArg nI (show fd = 1 by omega)) ?_
    exact wb_zret g hx hb hr hk rfl hAe ⟨fun _ => rfl, fun z => absurd (h1 hz) z, rfl⟩ hP hD hS nd_CM_isJoint_53
theorem nd_CM_joint_0 : decode nc_CM_joint 0 = .ok (.aload_n 0, 1) := by decide +kernel
theorem nd_CM_joint_1 : decode nc_CM_joint 1 = .ok (.invokevirtual 89, 3) := by decide +kernel
theorem nd_CM_joint_4 : decode nc_CM_joint 4 = .ok (.iconst 0, 1) := by decide +kernel
theorem nd_CM_joint_5 : decode nc_CM_joint 5 = .ok (.istore_n 1, 1) := by decide +kernel
theorem nd_CM_joint_6 : decode nc_CM_joint 6 = .ok (.iconst 0, 1) := by decide +kernel
theorem nd_CM_joint_7 : decode nc_CM_joint 7 = .ok (.istore_n 2, 1) := by decide +kernel
theorem nd_CM_joint_8 : decode nc_CM_joint 8 = .ok (.iload_n 2, 1) := by decide +kernel
theorem nd_CM_joint_9 : decode nc_CM_joint 9 = .ok (.iconst 1, 1) := by decide +kernel
theorem nd_CM_joint_10 : decode nc_CM_joint 10 = .ok (.aload_n 0, 1) := by decide +kernel
theorem nd_CM_joint_11 : decode nc_CM_joint 11 = .ok (.getfield 49, 3) := by decide +kernel
theorem nd_CM_joint_14 : decode nc_CM_joint 14 = .ok (.ishl, 1) := by decide +kernel
theorem nd_CM_joint_15 : decode nc_CM_joint 15 = .ok (.if_icmp .ge 34, 3) := by decide +kernel
theorem nd_CM_joint_18 : decode nc_CM_joint 18 = .ok (.iload_n 2, 1) := by decide +kernel
theorem nd_CM_joint_19 : decode nc_CM_joint 19 = .ok (.invokestatic 69, 3) := by decide +kernel
theorem nd_CM_joint_22 : decode nc_CM_joint 22 = .ok (.iload_n 1, 1) := by decide +kernel
theorem nd_CM_joint_23 : decode nc_CM_joint 23 = .ok (.if_icmp .le 18, 3) := by decide +kernel
theorem nd_CM_joint_26 : decode nc_CM_joint 26 = .ok (.aload_n 0, 1) := by decide +kernel
theorem nd_CM_joint_27 : decode nc_CM_joint 27 = .ok (.iload_n 2, 1) := by decide +kernel
theorem nd_CM_joint_28 : decode nc_CM_joint 28 = .ok (.invokevirtual 105, 3) := by decide +kernel
theorem nd_CM_joint_31 : decode nc_CM_joint 31 = .ok (.ifCond .eq 10, 3) := by decide +kernel
theorem nd_CM_joint_34 : decode nc_CM_joint 34 = .ok (.iload_n 2, 1) := by decide +kernel
theorem nd_CM_joint_35 : decode nc_CM_joint 35 = .ok (.invokestatic 69, 3) := by decide +kernel
theorem nd_CM_joint_38 : decode nc_CM_joint 38 = .ok (.goto 4, 3) := by decide +kernel
theorem nd_CM_joint_41 : decode nc_CM_joint 41 = .ok (.iload_n 1, 1) := by decide +kernel
theorem nd_CM_joint_42 : decode nc_CM_joint 42 = .ok (.istore_n 1, 1) := by decide +kernel
theorem nd_CM_joint_43 : decode nc_CM_joint 43 = .ok (.iinc 2 1, 3) := by decide +kernel
theorem nd_CM_joint_46 : decode nc_CM_joint 46 = .ok (.goto (-38), 3) := by decide +kernel
theorem nd_CM_joint_49 : decode nc_CM_joint 49 = .ok (.iload_n 1, 1) := by decide +kernel
theorem nd_CM_joint_50 : decode nc_CM_joint 50 = .ok (.ireturn, 1) := by decide +kernel
set_option maxRecDepth 20000 in
theorem lp_CM_joint {p : Program} {l : Launch} {e0 : Env} {R : Room} {s0 : State} {m : MethodId} {args : Array Value} {below : List Frame} {meth : Method} {c : Code} {cells slots : Nat} {Qq : State → Prop} {D : va_G} {A : Nat → Prop} (cI cG cM : ClassId) (q : Nat → Nat) (n : Nat) (hn1 : 1 ≤ n) (hn : n ≤ 10) (g : rf_S) (y : cb_Y) (hrt : rt_ n y g) (hv : ∀ w, w < 2 → ma_v n (cb_m y w))  (hx : p.tables.exec = Jvm.exec) (hb : c.code = nc_CM_joint) (hml : c.maxLocals = 3) (htg : ∀ w ∈ tg_, w.before args s0 = true) (hown : s0.vm.findClass ny_CM_joint.cls = some m.cls) (hK : va_K D cl_all (ty_all cI cG cM) s0) (hN : tn_K s0) (hA : ∀ q : Nat, s0.heap.size ≤ q → A q) (hRf : 4 ≤ R.frames) (hRl : 98 ≤ R.locals) (hCS : cells ≤ R.cells ∧ slots ≤ R.slots) (kx : ∀ (ls : Array Slot) (H : Heap) (locs : List Loc), lv_has ls 3 [(1, .int (nI (jm_ n y (2 ^ n))))] → va_P D cl_all ([((q 0), .inr (6, [.int (nI (n)), .ref (q 2), .ref (q 3), .ref (q 4), .ref (q 5), .ref (q 6), .ref (q 7), .ref (q 8), .ref (q 9), .ref (q 10), .ref (q 11), .ref (q 12), .ref (q 13), .ref (q 14)])), ((q 2), .inl (cI, 10, .inl (g 0))), ((q 3), .inl (cI, 2, .inl (g 1))), ((q 4), .inl (cI, 2, .inl (g 2))), ((q 5), .inl (cI, 2, .inl (g 3))), ((q 6), .inl (cI, 20, .inl (g 4))), ((q 7), .inl (cI, 20, .inl (g 5))), ((q 8), .inl (cI, 20, .inl (g 6))), ((q 9), .inl (cI, 8, .inl (g 7))), ((q 10), .inl (cI, 80, .inl (g 8))), ((q 11), .inl (cI, 8, .inl (g 9))), ((q 12), .inl (cI, 16, .inl (g 10))), ((q 13), .inl (cI, 16, .inl (g 11))), ((q 14), .inl (cI, 2048, .inl (g 12)))]) H → va_D A ([((q 0), .inr (6, [.int (nI (n)), .ref (q 2), .ref (q 3), .ref (q 4), .ref (q 5), .ref (q 6), .ref (q 7), .ref (q 8), .ref (q 9), .ref (q 10), .ref (q 11), .ref (q 12), .ref (q 13), .ref (q 14)])), ((q 2), .inl (cI, 10, .inl (g 0))), ((q 3), .inl (cI, 2, .inl (g 1))), ((q 4), .inl (cI, 2, .inl (g 2))), ((q 5), .inl (cI, 2, .inl (g 3))), ((q 6), .inl (cI, 20, .inl (g 4))), ((q 7), .inl (cI, 20, .inl (g 5))), ((q 8), .inl (cI, 20, .inl (g 6))), ((q 9), .inl (cI, 8, .inl (g 7))), ((q 10), .inl (cI, 80, .inl (g 8))), ((q 11), .inl (cI, 8, .inl (g 9))), ((q 12), .inl (cI, 16, .inl (g 10))), ((q 13), .inl (cI, 16, .inl (g 11))), ((q 14), .inl (cI, 2048, .inl (g 12)))]) → va_S A s0.heap H locs → W p l e0 R s0 m args below meth c H locs cells slots Qq (F0 m 49 ls [])) : ∀ (fuel : Nat) (i : Nat) (ls : Array Slot) (H : Heap) (locs : List Loc), 2 ^ n - i < fuel → (i ≤ 2 ^ n) → lv_has ls 3 [(2, .int (nI (i))), (1, .int (nI (jm_ n y i))), (0, .ref (q 0))] → va_P D cl_all ([((q 0), .inr (6, [.int (nI (n)), .ref (q 2), .ref (q 3), .ref (q 4), .ref (q 5), .ref (q 6), .ref (q 7), .ref (q 8), .ref (q 9), .ref (q 10), .ref (q 11), .ref (q 12), .ref (q 13), .ref (q 14)])), ((q 2), .inl (cI, 10, .inl (g 0))), ((q 3), .inl (cI, 2, .inl (g 1))), ((q 4), .inl (cI, 2, .inl (g 2))), ((q 5), .inl (cI, 2, .inl (g 3))), ((q 6), .inl (cI, 20, .inl (g 4))), ((q 7), .inl (cI, 20, .inl (g 5))), ((q 8), .inl (cI, 20, .inl (g 6))), ((q 9), .inl (cI, 8, .inl (g 7))), ((q 10), .inl (cI, 80, .inl (g 8))), ((q 11), .inl (cI, 8, .inl (g 9))), ((q 12), .inl (cI, 16, .inl (g 10))), ((q 13), .inl (cI, 16, .inl (g 11))), ((q 14), .inl (cI, 2048, .inl (g 12)))]) H → va_D A ([((q 0), .inr (6, [.int (nI (n)), .ref (q 2), .ref (q 3), .ref (q 4), .ref (q 5), .ref (q 6), .ref (q 7), .ref (q 8), .ref (q 9), .ref (q 10), .ref (q 11), .ref (q 12), .ref (q 13), .ref (q 14)])), ((q 2), .inl (cI, 10, .inl (g 0))), ((q 3), .inl (cI, 2, .inl (g 1))), ((q 4), .inl (cI, 2, .inl (g 2))), ((q 5), .inl (cI, 2, .inl (g 3))), ((q 6), .inl (cI, 20, .inl (g 4))), ((q 7), .inl (cI, 20, .inl (g 5))), ((q 8), .inl (cI, 20, .inl (g 6))), ((q 9), .inl (cI, 8, .inl (g 7))), ((q 10), .inl (cI, 80, .inl (g 8))), ((q 11), .inl (cI, 8, .inl (g 9))), ((q 12), .inl (cI, 16, .inl (g 10))), ((q 13), .inl (cI, 16, .inl (g 11))), ((q 14), .inl (cI, 2048, .inl (g 12)))]) → va_S A s0.heap H locs → W p l e0 R s0 m args below meth c H locs cells slots Qq (F0 m 8 ls []) := by
  intro fuel
  induction fuel with
  | zero => intro i ls H locs hfu; omega
  | succ fuel ih =>
    intro i ls H locs hfu hi hl hP hD hS
    have h2n : 2 ^ n ≤ 1024 := Nat.pow_le_pow_right (by omega) hn
    have h2p : 1 ≤ 2 ^ n := Nat.one_le_two_pow
    have hjb := jm_le n y i
    refine lv_iload_n hx hb nd_CM_joint_8 rfl (lv_at hl 0 rfl) ?_
    refine wi_ic hx hb (a := 1) nd_CM_joint_9 ?_
    refine lv_aload_n hx hb nd_CM_joint_10 rfl (lv_at hl 2 rfl) ?_
    refine va_get (D := D) (C := nr_CM) (T := nt_CM) (N := 14) hx hb htg tf_CM hown hK hP 0 rfl rfl 0 (by decide) (htg _ tm_383) (fun _ h => h) rfl nd_CM_joint_11 ?_
    refine wi_ishl1 hx hb (by omega) nd_CM_joint_14 ?_
    refine wi_icmp_ge (tgt := 49) hx hb (by omega) (by omega) nd_CM_joint_15 rfl (fun hc15 => ?_) (fun hc15 => ?_)
    · have hl : lv_has ls 3 [(1, .int (nI (jm_ n y i)))] := lv_sub hl [1] rfl
      have hin : i = 2 ^ n := by omega
      exact kx ls H locs (by simpa only [hin] using hl) hP hD hS
    · refine lv_iload_n hx hb nd_CM_joint_18 rfl (lv_at hl 0 rfl) ?_
      refine wc_S (n := 1) hx hb hml hown htg (c_CM_sizeOf l D cI cG cM i (by omega)) tm_489 tm_487 tm_488 tm_9 (by decide +kernel) ⟨⟨Nat.le_trans (by decide) hRf, Nat.le_trans (by decide) hRl⟩, rfl, rfl⟩ (wa_pre wa_nil hK hN) rfl hl.1 rfl (Nat.le_of_ble_eq_true rfl) nd_CM_joint_19 hCS ?_
      have hcd19 := mt_cd_le 10 i
      refine lv_iload_n hx hb nd_CM_joint_22 rfl (lv_at hl 1 rfl) ?_
      refine wi_icmp_le (tgt := 41) hx hb (by omega) (by omega) nd_CM_joint_23 rfl (fun hc23 => ?_) (fun hc23 => ?_)
      · refine lv_iload_n hx hb nd_CM_joint_41 rfl (lv_at hl 1 rfl) ?_
        refine lv_istore_n hx hb nd_CM_joint_42 rfl hl (by decide) rfl (fun ls hl => ?_)
        have hl : lv_has ls 3 [(1, .int (nI (jm_ n y i))), (2, .int (nI (i))), (0, .ref (q 0))] := hl
        refine lv_iinc (k := 1) (v := nI (i + 1)) hx hb nd_CM_joint_43 hl rfl (wi_inc _ 1) (by decide) rfl (fun ls hl => ?_)
        have hl : lv_has ls 3 [(2, .int (nI (i + 1))), (1, .int (nI (jm_ n y i))), (0, .ref (q 0))] := hl
        refine lv_goto (tgt := 8) hx hb nd_CM_joint_46 rfl ?_
        have hl : lv_has ls 3 [(2, .int (nI (i + 1))), (1, .int (nI (jm_ n y i))), (0, .ref (q 0))] := lv_sub hl [0, 1, 2] rfl
        have hjm := jm_f (n := n) (y := y) (i := i) (fun z => by omega)
        exact ih (i + 1) ls H locs (by omega) (by omega) (by rw [hjm]; exact hl) hP hD hS
      · refine lv_aload_n hx hb nd_CM_joint_26 rfl (lv_at hl 2 rfl) ?_
        refine lv_iload_n hx hb nd_CM_joint_27 rfl (lv_at hl 0 rfl) ?_
        refine wd_Vi0 (C := nr_CM) (n := 1) (Y := rf_ cI q n g) hx hb hml hown htg (c_CM_isJoint l D cI cG cM q n hn1 hn g y hrt hv i (by omega) _) tm_565 tm_562 tm_564 tp_25 tm_9 (by decide +kernel) ⟨⟨Nat.le_trans (by decide) hRf, Nat.le_trans (by decide) hRl⟩, rfl, rfl⟩ hP hD hS hA hK hN (va_recv (q0 := 0) (ci := 6) hK hP rfl rfl) rfl hl.1 rfl (Nat.le_of_ble_eq_true rfl) nd_CM_joint_28 hCS (fun v28 u28 H locs hp28 hP hD hS => ?_)
        obtain ⟨hpa28, hpb28, hpu28⟩ := hp28
        have hpu28 := hpu28.symm
        subst hpu28
        have hP : va_P D cl_all ([((q 0), .inr (6, [.int (nI (n)), .ref (q 2), .ref (q 3), .ref (q 4), .ref (q 5), .ref (q 6), .ref (q 7), .ref (q 8), .ref (q 9), .ref (q 10), .ref (q 11), .ref (q 12), .ref (q 13), .ref (q 14)])), ((q 2), .inl (cI, 10, .inl (g 0))), ((q 3), .inl (cI, 2, .inl (g 1))), ((q 4), .inl (cI, 2, .inl (g 2))), ((q 5), .inl (cI, 2, .inl (g 3))), ((q 6), .inl (cI, 20, .inl (g 4))), ((q 7), .inl (cI, 20, .inl (g 5))), ((q 8), .inl (cI, 20, .inl (g 6))), ((q 9), .inl (cI, 8, .inl (g 7))), ((q 10), .inl (cI, 80, .inl (g 8))), ((q 11), .inl (cI, 8, .inl (g 9))), ((q 12), .inl (cI, 16, .inl (g 10))), ((q 13), .inl (cI, 16, .inl (g 11))), ((q 14), .inl (cI, 2048, .inl (g 12)))]) H := hP
        have hD : va_D A ([((q 0), .inr (6, [.int (nI (n)), .ref (q 2), .ref (q 3), .ref (q 4), .ref (q 5), .ref (q 6), .ref (q 7), .ref (q 8), .ref (q 9), .ref (q 10), .ref (q 11), .ref (q 12), .ref (q 13), .ref (q 14)])), ((q 2), .inl (cI, 10, .inl (g 0))), ((q 3), .inl (cI, 2, .inl (g 1))), ((q 4), .inl (cI, 2, .inl (g 2))), ((q 5), .inl (cI, 2, .inl (g 3))), ((q 6), .inl (cI, 20, .inl (g 4))), ((q 7), .inl (cI, 20, .inl (g 5))), ((q 8), .inl (cI, 20, .inl (g 6))), ((q 9), .inl (cI, 8, .inl (g 7))), ((q 10), .inl (cI, 80, .inl (g 8))), ((q 11), .inl (cI, 8, .inl (g 9))), ((q 12), .inl (cI, 16, .inl (g 10))), ((q 13), .inl (cI, 16, .inl (g 11))), ((q 14), .inl (cI, 2048, .inl (g 12)))]) := hD
        refine lv_if_eq (tgt := 41) hx hb nd_CM_joint_31 rfl (fun hc31 => ?_) (fun hc31 => ?_)
        · refine lv_iload_n hx hb nd_CM_joint_41 rfl (lv_at hl 1 rfl) ?_
          refine lv_istore_n hx hb nd_CM_joint_42 rfl hl (by decide) rfl (fun ls hl => ?_)
          have hl : lv_has ls 3 [(1, .int (nI (jm_ n y i))), (2, .int (nI (i))), (0, .ref (q 0))] := hl
          refine lv_iinc (k := 1) (v := nI (i + 1)) hx hb nd_CM_joint_43 hl rfl (wi_inc _ 1) (by decide) rfl (fun ls hl => ?_)
          have hl : lv_has ls 3 [(2, .int (nI (i + 1))), (1, .int (nI (jm_ n y i))), (0, .ref (q 0))] := hl
          refine lv_goto (tgt := 8) hx hb nd_CM_joint_46 rfl ?_
          have hl : lv_has ls 3 [(2, .int (nI (i + 1))), (1, .int (nI (jm_ n y i))), (0, .ref (q 0))] := lv_sub hl [0, 1, 2] rfl
          have hjm := jm_f (n := n) (y := y) (i := i) (fun z => nI_ne0 (n := 1) (by omega) (by omega) ((hpa28 z.2).symm.trans hc31))
          exact ih (i + 1) ls H locs (by omega) (by omega) (by rw [hjm]; exact hl) hP hD hS
        · refine lv_iload_n hx hb nd_CM_joint_34 rfl (lv_at hl 0 rfl) ?_
          refine wc_S (n := 1) hx hb hml hown htg (c_CM_sizeOf l D cI cG cM i (by omega)) tm_489 tm_487 tm_488 tm_9 (by decide +kernel) ⟨⟨Nat.le_trans (by decide) hRf, Nat.le_trans (by decide) hRl⟩, rfl, rfl⟩ (wa_pre wa_nil hK hN) rfl hl.1 rfl (Nat.le_of_ble_eq_true rfl) nd_CM_joint_35 hCS ?_
          have hcd35 := mt_cd_le 10 i
          refine lv_goto (tgt := 42) hx hb nd_CM_joint_38 rfl ?_
          refine lv_istore_n hx hb nd_CM_joint_42 rfl hl (by decide) rfl (fun ls hl => ?_)
          have hl : lv_has ls 3 [(1, .int (nI (mt_cd 10 i))), (2, .int (nI (i))), (0, .ref (q 0))] := hl
          refine lv_iinc (k := 1) (v := nI (i + 1)) hx hb nd_CM_joint_43 hl rfl (wi_inc _ 1) (by decide) rfl (fun ls hl => ?_)
          have hl : lv_has ls 3 [(2, .int (nI (i + 1))), (1, .int (nI (mt_cd 10 i))), (0, .ref (q 0))] := hl
          refine lv_goto (tgt := 8) hx hb nd_CM_joint_46 rfl ?_
          have hl : lv_has ls 3 [(2, .int (nI (i + 1))), (1, .int (nI (mt_cd 10 i))), (0, .ref (q 0))] := lv_sub hl [0, 1, 2] rfl
          have hjm := jm_t (n := n) (y := y) (i := i) ⟨by omega, Classical.byContradiction fun z => hc31 ((hpb28 z).trans nI_0)⟩
          exact ih (i + 1) ls H locs (by omega) (by omega) (by rw [hjm]; exact hl) hP hD hS
set_option maxRecDepth 20000 in
theorem c_CM_joint (l : Launch) (D : va_G) (cI cG cM : ClassId)  (q : Nat → Nat) (n : Nat) (hn1 : 1 ≤ n) (hn : n ≤ 10) (g : rf_S) (y : cb_Y) (hI : rf_I n y g)  (sz : Nat) : wb_Mi l ny_CM_joint nc_CM_joint 3 (some .int) ({ frames := 4, cells := 0, slots := 0, locals := 98 }) D (ty_all cI cG cM) (rf_ cI q n g) sz [.ref (q 0)] (fun (v : Int32) (u : rf_S) => v = nI (h2_ n y (fi_ (h2_ n y) (2 ^ n - 1))) ∧ rf_I n y u) (fun u : rf_S => rf_ cI q n u) := by
  refine wb_start (S := rf_S) (by decide) (Nat.le_of_ble_eq_true rfl) ?_
  intro p e0 s0 m below meth c ls A hx hb hr hml htg hown hk hP hK hN hl hAe hsz hD hA
  have hl : lv_has ls 3 [(0, .ref (q 0))] := hl
  have hP : va_P D cl_all ([((q 0), .inr (6, [.int (nI (n)), .ref (q 2), .ref (q 3), .ref (q 4), .ref (q 5), .ref (q 6), .ref (q 7), .ref (q 8), .ref (q 9), .ref (q 10), .ref (q 11), .ref (q 12), .ref (q 13), .ref (q 14)])), ((q 2), .inl (cI, 10, .inl (g 0))), ((q 3), .inl (cI, 2, .inl (g 1))), ((q 4), .inl (cI, 2, .inl (g 2))), ((q 5), .inl (cI, 2, .inl (g 3))), ((q 6), .inl (cI, 20, .inl (g 4))), ((q 7), .inl (cI, 20, .inl (g 5))), ((q 8), .inl (cI, 20, .inl (g 6))), ((q 9), .inl (cI, 8, .inl (g 7))), ((q 10), .inl (cI, 80, .inl (g 8))), ((q 11), .inl (cI, 8, .inl (g 9))), ((q 12), .inl (cI, 16, .inl (g 10))), ((q 13), .inl (cI, 16, .inl (g 11))), ((q 14), .inl (cI, 2048, .inl (g 12)))]) s0.heap := hP
  have hD : va_D A ([((q 0), .inr (6, [.int (nI (n)), .ref (q 2), .ref (q 3), .ref (q 4), .ref (q 5), .ref (q 6), .ref (q 7), .ref (q 8), .ref (q 9), .ref (q 10), .ref (q 11), .ref (q 12), .ref (q 13), .ref (q 14)])), ((q 2), .inl (cI, 10, .inl (g 0))), ((q 3), .inl (cI, 2, .inl (g 1))), ((q 4), .inl (cI, 2, .inl (g 2))), ((q 5), .inl (cI, 2, .inl (g 3))), ((q 6), .inl (cI, 20, .inl (g 4))), ((q 7), .inl (cI, 20, .inl (g 5))), ((q 8), .inl (cI, 20, .inl (g 6))), ((q 9), .inl (cI, 8, .inl (g 7))), ((q 10), .inl (cI, 80, .inl (g 8))), ((q 11), .inl (cI, 8, .inl (g 9))), ((q 12), .inl (cI, 16, .inl (g 10))), ((q 13), .inl (cI, 16, .inl (g 11))), ((q 14), .inl (cI, 2048, .inl (g 12)))]) := hD
  have hS : va_S A s0.heap s0.heap [] := va_S.rf
  have hRf : 4 ≤ ({ frames := 4, cells := 0, slots := 0, locals := 98 } : Room).frames := Nat.le_refl _
  have hRl : 98 ≤ ({ frames := 4, cells := 0, slots := 0, locals := 98 } : Room).locals := Nat.le_refl _
  have hCS : 0 ≤ ({ frames := 4, cells := 0, slots := 0, locals := 98 } : Room).cells ∧ 0 ≤ ({ frames := 4, cells := 0, slots := 0, locals := 98 } : Room).slots := ⟨Nat.zero_le _, Nat.zero_le _⟩
  have h2n : 2 ^ n ≤ 1024 := Nat.pow_le_pow_right (by omega) hn
  have h2p : 1 ≤ 2 ^ n := Nat.one_le_two_pow
  refine lv_aload_n hx hb nd_CM_joint_0 rfl (lv_at hl 0 rfl) ?_
  refine wd_Vv0 (C := nr_CM) (n := 0) (Y := rf_ cI q n g) hx hb hml hown htg (c_CM_work l D cI cG cM q n hn1 hn g y hI _) tm_513 tm_510 tm_512 tp_20 tm_9 (by decide +kernel) ⟨⟨Nat.le_trans (by decide) hRf, Nat.le_trans (by decide) hRl⟩, rfl, rfl⟩ hP hD hS hA hK hN (va_recv (q0 := 0) (ci := 6) hK hP rfl rfl) rfl hl.1 rfl (Nat.le_of_ble_eq_true rfl) nd_CM_joint_1 hCS (fun u1 H locs hp1 hP hD hS => ?_)
  have hP : va_P D cl_all ([((q 0), .inr (6, [.int (nI (n)), .ref (q 2), .ref (q 3), .ref (q 4), .ref (q 5), .ref (q 6), .ref (q 7), .ref (q 8), .ref (q 9), .ref (q 10), .ref (q 11), .ref (q 12), .ref (q 13), .ref (q 14)])), ((q 2), .inl (cI, 10, .inl (u1 0))), ((q 3), .inl (cI, 2, .inl (u1 1))), ((q 4), .inl (cI, 2, .inl (u1 2))), ((q 5), .inl (cI, 2, .inl (u1 3))), ((q 6), .inl (cI, 20, .inl (u1 4))), ((q 7), .inl (cI, 20, .inl (u1 5))), ((q 8), .inl (cI, 20, .inl (u1 6))), ((q 9), .inl (cI, 8, .inl (u1 7))), ((q 10), .inl (cI, 80, .inl (u1 8))), ((q 11), .inl (cI, 8, .inl (u1 9))), ((q 12), .inl (cI, 16, .inl (u1 10))), ((q 13), .inl (cI, 16, .inl (u1 11))), ((q 14), .inl (cI, 2048, .inl (u1 12)))]) H := hP
  have hD : va_D A ([((q 0), .inr (6, [.int (nI (n)), .ref (q 2), .ref (q 3), .ref (q 4), .ref (q 5), .ref (q 6), .ref (q 7), .ref (q 8), .ref (q 9), .ref (q 10), .ref (q 11), .ref (q 12), .ref (q 13), .ref (q 14)])), ((q 2), .inl (cI, 10, .inl (u1 0))), ((q 3), .inl (cI, 2, .inl (u1 1))), ((q 4), .inl (cI, 2, .inl (u1 2))), ((q 5), .inl (cI, 2, .inl (u1 3))), ((q 6), .inl (cI, 20, .inl (u1 4))), ((q 7), .inl (cI, 20, .inl (u1 5))), ((q 8), .inl (cI, 20, .inl (u1 6))), ((q 9), .inl (cI, 8, .inl (u1 7))), ((q 10), .inl (cI, 80, .inl (u1 8))), ((q 11), .inl (cI, 8, .inl (u1 9))), ((q 12), .inl (cI, 16, .inl (u1 10))), ((q 13), .inl (cI, 16, .inl (u1 11))), ((q 14), .inl (cI, 2048, .inl (u1 12)))]) := hD
  refine wi_ic hx hb (a := 0) nd_CM_joint_4 ?_
  refine lv_istore_n hx hb nd_CM_joint_5 rfl hl (by decide) rfl (fun ls hl => ?_)
  have hl : lv_has ls 3 [(1, .int (nI (0))), (0, .ref (q 0))] := hl
  refine wi_ic hx hb (a := 0) nd_CM_joint_6 ?_
  refine lv_istore_n hx hb nd_CM_joint_7 rfl hl (by decide) rfl (fun ls hl => ?_)
  have hl : lv_has ls 3 [(2, .int (nI (0))), (1, .int (nI (0))), (0, .ref (q 0))] := hl
  have hl : lv_has ls 3 [(2, .int (nI (0))), (1, .int (nI (0))), (0, .ref (q 0))] := lv_sub hl [0, 1, 2] rfl
  refine lp_CM_joint cI cG cM q n hn1 hn u1 y hp1.2 (fun w hw => (hI.2 w hw).1) hx hb hml htg hown hK hN hA hRf hRl hCS (fun ls H locs hl hP hD hS => ?_) (2 ^ n + 1) 0 ls H locs (by omega) (by omega) hl hP hD hS
  have hje := jm_e hn (fun w hw => (hI.2 w hw).1)
  refine lv_iload_n hx hb nd_CM_joint_49 rfl (lv_at hl 0 rfl) ?_
  exact wb_iret u1 hx hb hr hk hAe (⟨congrArg nI hje, rf_keep hn (fun j hj => hp1.1 j hj) hI⟩) hP hD hS nd_CM_joint_50
