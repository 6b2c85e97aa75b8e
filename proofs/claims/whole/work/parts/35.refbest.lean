/-! The reference: comesFirst, best. -/
theorem ms_F_ok (w : Nat → Int32) (t : Nat) : ∀ k, (∃ i, i < k ∧ t.testBit i = false) → t.testBit (ms_F w t k) = false ∧ ∀ b, b < k → t.testBit b = false → b = ms_F w t k ∨ mt_bf (fun i => (w i).toInt) (ms_F w t k) b := by
  intro k
  induction k with
  | zero => rintro ⟨i, h, -⟩; omega
  | succ k ih =>
    intro hex
    by_cases h0 : k = 0
    · subst h0
      obtain ⟨i, hi, hb⟩ := hex
      have : i = 0 := by omega
      subst this
      exact ⟨hb, fun b hb2 _ => Or.inl (by show b = 0; omega)⟩
    · have h1 : 1 ≤ k := by omega
      by_cases hc : mt_bt t k = 0 ∧ (mt_bt t (ms_F w t k) = 1 ∨ w (ms_F w t k) < w k)
      · rw [ms_Fy h1 hc.1 hc.2]
        refine ⟨mt_bt_f.mp hc.1, fun b hb hbf => ?_⟩
        by_cases q : b = k
        · exact Or.inl q
        · obtain ⟨f1, f2⟩ := ih ⟨b, by omega, hbf⟩
          have hlt : (w (ms_F w t k)).toInt < (w k).toInt := by
            rcases hc.2 with z | z
            · rw [mt_bt_t.mp z] at f1; cases f1
            · exact Int32.lt_iff_toInt_lt.mp z
          refine Or.inr (Or.inl ?_)
          show (w b).toInt < (w k).toInt
          rcases f2 b (by omega) hbf with z | z
          · rw [z]; exact hlt
          · have z : (w b).toInt < (w (ms_F w t k)).toInt ∨ ((w b).toInt = (w (ms_F w t k)).toInt ∧ ms_F w t k < b) := z
            omega
      · rw [ms_Fn h1 hc]
        have hex2 : ∃ i, i < k ∧ t.testBit i = false := by
          obtain ⟨i, hi, hb⟩ := hex
          by_cases q : i = k
          · subst q
            have hF := ms_F_lt w t i h1
            refine ⟨ms_F w t i, hF, ?_⟩
            cases hz : t.testBit (ms_F w t i) with
            | false => rfl
            | true => exact absurd ⟨mt_bt_f.mpr hb, Or.inl (mt_bt_t.mpr hz)⟩ hc
          · exact ⟨i, by omega, hb⟩
        obtain ⟨f1, f2⟩ := ih hex2
        refine ⟨f1, fun b hb hbf => ?_⟩
        by_cases q : b = k
        · subst q
          have hF := ms_F_lt w t b h1
          have hnl : ¬ w (ms_F w t b) < w b := fun z => hc ⟨mt_bt_f.mpr hbf, Or.inr z⟩
          have hle := Int32.le_iff_toInt_le.mp (Int32.not_lt.mp hnl)
          refine Or.inr ?_
          show (w b).toInt < (w (ms_F w t b)).toInt ∨ ((w b).toInt = (w (ms_F w t b)).toInt ∧ ms_F w t b < b)
          omega
        · exact f2 b (by omega) hbf
theorem mt_cd_out {n t : Nat} (h : mt_cd n t < n) : ∃ i, i < n ∧ t.testBit i = false := by
  induction n with
  | zero => omega
  | succ n ih =>
    simp only [mt_cd] at h
    cases hb : t.testBit n with
    | false => exact ⟨n, by omega, hb⟩
    | true =>
      rw [hb] at h
      simp at h
      obtain ⟨i, h1, h2⟩ := ih h
      exact ⟨i, by omega, h2⟩
theorem gb_gi {n : Nat} {w : Nat → Int32} {r : Nat → Nat} (hM : mt_M n r) : ∀ k, k ≤ n → mt_gi (fun i => (w i).toInt) n r (gb_ n w r k).1 (gb_ n w r k).2 ∧ mt_cd n (gb_ n w r k).1 = k := by
  intro k
  induction k with
  | zero => intro _; exact ⟨mt_gi_0 hM, mt_cd_0 n⟩
  | succ k ih =>
    intro hk
    obtain ⟨h1, h2⟩ := ih (by omega)
    have hF := ms_F_lt w (gb_ n w r k).1 n (by omega)
    obtain ⟨f1, f2⟩ := ms_F_ok w (gb_ n w r k).1 n (mt_cd_out (by omega))
    have hs := mt_gi_s hM h1 hF f1 f2
    simp only [gb_]
    refine ⟨?_, by rw [mt_cd_add hF f1, h2]⟩
    by_cases q : r ((gb_ n w r k).2 ||| 2 ^ ms_F w (gb_ n w r k).1 n) = mt_cd n ((gb_ n w r k).2 ||| 2 ^ ms_F w (gb_ n w r k).1 n)
    · rw [if_pos q]; exact hs.1 q
    · rw [if_neg q]; exact hs.2 q
theorem gb_gr {n : Nat} {w : Nat → Int32} {r : Nat → Nat} (hM : mt_M n r) : mt_gr (fun i => (w i).toInt) n r (gb_ n w r n).2 := mt_gi_e (gb_gi hM n (Nat.le_refl n)).1 (gb_gi hM n (Nat.le_refl n)).2
theorem ms_W_int {n : Nat} (hn : n ≤ 10) {w : Nat → Int32} (hw : ∀ e, e < n → -1000000 ≤ (w e).toInt ∧ (w e).toInt ≤ 1000000) (s : Nat) : ∀ k, k ≤ n → (ms_W w k s).toInt = mt_W (fun i => (w i).toInt) k s ∧ -(1000000 * (k : Int)) ≤ (ms_W w k s).toInt ∧ (ms_W w k s).toInt ≤ 1000000 * (k : Int) := by
  intro k
  induction k with
  | zero => intro _; exact ⟨rfl, (show -(1000000 * ((0 : Nat) : Int)) ≤ (0 : Int32).toInt by decide), (show (0 : Int32).toInt ≤ 1000000 * ((0 : Nat) : Int) by decide)⟩
  | succ k ih =>
    intro hk
    obtain ⟨a, b, c⟩ := ih (by omega)
    have hb := hw k (by omega)
    simp only [ms_W, mt_W]
    by_cases q : s.testBit k = true
    · rw [if_pos q, if_pos q]
      have hadd : (ms_W w k s + w k).toInt = (ms_W w k s).toInt + (w k).toInt := by
        rw [Int32.toInt_add]
        rw [Int.bmod_eq_of_le (by omega) (by omega)]
      rw [hadd, a]
      refine ⟨rfl, ?_, ?_⟩ <;> omega
    · rw [if_neg q, if_neg q, Int.add_zero]
      refine ⟨a, ?_, ?_⟩ <;> omega
theorem ms_sub {n : Nat} (hn : n ≤ 10) {w : Nat → Int32} (hw : ∀ e, e < n → -1000000 ≤ (w e).toInt ∧ (w e).toInt ≤ 1000000) (s t : Nat) : (ms_W w n s - ms_W w n t).toInt = mt_W (fun i => (w i).toInt) n s - mt_W (fun i => (w i).toInt) n t := by
  obtain ⟨a, b, c⟩ := ms_W_int hn hw s n (Nat.le_refl n)
  obtain ⟨a2, b2, c2⟩ := ms_W_int hn hw t n (Nat.le_refl n)
  rw [Int32.toInt_sub, Int.bmod_eq_of_le (by omega) (by omega), a, a2]
def om_ (o : Option Nat) : Int32 := match o with | none => -1 | some b => nI b
theorem om_neg {o : Option Nat} (h : ∀ b, o = some b → b < 2 ^ 31) : om_ o < 0 ↔ o = none := by
  cases o with
  | none => show (-1 : Int32) < 0 ↔ _; exact ⟨fun _ => rfl, fun _ => by decide⟩
  | some b =>
    simp only [om_]
    constructor
    · intro q; exact absurd q (nI_pos (h b rfl))
    · intro q; cases q
theorem nI_dec (e : Nat) : nI e + Int32.ofInt (-1) = nI e - nI 1 := by
  rw [Int32.sub_eq_add_neg]
  rfl
theorem nI_dz {k : Nat} (h : k < 2 ^ 31) : nI k - nI 1 < 0 ↔ k = 0 := by
  constructor
  · intro q
    refine Classical.byContradiction fun z => ?_
    obtain ⟨e, rfl⟩ : ∃ e, k = e + 1 := ⟨k - 1, by omega⟩
    rw [pk_sub (by omega)] at q
    exact nI_pos (show e + 1 - 1 < 2 ^ 31 by omega) q
  · intro q; subst q; decide
def ff_ (w : Nat → Int) (n x k : Nat) (o : Option Nat) : Prop := (o = none → ∀ i, k ≤ i → i < n → x.testBit i = false) ∧ ∀ f, o = some f → k ≤ f ∧ f < n ∧ x.testBit f = true ∧ ∀ i, k ≤ i → i < n → x.testBit i = true → i = f ∨ mt_bf w f i
theorem ff_n {w : Nat → Int} {n x : Nat} : ff_ w n x n none := ⟨fun _ i h1 h2 => by omega, fun f h => by cases h⟩
theorem ff_f {w : Nat → Int} {n x e : Nat} {o : Option Nat} (h : ff_ w n x (e + 1) o) (hb : x.testBit e = false) : ff_ w n x e o :=
  ⟨fun q i h1 h2 => if z : i = e then z ▸ hb else h.1 q i (by omega) h2, fun f hf => ⟨by have := (h.2 f hf).1; omega, (h.2 f hf).2.1, (h.2 f hf).2.2.1, fun i h1 h2 h3 => if z : i = e then by rw [z, hb] at h3; cases h3 else (h.2 f hf).2.2.2 i (by omega) h2 h3⟩⟩
theorem ff_0 {w : Nat → Int} {n x e : Nat} (h : ff_ w n x (e + 1) none) (he : e < n) (hb : x.testBit e = true) : ff_ w n x e (some e) :=
  ⟨fun q => (by cases q), fun f hf => by cases hf; exact ⟨Nat.le_refl _, he, hb, fun i h1 h2 h3 => if z : i = e then Or.inl z else by rw [h.1 rfl i (by omega) h2] at h3; cases h3⟩⟩
theorem ff_y {w : Nat → Int} {n x e f : Nat} (h : ff_ w n x (e + 1) (some f)) (he : e < n) (hb : x.testBit e = true) (hw : w f ≤ w e) : ff_ w n x e (some e) := by
  refine ⟨fun q => (by cases q), fun f' hf => ?_⟩
  cases hf
  obtain ⟨a, b, c, d⟩ := h.2 f rfl
  refine ⟨Nat.le_refl _, he, hb, fun i h1 h2 h3 => ?_⟩
  by_cases z : i = e
  · exact Or.inl z
  · right
    show w i < w e ∨ (w i = w e ∧ e < i)
    rcases d i (by omega) h2 h3 with q | q
    · rw [q]; omega
    · have q : w i < w f ∨ (w i = w f ∧ f < i) := q
      omega
theorem ff_x {w : Nat → Int} {n x e f : Nat} (h : ff_ w n x (e + 1) (some f)) (hw : w e < w f) : ff_ w n x e (some f) := by
  refine ⟨fun q => (by cases q), fun f' hf => ?_⟩
  cases hf
  obtain ⟨a, b, c, d⟩ := h.2 f rfl
  refine ⟨by omega, b, c, fun i h1 h2 h3 => ?_⟩
  by_cases z : i = e
  · right
    rw [z]
    exact Or.inl hw
  · exact d i (by omega) h2 h3
theorem ff_cf {w : Nat → Int} {n s t f : Nat} (h : ff_ w n (s ^^^ t) 0 (some f)) : mt_cf w n s t ↔ s.testBit f = true := by
  obtain ⟨a, b, c, d⟩ := h.2 f rfl
  constructor
  · rintro ⟨f', f1, f2, f3, f4⟩
    rcases d f' (by omega) f1 f2 with q | q
    · rw [← q]; exact f4
    · rcases f3 f b c with z | z
      · rw [z]; exact f4
      · have q : w f' < w f ∨ (w f' = w f ∧ f < f') := q
        have z : w f < w f' ∨ (w f = w f' ∧ f' < f) := z
        omega
  · intro q
    exact ⟨f, b, c, fun e h1 h2 => d e (by omega) h1 h2, q⟩
theorem ff_no {w : Nat → Int} {n s t : Nat} (h : ff_ w n (s ^^^ t) 0 none) : ¬ mt_cf w n s t := fun ⟨f, f1, f2, _, _⟩ => by
  rw [h.1 rfl f (by omega) f1] at f2; cases f2
def bo_ (n : Nat) (r : Nat → Nat) (B i : Nat) (o : Option Nat) : Prop := (B < i → o = some B) ∧ ∀ b, o = some b → b < i ∧ r b = mt_cd n b ∧ r b = r (2 ^ n - 1)
theorem nd_CM_comesFirst_0 : decode nc_CM_comesFirst 0 = .ok (.iconst (-1), 1) := by decide +kernel
theorem nd_CM_comesFirst_1 : decode nc_CM_comesFirst 1 = .ok (.istore_n 3, 1) := by decide +kernel
theorem nd_CM_comesFirst_2 : decode nc_CM_comesFirst 2 = .ok (.aload_n 0, 1) := by decide +kernel
theorem nd_CM_comesFirst_3 : decode nc_CM_comesFirst 3 = .ok (.getfield 49, 3) := by decide +kernel
theorem nd_CM_comesFirst_6 : decode nc_CM_comesFirst 6 = .ok (.iconst 1, 1) := by decide +kernel
theorem nd_CM_comesFirst_7 : decode nc_CM_comesFirst 7 = .ok (.isub, 1) := by decide +kernel
theorem nd_CM_comesFirst_8 : decode nc_CM_comesFirst 8 = .ok (.istore 4, 2) := by decide +kernel
theorem nd_CM_comesFirst_10 : decode nc_CM_comesFirst 10 = .ok (.iload 4, 2) := by decide +kernel
theorem nd_CM_comesFirst_12 : decode nc_CM_comesFirst 12 = .ok (.ifCond .lt 60, 3) := by decide +kernel
theorem nd_CM_comesFirst_15 : decode nc_CM_comesFirst 15 = .ok (.iload_n 1, 1) := by decide +kernel
theorem nd_CM_comesFirst_16 : decode nc_CM_comesFirst 16 = .ok (.iload_n 2, 1) := by decide +kernel
theorem nd_CM_comesFirst_17 : decode nc_CM_comesFirst 17 = .ok (.ixor, 1) := by decide +kernel
theorem nd_CM_comesFirst_18 : decode nc_CM_comesFirst 18 = .ok (.iload 4, 2) := by decide +kernel
theorem nd_CM_comesFirst_20 : decode nc_CM_comesFirst 20 = .ok (.ishr, 1) := by decide +kernel
theorem nd_CM_comesFirst_21 : decode nc_CM_comesFirst 21 = .ok (.iconst 1, 1) := by decide +kernel
theorem nd_CM_comesFirst_22 : decode nc_CM_comesFirst 22 = .ok (.iand, 1) := by decide +kernel
theorem nd_CM_comesFirst_23 : decode nc_CM_comesFirst 23 = .ok (.iconst 1, 1) := by decide +kernel
theorem nd_CM_comesFirst_24 : decode nc_CM_comesFirst 24 = .ok (.if_icmp .ne 7, 3) := by decide +kernel
theorem nd_CM_comesFirst_27 : decode nc_CM_comesFirst 27 = .ok (.iconst 1, 1) := by decide +kernel
theorem nd_CM_comesFirst_28 : decode nc_CM_comesFirst 28 = .ok (.goto 4, 3) := by decide +kernel
theorem nd_CM_comesFirst_31 : decode nc_CM_comesFirst 31 = .ok (.iconst 0, 1) := by decide +kernel
theorem nd_CM_comesFirst_32 : decode nc_CM_comesFirst 32 = .ok (.istore 5, 2) := by decide +kernel
theorem nd_CM_comesFirst_34 : decode nc_CM_comesFirst 34 = .ok (.iload 5, 2) := by decide +kernel
theorem nd_CM_comesFirst_36 : decode nc_CM_comesFirst 36 = .ok (.ifCond .eq 28, 3) := by decide +kernel
theorem nd_CM_comesFirst_39 : decode nc_CM_comesFirst 39 = .ok (.iload_n 3, 1) := by decide +kernel
theorem nd_CM_comesFirst_40 : decode nc_CM_comesFirst 40 = .ok (.ifCond .lt 19, 3) := by decide +kernel
theorem nd_CM_comesFirst_43 : decode nc_CM_comesFirst 43 = .ok (.aload_n 0, 1) := by decide +kernel
theorem nd_CM_comesFirst_44 : decode nc_CM_comesFirst 44 = .ok (.getfield 7, 3) := by decide +kernel
theorem nd_CM_comesFirst_47 : decode nc_CM_comesFirst 47 = .ok (.iload 4, 2) := by decide +kernel
theorem nd_CM_comesFirst_49 : decode nc_CM_comesFirst 49 = .ok (.iaload, 1) := by decide +kernel
theorem nd_CM_comesFirst_50 : decode nc_CM_comesFirst 50 = .ok (.aload_n 0, 1) := by decide +kernel
theorem nd_CM_comesFirst_51 : decode nc_CM_comesFirst 51 = .ok (.getfield 7, 3) := by decide +kernel
theorem nd_CM_comesFirst_54 : decode nc_CM_comesFirst 54 = .ok (.iload_n 3, 1) := by decide +kernel
theorem nd_CM_comesFirst_55 : decode nc_CM_comesFirst 55 = .ok (.iaload, 1) := by decide +kernel
theorem nd_CM_comesFirst_56 : decode nc_CM_comesFirst 56 = .ok (.if_icmp .lt 8, 3) := by decide +kernel
theorem nd_CM_comesFirst_59 : decode nc_CM_comesFirst 59 = .ok (.iload 4, 2) := by decide +kernel
theorem nd_CM_comesFirst_61 : decode nc_CM_comesFirst 61 = .ok (.goto 4, 3) := by decide +kernel
theorem nd_CM_comesFirst_64 : decode nc_CM_comesFirst 64 = .ok (.iload_n 3, 1) := by decide +kernel
theorem nd_CM_comesFirst_65 : decode nc_CM_comesFirst 65 = .ok (.istore_n 3, 1) := by decide +kernel
theorem nd_CM_comesFirst_66 : decode nc_CM_comesFirst 66 = .ok (.iinc 4 (-1), 3) := by decide +kernel
theorem nd_CM_comesFirst_69 : decode nc_CM_comesFirst 69 = .ok (.goto (-59), 3) := by decide +kernel
theorem nd_CM_comesFirst_72 : decode nc_CM_comesFirst 72 = .ok (.iload_n 3, 1) := by decide +kernel
theorem nd_CM_comesFirst_73 : decode nc_CM_comesFirst 73 = .ok (.ifCond .lt 16, 3) := by decide +kernel
theorem nd_CM_comesFirst_76 : decode nc_CM_comesFirst 76 = .ok (.iload_n 1, 1) := by decide +kernel
theorem nd_CM_comesFirst_77 : decode nc_CM_comesFirst 77 = .ok (.iload_n 3, 1) := by decide +kernel
theorem nd_CM_comesFirst_78 : decode nc_CM_comesFirst 78 = .ok (.ishr, 1) := by decide +kernel
theorem nd_CM_comesFirst_79 : decode nc_CM_comesFirst 79 = .ok (.iconst 1, 1) := by decide +kernel
theorem nd_CM_comesFirst_80 : decode nc_CM_comesFirst 80 = .ok (.iand, 1) := by decide +kernel
theorem nd_CM_comesFirst_81 : decode nc_CM_comesFirst 81 = .ok (.iconst 1, 1) := by decide +kernel
theorem nd_CM_comesFirst_82 : decode nc_CM_comesFirst 82 = .ok (.if_icmp .ne 7, 3) := by decide +kernel
theorem nd_CM_comesFirst_85 : decode nc_CM_comesFirst 85 = .ok (.iconst 1, 1) := by decide +kernel
theorem nd_CM_comesFirst_86 : decode nc_CM_comesFirst 86 = .ok (.goto 4, 3) := by decide +kernel
theorem nd_CM_comesFirst_89 : decode nc_CM_comesFirst 89 = .ok (.iconst 0, 1) := by decide +kernel
theorem nd_CM_comesFirst_90 : decode nc_CM_comesFirst 90 = .ok (.ireturn, 1) := by decide +kernel
set_option maxRecDepth 20000 in
theorem lp_CM_comesFirst {p : Program} {l : Launch} {e0 : Env} {R : Room} {s0 : State} {m : MethodId} {args : Array Value} {below : List Frame} {meth : Method} {c : Code} {cells slots : Nat} {Qq : State → Prop} {D : va_G} {A : Nat → Prop} (cI cG cM : ClassId) (q : Nat → Nat) (n : Nat) (hn1 : 1 ≤ n) (hn : n ≤ 10) (g : rf_S) (y : cb_Y) (hwb : ∀ e, e < n → g 0 e = y.1 e) (s t : Nat) (hs : s < 2 ^ n) (ht : t < 2 ^ n)  (hx : p.tables.exec = Jvm.exec) (hb : c.code = nc_CM_comesFirst) (hml : c.maxLocals = 6) (htg : ∀ w ∈ tg_, w.before args s0 = true) (hown : s0.vm.findClass ny_CM_comesFirst.cls = some m.cls) (hK : va_K D cl_all (ty_all cI cG cM) s0) (hN : tn_K s0) (hA : ∀ q : Nat, s0.heap.size ≤ q → A q) (hRf : 0 ≤ R.frames) (hRl : 0 ≤ R.locals) (hCS : cells ≤ R.cells ∧ slots ≤ R.slots) (kx : ∀ (ls : Array Slot) (H : Heap) (locs : List Loc) (o : Option Nat), (ff_ (fun i => (y.1 i).toInt) n (s ^^^ t) 0 o) → lv_has ls 6 [(3, .int ((om_ o))), (1, .int (nI (s)))] → va_P D cl_all ([((q 0), .inr (6, [.int (nI (n)), .ref (q 2), .ref (q 3), .ref (q 4), .ref (q 5), .ref (q 6), .ref (q 7), .ref (q 8), .ref (q 9), .ref (q 10), .ref (q 11), .ref (q 12), .ref (q 13), .ref (q 14)])), ((q 2), .inl (cI, 10, .inl (g 0))), ((q 3), .inl (cI, 2, .inl (g 1))), ((q 4), .inl (cI, 2, .inl (g 2))), ((q 5), .inl (cI, 2, .inl (g 3))), ((q 6), .inl (cI, 20, .inl (g 4))), ((q 7), .inl (cI, 20, .inl (g 5))), ((q 8), .inl (cI, 20, .inl (g 6))), ((q 9), .inl (cI, 8, .inl (g 7))), ((q 10), .inl (cI, 80, .inl (g 8))), ((q 11), .inl (cI, 8, .inl (g 9))), ((q 12), .inl (cI, 16, .inl (g 10))), ((q 13), .inl (cI, 16, .inl (g 11))), ((q 14), .inl (cI, 2048, .inl (g 12)))]) H → va_D A ([((q 0), .inr (6, [.int (nI (n)), .ref (q 2), .ref (q 3), .ref (q 4), .ref (q 5), .ref (q 6), .ref (q 7), .ref (q 8), .ref (q 9), .ref (q 10), .ref (q 11), .ref (q 12), .ref (q 13), .ref (q 14)])), ((q 2), .inl (cI, 10, .inl (g 0))), ((q 3), .inl (cI, 2, .inl (g 1))), ((q 4), .inl (cI, 2, .inl (g 2))), ((q 5), .inl (cI, 2, .inl (g 3))), ((q 6), .inl (cI, 20, .inl (g 4))), ((q 7), .inl (cI, 20, .inl (g 5))), ((q 8), .inl (cI, 20, .inl (g 6))), ((q 9), .inl (cI, 8, .inl (g 7))), ((q 10), .inl (cI, 80, .inl (g 8))), ((q 11), .inl (cI, 8, .inl (g 9))), ((q 12), .inl (cI, 16, .inl (g 10))), ((q 13), .inl (cI, 16, .inl (g 11))), ((q 14), .inl (cI, 2048, .inl (g 12)))]) → va_S A s0.heap H locs → W p l e0 R s0 m args below meth c H locs cells slots Qq (F0 m 72 ls [])) : ∀ (fuel : Nat) (k : Nat) (o : Option Nat) (ls : Array Slot) (H : Heap) (locs : List Loc), k < fuel → (k ≤ n) → (ff_ (fun i => (y.1 i).toInt) n (s ^^^ t) k o) → lv_has ls 6 [(4, .int ((nI k - nI 1))), (3, .int ((om_ o))), (0, .ref (q 0)), (1, .int (nI (s))), (2, .int (nI (t)))] → va_P D cl_all ([((q 0), .inr (6, [.int (nI (n)), .ref (q 2), .ref (q 3), .ref (q 4), .ref (q 5), .ref (q 6), .ref (q 7), .ref (q 8), .ref (q 9), .ref (q 10), .ref (q 11), .ref (q 12), .ref (q 13), .ref (q 14)])), ((q 2), .inl (cI, 10, .inl (g 0))), ((q 3), .inl (cI, 2, .inl (g 1))), ((q 4), .inl (cI, 2, .inl (g 2))), ((q 5), .inl (cI, 2, .inl (g 3))), ((q 6), .inl (cI, 20, .inl (g 4))), ((q 7), .inl (cI, 20, .inl (g 5))), ((q 8), .inl (cI, 20, .inl (g 6))), ((q 9), .inl (cI, 8, .inl (g 7))), ((q 10), .inl (cI, 80, .inl (g 8))), ((q 11), .inl (cI, 8, .inl (g 9))), ((q 12), .inl (cI, 16, .inl (g 10))), ((q 13), .inl (cI, 16, .inl (g 11))), ((q 14), .inl (cI, 2048, .inl (g 12)))]) H → va_D A ([((q 0), .inr (6, [.int (nI (n)), .ref (q 2), .ref (q 3), .ref (q 4), .ref (q 5), .ref (q 6), .ref (q 7), .ref (q 8), .ref (q 9), .ref (q 10), .ref (q 11), .ref (q 12), .ref (q 13), .ref (q 14)])), ((q 2), .inl (cI, 10, .inl (g 0))), ((q 3), .inl (cI, 2, .inl (g 1))), ((q 4), .inl (cI, 2, .inl (g 2))), ((q 5), .inl (cI, 2, .inl (g 3))), ((q 6), .inl (cI, 20, .inl (g 4))), ((q 7), .inl (cI, 20, .inl (g 5))), ((q 8), .inl (cI, 20, .inl (g 6))), ((q 9), .inl (cI, 8, .inl (g 7))), ((q 10), .inl (cI, 80, .inl (g 8))), ((q 11), .inl (cI, 8, .inl (g 9))), ((q 12), .inl (cI, 16, .inl (g 10))), ((q 13), .inl (cI, 16, .inl (g 11))), ((q 14), .inl (cI, 2048, .inl (g 12)))]) → va_S A s0.heap H locs → W p l e0 R s0 m args below meth c H locs cells slots Qq (F0 m 10 ls []) := by
  intro fuel
  induction fuel with
  | zero => intro k o ls H locs hfu; omega
  | succ fuel ih =>
    intro k o ls H locs hfu hk hff hl hP hD hS
    have h2n : 2 ^ n ≤ 1024 := Nat.pow_le_pow_right (by omega) hn
    have h2p : 1 ≤ 2 ^ n := Nat.one_le_two_pow
    refine lv_iload hx hb nd_CM_comesFirst_10 (lv_at hl 0 rfl) ?_
    refine lv_if_lt (tgt := 72) hx hb nd_CM_comesFirst_12 rfl (fun hc12 => ?_) (fun hc12 => ?_)
    · have hl : lv_has ls 6 [(3, .int ((om_ o))), (1, .int (nI (s)))] := lv_sub hl [1, 3] rfl
      have hk0 := (nI_dz (by omega)).mp hc12
      exact kx ls H locs o (by rw [← hk0]; exact hff) hl hP hD hS
    · obtain ⟨e, rfl⟩ : ∃ e, k = e + 1 := ⟨k - 1, by have hk0 : ¬ k = 0 := (fun z => hc12 ((nI_dz (by omega)).mpr z)); omega⟩
      rw [show nI (e + 1) - nI 1 = nI e from pk_sub (by omega)] at hl
      have hl : lv_has ls 6 [(4, .int (nI (e))), (3, .int ((om_ o))), (0, .ref (q 0)), (1, .int (nI (s))), (2, .int (nI (t)))] := hl
      have hxl : s ^^^ t < 2 ^ n := Nat.xor_lt_two_pow hs ht
      have hob : ∀ b, o = some b → b < 2 ^ 31 := fun b hb => by have := (hff.2 b hb).2.1; omega
      refine lv_iload_n hx hb nd_CM_comesFirst_15 rfl (lv_at hl 3 rfl) ?_
      refine lv_iload_n hx hb nd_CM_comesFirst_16 rfl (lv_at hl 4 rfl) ?_
      refine wi_ixor hx hb nd_CM_comesFirst_17 ?_
      refine lv_iload hx hb nd_CM_comesFirst_18 (lv_at hl 0 rfl) ?_
      refine wi_ishr hx hb (by omega) (by omega) nd_CM_comesFirst_20 ?_
      refine wi_ic hx hb (a := 1) nd_CM_comesFirst_21 ?_
      refine wi_bit hx hb nd_CM_comesFirst_22 ?_
      have hbt22 := mt_bt_lt (s ^^^ t) e
      refine wi_ic hx hb (a := 1) nd_CM_comesFirst_23 ?_
      refine wi_icmp_ne (tgt := 31) hx hb (by omega) (by omega) nd_CM_comesFirst_24 rfl (fun hc24 => ?_) (fun hc24 => ?_)
      · refine wi_ic hx hb (a := 0) nd_CM_comesFirst_31 ?_
        refine lv_istore hx hb nd_CM_comesFirst_32 hl (by decide) rfl (fun ls hl => ?_)
        have hl : lv_has ls 6 [(5, .int (nI (0))), (4, .int (nI (e))), (3, .int ((om_ o))), (0, .ref (q 0)), (1, .int (nI (s))), (2, .int (nI (t)))] := hl
        refine lv_iload hx hb nd_CM_comesFirst_34 (lv_at hl 0 rfl) ?_
        refine wi_if_eq (tgt := 64) hx hb (by decide) nd_CM_comesFirst_36 rfl (fun _ => ?_) (fun h => absurd h (by decide))
        refine lv_iload_n hx hb nd_CM_comesFirst_64 rfl (lv_at hl 2 rfl) ?_
        refine lv_istore_n hx hb nd_CM_comesFirst_65 rfl hl (by decide) rfl (fun ls hl => ?_)
        have hl : lv_has ls 6 [(3, .int ((om_ o))), (5, .int (nI (0))), (4, .int (nI (e))), (0, .ref (q 0)), (1, .int (nI (s))), (2, .int (nI (t)))] := hl
        refine lv_iinc (k := 2) (v := (nI (e) + Int32.ofInt (-1))) hx hb nd_CM_comesFirst_66 hl rfl rfl (by decide) rfl (fun ls hl => ?_)
        have hl : lv_has ls 6 [(4, .int ((nI (e) + Int32.ofInt (-1)))), (3, .int ((om_ o))), (5, .int (nI (0))), (0, .ref (q 0)), (1, .int (nI (s))), (2, .int (nI (t)))] := hl
        refine lv_goto (tgt := 10) hx hb nd_CM_comesFirst_69 rfl ?_
        have hl : lv_has ls 6 [(4, .int ((nI (e) + Int32.ofInt (-1)))), (3, .int ((om_ o))), (0, .ref (q 0)), (1, .int (nI (s))), (2, .int (nI (t)))] := lv_sub hl [0, 1, 3, 4, 5] rfl
        exact ih e o ls H locs (by omega) (by omega) (ff_f hff (mt_bt_f.mp (by omega))) (by rw [← nI_dec]; exact hl) hP hD hS
      · refine wi_ic hx hb (a := 1) nd_CM_comesFirst_27 ?_
        refine lv_goto (tgt := 32) hx hb nd_CM_comesFirst_28 rfl ?_
        refine lv_istore hx hb nd_CM_comesFirst_32 hl (by decide) rfl (fun ls hl => ?_)
        have hl : lv_has ls 6 [(5, .int (nI (1))), (4, .int (nI (e))), (3, .int ((om_ o))), (0, .ref (q 0)), (1, .int (nI (s))), (2, .int (nI (t)))] := hl
        refine lv_iload hx hb nd_CM_comesFirst_34 (lv_at hl 0 rfl) ?_
        refine wi_if_eq (tgt := 64) hx hb (by decide) nd_CM_comesFirst_36 rfl (fun h => absurd h (by decide)) (fun _ => ?_)
        refine lv_iload_n hx hb nd_CM_comesFirst_39 rfl (lv_at hl 2 rfl) ?_
        refine lv_if_lt (tgt := 59) hx hb nd_CM_comesFirst_40 rfl (fun hc40 => ?_) (fun hc40 => ?_)
        · refine lv_iload hx hb nd_CM_comesFirst_59 (lv_at hl 1 rfl) ?_
          refine lv_goto (tgt := 65) hx hb nd_CM_comesFirst_61 rfl ?_
          refine lv_istore_n hx hb nd_CM_comesFirst_65 rfl hl (by decide) rfl (fun ls hl => ?_)
          have hl : lv_has ls 6 [(3, .int (nI (e))), (5, .int (nI (1))), (4, .int (nI (e))), (0, .ref (q 0)), (1, .int (nI (s))), (2, .int (nI (t)))] := hl
          refine lv_iinc (k := 2) (v := (nI (e) + Int32.ofInt (-1))) hx hb nd_CM_comesFirst_66 hl rfl rfl (by decide) rfl (fun ls hl => ?_)
          have hl : lv_has ls 6 [(4, .int ((nI (e) + Int32.ofInt (-1)))), (3, .int (nI (e))), (5, .int (nI (1))), (0, .ref (q 0)), (1, .int (nI (s))), (2, .int (nI (t)))] := hl
          refine lv_goto (tgt := 10) hx hb nd_CM_comesFirst_69 rfl ?_
          have hl : lv_has ls 6 [(4, .int ((nI (e) + Int32.ofInt (-1)))), (3, .int (nI (e))), (0, .ref (q 0)), (1, .int (nI (s))), (2, .int (nI (t)))] := lv_sub hl [0, 1, 3, 4, 5] rfl
          have ho := (om_neg hob).mp hc40
          rw [ho] at hff
          exact ih e (some e) ls H locs (by omega) (by omega) (ff_0 hff (by omega) (mt_bt_t.mp (by omega))) (by rw [← nI_dec]; exact hl) hP hD hS
        · obtain ⟨f0, hf0⟩ : ∃ b, o = some b := by cases hq0 : o with | none => exact absurd ((om_neg hob).mpr hq0) hc40 | some b => exact ⟨b, rfl⟩
          have hfl := (hff.2 f0 hf0).2.1
          refine lv_aload_n hx hb nd_CM_comesFirst_43 rfl (lv_at hl 3 rfl) ?_
          refine va_get (D := D) (C := nr_CM) (T := nt_CM) (N := 14) hx hb htg tf_CM hown hK hP 0 rfl rfl 1 (by decide) (htg _ tm_384) (fun _ h => h) rfl nd_CM_comesFirst_44 ?_
          refine lv_iload hx hb nd_CM_comesFirst_47 (lv_at hl 1 rfl) ?_
          refine wi_iald hx hb hK hP 1 0 rfl rfl (by omega) (by omega) nd_CM_comesFirst_49 ?_
          refine wi_top (hwb e (by omega)) ?_
          refine lv_aload_n hx hb nd_CM_comesFirst_50 rfl (lv_at hl 3 rfl) ?_
          refine va_get (D := D) (C := nr_CM) (T := nt_CM) (N := 14) hx hb htg tf_CM hown hK hP 0 rfl rfl 1 (by decide) (htg _ tm_384) (fun _ h => h) rfl nd_CM_comesFirst_51 ?_
          refine lv_iload_n hx hb nd_CM_comesFirst_54 rfl (lv_at hl 2 rfl) ?_
          refine wi_top (show om_ o = nI f0 by rw [hf0]; rfl) ?_
          refine wi_iald hx hb hK hP 1 0 rfl rfl (by omega) (by omega) nd_CM_comesFirst_55 ?_
          refine wi_top (hwb f0 (by omega)) ?_
          refine lv_icmp_lt (tgt := 64) hx hb nd_CM_comesFirst_56 rfl (fun hc56 => ?_) (fun hc56 => ?_)
          · refine lv_iload_n hx hb nd_CM_comesFirst_64 rfl (lv_at hl 2 rfl) ?_
            refine lv_istore_n hx hb nd_CM_comesFirst_65 rfl hl (by decide) rfl (fun ls hl => ?_)
            have hl : lv_has ls 6 [(3, .int ((om_ o))), (5, .int (nI (1))), (4, .int (nI (e))), (0, .ref (q 0)), (1, .int (nI (s))), (2, .int (nI (t)))] := hl
            refine lv_iinc (k := 2) (v := (nI (e) + Int32.ofInt (-1))) hx hb nd_CM_comesFirst_66 hl rfl rfl (by decide) rfl (fun ls hl => ?_)
            have hl : lv_has ls 6 [(4, .int ((nI (e) + Int32.ofInt (-1)))), (3, .int ((om_ o))), (5, .int (nI (1))), (0, .ref (q 0)), (1, .int (nI (s))), (2, .int (nI (t)))] := hl
            refine lv_goto (tgt := 10) hx hb nd_CM_comesFirst_69 rfl ?_
            have hl : lv_has ls 6 [(4, .int ((nI (e) + Int32.ofInt (-1)))), (3, .int ((om_ o))), (0, .ref (q 0)), (1, .int (nI (s))), (2, .int (nI (t)))] := lv_sub hl [0, 1, 3, 4, 5] rfl
            rw [hf0] at hff
            rw [hf0] at hl
            exact ih e (some f0) ls H locs (by omega) (by omega) (ff_x hff (Int32.lt_iff_toInt_lt.mp hc56)) (by rw [← nI_dec]; exact hl) hP hD hS
          · refine lv_iload hx hb nd_CM_comesFirst_59 (lv_at hl 1 rfl) ?_
            refine lv_goto (tgt := 65) hx hb nd_CM_comesFirst_61 rfl ?_
            refine lv_istore_n hx hb nd_CM_comesFirst_65 rfl hl (by decide) rfl (fun ls hl => ?_)
            have hl : lv_has ls 6 [(3, .int (nI (e))), (5, .int (nI (1))), (4, .int (nI (e))), (0, .ref (q 0)), (1, .int (nI (s))), (2, .int (nI (t)))] := hl
            refine lv_iinc (k := 2) (v := (nI (e) + Int32.ofInt (-1))) hx hb nd_CM_comesFirst_66 hl rfl rfl (by decide) rfl (fun ls hl => ?_)
            have hl : lv_has ls 6 [(4, .int ((nI (e) + Int32.ofInt (-1)))), (3, .int (nI (e))), (5, .int (nI (1))), (0, .ref (q 0)), (1, .int (nI (s))), (2, .int (nI (t)))] := hl
            refine lv_goto (tgt := 10) hx hb nd_CM_comesFirst_69 rfl ?_
            have hl : lv_has ls 6 [(4, .int ((nI (e) + Int32.ofInt (-1)))), (3, .int (nI (e))), (0, .ref (q 0)), (1, .int (nI (s))), (2, .int (nI (t)))] := lv_sub hl [0, 1, 3, 4, 5] rfl
            rw [hf0] at hff
            exact ih e (some e) ls H locs (by omega) (by omega) (ff_y hff (by omega) (mt_bt_t.mp (by omega)) (Int32.le_iff_toInt_le.mp (Int32.not_lt.mp hc56))) (by rw [← nI_dec]; exact hl) hP hD hS
set_option maxRecDepth 20000 in
theorem c_CM_comesFirst (l : Launch) (D : va_G) (cI cG cM : ClassId)  (q : Nat → Nat) (n : Nat) (hn1 : 1 ≤ n) (hn : n ≤ 10) (g : rf_S) (y : cb_Y) (hwb : ∀ e, e < n → g 0 e = y.1 e) (s t : Nat) (hs : s < 2 ^ n) (ht : t < 2 ^ n)  (sz : Nat) : wb_Mi l ny_CM_comesFirst nc_CM_comesFirst 6 (some .boolean) ({ frames := 0, cells := 0, slots := 0, locals := 0 }) D (ty_all cI cG cM) (rf_ cI q n g) sz [.ref (q 0), .int (nI (s)), .int (nI (t))] (fun (v : Int32) (u : rf_S) => (mt_cf (fun i => (y.1 i).toInt) n s t → v = nI 1) ∧ (¬ mt_cf (fun i => (y.1 i).toInt) n s t → v = nI 0) ∧ u = g) (fun u : rf_S => rf_ cI q n u) := by
  refine wb_start (S := rf_S) (by decide) (Nat.le_of_ble_eq_true rfl) ?_
  intro p e0 s0 m below meth c ls A hx hb hr hml htg hown hk hP hK hN hl hAe hsz hD hA
  have hl : lv_has ls 6 [(0, .ref (q 0)), (1, .int (nI (s))), (2, .int (nI (t)))] := hl
  have hP : va_P D cl_all ([((q 0), .inr (6, [.int (nI (n)), .ref (q 2), .ref (q 3), .ref (q 4), .ref (q 5), .ref (q 6), .ref (q 7), .ref (q 8), .ref (q 9), .ref (q 10), .ref (q 11), .ref (q 12), .ref (q 13), .ref (q 14)])), ((q 2), .inl (cI, 10, .inl (g 0))), ((q 3), .inl (cI, 2, .inl (g 1))), ((q 4), .inl (cI, 2, .inl (g 2))), ((q 5), .inl (cI, 2, .inl (g 3))), ((q 6), .inl (cI, 20, .inl (g 4))), ((q 7), .inl (cI, 20, .inl (g 5))), ((q 8), .inl (cI, 20, .inl (g 6))), ((q 9), .inl (cI, 8, .inl (g 7))), ((q 10), .inl (cI, 80, .inl (g 8))), ((q 11), .inl (cI, 8, .inl (g 9))), ((q 12), .inl (cI, 16, .inl (g 10))), ((q 13), .inl (cI, 16, .inl (g 11))), ((q 14), .inl (cI, 2048, .inl (g 12)))]) s0.heap := hP
  have hD : va_D A ([((q 0), .inr (6, [.int (nI (n)), .ref (q 2), .ref (q 3), .ref (q 4), .ref (q 5), .ref (q 6), .ref (q 7), .ref (q 8), .ref (q 9), .ref (q 10), .ref (q 11), .ref (q 12), .ref (q 13), .ref (q 14)])), ((q 2), .inl (cI, 10, .inl (g 0))), ((q 3), .inl (cI, 2, .inl (g 1))), ((q 4), .inl (cI, 2, .inl (g 2))), ((q 5), .inl (cI, 2, .inl (g 3))), ((q 6), .inl (cI, 20, .inl (g 4))), ((q 7), .inl (cI, 20, .inl (g 5))), ((q 8), .inl (cI, 20, .inl (g 6))), ((q 9), .inl (cI, 8, .inl (g 7))), ((q 10), .inl (cI, 80, .inl (g 8))), ((q 11), .inl (cI, 8, .inl (g 9))), ((q 12), .inl (cI, 16, .inl (g 10))), ((q 13), .inl (cI, 16, .inl (g 11))), ((q 14), .inl (cI, 2048, .inl (g 12)))]) := hD
  have hS : va_S A s0.heap s0.heap [] := va_S.rf
  have hRf : 0 ≤ ({ frames := 0, cells := 0, slots := 0, locals := 0 } : Room).frames := Nat.le_refl _
  have hRl : 0 ≤ ({ frames := 0, cells := 0, slots := 0, locals := 0 } : Room).locals := Nat.le_refl _
  have hCS : 0 ≤ ({ frames := 0, cells := 0, slots := 0, locals := 0 } : Room).cells ∧ 0 ≤ ({ frames := 0, cells := 0, slots := 0, locals := 0 } : Room).slots := ⟨Nat.zero_le _, Nat.zero_le _⟩
  have h2n : 2 ^ n ≤ 1024 := Nat.pow_le_pow_right (by omega) hn
  have h2p : 1 ≤ 2 ^ n := Nat.one_le_two_pow
  refine lv_iconst (v := -1) hx hb nd_CM_comesFirst_0 (by decide) ?_
  refine lv_istore_n hx hb nd_CM_comesFirst_1 rfl hl (by decide) rfl (fun ls hl => ?_)
  have hl : lv_has ls 6 [(3, .int ((-1))), (0, .ref (q 0)), (1, .int (nI (s))), (2, .int (nI (t)))] := hl
  refine lv_aload_n hx hb nd_CM_comesFirst_2 rfl (lv_at hl 1 rfl) ?_
  refine va_get (D := D) (C := nr_CM) (T := nt_CM) (N := 14) hx hb htg tf_CM hown hK hP 0 rfl rfl 0 (by decide) (htg _ tm_383) (fun _ h => h) rfl nd_CM_comesFirst_3 ?_
  refine wi_ic hx hb (a := 1) nd_CM_comesFirst_6 ?_
  refine lv_isub hx hb nd_CM_comesFirst_7 ?_
  refine lv_istore hx hb nd_CM_comesFirst_8 hl (by decide) rfl (fun ls hl => ?_)
  have hl : lv_has ls 6 [(4, .int ((nI (n) - nI (1)))), (3, .int ((-1))), (0, .ref (q 0)), (1, .int (nI (s))), (2, .int (nI (t)))] := hl
  have hl : lv_has ls 6 [(4, .int ((nI (n) - nI (1)))), (3, .int ((-1))), (0, .ref (q 0)), (1, .int (nI (s))), (2, .int (nI (t)))] := lv_sub hl [0, 1, 2, 3, 4] rfl
  refine lp_CM_comesFirst cI cG cM q n hn1 hn g y hwb s t hs ht hx hb hml htg hown hK hN hA hRf hRl hCS (fun ls H locs o hff hl hP hD hS => ?_) (n + 1) n none ls s0.heap [] (by omega) (by omega) ff_n hl hP hD hS
  have hob : ∀ b, o = some b → b < 2 ^ 31 := fun b hb => by have := (hff.2 b hb).2.1; omega
  refine lv_iload_n hx hb nd_CM_comesFirst_72 rfl (lv_at hl 0 rfl) ?_
  refine lv_if_lt (tgt := 89) hx hb nd_CM_comesFirst_73 rfl (fun hc73 => ?_) (fun hc73 => ?_)
  · refine wi_ic hx hb (a := 0) nd_CM_comesFirst_89 ?_
    exact wb_zret g hx hb hr hk rfl hAe ⟨fun z => absurd z (by have ho := (om_neg hob).mp hc73; subst ho; exact ff_no hff), fun _ => rfl, rfl⟩ hP hD hS nd_CM_comesFirst_90
  · refine lv_iload_n hx hb nd_CM_comesFirst_76 rfl (lv_at hl 1 rfl) ?_
    refine lv_iload_n hx hb nd_CM_comesFirst_77 rfl (lv_at hl 0 rfl) ?_
    obtain ⟨f0, hf0⟩ : ∃ b, o = some b := by cases hq0 : o with | none => exact absurd ((om_neg hob).mpr hq0) hc73 | some b => exact ⟨b, rfl⟩
    have hfl := (hff.2 f0 hf0).2.1
    refine wi_top (show om_ o = nI f0 by rw [hf0]; rfl) ?_
    rw [hf0] at hff
    refine wi_ishr hx hb (by omega) (by omega) nd_CM_comesFirst_78 ?_
    refine wi_ic hx hb (a := 1) nd_CM_comesFirst_79 ?_
    refine wi_bit hx hb nd_CM_comesFirst_80 ?_
    have hbt80 := mt_bt_lt s f0
    refine wi_ic hx hb (a := 1) nd_CM_comesFirst_81 ?_
    refine wi_icmp_ne (tgt := 89) hx hb (by omega) (by omega) nd_CM_comesFirst_82 rfl (fun hc82 => ?_) (fun hc82 => ?_)
    · refine wi_ic hx hb (a := 0) nd_CM_comesFirst_89 ?_
      exact wb_zret g hx hb hr hk rfl hAe ⟨fun z => by have := mt_bt_t.mpr ((ff_cf hff).mp z); omega, fun _ => rfl, rfl⟩ hP hD hS nd_CM_comesFirst_90
    · refine wi_ic hx hb (a := 1) nd_CM_comesFirst_85 ?_
      refine lv_goto (tgt := 90) hx hb nd_CM_comesFirst_86 rfl ?_
      exact wb_zret g hx hb hr hk rfl hAe ⟨fun _ => rfl, fun z => absurd ((ff_cf hff).mpr (mt_bt_t.mp (by omega))) z, rfl⟩ hP hD hS nd_CM_comesFirst_90
theorem nd_CM_best_0 : decode nc_CM_best 0 = .ok (.iload_n 1, 1) := by decide +kernel
theorem nd_CM_best_1 : decode nc_CM_best 1 = .ok (.invokestatic 53, 3) := by decide +kernel
theorem nd_CM_best_4 : decode nc_CM_best 4 = .ok (.ifCond .ne 5, 3) := by decide +kernel
theorem nd_CM_best_7 : decode nc_CM_best 7 = .ok (.iconst (-1), 1) := by decide +kernel
theorem nd_CM_best_8 : decode nc_CM_best 8 = .ok (.ireturn, 1) := by decide +kernel
theorem nd_CM_best_9 : decode nc_CM_best 9 = .ok (.aload_n 0, 1) := by decide +kernel
theorem nd_CM_best_10 : decode nc_CM_best 10 = .ok (.invokevirtual 89, 3) := by decide +kernel
theorem nd_CM_best_13 : decode nc_CM_best 13 = .ok (.aload_n 0, 1) := by decide +kernel
theorem nd_CM_best_14 : decode nc_CM_best 14 = .ok (.getfield 46, 3) := by decide +kernel
theorem nd_CM_best_17 : decode nc_CM_best 17 = .ok (.sipush 1024, 3) := by decide +kernel
theorem nd_CM_best_20 : decode nc_CM_best 20 = .ok (.iload_n 1, 1) := by decide +kernel
theorem nd_CM_best_21 : decode nc_CM_best 21 = .ok (.imul, 1) := by decide +kernel
theorem nd_CM_best_22 : decode nc_CM_best 22 = .ok (.iconst 1, 1) := by decide +kernel
theorem nd_CM_best_23 : decode nc_CM_best 23 = .ok (.aload_n 0, 1) := by decide +kernel
theorem nd_CM_best_24 : decode nc_CM_best 24 = .ok (.getfield 49, 3) := by decide +kernel
theorem nd_CM_best_27 : decode nc_CM_best 27 = .ok (.ishl, 1) := by decide +kernel
theorem nd_CM_best_28 : decode nc_CM_best 28 = .ok (.iadd, 1) := by decide +kernel
theorem nd_CM_best_29 : decode nc_CM_best 29 = .ok (.iconst 1, 1) := by decide +kernel
theorem nd_CM_best_30 : decode nc_CM_best 30 = .ok (.isub, 1) := by decide +kernel
theorem nd_CM_best_31 : decode nc_CM_best 31 = .ok (.iaload, 1) := by decide +kernel
theorem nd_CM_best_32 : decode nc_CM_best 32 = .ok (.istore_n 2, 1) := by decide +kernel
theorem nd_CM_best_33 : decode nc_CM_best 33 = .ok (.iconst (-1), 1) := by decide +kernel
theorem nd_CM_best_34 : decode nc_CM_best 34 = .ok (.istore_n 3, 1) := by decide +kernel
theorem nd_CM_best_35 : decode nc_CM_best 35 = .ok (.iconst 0, 1) := by decide +kernel
theorem nd_CM_best_36 : decode nc_CM_best 36 = .ok (.istore 4, 2) := by decide +kernel
theorem nd_CM_best_38 : decode nc_CM_best 38 = .ok (.iload 4, 2) := by decide +kernel
theorem nd_CM_best_40 : decode nc_CM_best 40 = .ok (.iconst 1, 1) := by decide +kernel
theorem nd_CM_best_41 : decode nc_CM_best 41 = .ok (.aload_n 0, 1) := by decide +kernel
theorem nd_CM_best_42 : decode nc_CM_best 42 = .ok (.getfield 49, 3) := by decide +kernel
theorem nd_CM_best_45 : decode nc_CM_best 45 = .ok (.ishl, 1) := by decide +kernel
theorem nd_CM_best_46 : decode nc_CM_best 46 = .ok (.if_icmp .ge 77, 3) := by decide +kernel
theorem nd_CM_best_49 : decode nc_CM_best 49 = .ok (.iload 4, 2) := by decide +kernel
theorem nd_CM_best_51 : decode nc_CM_best 51 = .ok (.invokestatic 69, 3) := by decide +kernel
theorem nd_CM_best_54 : decode nc_CM_best 54 = .ok (.iload_n 2, 1) := by decide +kernel
theorem nd_CM_best_55 : decode nc_CM_best 55 = .ok (.if_icmp .ne 62, 3) := by decide +kernel
theorem nd_CM_best_58 : decode nc_CM_best 58 = .ok (.aload_n 0, 1) := by decide +kernel
theorem nd_CM_best_59 : decode nc_CM_best 59 = .ok (.iload_n 1, 1) := by decide +kernel
theorem nd_CM_best_60 : decode nc_CM_best 60 = .ok (.iload 4, 2) := by decide +kernel
theorem nd_CM_best_62 : decode nc_CM_best 62 = .ok (.invokevirtual 92, 3) := by decide +kernel
theorem nd_CM_best_65 : decode nc_CM_best 65 = .ok (.ifCond .eq 52, 3) := by decide +kernel
theorem nd_CM_best_68 : decode nc_CM_best 68 = .ok (.iload_n 3, 1) := by decide +kernel
theorem nd_CM_best_69 : decode nc_CM_best 69 = .ok (.ifCond .ge 7, 3) := by decide +kernel
theorem nd_CM_best_72 : decode nc_CM_best 72 = .ok (.iconst 1, 1) := by decide +kernel
theorem nd_CM_best_73 : decode nc_CM_best 73 = .ok (.goto 15, 3) := by decide +kernel
theorem nd_CM_best_76 : decode nc_CM_best 76 = .ok (.aload_n 0, 1) := by decide +kernel
theorem nd_CM_best_77 : decode nc_CM_best 77 = .ok (.iload 4, 2) := by decide +kernel
theorem nd_CM_best_79 : decode nc_CM_best 79 = .ok (.invokevirtual 95, 3) := by decide +kernel
theorem nd_CM_best_82 : decode nc_CM_best 82 = .ok (.aload_n 0, 1) := by decide +kernel
theorem nd_CM_best_83 : decode nc_CM_best 83 = .ok (.iload_n 3, 1) := by decide +kernel
theorem nd_CM_best_84 : decode nc_CM_best 84 = .ok (.invokevirtual 95, 3) := by decide +kernel
theorem nd_CM_best_87 : decode nc_CM_best 87 = .ok (.isub, 1) := by decide +kernel
theorem nd_CM_best_88 : decode nc_CM_best 88 = .ok (.istore 5, 2) := by decide +kernel
theorem nd_CM_best_90 : decode nc_CM_best 90 = .ok (.iload 5, 2) := by decide +kernel
theorem nd_CM_best_92 : decode nc_CM_best 92 = .ok (.ifCond .gt 18, 3) := by decide +kernel
theorem nd_CM_best_95 : decode nc_CM_best 95 = .ok (.iload 5, 2) := by decide +kernel
theorem nd_CM_best_97 : decode nc_CM_best 97 = .ok (.ifCond .ne 18, 3) := by decide +kernel
theorem nd_CM_best_100 : decode nc_CM_best 100 = .ok (.aload_n 0, 1) := by decide +kernel
theorem nd_CM_best_101 : decode nc_CM_best 101 = .ok (.iload 4, 2) := by decide +kernel
theorem nd_CM_best_103 : decode nc_CM_best 103 = .ok (.iload_n 3, 1) := by decide +kernel
theorem nd_CM_best_104 : decode nc_CM_best 104 = .ok (.invokevirtual 98, 3) := by decide +kernel
theorem nd_CM_best_107 : decode nc_CM_best 107 = .ok (.ifCond .eq 8, 3) := by decide +kernel
theorem nd_CM_best_110 : decode nc_CM_best 110 = .ok (.iload 4, 2) := by decide +kernel
theorem nd_CM_best_112 : decode nc_CM_best 112 = .ok (.goto 4, 3) := by decide +kernel
theorem nd_CM_best_115 : decode nc_CM_best 115 = .ok (.iload_n 3, 1) := by decide +kernel
theorem nd_CM_best_116 : decode nc_CM_best 116 = .ok (.istore_n 3, 1) := by decide +kernel
theorem nd_CM_best_117 : decode nc_CM_best 117 = .ok (.iinc 4 1, 3) := by decide +kernel
theorem nd_CM_best_120 : decode nc_CM_best 120 = .ok (.goto (-82), 3) := by decide +kernel
theorem nd_CM_best_123 : decode nc_CM_best 123 = .ok (.iload_n 3, 1) := by decide +kernel
theorem nd_CM_best_124 : decode nc_CM_best 124 = .ok (.ireturn, 1) := by decide +kernel
set_option maxRecDepth 20000 in
theorem lp_CM_best {p : Program} {l : Launch} {e0 : Env} {R : Room} {s0 : State} {m : MethodId} {args : Array Value} {below : List Frame} {meth : Method} {c : Code} {cells slots : Nat} {Qq : State → Prop} {D : va_G} {A : Nat → Prop} (cI cG cM : ClassId) (q : Nat → Nat) (n : Nat) (hn1 : 1 ≤ n) (hn : n ≤ 10) (g : rf_S) (y : cb_Y) (hrt : rt_ n y g) (hv : ∀ w, w < 2 → ma_v n (cb_m y w)) (hwb : ∀ e, e < n → g 0 e = y.1 e) (hwr : ∀ e, e < n → -1000000 ≤ (y.1 e).toInt ∧ (y.1 e).toInt ≤ 1000000) (w : Nat) (hw : w < 2) (B : Nat) (hB : mt_gr (fun i => (y.1 i).toInt) n (ma_r n (cb_m y w)) B)  (hx : p.tables.exec = Jvm.exec) (hb : c.code = nc_CM_best) (hml : c.maxLocals = 6) (htg : ∀ w ∈ tg_, w.before args s0 = true) (hown : s0.vm.findClass ny_CM_best.cls = some m.cls) (hK : va_K D cl_all (ty_all cI cG cM) s0) (hN : tn_K s0) (hA : ∀ q : Nat, s0.heap.size ≤ q → A q) (hRf : 4 ≤ R.frames) (hRl : 98 ≤ R.locals) (hCS : cells ≤ R.cells ∧ slots ≤ R.slots) (kx : ∀ (ls : Array Slot) (H : Heap) (locs : List Loc) (o : Option Nat), (bo_ n (ma_r n (cb_m y w)) B (2 ^ n) o) → lv_has ls 6 [(3, .int ((om_ o)))] → va_P D cl_all ([((q 0), .inr (6, [.int (nI (n)), .ref (q 2), .ref (q 3), .ref (q 4), .ref (q 5), .ref (q 6), .ref (q 7), .ref (q 8), .ref (q 9), .ref (q 10), .ref (q 11), .ref (q 12), .ref (q 13), .ref (q 14)])), ((q 2), .inl (cI, 10, .inl (g 0))), ((q 3), .inl (cI, 2, .inl (g 1))), ((q 4), .inl (cI, 2, .inl (g 2))), ((q 5), .inl (cI, 2, .inl (g 3))), ((q 6), .inl (cI, 20, .inl (g 4))), ((q 7), .inl (cI, 20, .inl (g 5))), ((q 8), .inl (cI, 20, .inl (g 6))), ((q 9), .inl (cI, 8, .inl (g 7))), ((q 10), .inl (cI, 80, .inl (g 8))), ((q 11), .inl (cI, 8, .inl (g 9))), ((q 12), .inl (cI, 16, .inl (g 10))), ((q 13), .inl (cI, 16, .inl (g 11))), ((q 14), .inl (cI, 2048, .inl (g 12)))]) H → va_D A ([((q 0), .inr (6, [.int (nI (n)), .ref (q 2), .ref (q 3), .ref (q 4), .ref (q 5), .ref (q 6), .ref (q 7), .ref (q 8), .ref (q 9), .ref (q 10), .ref (q 11), .ref (q 12), .ref (q 13), .ref (q 14)])), ((q 2), .inl (cI, 10, .inl (g 0))), ((q 3), .inl (cI, 2, .inl (g 1))), ((q 4), .inl (cI, 2, .inl (g 2))), ((q 5), .inl (cI, 2, .inl (g 3))), ((q 6), .inl (cI, 20, .inl (g 4))), ((q 7), .inl (cI, 20, .inl (g 5))), ((q 8), .inl (cI, 20, .inl (g 6))), ((q 9), .inl (cI, 8, .inl (g 7))), ((q 10), .inl (cI, 80, .inl (g 8))), ((q 11), .inl (cI, 8, .inl (g 9))), ((q 12), .inl (cI, 16, .inl (g 10))), ((q 13), .inl (cI, 16, .inl (g 11))), ((q 14), .inl (cI, 2048, .inl (g 12)))]) → va_S A s0.heap H locs → W p l e0 R s0 m args below meth c H locs cells slots Qq (F0 m 123 ls [])) : ∀ (fuel : Nat) (i : Nat) (o : Option Nat) (ls : Array Slot) (H : Heap) (locs : List Loc), 2 ^ n - i < fuel → (i ≤ 2 ^ n) → (bo_ n (ma_r n (cb_m y w)) B i o) → lv_has ls 6 [(4, .int (nI (i))), (3, .int ((om_ o))), (0, .ref (q 0)), (1, .int (nI (w))), (2, .int (nI ((ma_r n (cb_m y w)) (2 ^ n - 1))))] → va_P D cl_all ([((q 0), .inr (6, [.int (nI (n)), .ref (q 2), .ref (q 3), .ref (q 4), .ref (q 5), .ref (q 6), .ref (q 7), .ref (q 8), .ref (q 9), .ref (q 10), .ref (q 11), .ref (q 12), .ref (q 13), .ref (q 14)])), ((q 2), .inl (cI, 10, .inl (g 0))), ((q 3), .inl (cI, 2, .inl (g 1))), ((q 4), .inl (cI, 2, .inl (g 2))), ((q 5), .inl (cI, 2, .inl (g 3))), ((q 6), .inl (cI, 20, .inl (g 4))), ((q 7), .inl (cI, 20, .inl (g 5))), ((q 8), .inl (cI, 20, .inl (g 6))), ((q 9), .inl (cI, 8, .inl (g 7))), ((q 10), .inl (cI, 80, .inl (g 8))), ((q 11), .inl (cI, 8, .inl (g 9))), ((q 12), .inl (cI, 16, .inl (g 10))), ((q 13), .inl (cI, 16, .inl (g 11))), ((q 14), .inl (cI, 2048, .inl (g 12)))]) H → va_D A ([((q 0), .inr (6, [.int (nI (n)), .ref (q 2), .ref (q 3), .ref (q 4), .ref (q 5), .ref (q 6), .ref (q 7), .ref (q 8), .ref (q 9), .ref (q 10), .ref (q 11), .ref (q 12), .ref (q 13), .ref (q 14)])), ((q 2), .inl (cI, 10, .inl (g 0))), ((q 3), .inl (cI, 2, .inl (g 1))), ((q 4), .inl (cI, 2, .inl (g 2))), ((q 5), .inl (cI, 2, .inl (g 3))), ((q 6), .inl (cI, 20, .inl (g 4))), ((q 7), .inl (cI, 20, .inl (g 5))), ((q 8), .inl (cI, 20, .inl (g 6))), ((q 9), .inl (cI, 8, .inl (g 7))), ((q 10), .inl (cI, 80, .inl (g 8))), ((q 11), .inl (cI, 8, .inl (g 9))), ((q 12), .inl (cI, 16, .inl (g 10))), ((q 13), .inl (cI, 16, .inl (g 11))), ((q 14), .inl (cI, 2048, .inl (g 12)))]) → va_S A s0.heap H locs → W p l e0 R s0 m args below meth c H locs cells slots Qq (F0 m 38 ls []) := by
  intro fuel
  induction fuel with
  | zero => intro i o ls H locs hfu; omega
  | succ fuel ih =>
    intro i o ls H locs hfu hi hbo hl hP hD hS
    have h2n : 2 ^ n ≤ 1024 := Nat.pow_le_pow_right (by omega) hn
    have h2p : 1 ≤ 2 ^ n := Nat.one_le_two_pow
    have hob : ∀ b, o = some b → b < 2 ^ 31 := fun b hb => by have := (hbo.2 b hb).1; omega
    have hRb := ma_rb (hv w hw) (show 2 ^ n - 1 < 2 ^ n by omega)
    refine lv_iload hx hb nd_CM_best_38 (lv_at hl 0 rfl) ?_
    refine wi_ic hx hb (a := 1) nd_CM_best_40 ?_
    refine lv_aload_n hx hb nd_CM_best_41 rfl (lv_at hl 2 rfl) ?_
    refine va_get (D := D) (C := nr_CM) (T := nt_CM) (N := 14) hx hb htg tf_CM hown hK hP 0 rfl rfl 0 (by decide) (htg _ tm_383) (fun _ h => h) rfl nd_CM_best_42 ?_
    refine wi_ishl1 hx hb (by omega) nd_CM_best_45 ?_
    refine wi_icmp_ge (tgt := 123) hx hb (by omega) (by omega) nd_CM_best_46 rfl (fun hc46 => ?_) (fun hc46 => ?_)
    · have hl : lv_has ls 6 [(3, .int ((om_ o)))] := lv_sub hl [1] rfl
      have hin : i = 2 ^ n := by omega
      exact kx ls H locs o (hin ▸ hbo) hl hP hD hS
    · refine lv_iload hx hb nd_CM_best_49 (lv_at hl 0 rfl) ?_
      refine wc_S (n := 1) hx hb hml hown htg (c_CM_sizeOf l D cI cG cM i (by omega)) tm_489 tm_487 tm_488 tm_9 (by decide +kernel) ⟨⟨Nat.le_trans (by decide) hRf, Nat.le_trans (by decide) hRl⟩, rfl, rfl⟩ (wa_pre wa_nil hK hN) rfl hl.1 rfl (Nat.le_of_ble_eq_true rfl) nd_CM_best_51 hCS ?_
      have hcd51 := mt_cd_le 10 i
      refine lv_iload_n hx hb nd_CM_best_54 rfl (lv_at hl 4 rfl) ?_
      refine wi_icmp_ne (tgt := 117) hx hb (by omega) (by omega) nd_CM_best_55 rfl (fun hc55 => ?_) (fun hc55 => ?_)
      · refine lv_iinc (k := 0) (v := nI (i + 1)) hx hb nd_CM_best_117 hl rfl (wi_inc _ 1) (by decide) rfl (fun ls hl => ?_)
        have hl : lv_has ls 6 [(4, .int (nI (i + 1))), (3, .int ((om_ o))), (0, .ref (q 0)), (1, .int (nI (w))), (2, .int (nI ((ma_r n (cb_m y w)) (2 ^ n - 1))))] := hl
        refine lv_goto (tgt := 38) hx hb nd_CM_best_120 rfl ?_
        have hl : lv_has ls 6 [(4, .int (nI (i + 1))), (3, .int ((om_ o))), (0, .ref (q 0)), (1, .int (nI (w))), (2, .int (nI ((ma_r n (cb_m y w)) (2 ^ n - 1))))] := lv_sub hl [0, 1, 2, 3, 4] rfl
        exact ih (i + 1) o ls H locs (by omega) (by omega) (⟨fun z => if q : B = i then absurd (by rw [bs_cd10 hn (show i < 2 ^ n by omega), ← q]; exact hB.2.1.symm.trans hB.2.2.1) hc55 else hbo.1 (by omega), fun b hb => ⟨by have := (hbo.2 b hb).1; omega, (hbo.2 b hb).2⟩⟩) hl hP hD hS
      · refine lv_aload_n hx hb nd_CM_best_58 rfl (lv_at hl 2 rfl) ?_
        refine lv_iload_n hx hb nd_CM_best_59 rfl (lv_at hl 3 rfl) ?_
        refine lv_iload hx hb nd_CM_best_60 (lv_at hl 0 rfl) ?_
        refine wc_V (C := nr_CM) (n := 2) hx hb hml hown htg (c_tf l D cI cG cM q n hn g y hrt hv w i (by omega) (by omega)) tm_529 tm_526 tm_528 tp_21 tm_9 (by decide +kernel) ⟨⟨Nat.le_trans (by decide) hRf, Nat.le_trans (by decide) hRl⟩, rfl, rfl⟩ (wa_pre (hP.sub [0, 13] rfl) hK hN) (va_recv (q0 := 0) (ci := 6) hK hP rfl rfl) rfl hl.1 rfl (Nat.le_of_ble_eq_true rfl) nd_CM_best_62 hCS ?_
        have htf62 := tf_lt n y w i
        refine wi_if_eq (tgt := 117) hx hb (by omega) nd_CM_best_65 rfl (fun hc65 => ?_) (fun hc65 => ?_)
        · refine lv_iinc (k := 0) (v := nI (i + 1)) hx hb nd_CM_best_117 hl rfl (wi_inc _ 1) (by decide) rfl (fun ls hl => ?_)
          have hl : lv_has ls 6 [(4, .int (nI (i + 1))), (3, .int ((om_ o))), (0, .ref (q 0)), (1, .int (nI (w))), (2, .int (nI ((ma_r n (cb_m y w)) (2 ^ n - 1))))] := hl
          refine lv_goto (tgt := 38) hx hb nd_CM_best_120 rfl ?_
          have hl : lv_has ls 6 [(4, .int (nI (i + 1))), (3, .int ((om_ o))), (0, .ref (q 0)), (1, .int (nI (w))), (2, .int (nI ((ma_r n (cb_m y w)) (2 ^ n - 1))))] := lv_sub hl [0, 1, 2, 3, 4] rfl
          exact ih (i + 1) o ls H locs (by omega) (by omega) (⟨fun z => if q : B = i then absurd (by rw [← q]; exact hB.2.1) (tf_z.mp hc65) else hbo.1 (by omega), fun b hb => ⟨by have := (hbo.2 b hb).1; omega, (hbo.2 b hb).2⟩⟩) hl hP hD hS
        · have hib : (ma_r n (cb_m y w)) i = mt_cd n i := tf_n.mp hc65
          have hir : (ma_r n (cb_m y w)) i = (ma_r n (cb_m y w)) (2 ^ n - 1) := by rw [hib, ← bs_cd10 hn (show i < 2 ^ n by omega)]; exact hc55
          refine lv_iload_n hx hb nd_CM_best_68 rfl (lv_at hl 1 rfl) ?_
          refine lv_if_ge (tgt := 76) hx hb nd_CM_best_69 rfl (fun hc69 => ?_) (fun hc69 => ?_)
          · obtain ⟨b0, hb0⟩ : ∃ b, o = some b := by cases hq0 : o with | none => exact absurd ((om_neg hob).mpr hq0) (Int32.not_lt.mpr hc69) | some b => exact ⟨b, rfl⟩
            obtain ⟨hb1, hb2, hb3⟩ := hbo.2 b0 hb0
            refine lv_aload_n hx hb nd_CM_best_76 rfl (lv_at hl 2 rfl) ?_
            refine lv_iload hx hb nd_CM_best_77 (lv_at hl 0 rfl) ?_
            refine wc_V (C := nr_CM) (n := 1) hx hb hml hown htg (c_CM_heaviness l D cI cG cM q n hn (g 0) i (by omega)) tm_533 tm_530 tm_532 tp_22 tm_9 (by decide +kernel) ⟨⟨Nat.le_trans (by decide) hRf, Nat.le_trans (by decide) hRl⟩, rfl, rfl⟩ (wa_pre (hP.sub [0, 1] rfl) hK hN) (va_recv (q0 := 0) (ci := 6) hK hP rfl rfl) rfl hl.1 rfl (Nat.le_of_ble_eq_true rfl) nd_CM_best_79 hCS ?_
            refine wi_top (ms_W_eq hwb) ?_
            refine lv_aload_n hx hb nd_CM_best_82 rfl (lv_at hl 2 rfl) ?_
            refine lv_iload_n hx hb nd_CM_best_83 rfl (lv_at hl 1 rfl) ?_
            refine wi_top (show om_ o = nI b0 by rw [hb0]; rfl) ?_
            refine wc_V (C := nr_CM) (n := 1) hx hb hml hown htg (c_CM_heaviness l D cI cG cM q n hn (g 0) b0 (by omega)) tm_533 tm_530 tm_532 tp_22 tm_9 (by decide +kernel) ⟨⟨Nat.le_trans (by decide) hRf, Nat.le_trans (by decide) hRl⟩, rfl, rfl⟩ (wa_pre (hP.sub [0, 1] rfl) hK hN) (va_recv (q0 := 0) (ci := 6) hK hP rfl rfl) rfl hl.1 rfl (Nat.le_of_ble_eq_true rfl) nd_CM_best_84 hCS ?_
            refine wi_top (ms_W_eq hwb) ?_
            refine lv_isub hx hb nd_CM_best_87 ?_
            refine lv_istore hx hb nd_CM_best_88 hl (by decide) rfl (fun ls hl => ?_)
            have hl : lv_has ls 6 [(5, .int (((ms_W y.1 n i) - (ms_W y.1 n b0)))), (4, .int (nI (i))), (3, .int ((om_ o))), (0, .ref (q 0)), (1, .int (nI (w))), (2, .int (nI ((ma_r n (cb_m y w)) (2 ^ n - 1))))] := hl
            refine lv_iload hx hb nd_CM_best_90 (lv_at hl 0 rfl) ?_
            refine lv_if_gt (tgt := 110) hx hb nd_CM_best_92 rfl (fun hc92 => ?_) (fun hc92 => ?_)
            · refine lv_iload hx hb nd_CM_best_110 (lv_at hl 1 rfl) ?_
              refine lv_goto (tgt := 116) hx hb nd_CM_best_112 rfl ?_
              refine lv_istore_n hx hb nd_CM_best_116 rfl hl (by decide) rfl (fun ls hl => ?_)
              have hl : lv_has ls 6 [(3, .int (nI (i))), (5, .int (((ms_W y.1 n i) - (ms_W y.1 n b0)))), (4, .int (nI (i))), (0, .ref (q 0)), (1, .int (nI (w))), (2, .int (nI ((ma_r n (cb_m y w)) (2 ^ n - 1))))] := hl
              refine lv_iinc (k := 2) (v := nI (i + 1)) hx hb nd_CM_best_117 hl rfl (wi_inc _ 1) (by decide) rfl (fun ls hl => ?_)
              have hl : lv_has ls 6 [(4, .int (nI (i + 1))), (3, .int (nI (i))), (5, .int (((ms_W y.1 n i) - (ms_W y.1 n b0)))), (0, .ref (q 0)), (1, .int (nI (w))), (2, .int (nI ((ma_r n (cb_m y w)) (2 ^ n - 1))))] := hl
              refine lv_goto (tgt := 38) hx hb nd_CM_best_120 rfl ?_
              have hl : lv_has ls 6 [(4, .int (nI (i + 1))), (3, .int (nI (i))), (0, .ref (q 0)), (1, .int (nI (w))), (2, .int (nI ((ma_r n (cb_m y w)) (2 ^ n - 1))))] := lv_sub hl [0, 1, 3, 4, 5] rfl
              have hms := ms_sub hn hwr i b0
              have hgw := mt_gr_W (ma_M (hv w hw)) hB (S := i) (by omega) hib hir 1000000 (fun e he => hwr e he)
              have hgb := mt_gr_W (ma_M (hv w hw)) hB (S := b0) (by omega) hb2 hb3 1000000 (fun e he => hwr e he)
              have hz0 : (0 : Int32).toInt = 0 := by decide
              have hgt := Int32.lt_iff_toInt_lt.mp hc92
              rw [hms, hz0] at hgt
              rw [hb0] at hbo
              exact ih (i + 1) (some i) ls H locs (by omega) (by omega) (⟨fun z => if q : B = i then by rw [q] else absurd (hbo.1 (by omega)) (fun z => by cases z; omega), fun b hb => by cases hb; exact ⟨by omega, hib, hir⟩⟩) hl hP hD hS
            · refine lv_iload hx hb nd_CM_best_95 (lv_at hl 0 rfl) ?_
              refine lv_if_ne (tgt := 115) hx hb nd_CM_best_97 rfl (fun hc97 => ?_) (fun hc97 => ?_)
              · refine lv_iload_n hx hb nd_CM_best_115 rfl (lv_at hl 2 rfl) ?_
                refine lv_istore_n hx hb nd_CM_best_116 rfl hl (by decide) rfl (fun ls hl => ?_)
                have hl : lv_has ls 6 [(3, .int ((om_ o))), (5, .int (((ms_W y.1 n i) - (ms_W y.1 n b0)))), (4, .int (nI (i))), (0, .ref (q 0)), (1, .int (nI (w))), (2, .int (nI ((ma_r n (cb_m y w)) (2 ^ n - 1))))] := hl
                refine lv_iinc (k := 2) (v := nI (i + 1)) hx hb nd_CM_best_117 hl rfl (wi_inc _ 1) (by decide) rfl (fun ls hl => ?_)
                have hl : lv_has ls 6 [(4, .int (nI (i + 1))), (3, .int ((om_ o))), (5, .int (((ms_W y.1 n i) - (ms_W y.1 n b0)))), (0, .ref (q 0)), (1, .int (nI (w))), (2, .int (nI ((ma_r n (cb_m y w)) (2 ^ n - 1))))] := hl
                refine lv_goto (tgt := 38) hx hb nd_CM_best_120 rfl ?_
                have hl : lv_has ls 6 [(4, .int (nI (i + 1))), (3, .int ((om_ o))), (0, .ref (q 0)), (1, .int (nI (w))), (2, .int (nI ((ma_r n (cb_m y w)) (2 ^ n - 1))))] := lv_sub hl [0, 1, 3, 4, 5] rfl
                have hms := ms_sub hn hwr i b0
                have hgw := mt_gr_W (ma_M (hv w hw)) hB (S := i) (by omega) hib hir 1000000 (fun e he => hwr e he)
                have hgb := mt_gr_W (ma_M (hv w hw)) hB (S := b0) (by omega) hb2 hb3 1000000 (fun e he => hwr e he)
                have hz0 : (0 : Int32).toInt = 0 := by decide
                have hle := Int32.le_iff_toInt_le.mp (Int32.not_lt.mp hc92)
                rw [hms, hz0] at hle
                have hne : ¬ (ms_W y.1 n i - ms_W y.1 n b0).toInt = 0 := fun z => hc97 (Int32.toInt_inj.mp (z.trans hz0.symm))
                rw [hms] at hne
                exact ih (i + 1) o ls H locs (by omega) (by omega) (⟨fun z => if q : B = i then absurd hgb (by rw [q]; omega) else hbo.1 (by omega), fun b hb => ⟨by have := (hbo.2 b hb).1; omega, (hbo.2 b hb).2⟩⟩) hl hP hD hS
              · refine lv_aload_n hx hb nd_CM_best_100 rfl (lv_at hl 3 rfl) ?_
                refine lv_iload hx hb nd_CM_best_101 (lv_at hl 1 rfl) ?_
                refine lv_iload_n hx hb nd_CM_best_103 rfl (lv_at hl 2 rfl) ?_
                refine wi_top (show om_ o = nI b0 by rw [hb0]; rfl) ?_
                refine wd_Vi0 (C := nr_CM) (n := 2) (Y := rf_ cI q n g) hx hb hml hown htg (c_CM_comesFirst l D cI cG cM q n hn1 hn g y hwb i b0 (by omega) (by omega) _) tm_537 tm_534 tm_536 tp_23 tm_9 (by decide +kernel) ⟨⟨Nat.le_trans (by decide) hRf, Nat.le_trans (by decide) hRl⟩, rfl, rfl⟩ hP hD hS hA hK hN (va_recv (q0 := 0) (ci := 6) hK hP rfl rfl) rfl hl.1 rfl (Nat.le_of_ble_eq_true rfl) nd_CM_best_104 hCS (fun v104 u104 H locs hp104 hP hD hS => ?_)
                obtain ⟨hpa104, hpb104, hpu104⟩ := hp104
                have hpu104 := hpu104.symm
                subst hpu104
                have hP : va_P D cl_all ([((q 0), .inr (6, [.int (nI (n)), .ref (q 2), .ref (q 3), .ref (q 4), .ref (q 5), .ref (q 6), .ref (q 7), .ref (q 8), .ref (q 9), .ref (q 10), .ref (q 11), .ref (q 12), .ref (q 13), .ref (q 14)])), ((q 2), .inl (cI, 10, .inl (g 0))), ((q 3), .inl (cI, 2, .inl (g 1))), ((q 4), .inl (cI, 2, .inl (g 2))), ((q 5), .inl (cI, 2, .inl (g 3))), ((q 6), .inl (cI, 20, .inl (g 4))), ((q 7), .inl (cI, 20, .inl (g 5))), ((q 8), .inl (cI, 20, .inl (g 6))), ((q 9), .inl (cI, 8, .inl (g 7))), ((q 10), .inl (cI, 80, .inl (g 8))), ((q 11), .inl (cI, 8, .inl (g 9))), ((q 12), .inl (cI, 16, .inl (g 10))), ((q 13), .inl (cI, 16, .inl (g 11))), ((q 14), .inl (cI, 2048, .inl (g 12)))]) H := hP
                have hD : va_D A ([((q 0), .inr (6, [.int (nI (n)), .ref (q 2), .ref (q 3), .ref (q 4), .ref (q 5), .ref (q 6), .ref (q 7), .ref (q 8), .ref (q 9), .ref (q 10), .ref (q 11), .ref (q 12), .ref (q 13), .ref (q 14)])), ((q 2), .inl (cI, 10, .inl (g 0))), ((q 3), .inl (cI, 2, .inl (g 1))), ((q 4), .inl (cI, 2, .inl (g 2))), ((q 5), .inl (cI, 2, .inl (g 3))), ((q 6), .inl (cI, 20, .inl (g 4))), ((q 7), .inl (cI, 20, .inl (g 5))), ((q 8), .inl (cI, 20, .inl (g 6))), ((q 9), .inl (cI, 8, .inl (g 7))), ((q 10), .inl (cI, 80, .inl (g 8))), ((q 11), .inl (cI, 8, .inl (g 9))), ((q 12), .inl (cI, 16, .inl (g 10))), ((q 13), .inl (cI, 16, .inl (g 11))), ((q 14), .inl (cI, 2048, .inl (g 12)))]) := hD
                refine lv_if_eq (tgt := 115) hx hb nd_CM_best_107 rfl (fun hc107 => ?_) (fun hc107 => ?_)
                · refine lv_iload_n hx hb nd_CM_best_115 rfl (lv_at hl 2 rfl) ?_
                  refine lv_istore_n hx hb nd_CM_best_116 rfl hl (by decide) rfl (fun ls hl => ?_)
                  have hl : lv_has ls 6 [(3, .int ((om_ o))), (5, .int (((ms_W y.1 n i) - (ms_W y.1 n b0)))), (4, .int (nI (i))), (0, .ref (q 0)), (1, .int (nI (w))), (2, .int (nI ((ma_r n (cb_m y w)) (2 ^ n - 1))))] := hl
                  refine lv_iinc (k := 2) (v := nI (i + 1)) hx hb nd_CM_best_117 hl rfl (wi_inc _ 1) (by decide) rfl (fun ls hl => ?_)
                  have hl : lv_has ls 6 [(4, .int (nI (i + 1))), (3, .int ((om_ o))), (5, .int (((ms_W y.1 n i) - (ms_W y.1 n b0)))), (0, .ref (q 0)), (1, .int (nI (w))), (2, .int (nI ((ma_r n (cb_m y w)) (2 ^ n - 1))))] := hl
                  refine lv_goto (tgt := 38) hx hb nd_CM_best_120 rfl ?_
                  have hl : lv_has ls 6 [(4, .int (nI (i + 1))), (3, .int ((om_ o))), (0, .ref (q 0)), (1, .int (nI (w))), (2, .int (nI ((ma_r n (cb_m y w)) (2 ^ n - 1))))] := lv_sub hl [0, 1, 3, 4, 5] rfl
                  have hms := ms_sub hn hwr i b0
                  have hgw := mt_gr_W (ma_M (hv w hw)) hB (S := i) (by omega) hib hir 1000000 (fun e he => hwr e he)
                  have hgb := mt_gr_W (ma_M (hv w hw)) hB (S := b0) (by omega) hb2 hb3 1000000 (fun e he => hwr e he)
                  have hz0 : (0 : Int32).toInt = 0 := by decide
                  have heq : (ms_W y.1 n i - ms_W y.1 n b0).toInt = 0 := by rw [hc97]; rfl
                  rw [hms] at heq
                  have hncf : ¬ mt_cf (fun i => (y.1 i).toInt) n i b0 := fun z => nI_ne0 (n := 1) (by omega) (by omega) ((hpa104 z).symm.trans hc107)
                  exact ih (i + 1) o ls H locs (by omega) (by omega) (⟨fun z => if q : B = i then absurd (by have := mt_gr_cf (ma_M (hv w hw)) hB (S := b0) (by omega) hb2 (by omega); rw [q] at this; exact this) hncf else hbo.1 (by omega), fun b hb => ⟨by have := (hbo.2 b hb).1; omega, (hbo.2 b hb).2⟩⟩) hl hP hD hS
                · refine lv_iload hx hb nd_CM_best_110 (lv_at hl 1 rfl) ?_
                  refine lv_goto (tgt := 116) hx hb nd_CM_best_112 rfl ?_
                  refine lv_istore_n hx hb nd_CM_best_116 rfl hl (by decide) rfl (fun ls hl => ?_)
                  have hl : lv_has ls 6 [(3, .int (nI (i))), (5, .int (((ms_W y.1 n i) - (ms_W y.1 n b0)))), (4, .int (nI (i))), (0, .ref (q 0)), (1, .int (nI (w))), (2, .int (nI ((ma_r n (cb_m y w)) (2 ^ n - 1))))] := hl
                  refine lv_iinc (k := 2) (v := nI (i + 1)) hx hb nd_CM_best_117 hl rfl (wi_inc _ 1) (by decide) rfl (fun ls hl => ?_)
                  have hl : lv_has ls 6 [(4, .int (nI (i + 1))), (3, .int (nI (i))), (5, .int (((ms_W y.1 n i) - (ms_W y.1 n b0)))), (0, .ref (q 0)), (1, .int (nI (w))), (2, .int (nI ((ma_r n (cb_m y w)) (2 ^ n - 1))))] := hl
                  refine lv_goto (tgt := 38) hx hb nd_CM_best_120 rfl ?_
                  have hl : lv_has ls 6 [(4, .int (nI (i + 1))), (3, .int (nI (i))), (0, .ref (q 0)), (1, .int (nI (w))), (2, .int (nI ((ma_r n (cb_m y w)) (2 ^ n - 1))))] := lv_sub hl [0, 1, 3, 4, 5] rfl
                  have hms := ms_sub hn hwr i b0
                  have hgw := mt_gr_W (ma_M (hv w hw)) hB (S := i) (by omega) hib hir 1000000 (fun e he => hwr e he)
                  have hgb := mt_gr_W (ma_M (hv w hw)) hB (S := b0) (by omega) hb2 hb3 1000000 (fun e he => hwr e he)
                  have hz0 : (0 : Int32).toInt = 0 := by decide
                  have heq : (ms_W y.1 n i - ms_W y.1 n b0).toInt = 0 := by rw [hc97]; rfl
                  rw [hms] at heq
                  have hcf : mt_cf (fun i => (y.1 i).toInt) n i b0 := Classical.byContradiction fun z => hc107 ((hpb104 z).trans nI_0)
                  rw [hb0] at hbo
                  exact ih (i + 1) (some i) ls H locs (by omega) (by omega) (⟨fun z => if q : B = i then by rw [q] else absurd hcf (by have hq := hbo.1 (by omega); cases hq; exact mt_gr_first (ma_M (hv w hw)) hB (S := i) (by omega) hib), fun b hb => by cases hb; exact ⟨by omega, hib, hir⟩⟩) hl hP hD hS
          · refine wi_ic hx hb (a := 1) nd_CM_best_72 ?_
            refine lv_goto (tgt := 88) hx hb nd_CM_best_73 rfl ?_
            refine lv_istore hx hb nd_CM_best_88 hl (by decide) rfl (fun ls hl => ?_)
            have hl : lv_has ls 6 [(5, .int (nI (1))), (4, .int (nI (i))), (3, .int ((om_ o))), (0, .ref (q 0)), (1, .int (nI (w))), (2, .int (nI ((ma_r n (cb_m y w)) (2 ^ n - 1))))] := hl
            refine lv_iload hx hb nd_CM_best_90 (lv_at hl 0 rfl) ?_
            refine lv_if_gt (tgt := 110) hx hb nd_CM_best_92 rfl (fun hc92 => ?_) (fun hc92 => ?_)
            · refine lv_iload hx hb nd_CM_best_110 (lv_at hl 1 rfl) ?_
              refine lv_goto (tgt := 116) hx hb nd_CM_best_112 rfl ?_
              refine lv_istore_n hx hb nd_CM_best_116 rfl hl (by decide) rfl (fun ls hl => ?_)
              have hl : lv_has ls 6 [(3, .int (nI (i))), (5, .int (nI (1))), (4, .int (nI (i))), (0, .ref (q 0)), (1, .int (nI (w))), (2, .int (nI ((ma_r n (cb_m y w)) (2 ^ n - 1))))] := hl
              refine lv_iinc (k := 2) (v := nI (i + 1)) hx hb nd_CM_best_117 hl rfl (wi_inc _ 1) (by decide) rfl (fun ls hl => ?_)
              have hl : lv_has ls 6 [(4, .int (nI (i + 1))), (3, .int (nI (i))), (5, .int (nI (1))), (0, .ref (q 0)), (1, .int (nI (w))), (2, .int (nI ((ma_r n (cb_m y w)) (2 ^ n - 1))))] := hl
              refine lv_goto (tgt := 38) hx hb nd_CM_best_120 rfl ?_
              have hl : lv_has ls 6 [(4, .int (nI (i + 1))), (3, .int (nI (i))), (0, .ref (q 0)), (1, .int (nI (w))), (2, .int (nI ((ma_r n (cb_m y w)) (2 ^ n - 1))))] := lv_sub hl [0, 1, 3, 4, 5] rfl
              have ho : o = none := (om_neg hob).mp (Int32.not_le.mp hc69)
              rw [ho] at hbo
              exact ih (i + 1) (some i) ls H locs (by omega) (by omega) (⟨fun z => if q : B = i then by rw [q] else absurd (hbo.1 (by omega)) (by intro z; cases z), fun b hb => by cases hb; exact ⟨by omega, hib, hir⟩⟩) hl hP hD hS
            · exact absurd (show (0 : Int32) < nI 1 by decide) hc92
set_option maxRecDepth 20000 in
theorem c_CM_best (l : Launch) (D : va_G) (cI cG cM : ClassId)  (q : Nat → Nat) (n : Nat) (hn1 : 1 ≤ n) (hn : n ≤ 10) (g : rf_S) (y : cb_Y) (hI : rf_I n y g) (wh : Int32) (sz : Nat) : wb_Mi l ny_CM_best nc_CM_best 6 (some .int) ({ frames := 4, cells := 0, slots := 0, locals := 98 }) D (ty_all cI cG cM) (rf_ cI q n g) sz [.ref (q 0), .int (wh)] (fun (v : Int32) (u : rf_S) => v = sp_best n y wh ∧ rf_I n y u) (fun u : rf_S => rf_ cI q n u) := by
  refine wb_start (S := rf_S) (by decide) (Nat.le_of_ble_eq_true rfl) ?_
  intro p e0 s0 m below meth c ls A hx hb hr hml htg hown hk hP hK hN hl hAe hsz hD hA
  have hl : lv_has ls 6 [(0, .ref (q 0)), (1, .int (wh))] := hl
  have hP : va_P D cl_all ([((q 0), .inr (6, [.int (nI (n)), .ref (q 2), .ref (q 3), .ref (q 4), .ref (q 5), .ref (q 6), .ref (q 7), .ref (q 8), .ref (q 9), .ref (q 10), .ref (q 11), .ref (q 12), .ref (q 13), .ref (q 14)])), ((q 2), .inl (cI, 10, .inl (g 0))), ((q 3), .inl (cI, 2, .inl (g 1))), ((q 4), .inl (cI, 2, .inl (g 2))), ((q 5), .inl (cI, 2, .inl (g 3))), ((q 6), .inl (cI, 20, .inl (g 4))), ((q 7), .inl (cI, 20, .inl (g 5))), ((q 8), .inl (cI, 20, .inl (g 6))), ((q 9), .inl (cI, 8, .inl (g 7))), ((q 10), .inl (cI, 80, .inl (g 8))), ((q 11), .inl (cI, 8, .inl (g 9))), ((q 12), .inl (cI, 16, .inl (g 10))), ((q 13), .inl (cI, 16, .inl (g 11))), ((q 14), .inl (cI, 2048, .inl (g 12)))]) s0.heap := hP
  have hD : va_D A ([((q 0), .inr (6, [.int (nI (n)), .ref (q 2), .ref (q 3), .ref (q 4), .ref (q 5), .ref (q 6), .ref (q 7), .ref (q 8), .ref (q 9), .ref (q 10), .ref (q 11), .ref (q 12), .ref (q 13), .ref (q 14)])), ((q 2), .inl (cI, 10, .inl (g 0))), ((q 3), .inl (cI, 2, .inl (g 1))), ((q 4), .inl (cI, 2, .inl (g 2))), ((q 5), .inl (cI, 2, .inl (g 3))), ((q 6), .inl (cI, 20, .inl (g 4))), ((q 7), .inl (cI, 20, .inl (g 5))), ((q 8), .inl (cI, 20, .inl (g 6))), ((q 9), .inl (cI, 8, .inl (g 7))), ((q 10), .inl (cI, 80, .inl (g 8))), ((q 11), .inl (cI, 8, .inl (g 9))), ((q 12), .inl (cI, 16, .inl (g 10))), ((q 13), .inl (cI, 16, .inl (g 11))), ((q 14), .inl (cI, 2048, .inl (g 12)))]) := hD
  have hS : va_S A s0.heap s0.heap [] := va_S.rf
  have hRf : 4 ≤ ({ frames := 4, cells := 0, slots := 0, locals := 98 } : Room).frames := Nat.le_refl _
  have hRl : 98 ≤ ({ frames := 4, cells := 0, slots := 0, locals := 98 } : Room).locals := Nat.le_refl _
  have hCS : 0 ≤ ({ frames := 4, cells := 0, slots := 0, locals := 98 } : Room).cells ∧ 0 ≤ ({ frames := 4, cells := 0, slots := 0, locals := 98 } : Room).slots := ⟨Nat.zero_le _, Nat.zero_le _⟩
  have h2n : 2 ^ n ≤ 1024 := Nat.pow_le_pow_right (by omega) hn
  have h2p : 1 ≤ 2 ^ n := Nat.one_le_two_pow
  refine lv_iload_n hx hb nd_CM_best_0 rfl (lv_at hl 1 rfl) ?_
  rcases sm_which wh with hw1 | hw1 | hw1
  · subst hw1
    refine wc_S (n := 1) hx hb hml hown htg (c_CM_isWhich l D _ (nI 0) (nI 1) (fun _ => rfl) (fun h => absurd (Or.inl nI_0) h)) tm_432 tm_430 tm_431 tm_9 (by decide +kernel) ⟨⟨Nat.le_trans (by decide) hRf, Nat.le_trans (by decide) hRl⟩, rfl, rfl⟩ (wa_pre wa_nil hK hN) rfl hl.1 rfl (Nat.le_of_ble_eq_true rfl) nd_CM_best_1 hCS ?_
    refine wi_if_ne (tgt := 9) hx hb (by decide) nd_CM_best_4 rfl (fun _ => ?_) (fun h => absurd h (by decide))
    refine lv_aload_n hx hb nd_CM_best_9 rfl (lv_at hl 0 rfl) ?_
    refine wd_Vv0 (C := nr_CM) (n := 0) (Y := rf_ cI q n g) hx hb hml hown htg (c_CM_work l D cI cG cM q n hn1 hn g y hI _) tm_513 tm_510 tm_512 tp_20 tm_9 (by decide +kernel) ⟨⟨Nat.le_trans (by decide) hRf, Nat.le_trans (by decide) hRl⟩, rfl, rfl⟩ hP hD hS hA hK hN (va_recv (q0 := 0) (ci := 6) hK hP rfl rfl) rfl hl.1 rfl (Nat.le_of_ble_eq_true rfl) nd_CM_best_10 hCS (fun u10 H locs hp10 hP hD hS => ?_)
    have hP : va_P D cl_all ([((q 0), .inr (6, [.int (nI (n)), .ref (q 2), .ref (q 3), .ref (q 4), .ref (q 5), .ref (q 6), .ref (q 7), .ref (q 8), .ref (q 9), .ref (q 10), .ref (q 11), .ref (q 12), .ref (q 13), .ref (q 14)])), ((q 2), .inl (cI, 10, .inl (u10 0))), ((q 3), .inl (cI, 2, .inl (u10 1))), ((q 4), .inl (cI, 2, .inl (u10 2))), ((q 5), .inl (cI, 2, .inl (u10 3))), ((q 6), .inl (cI, 20, .inl (u10 4))), ((q 7), .inl (cI, 20, .inl (u10 5))), ((q 8), .inl (cI, 20, .inl (u10 6))), ((q 9), .inl (cI, 8, .inl (u10 7))), ((q 10), .inl (cI, 80, .inl (u10 8))), ((q 11), .inl (cI, 8, .inl (u10 9))), ((q 12), .inl (cI, 16, .inl (u10 10))), ((q 13), .inl (cI, 16, .inl (u10 11))), ((q 14), .inl (cI, 2048, .inl (u10 12)))]) H := hP
    have hD : va_D A ([((q 0), .inr (6, [.int (nI (n)), .ref (q 2), .ref (q 3), .ref (q 4), .ref (q 5), .ref (q 6), .ref (q 7), .ref (q 8), .ref (q 9), .ref (q 10), .ref (q 11), .ref (q 12), .ref (q 13), .ref (q 14)])), ((q 2), .inl (cI, 10, .inl (u10 0))), ((q 3), .inl (cI, 2, .inl (u10 1))), ((q 4), .inl (cI, 2, .inl (u10 2))), ((q 5), .inl (cI, 2, .inl (u10 3))), ((q 6), .inl (cI, 20, .inl (u10 4))), ((q 7), .inl (cI, 20, .inl (u10 5))), ((q 8), .inl (cI, 20, .inl (u10 6))), ((q 9), .inl (cI, 8, .inl (u10 7))), ((q 10), .inl (cI, 80, .inl (u10 8))), ((q 11), .inl (cI, 8, .inl (u10 9))), ((q 12), .inl (cI, 16, .inl (u10 10))), ((q 13), .inl (cI, 16, .inl (u10 11))), ((q 14), .inl (cI, 2048, .inl (u10 12)))]) := hD
    have hrt := hp10.2
    have hrl : u10 12 (1024 * 0 + 2 ^ n - 1) = nI (ma_r n (cb_m y 0) (2 ^ n - 1)) := by rw [show 1024 * 0 + 2 ^ n - 1 = 1024 * 0 + (2 ^ n - 1) by omega]; exact hrt 0 _ (by omega) (by omega)
    refine lv_aload_n hx hb nd_CM_best_13 rfl (lv_at hl 0 rfl) ?_
    refine va_get (D := D) (C := nr_CM) (T := nt_CM) (N := 14) hx hb htg tf_CM hown hK hP 0 rfl rfl 13 (by decide) (htg _ tm_396) (fun _ h => h) rfl nd_CM_best_14 ?_
    refine lv_sipush (v := nI 1024) hx hb nd_CM_best_17 (by decide) ?_
    refine lv_iload_n hx hb nd_CM_best_20 rfl (lv_at hl 1 rfl) ?_
    refine wi_imul hx hb nd_CM_best_21 ?_
    refine wi_ic hx hb (a := 1) nd_CM_best_22 ?_
    refine lv_aload_n hx hb nd_CM_best_23 rfl (lv_at hl 0 rfl) ?_
    refine va_get (D := D) (C := nr_CM) (T := nt_CM) (N := 14) hx hb htg tf_CM hown hK hP 0 rfl rfl 0 (by decide) (htg _ tm_383) (fun _ h => h) rfl nd_CM_best_24 ?_
    refine wi_ishl1 hx hb (by omega) nd_CM_best_27 ?_
    refine wi_iadd hx hb nd_CM_best_28 ?_
    refine wi_ic hx hb (a := 1) nd_CM_best_29 ?_
    refine wi_isub hx hb (by omega) nd_CM_best_30 ?_
    refine wi_iald hx hb hK hP 13 0 rfl rfl (by omega) (by omega) nd_CM_best_31 ?_
    refine wi_top (hrl) ?_
    refine lv_istore_n hx hb nd_CM_best_32 rfl hl (by decide) rfl (fun ls hl => ?_)
    have hl : lv_has ls 6 [(2, .int (nI (ma_r n (cb_m y 0) (2 ^ n - 1)))), (0, .ref (q 0)), (1, .int (nI (0)))] := hl
    refine lv_iconst (v := -1) hx hb nd_CM_best_33 (by decide) ?_
    refine lv_istore_n hx hb nd_CM_best_34 rfl hl (by decide) rfl (fun ls hl => ?_)
    have hl : lv_has ls 6 [(3, .int ((-1))), (2, .int (nI (ma_r n (cb_m y 0) (2 ^ n - 1)))), (0, .ref (q 0)), (1, .int (nI (0)))] := hl
    refine wi_ic hx hb (a := 0) nd_CM_best_35 ?_
    refine lv_istore hx hb nd_CM_best_36 hl (by decide) rfl (fun ls hl => ?_)
    have hl : lv_has ls 6 [(4, .int (nI (0))), (3, .int ((-1))), (2, .int (nI (ma_r n (cb_m y 0) (2 ^ n - 1)))), (0, .ref (q 0)), (1, .int (nI (0)))] := hl
    have hl : lv_has ls 6 [(4, .int (nI (0))), (3, .int ((-1))), (0, .ref (q 0)), (1, .int (nI (0))), (2, .int (nI (ma_r n (cb_m y 0) (2 ^ n - 1))))] := lv_sub hl [0, 1, 3, 4, 2] rfl
    have hB := gb_gr (w := y.1) (ma_M (hI.2 0 (by omega)).1)
    refine lp_CM_best cI cG cM q n hn1 hn u10 y hrt (fun w hw => (hI.2 w hw).1) (fun e he => (congrFun (hp10.1 0 (by omega)) e).trans (hI.1 e he).1) (fun e he => (hI.1 e he).2) 0 (by omega) (gb_ n y.1 (ma_r n (cb_m y 0)) n).2 hB hx hb hml htg hown hK hN hA hRf hRl hCS (fun ls H locs o hbo hl hP hD hS => ?_) (2 ^ n + 1) 0 none ls H locs (by omega) (by omega) ⟨fun z => by omega, fun b hb => by cases hb⟩ hl hP hD hS
    have ho := hbo.1 hB.1
    rw [ho] at hl
    have hsp : sp_best n y (nI 0) = nI (gb_ n y.1 (ma_r n (cb_m y 0)) n).2 := by unfold sp_best; simp only [sw_0, tn_0]; simp
    refine lv_iload_n hx hb nd_CM_best_123 rfl (lv_at hl 0 rfl) ?_
    exact wb_iret u10 hx hb hr hk hAe (by rw [hsp]; exact ⟨rfl, rf_keep hn (fun j hj => hp10.1 j hj) hI⟩) hP hD hS nd_CM_best_124
  · subst hw1
    refine wc_S (n := 1) hx hb hml hown htg (c_CM_isWhich l D _ (nI 1) (nI 1) (fun _ => rfl) (fun h => absurd (Or.inr rfl) h)) tm_432 tm_430 tm_431 tm_9 (by decide +kernel) ⟨⟨Nat.le_trans (by decide) hRf, Nat.le_trans (by decide) hRl⟩, rfl, rfl⟩ (wa_pre wa_nil hK hN) rfl hl.1 rfl (Nat.le_of_ble_eq_true rfl) nd_CM_best_1 hCS ?_
    refine wi_if_ne (tgt := 9) hx hb (by decide) nd_CM_best_4 rfl (fun _ => ?_) (fun h => absurd h (by decide))
    refine lv_aload_n hx hb nd_CM_best_9 rfl (lv_at hl 0 rfl) ?_
    refine wd_Vv0 (C := nr_CM) (n := 0) (Y := rf_ cI q n g) hx hb hml hown htg (c_CM_work l D cI cG cM q n hn1 hn g y hI _) tm_513 tm_510 tm_512 tp_20 tm_9 (by decide +kernel) ⟨⟨Nat.le_trans (by decide) hRf, Nat.le_trans (by decide) hRl⟩, rfl, rfl⟩ hP hD hS hA hK hN (va_recv (q0 := 0) (ci := 6) hK hP rfl rfl) rfl hl.1 rfl (Nat.le_of_ble_eq_true rfl) nd_CM_best_10 hCS (fun u10 H locs hp10 hP hD hS => ?_)
    have hP : va_P D cl_all ([((q 0), .inr (6, [.int (nI (n)), .ref (q 2), .ref (q 3), .ref (q 4), .ref (q 5), .ref (q 6), .ref (q 7), .ref (q 8), .ref (q 9), .ref (q 10), .ref (q 11), .ref (q 12), .ref (q 13), .ref (q 14)])), ((q 2), .inl (cI, 10, .inl (u10 0))), ((q 3), .inl (cI, 2, .inl (u10 1))), ((q 4), .inl (cI, 2, .inl (u10 2))), ((q 5), .inl (cI, 2, .inl (u10 3))), ((q 6), .inl (cI, 20, .inl (u10 4))), ((q 7), .inl (cI, 20, .inl (u10 5))), ((q 8), .inl (cI, 20, .inl (u10 6))), ((q 9), .inl (cI, 8, .inl (u10 7))), ((q 10), .inl (cI, 80, .inl (u10 8))), ((q 11), .inl (cI, 8, .inl (u10 9))), ((q 12), .inl (cI, 16, .inl (u10 10))), ((q 13), .inl (cI, 16, .inl (u10 11))), ((q 14), .inl (cI, 2048, .inl (u10 12)))]) H := hP
    have hD : va_D A ([((q 0), .inr (6, [.int (nI (n)), .ref (q 2), .ref (q 3), .ref (q 4), .ref (q 5), .ref (q 6), .ref (q 7), .ref (q 8), .ref (q 9), .ref (q 10), .ref (q 11), .ref (q 12), .ref (q 13), .ref (q 14)])), ((q 2), .inl (cI, 10, .inl (u10 0))), ((q 3), .inl (cI, 2, .inl (u10 1))), ((q 4), .inl (cI, 2, .inl (u10 2))), ((q 5), .inl (cI, 2, .inl (u10 3))), ((q 6), .inl (cI, 20, .inl (u10 4))), ((q 7), .inl (cI, 20, .inl (u10 5))), ((q 8), .inl (cI, 20, .inl (u10 6))), ((q 9), .inl (cI, 8, .inl (u10 7))), ((q 10), .inl (cI, 80, .inl (u10 8))), ((q 11), .inl (cI, 8, .inl (u10 9))), ((q 12), .inl (cI, 16, .inl (u10 10))), ((q 13), .inl (cI, 16, .inl (u10 11))), ((q 14), .inl (cI, 2048, .inl (u10 12)))]) := hD
    have hrt := hp10.2
    have hrl : u10 12 (1024 * 1 + 2 ^ n - 1) = nI (ma_r n (cb_m y 1) (2 ^ n - 1)) := by rw [show 1024 * 1 + 2 ^ n - 1 = 1024 * 1 + (2 ^ n - 1) by omega]; exact hrt 1 _ (by omega) (by omega)
    refine lv_aload_n hx hb nd_CM_best_13 rfl (lv_at hl 0 rfl) ?_
    refine va_get (D := D) (C := nr_CM) (T := nt_CM) (N := 14) hx hb htg tf_CM hown hK hP 0 rfl rfl 13 (by decide) (htg _ tm_396) (fun _ h => h) rfl nd_CM_best_14 ?_
    refine lv_sipush (v := nI 1024) hx hb nd_CM_best_17 (by decide) ?_
    refine lv_iload_n hx hb nd_CM_best_20 rfl (lv_at hl 1 rfl) ?_
    refine wi_imul hx hb nd_CM_best_21 ?_
    refine wi_ic hx hb (a := 1) nd_CM_best_22 ?_
    refine lv_aload_n hx hb nd_CM_best_23 rfl (lv_at hl 0 rfl) ?_
    refine va_get (D := D) (C := nr_CM) (T := nt_CM) (N := 14) hx hb htg tf_CM hown hK hP 0 rfl rfl 0 (by decide) (htg _ tm_383) (fun _ h => h) rfl nd_CM_best_24 ?_
    refine wi_ishl1 hx hb (by omega) nd_CM_best_27 ?_
    refine wi_iadd hx hb nd_CM_best_28 ?_
    refine wi_ic hx hb (a := 1) nd_CM_best_29 ?_
    refine wi_isub hx hb (by omega) nd_CM_best_30 ?_
    refine wi_iald hx hb hK hP 13 0 rfl rfl (by omega) (by omega) nd_CM_best_31 ?_
    refine wi_top (hrl) ?_
    refine lv_istore_n hx hb nd_CM_best_32 rfl hl (by decide) rfl (fun ls hl => ?_)
    have hl : lv_has ls 6 [(2, .int (nI (ma_r n (cb_m y 1) (2 ^ n - 1)))), (0, .ref (q 0)), (1, .int (nI (1)))] := hl
    refine lv_iconst (v := -1) hx hb nd_CM_best_33 (by decide) ?_
    refine lv_istore_n hx hb nd_CM_best_34 rfl hl (by decide) rfl (fun ls hl => ?_)
    have hl : lv_has ls 6 [(3, .int ((-1))), (2, .int (nI (ma_r n (cb_m y 1) (2 ^ n - 1)))), (0, .ref (q 0)), (1, .int (nI (1)))] := hl
    refine wi_ic hx hb (a := 0) nd_CM_best_35 ?_
    refine lv_istore hx hb nd_CM_best_36 hl (by decide) rfl (fun ls hl => ?_)
    have hl : lv_has ls 6 [(4, .int (nI (0))), (3, .int ((-1))), (2, .int (nI (ma_r n (cb_m y 1) (2 ^ n - 1)))), (0, .ref (q 0)), (1, .int (nI (1)))] := hl
    have hl : lv_has ls 6 [(4, .int (nI (0))), (3, .int ((-1))), (0, .ref (q 0)), (1, .int (nI (1))), (2, .int (nI (ma_r n (cb_m y 1) (2 ^ n - 1))))] := lv_sub hl [0, 1, 3, 4, 2] rfl
    have hB := gb_gr (w := y.1) (ma_M (hI.2 1 (by omega)).1)
    refine lp_CM_best cI cG cM q n hn1 hn u10 y hrt (fun w hw => (hI.2 w hw).1) (fun e he => (congrFun (hp10.1 0 (by omega)) e).trans (hI.1 e he).1) (fun e he => (hI.1 e he).2) 1 (by omega) (gb_ n y.1 (ma_r n (cb_m y 1)) n).2 hB hx hb hml htg hown hK hN hA hRf hRl hCS (fun ls H locs o hbo hl hP hD hS => ?_) (2 ^ n + 1) 0 none ls H locs (by omega) (by omega) ⟨fun z => by omega, fun b hb => by cases hb⟩ hl hP hD hS
    have ho := hbo.1 hB.1
    rw [ho] at hl
    have hsp : sp_best n y (nI 1) = nI (gb_ n y.1 (ma_r n (cb_m y 1)) n).2 := by unfold sp_best; simp only [sw_1, tn_1]; simp
    refine lv_iload_n hx hb nd_CM_best_123 rfl (lv_at hl 0 rfl) ?_
    exact wb_iret u10 hx hb hr hk hAe (by rw [hsp]; exact ⟨rfl, rf_keep hn (fun j hj => hp10.1 j hj) hI⟩) hP hD hS nd_CM_best_124
  · refine wc_S (n := 1) hx hb hml hown htg (c_CM_isWhich l D _ wh (nI 0) (fun h => absurd h (fun z => z.elim (fun z => hw1.1 (z.trans nI_0.symm)) hw1.2)) (fun _ => rfl)) tm_432 tm_430 tm_431 tm_9 (by decide +kernel) ⟨⟨Nat.le_trans (by decide) hRf, Nat.le_trans (by decide) hRl⟩, rfl, rfl⟩ (wa_pre wa_nil hK hN) rfl hl.1 rfl (Nat.le_of_ble_eq_true rfl) nd_CM_best_1 hCS ?_
    refine wi_if_ne (tgt := 9) hx hb (by decide) nd_CM_best_4 rfl (fun h => absurd h (by decide)) (fun _ => ?_)
    refine lv_iconst (v := -1) hx hb nd_CM_best_7 (by decide) ?_
    have hsp : sp_best n y wh = -1 := by unfold sp_best; simp [sw_n hw1]
    exact wb_iret g hx hb hr hk hAe (by rw [hsp]; exact ⟨rfl, hI⟩) hP hD hS nd_CM_best_8
