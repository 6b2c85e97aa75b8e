/-! Sets of elements as numbers, and what a rank of sets is: nothing here speaks of the machine. -/
def mt_cd : Nat → Nat → Nat
  | 0, _ => 0
  | k + 1, s => mt_cd k s + (if s.testBit k = true then 1 else 0)
def mt_co (n s : Nat) : Nat := (2 ^ n - 1) ^^^ s
def mt_sb (s t : Nat) : Prop := ∀ i : Nat, s.testBit i = true → t.testBit i = true
def mt_M (n : Nat) (r : Nat → Nat) : Prop :=
  r 0 = 0 ∧ (∀ s e : Nat, s < 2 ^ n → e < n → r s ≤ r (s ||| 2 ^ e) ∧ r (s ||| 2 ^ e) ≤ r s + 1) ∧
  ∀ s t e : Nat, s < 2 ^ n → t < 2 ^ n → mt_sb s t → e < n → r (t ||| 2 ^ e) + r s ≤ r (s ||| 2 ^ e) + r t
theorem mt_big {s n i : Nat} (h : s < 2 ^ n) (hi : n ≤ i) : s.testBit i = false :=
  Nat.testBit_lt_two_pow (Nat.lt_of_lt_of_le h (Nat.pow_le_pow_right (by omega) hi))
theorem mt_lt {s n i : Nat} (h : s < 2 ^ n) (hi : s.testBit i = true) : i < n := by
  refine Nat.lt_of_not_le fun hn => ?_
  rw [mt_big h hn] at hi
  cases hi
theorem mt_bnd {s n : Nat} (h : ∀ i, s.testBit i = true → i < n) : s < 2 ^ n := by
  apply Nat.lt_pow_two_of_testBit
  intro i hi
  cases hb : s.testBit i with
  | false => rfl
  | true => have := h i hb; omega
theorem mt_two (a b : Nat) : (2 ^ a).testBit b = decide (a = b) := Nat.testBit_two_pow
theorem mt_pow {e n : Nat} (he : e < n) : 2 ^ e < 2 ^ n := Nat.pow_lt_pow_right (by decide) he
theorem mt_orlt {s n e : Nat} (hs : s < 2 ^ n) (he : e < n) : s ||| 2 ^ e < 2 ^ n := Nat.or_lt_two_pow hs (mt_pow he)
theorem mt_or_in {s e : Nat} (h : s.testBit e = true) : s ||| 2 ^ e = s := by
  apply Nat.eq_of_testBit_eq
  intro i
  rw [Nat.testBit_or, mt_two]
  by_cases hi : e = i
  · subst hi; simp [h]
  · simp [hi]
theorem mt_xor_or {s e : Nat} (h : s.testBit e = true) : (s ^^^ 2 ^ e) ||| 2 ^ e = s := by
  apply Nat.eq_of_testBit_eq
  intro i
  rw [Nat.testBit_or, Nat.testBit_xor, mt_two]
  by_cases hi : e = i
  · subst hi; simp [h]
  · simp [hi]
theorem mt_xor_out {s e : Nat} (h : s.testBit e = true) : (s ^^^ 2 ^ e).testBit e = false := by
  rw [Nat.testBit_xor, mt_two, h]; simp
theorem mt_or_xor {s e : Nat} (h : s.testBit e = false) : (s ||| 2 ^ e) ^^^ 2 ^ e = s := by
  apply Nat.eq_of_testBit_eq
  intro i
  rw [Nat.testBit_xor, Nat.testBit_or, mt_two]
  by_cases hi : e = i
  · subst hi; simp [h]
  · simp [hi]
theorem mt_xor_sb {s e : Nat} (h : s.testBit e = true) : mt_sb (s ^^^ 2 ^ e) s := by
  intro i hi
  rw [Nat.testBit_xor, mt_two] at hi
  by_cases he : e = i
  · subst he; exact h
  · simpa [he] using hi
theorem mt_xorlt {s n e : Nat} (hs : s < 2 ^ n) (he : e < n) : s ^^^ 2 ^ e < 2 ^ n := Nat.xor_lt_two_pow hs (mt_pow he)
theorem mt_modlt (s k : Nat) : s % 2 ^ k < 2 ^ k := Nat.mod_lt _ (Nat.two_pow_pos k)
theorem mt_modltn (s : Nat) {k n : Nat} (h : k ≤ n) : s % 2 ^ k < 2 ^ n := Nat.lt_of_lt_of_le (mt_modlt s k) (Nat.pow_le_pow_right (by omega) h)
theorem mt_mod_t {s k : Nat} (h : s.testBit k = true) : s % 2 ^ (k + 1) = s % 2 ^ k ||| 2 ^ k := by
  apply Nat.eq_of_testBit_eq
  intro i
  rw [Nat.testBit_or, Nat.testBit_mod_two_pow, Nat.testBit_mod_two_pow, mt_two]
  by_cases h1 : i < k
  · simp [h1, show i < k + 1 by omega, show ¬ k = i by omega]
  · by_cases h2 : k = i
    · subst h2; simp [h]
    · simp [h1, h2, show ¬ i < k + 1 by omega]
theorem mt_mod_f {s k : Nat} (h : s.testBit k = false) : s % 2 ^ (k + 1) = s % 2 ^ k := by
  apply Nat.eq_of_testBit_eq
  intro i
  rw [Nat.testBit_mod_two_pow, Nat.testBit_mod_two_pow]
  by_cases h1 : i < k
  · simp [h1, show i < k + 1 by omega]
  · by_cases h2 : k = i
    · subst h2; simp [h]
    · simp [h1, show ¬ i < k + 1 by omega]
theorem mt_mod_sb (s k : Nat) : mt_sb (s % 2 ^ k) s := by
  intro i hi
  rw [Nat.testBit_mod_two_pow] at hi
  simp at hi
  exact hi.2
theorem mt_mod_n {s n : Nat} (h : s < 2 ^ n) : s % 2 ^ n = s := Nat.mod_eq_of_lt h
theorem mt_cot {n s i : Nat} : (mt_co n s).testBit i = (decide (i < n) ^^ s.testBit i) := by
  unfold mt_co
  rw [Nat.testBit_xor, Nat.testBit_two_pow_sub_one]
theorem mt_colt {n s : Nat} (h : s < 2 ^ n) : mt_co n s < 2 ^ n := by
  apply mt_bnd
  intro i hi
  rw [mt_cot] at hi
  by_cases h1 : i < n
  · exact h1
  · rw [mt_big h (by omega)] at hi; simp [h1] at hi
theorem mt_co2 {n s : Nat} : mt_co n (mt_co n s) = s := by
  apply Nat.eq_of_testBit_eq
  intro i
  rw [mt_cot, mt_cot]
  cases s.testBit i <;> cases decide (i < n) <;> rfl
theorem mt_ex {x y n : Nat} (hx : x < 2 ^ n) (hy : y < 2 ^ n) (h : ∀ i, i < n → x.testBit i = y.testBit i) : x = y := by
  apply Nat.eq_of_testBit_eq
  intro i
  by_cases hi : i < n
  · exact h i hi
  · rw [mt_big hx (by omega), mt_big hy (by omega)]
-- how many
theorem mt_cd_le (n s : Nat) : mt_cd n s ≤ n := by
  induction n with
  | zero => exact Nat.le_refl _
  | succ k ih => simp only [mt_cd]; split <;> omega
theorem mt_cd_eq {n s t : Nat} (h : ∀ i, i < n → s.testBit i = t.testBit i) : mt_cd n s = mt_cd n t := by
  induction n with
  | zero => rfl
  | succ k ih => simp only [mt_cd]; rw [ih (fun i hi => h i (by omega)), h k (by omega)]
theorem mt_cd_0 (n : Nat) : mt_cd n 0 = 0 := by
  induction n with
  | zero => rfl
  | succ k ih => simp only [mt_cd]; rw [ih]; simp
theorem mt_cd_mono {n s t : Nat} (h : mt_sb s t) : mt_cd n s ≤ mt_cd n t := by
  induction n with
  | zero => exact Nat.le_refl _
  | succ k ih =>
    simp only [mt_cd]
    have := h k
    cases h1 : s.testBit k <;> cases h2 : t.testBit k <;> simp_all <;> omega
theorem mt_cd_orand (n a b : Nat) : mt_cd n (a ||| b) + mt_cd n (a &&& b) = mt_cd n a + mt_cd n b := by
  induction n with
  | zero => rfl
  | succ k ih =>
    simp only [mt_cd, Nat.testBit_or, Nat.testBit_and]
    cases h1 : a.testBit k <;> cases h2 : b.testBit k <;> simp <;> omega
theorem mt_cd_bit {n e : Nat} (h : e < n) : mt_cd n (2 ^ e) = 1 := by
  induction n with
  | zero => omega
  | succ k ih =>
    simp only [mt_cd, mt_two]
    by_cases h1 : e = k
    · subst h1
      have h0 : mt_cd e (2 ^ e) = mt_cd e 0 := mt_cd_eq (fun i hi => by rw [mt_two]; simp; omega)
      rw [h0, mt_cd_0]; simp
    · rw [ih (by omega)]; simp [h1]
theorem mt_cd_add {n s e : Nat} (he : e < n) (h : s.testBit e = false) : mt_cd n (s ||| 2 ^ e) = mt_cd n s + 1 := by
  have h1 := mt_cd_orand n s (2 ^ e)
  have h2 : s &&& 2 ^ e = 0 := by
    apply Nat.eq_of_testBit_eq
    intro i
    rw [Nat.testBit_and, mt_two]
    by_cases hi : e = i
    · subst hi; simp [h]
    · simp [hi]
  rw [h2, mt_cd_0, mt_cd_bit he] at h1
  omega
theorem mt_cd_xor {n s e : Nat} (he : e < n) (h : s.testBit e = true) : mt_cd n (s ^^^ 2 ^ e) + 1 = mt_cd n s := by
  rw [← mt_cd_add he (mt_xor_out h), mt_xor_or h]
theorem mt_cd_co (n s k : Nat) (hk : k ≤ n) : mt_cd k (mt_co n s) + mt_cd k s = k := by
  induction k with
  | zero => rfl
  | succ k ih =>
    simp only [mt_cd, mt_cot]
    have := ih (by omega)
    cases h1 : s.testBit k <;> simp [show k < n by omega] <;> omega
theorem mt_cd_top {n s : Nat} (h : s < 2 ^ n) : mt_cd (n + 1) s = mt_cd n s := by
  simp only [mt_cd]
  rw [mt_big h (Nat.le_refl n)]; simp
theorem mt_cd_mod (s : Nat) {k m : Nat} (h : k ≤ m) : mt_cd k (s % 2 ^ m) = mt_cd k s := by
  apply mt_cd_eq
  intro i hi
  rw [Nat.testBit_mod_two_pow]; simp; omega
theorem mt_cd_modn (s : Nat) {k m : Nat} (h : k ≤ m) : mt_cd m (s % 2 ^ k) = mt_cd k s := by
  induction m with
  | zero => have : k = 0 := by omega
            subst this; rfl
  | succ m ih =>
    by_cases hk : k = m + 1
    · subst hk; exact mt_cd_mod s (Nat.le_refl _)
    · simp only [mt_cd]
      rw [ih (by omega), mt_big (mt_modlt s k) (by omega)]; simp
theorem mt_cd_pos {n s : Nat} (hs : s < 2 ^ n) (h : s ≠ 0) : 0 < mt_cd n s := by
  obtain ⟨i, hi⟩ := Nat.exists_testBit_of_ne_zero h
  have hi : s.testBit i = true := hi
  have := mt_cd_xor (mt_lt hs hi) hi
  omega
theorem mt_cd_z {n s : Nat} (hs : s < 2 ^ n) (h : mt_cd n s = 0) : s = 0 := by
  by_cases h0 : s = 0
  · exact h0
  · have := mt_cd_pos hs h0; omega
/-- subsets with as many elements -/
theorem mt_sb_eq {n s t : Nat} (hs : s < 2 ^ n) (ht : t < 2 ^ n) (h : mt_sb s t) (hc : mt_cd n t ≤ mt_cd n s) : s = t := by
  have key : ∀ k, k ≤ n → mt_cd k t ≤ mt_cd k s ∨ mt_cd n s < mt_cd n t := by
    intro k hk
    refine Classical.byContradiction fun hno => ?_
    have h1 : mt_cd k s < mt_cd k t := by omega
    have h2 : ∀ j, k + j ≤ n → mt_cd (k + j) s < mt_cd (k + j) t := by
      intro j
      induction j with
      | zero => intro _; exact h1
      | succ j ih =>
        intro hj
        have h3 := ih (by omega)
        have h4 := h (k + j)
        show mt_cd (k + j + 1) s < mt_cd (k + j + 1) t
        simp only [mt_cd]
        cases h5 : s.testBit (k + j) <;> cases h6 : t.testBit (k + j) <;> simp_all <;> omega
    have := h2 (n - k) (by omega)
    rw [show k + (n - k) = n by omega] at this
    omega
  have mono : ∀ k, mt_cd k s ≤ mt_cd k t := fun k => mt_cd_mono h
  refine mt_ex hs ht fun i hi => ?_
  have h1 := (key i (by omega)).resolve_right (by omega)
  have h2 := (key (i + 1) (by omega)).resolve_right (by omega)
  have h3 := mono i
  have h4 := h i
  simp only [mt_cd] at h2
  cases h5 : s.testBit i with
  | true => rw [h4 h5]
  | false =>
    cases h6 : t.testBit i with
    | false => rfl
    | true =>
      rw [h5, h6] at h2
      simp at h2
      omega
-- a rank
theorem mt_mono {n : Nat} {r : Nat → Nat} (hM : mt_M n r) {s t : Nat} (hs : s < 2 ^ n) (ht : t < 2 ^ n) (h : mt_sb s t) : r s ≤ r t := by
  have key : ∀ k, k ≤ n → r s ≤ r (s ||| t % 2 ^ k) := by
    intro k
    induction k with
    | zero => intro _; rw [Nat.pow_zero, Nat.mod_one, Nat.or_zero]; exact Nat.le_refl _
    | succ k ih =>
      intro hk
      have h1 := ih (by omega)
      cases hb : t.testBit k with
      | true =>
        rw [mt_mod_t hb, ← Nat.or_assoc]
        exact Nat.le_trans h1 (hM.2.1 _ k (Nat.or_lt_two_pow hs (mt_modltn t (by omega))) (by omega)).1
      | false => rw [mt_mod_f hb]; exact h1
  have h1 := key n (Nat.le_refl n)
  rw [mt_mod_n ht] at h1
  have h2 : s ||| t = t := by
    apply Nat.eq_of_testBit_eq
    intro i
    rw [Nat.testBit_or]
    have := h i
    cases h5 : s.testBit i <;> cases h6 : t.testBit i <;> simp_all
  rw [h2] at h1
  exact h1
theorem mt_submod {n : Nat} {r : Nat → Nat} (hM : mt_M n r) {a b : Nat} (ha : a < 2 ^ n) (hb : b < 2 ^ n) : r (a ||| b) + r (a &&& b) ≤ r a + r b := by
  have hab : a &&& b < 2 ^ n := Nat.and_lt_two_pow a hb
  have key : ∀ k, k ≤ n → r (a ||| b % 2 ^ k) + r (a &&& b) ≤ r ((a &&& b) ||| b % 2 ^ k) + r a := by
    intro k
    induction k with
    | zero => intro _; rw [Nat.pow_zero, Nat.mod_one, Nat.or_zero, Nat.or_zero]; omega
    | succ k ih =>
      intro hk
      have h1 := ih (by omega)
      cases hbk : b.testBit k with
      | true =>
        rw [mt_mod_t hbk, ← Nat.or_assoc, ← Nat.or_assoc]
        have hx := mt_modltn b (show k ≤ n by omega)
        have h2 := hM.2.2 ((a &&& b) ||| b % 2 ^ k) (a ||| b % 2 ^ k) k (Nat.or_lt_two_pow hab hx) (Nat.or_lt_two_pow ha hx) (fun i hi => by
          rw [Nat.testBit_or, Nat.testBit_and] at hi
          rw [Nat.testBit_or]
          cases h5 : a.testBit i <;> simp_all) (by omega)
        omega
      | false => rw [mt_mod_f hbk]; exact h1
  have h1 := key n (Nat.le_refl n)
  rw [mt_mod_n hb] at h1
  have h2 : (a &&& b) ||| b = b := by
    apply Nat.eq_of_testBit_eq
    intro i
    rw [Nat.testBit_or, Nat.testBit_and]
    cases h5 : a.testBit i <;> cases h6 : b.testBit i <;> simp_all
  rw [h2] at h1
  omega
theorem mt_le_cd {n : Nat} {r : Nat → Nat} (hM : mt_M n r) {s : Nat} (hs : s < 2 ^ n) : r s ≤ mt_cd n s := by
  have key : ∀ k, k ≤ n → r (s % 2 ^ k) ≤ mt_cd k s := by
    intro k
    induction k with
    | zero => intro _; rw [Nat.pow_zero, Nat.mod_one, hM.1]; exact Nat.zero_le _
    | succ k ih =>
      intro hk
      have h1 := ih (by omega)
      simp only [mt_cd]
      cases hb : s.testBit k with
      | true =>
        rw [mt_mod_t hb]
        have := (hM.2.1 (s % 2 ^ k) k (mt_modltn s (by omega)) (by omega)).2
        simp; omega
      | false => rw [mt_mod_f hb]; simp; exact h1
  have h1 := key n (Nat.le_refl n)
  rw [mt_mod_n hs] at h1
  exact h1
theorem mt_ind_sub {n : Nat} {r : Nat → Nat} (hM : mt_M n r) {s t : Nat} (hs : s < 2 ^ n) (ht : t < 2 ^ n) (h : mt_sb s t) (hi : r t = mt_cd n t) : r s = mt_cd n s := by
  have hb : t &&& mt_co n s < 2 ^ n := Nat.and_lt_two_pow t (mt_colt hs)
  have h1 := mt_submod hM hs hb
  have e1 : s ||| (t &&& mt_co n s) = t := by
    refine mt_ex (Nat.or_lt_two_pow hs hb) ht fun i hi => ?_
    rw [Nat.testBit_or, Nat.testBit_and, mt_cot]
    have := h i
    cases h5 : s.testBit i <;> cases h6 : t.testBit i <;> simp_all
  have e2 : s &&& (t &&& mt_co n s) = 0 := by
    refine mt_ex (Nat.and_lt_two_pow _ hb) (Nat.two_pow_pos n) fun i hi => ?_
    rw [Nat.testBit_and, Nat.testBit_and, mt_cot]
    cases h5 : s.testBit i <;> cases h6 : t.testBit i <;> simp_all
  have h2 := mt_cd_orand n s (t &&& mt_co n s)
  rw [e1, e2] at h1 h2
  rw [mt_cd_0] at h2
  have h3 := mt_le_cd hM hs
  have h4 := mt_le_cd hM hb
  omega
theorem mt_dep {n : Nat} {r : Nat → Nat} (hM : mt_M n r) {s : Nat} (hs : s < 2 ^ n) (h : r s < mt_cd n s) : ∃ e, e < n ∧ s.testBit e = true ∧ r (s ^^^ 2 ^ e) = r s := by
  refine Classical.byContradiction fun hno => ?_
  have hall : ∀ e, e < n → s.testBit e = true → r (s ^^^ 2 ^ e) + 1 ≤ r s := by
    intro e he hb
    have h1 := mt_mono hM (mt_xorlt hs he) hs (mt_xor_sb hb)
    have h2 : r (s ^^^ 2 ^ e) ≠ r s := fun q => hno ⟨e, he, hb, q⟩
    omega
  have key : ∀ k, k ≤ n → mt_cd k s ≤ r (s % 2 ^ k) := by
    intro k
    induction k with
    | zero => intro _; exact Nat.zero_le _
    | succ k ih =>
      intro hk
      have h1 := ih (by omega)
      simp only [mt_cd]
      cases hb : s.testBit k with
      | true =>
        rw [mt_mod_t hb]
        have h2 := hM.2.2 (s % 2 ^ k) (s ^^^ 2 ^ k) k (mt_modltn s (by omega)) (mt_xorlt hs (by omega)) (fun i hi => by
          rw [Nat.testBit_mod_two_pow] at hi
          simp at hi
          rw [Nat.testBit_xor, mt_two, hi.2]
          simp; omega) (by omega)
        rw [mt_xor_or hb] at h2
        have h3 := hall k (by omega) hb
        simp; omega
      | false => rw [mt_mod_f hb]; simp; exact h1
  have h1 := key n (Nat.le_refl n)
  rw [mt_mod_n hs] at h1
  omega
/-- a largest independent subset -/
theorem mt_basis {n : Nat} {r : Nat → Nat} (hM : mt_M n r) {x : Nat} (hx : x < 2 ^ n) : ∃ b, b < 2 ^ n ∧ mt_sb b x ∧ r b = mt_cd n b ∧ r b = r x := by
  have key : ∀ k, k ≤ n → ∃ b, b < 2 ^ k ∧ mt_sb b (x % 2 ^ k) ∧ r b = mt_cd n b ∧ r b = r (x % 2 ^ k) := by
    intro k
    induction k with
    | zero => intro _; exact ⟨0, by decide, by intro i hi; simp at hi, by rw [hM.1, mt_cd_0], by rw [Nat.pow_zero, Nat.mod_one]⟩
    | succ k ih =>
      intro hk
      obtain ⟨b, h1, h2, h3, h4⟩ := ih (by omega)
      have hbn : b < 2 ^ n := Nat.lt_of_lt_of_le h1 (Nat.pow_le_pow_right (by omega) (by omega))
      have hxn := mt_modltn x (show k ≤ n by omega)
      cases hb : x.testBit k with
      | true =>
        rw [mt_mod_t hb]
        by_cases hg : r (x % 2 ^ k ||| 2 ^ k) = r (x % 2 ^ k)
        · exact ⟨b, Nat.lt_of_lt_of_le h1 (Nat.pow_le_pow_right (by omega) (by omega)), fun i hi => by rw [Nat.testBit_or, h2 i hi]; rfl, h3, by rw [hg]; exact h4⟩
        · have g1 := hM.2.1 (x % 2 ^ k) k hxn (by omega)
          have g2 := hM.2.2 b (x % 2 ^ k) k hbn hxn h2 (by omega)
          have g3 := hM.2.1 b k hbn (by omega)
          have g4 := mt_cd_add (n := n) (s := b) (e := k) (by omega) (mt_big h1 (Nat.le_refl k))
          refine ⟨b ||| 2 ^ k, Nat.or_lt_two_pow (Nat.lt_of_lt_of_le h1 (Nat.pow_le_pow_right (by omega) (by omega))) (mt_pow (by omega)), fun i hi => ?_, by omega, by omega⟩
          rw [Nat.testBit_or] at hi ⊢
          cases h5 : b.testBit i with
          | true => rw [h2 i h5]; rfl
          | false => rw [h5] at hi; simp at hi; rw [hi]; simp
      | false =>
        rw [mt_mod_f hb]
        exact ⟨b, Nat.lt_of_lt_of_le h1 (Nat.pow_le_pow_right (by omega) (by omega)), h2, h3, h4⟩
  obtain ⟨b, h1, h2, h3, h4⟩ := key n (Nat.le_refl n)
  rw [mt_mod_n hx] at h2 h4
  exact ⟨b, h1, h2, h3, h4⟩
