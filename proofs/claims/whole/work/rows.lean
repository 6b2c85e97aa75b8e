section
/-! Sets of elements as numbers, and what a rank of sets is: nothing here speaks of the machine. -/
def mt_cd : Nat → Nat → Nat
  | 0, _ => 0
  | k + 1, s => mt_cd k s + (if s.testBit k = true then 1 else 0)
def mt_co (n s : Nat) : Nat := (2 ^ n - 1) ^^^ s
def mt_sb (s t : Nat) : Prop := ∀ i : Nat, s.testBit i = true → t.testBit i = true
def mt_M (n : Nat) (r : Nat → Nat) : Prop :=
  r 0 = 0 ∧ (∀ s e : Nat, s < 2 ^ n → e < n → r s ≤ r (s ||| 2 ^ e) ∧ r (s ||| 2 ^ e) ≤ r s + 1) ∧
  ∀ s t e : Nat, s < 2 ^ n → t < 2 ^ n → mt_sb s t → e < n → r (t ||| 2 ^ e) + r s ≤ r (s ||| 2 ^ e) + r t
theorem mt_big {s n i : Nat} (h : s < 2 ^ n) (hi : n ≤ i) : s.testBit i = false :=
  Nat.testBit_lt_two_pow (Nat.lt_of_lt_of_le h (Nat.pow_le_pow_right (by omega) hi))
theorem mt_lt {s n i : Nat} (h : s < 2 ^ n) (hi : s.testBit i = true) : i < n := by
  refine Nat.lt_of_not_le fun hn => ?_
  rw [mt_big h hn] at hi
  cases hi
theorem mt_bnd {s n : Nat} (h : ∀ i, s.testBit i = true → i < n) : s < 2 ^ n := by
  apply Nat.lt_pow_two_of_testBit
  intro i hi
  cases hb : s.testBit i with
  | false => rfl
  | true => have := h i hb; omega
theorem mt_two (a b : Nat) : (2 ^ a).testBit b = decide (a = b) := Nat.testBit_two_pow
theorem mt_pow {e n : Nat} (he : e < n) : 2 ^ e < 2 ^ n := Nat.pow_lt_pow_right (by decide) he
theorem mt_orlt {s n e : Nat} (hs : s < 2 ^ n) (he : e < n) : s ||| 2 ^ e < 2 ^ n := Nat.or_lt_two_pow hs (mt_pow he)
theorem mt_or_in {s e : Nat} (h : s.testBit e = true) : s ||| 2 ^ e = s := by
  apply Nat.eq_of_testBit_eq
  intro i
  rw [Nat.testBit_or, mt_two]
  by_cases hi : e = i
  · subst hi; simp [h]
  · simp [hi]
theorem mt_xor_or {s e : Nat} (h : s.testBit e = true) : (s ^^^ 2 ^ e) ||| 2 ^ e = s := by
  apply Nat.eq_of_testBit_eq
  intro i
  rw [Nat.testBit_or, Nat.testBit_xor, mt_two]
  by_cases hi : e = i
  · subst hi; simp [h]
  · simp [hi]
theorem mt_xor_out {s e : Nat} (h : s.testBit e = true) : (s ^^^ 2 ^ e).testBit e = false := by
  rw [Nat.testBit_xor, mt_two, h]; simp
theorem mt_or_xor {s e : Nat} (h : s.testBit e = false) : (s ||| 2 ^ e) ^^^ 2 ^ e = s := by
  apply Nat.eq_of_testBit_eq
  intro i
  rw [Nat.testBit_xor, Nat.testBit_or, mt_two]
  by_cases hi : e = i
  · subst hi; simp [h]
  · simp [hi]
theorem mt_xor_sb {s e : Nat} (h : s.testBit e = true) : mt_sb (s ^^^ 2 ^ e) s := by
  intro i hi
  rw [Nat.testBit_xor, mt_two] at hi
  by_cases he : e = i
  · subst he; exact h
  · simpa [he] using hi
theorem mt_xorlt {s n e : Nat} (hs : s < 2 ^ n) (he : e < n) : s ^^^ 2 ^ e < 2 ^ n := Nat.xor_lt_two_pow hs (mt_pow he)
theorem mt_modlt (s k : Nat) : s % 2 ^ k < 2 ^ k := Nat.mod_lt _ (Nat.two_pow_pos k)
theorem mt_modltn (s : Nat) {k n : Nat} (h : k ≤ n) : s % 2 ^ k < 2 ^ n := Nat.lt_of_lt_of_le (mt_modlt s k) (Nat.pow_le_pow_right (by omega) h)
theorem mt_mod_t {s k : Nat} (h : s.testBit k = true) : s % 2 ^ (k + 1) = s % 2 ^ k ||| 2 ^ k := by
  apply Nat.eq_of_testBit_eq
  intro i
  rw [Nat.testBit_or, Nat.testBit_mod_two_pow, Nat.testBit_mod_two_pow, mt_two]
  by_cases h1 : i < k
  · simp [h1, show i < k + 1 by omega, show ¬ k = i by omega]
  · by_cases h2 : k = i
    · subst h2; simp [h]
    · simp [h1, h2, show ¬ i < k + 1 by omega]
theorem mt_mod_f {s k : Nat} (h : s.testBit k = false) : s % 2 ^ (k + 1) = s % 2 ^ k := by
  apply Nat.eq_of_testBit_eq
  intro i
  rw [Nat.testBit_mod_two_pow, Nat.testBit_mod_two_pow]
  by_cases h1 : i < k
  · simp [h1, show i < k + 1 by omega]
  · by_cases h2 : k = i
    · subst h2; simp [h]
    · simp [h1, show ¬ i < k + 1 by omega]
theorem mt_mod_sb (s k : Nat) : mt_sb (s % 2 ^ k) s := by
  intro i hi
  rw [Nat.testBit_mod_two_pow] at hi
  simp at hi
  exact hi.2
theorem mt_mod_n {s n : Nat} (h : s < 2 ^ n) : s % 2 ^ n = s := Nat.mod_eq_of_lt h
theorem mt_cot {n s i : Nat} : (mt_co n s).testBit i = (decide (i < n) ^^ s.testBit i) := by
  unfold mt_co
  rw [Nat.testBit_xor, Nat.testBit_two_pow_sub_one]
theorem mt_colt {n s : Nat} (h : s < 2 ^ n) : mt_co n s < 2 ^ n := by
  apply mt_bnd
  intro i hi
  rw [mt_cot] at hi
  by_cases h1 : i < n
  · exact h1
  · rw [mt_big h (by omega)] at hi; simp [h1] at hi
theorem mt_co2 {n s : Nat} : mt_co n (mt_co n s) = s := by
  apply Nat.eq_of_testBit_eq
  intro i
  rw [mt_cot, mt_cot]
  cases s.testBit i <;> cases decide (i < n) <;> rfl
theorem mt_ex {x y n : Nat} (hx : x < 2 ^ n) (hy : y < 2 ^ n) (h : ∀ i, i < n → x.testBit i = y.testBit i) : x = y := by
  apply Nat.eq_of_testBit_eq
  intro i
  by_cases hi : i < n
  · exact h i hi
  · rw [mt_big hx (by omega), mt_big hy (by omega)]
-- how many
theorem mt_cd_le (n s : Nat) : mt_cd n s ≤ n := by
  induction n with
  | zero => exact Nat.le_refl _
  | succ k ih => simp only [mt_cd]; split <;> omega
theorem mt_cd_eq {n s t : Nat} (h : ∀ i, i < n → s.testBit i = t.testBit i) : mt_cd n s = mt_cd n t := by
  induction n with
  | zero => rfl
  | succ k ih => simp only [mt_cd]; rw [ih (fun i hi => h i (by omega)), h k (by omega)]
theorem mt_cd_0 (n : Nat) : mt_cd n 0 = 0 := by
  induction n with
  | zero => rfl
  | succ k ih => simp only [mt_cd]; rw [ih]; simp
theorem mt_cd_mono {n s t : Nat} (h : mt_sb s t) : mt_cd n s ≤ mt_cd n t := by
  induction n with
  | zero => exact Nat.le_refl _
  | succ k ih =>
    simp only [mt_cd]
    have := h k
    cases h1 : s.testBit k <;> cases h2 : t.testBit k <;> simp_all <;> omega
theorem mt_cd_orand (n a b : Nat) : mt_cd n (a ||| b) + mt_cd n (a &&& b) = mt_cd n a + mt_cd n b := by
  induction n with
  | zero => rfl
  | succ k ih =>
    simp only [mt_cd, Nat.testBit_or, Nat.testBit_and]
    cases h1 : a.testBit k <;> cases h2 : b.testBit k <;> simp <;> omega
theorem mt_cd_bit {n e : Nat} (h : e < n) : mt_cd n (2 ^ e) = 1 := by
  induction n with
  | zero => omega
  | succ k ih =>
    simp only [mt_cd, mt_two]
    by_cases h1 : e = k
    · subst h1
      have h0 : mt_cd e (2 ^ e) = mt_cd e 0 := mt_cd_eq (fun i hi => by rw [mt_two]; simp; omega)
      rw [h0, mt_cd_0]; simp
    · rw [ih (by omega)]; simp [h1]
theorem mt_cd_add {n s e : Nat} (he : e < n) (h : s.testBit e = false) : mt_cd n (s ||| 2 ^ e) = mt_cd n s + 1 := by
  have h1 := mt_cd_orand n s (2 ^ e)
  have h2 : s &&& 2 ^ e = 0 := by
    apply Nat.eq_of_testBit_eq
    intro i
    rw [Nat.testBit_and, mt_two]
    by_cases hi : e = i
    · subst hi; simp [h]
    · simp [hi]
  rw [h2, mt_cd_0, mt_cd_bit he] at h1
  omega
theorem mt_cd_xor {n s e : Nat} (he : e < n) (h : s.testBit e = true) : mt_cd n (s ^^^ 2 ^ e) + 1 = mt_cd n s := by
  rw [← mt_cd_add he (mt_xor_out h), mt_xor_or h]
theorem mt_cd_co (n s k : Nat) (hk : k ≤ n) : mt_cd k (mt_co n s) + mt_cd k s = k := by
  induction k with
  | zero => rfl
  | succ k ih =>
    simp only [mt_cd, mt_cot]
    have := ih (by omega)
    cases h1 : s.testBit k <;> simp [show k < n by omega] <;> omega
theorem mt_cd_top {n s : Nat} (h : s < 2 ^ n) : mt_cd (n + 1) s = mt_cd n s := by
  simp only [mt_cd]
  rw [mt_big h (Nat.le_refl n)]; simp
theorem mt_cd_mod (s : Nat) {k m : Nat} (h : k ≤ m) : mt_cd k (s % 2 ^ m) = mt_cd k s := by
  apply mt_cd_eq
  intro i hi
  rw [Nat.testBit_mod_two_pow]; simp; omega
theorem mt_cd_modn (s : Nat) {k m : Nat} (h : k ≤ m) : mt_cd m (s % 2 ^ k) = mt_cd k s := by
  induction m with
  | zero => have : k = 0 := by omega
            subst this; rfl
  | succ m ih =>
    by_cases hk : k = m + 1
    · subst hk; exact mt_cd_mod s (Nat.le_refl _)
    · simp only [mt_cd]
      rw [ih (by omega), mt_big (mt_modlt s k) (by omega)]; simp
theorem mt_cd_pos {n s : Nat} (hs : s < 2 ^ n) (h : s ≠ 0) : 0 < mt_cd n s := by
  obtain ⟨i, hi⟩ := Nat.exists_testBit_of_ne_zero h
  have hi : s.testBit i = true := hi
  have := mt_cd_xor (mt_lt hs hi) hi
  omega
theorem mt_cd_z {n s : Nat} (hs : s < 2 ^ n) (h : mt_cd n s = 0) : s = 0 := by
  by_cases h0 : s = 0
  · exact h0
  · have := mt_cd_pos hs h0; omega
/-- subsets with as many elements -/
theorem mt_sb_eq {n s t : Nat} (hs : s < 2 ^ n) (ht : t < 2 ^ n) (h : mt_sb s t) (hc : mt_cd n t ≤ mt_cd n s) : s = t := by
  have key : ∀ k, k ≤ n → mt_cd k t ≤ mt_cd k s ∨ mt_cd n s < mt_cd n t := by
    intro k hk
    refine Classical.byContradiction fun hno => ?_
    have h1 : mt_cd k s < mt_cd k t := by omega
    have h2 : ∀ j, k + j ≤ n → mt_cd (k + j) s < mt_cd (k + j) t := by
      intro j
      induction j with
      | zero => intro _; exact h1
      | succ j ih =>
        intro hj
        have h3 := ih (by omega)
        have h4 := h (k + j)
        show mt_cd (k + j + 1) s < mt_cd (k + j + 1) t
        simp only [mt_cd]
        cases h5 : s.testBit (k + j) <;> cases h6 : t.testBit (k + j) <;> simp_all <;> omega
    have := h2 (n - k) (by omega)
    rw [show k + (n - k) = n by omega] at this
    omega
  have mono : ∀ k, mt_cd k s ≤ mt_cd k t := fun k => mt_cd_mono h
  refine mt_ex hs ht fun i hi => ?_
  have h1 := (key i (by omega)).resolve_right (by omega)
  have h2 := (key (i + 1) (by omega)).resolve_right (by omega)
  have h3 := mono i
  have h4 := h i
  simp only [mt_cd] at h2
  cases h5 : s.testBit i with
  | true => rw [h4 h5]
  | false =>
    cases h6 : t.testBit i with
    | false => rfl
    | true =>
      rw [h5, h6] at h2
      simp at h2
      omega
-- a rank
theorem mt_mono {n : Nat} {r : Nat → Nat} (hM : mt_M n r) {s t : Nat} (hs : s < 2 ^ n) (ht : t < 2 ^ n) (h : mt_sb s t) : r s ≤ r t := by
  have key : ∀ k, k ≤ n → r s ≤ r (s ||| t % 2 ^ k) := by
    intro k
    induction k with
    | zero => intro _; rw [Nat.pow_zero, Nat.mod_one, Nat.or_zero]; exact Nat.le_refl _
    | succ k ih =>
      intro hk
      have h1 := ih (by omega)
      cases hb : t.testBit k with
      | true =>
        rw [mt_mod_t hb, ← Nat.or_assoc]
        exact Nat.le_trans h1 (hM.2.1 _ k (Nat.or_lt_two_pow hs (mt_modltn t (by omega))) (by omega)).1
      | false => rw [mt_mod_f hb]; exact h1
  have h1 := key n (Nat.le_refl n)
  rw [mt_mod_n ht] at h1
  have h2 : s ||| t = t := by
    apply Nat.eq_of_testBit_eq
    intro i
    rw [Nat.testBit_or]
    have := h i
    cases h5 : s.testBit i <;> cases h6 : t.testBit i <;> simp_all
  rw [h2] at h1
  exact h1
theorem mt_submod {n : Nat} {r : Nat → Nat} (hM : mt_M n r) {a b : Nat} (ha : a < 2 ^ n) (hb : b < 2 ^ n) : r (a ||| b) + r (a &&& b) ≤ r a + r b := by
  have hab : a &&& b < 2 ^ n := Nat.and_lt_two_pow a hb
  have key : ∀ k, k ≤ n → r (a ||| b % 2 ^ k) + r (a &&& b) ≤ r ((a &&& b) ||| b % 2 ^ k) + r a := by
    intro k
    induction k with
    | zero => intro _; rw [Nat.pow_zero, Nat.mod_one, Nat.or_zero, Nat.or_zero]; omega
    | succ k ih =>
      intro hk
      have h1 := ih (by omega)
      cases hbk : b.testBit k with
      | true =>
        rw [mt_mod_t hbk, ← Nat.or_assoc, ← Nat.or_assoc]
        have hx := mt_modltn b (show k ≤ n by omega)
        have h2 := hM.2.2 ((a &&& b) ||| b % 2 ^ k) (a ||| b % 2 ^ k) k (Nat.or_lt_two_pow hab hx) (Nat.or_lt_two_pow ha hx) (fun i hi => by
          rw [Nat.testBit_or, Nat.testBit_and] at hi
          rw [Nat.testBit_or]
          cases h5 : a.testBit i <;> simp_all) (by omega)
        omega
      | false => rw [mt_mod_f hbk]; exact h1
  have h1 := key n (Nat.le_refl n)
  rw [mt_mod_n hb] at h1
  have h2 : (a &&& b) ||| b = b := by
    apply Nat.eq_of_testBit_eq
    intro i
    rw [Nat.testBit_or, Nat.testBit_and]
    cases h5 : a.testBit i <;> cases h6 : b.testBit i <;> simp_all
  rw [h2] at h1
  omega
theorem mt_le_cd {n : Nat} {r : Nat → Nat} (hM : mt_M n r) {s : Nat} (hs : s < 2 ^ n) : r s ≤ mt_cd n s := by
  have key : ∀ k, k ≤ n → r (s % 2 ^ k) ≤ mt_cd k s := by
    intro k
    induction k with
    | zero => intro _; rw [Nat.pow_zero, Nat.mod_one, hM.1]; exact Nat.zero_le _
    | succ k ih =>
      intro hk
      have h1 := ih (by omega)
      simp only [mt_cd]
      cases hb : s.testBit k with
      | true =>
        rw [mt_mod_t hb]
        have := (hM.2.1 (s % 2 ^ k) k (mt_modltn s (by omega)) (by omega)).2
        simp; omega
      | false => rw [mt_mod_f hb]; simp; exact h1
  have h1 := key n (Nat.le_refl n)
  rw [mt_mod_n hs] at h1
  exact h1
theorem mt_ind_sub {n : Nat} {r : Nat → Nat} (hM : mt_M n r) {s t : Nat} (hs : s < 2 ^ n) (ht : t < 2 ^ n) (h : mt_sb s t) (hi : r t = mt_cd n t) : r s = mt_cd n s := by
  have hb : t &&& mt_co n s < 2 ^ n := Nat.and_lt_two_pow t (mt_colt hs)
  have h1 := mt_submod hM hs hb
  have e1 : s ||| (t &&& mt_co n s) = t := by
    refine mt_ex (Nat.or_lt_two_pow hs hb) ht fun i hi => ?_
    rw [Nat.testBit_or, Nat.testBit_and, mt_cot]
    have := h i
    cases h5 : s.testBit i <;> cases h6 : t.testBit i <;> simp_all
  have e2 : s &&& (t &&& mt_co n s) = 0 := by
    refine mt_ex (Nat.and_lt_two_pow _ hb) (Nat.two_pow_pos n) fun i hi => ?_
    rw [Nat.testBit_and, Nat.testBit_and, mt_cot]
    cases h5 : s.testBit i <;> cases h6 : t.testBit i <;> simp_all
  have h2 := mt_cd_orand n s (t &&& mt_co n s)
  rw [e1, e2] at h1 h2
  rw [mt_cd_0] at h2
  have h3 := mt_le_cd hM hs
  have h4 := mt_le_cd hM hb
  omega
theorem mt_dep {n : Nat} {r : Nat → Nat} (hM : mt_M n r) {s : Nat} (hs : s < 2 ^ n) (h : r s < mt_cd n s) : ∃ e, e < n ∧ s.testBit e = true ∧ r (s ^^^ 2 ^ e) = r s := by
  refine Classical.byContradiction fun hno => ?_
  have hall : ∀ e, e < n → s.testBit e = true → r (s ^^^ 2 ^ e) + 1 ≤ r s := by
    intro e he hb
    have h1 := mt_mono hM (mt_xorlt hs he) hs (mt_xor_sb hb)
    have h2 : r (s ^^^ 2 ^ e) ≠ r s := fun q => hno ⟨e, he, hb, q⟩
    omega
  have key : ∀ k, k ≤ n → mt_cd k s ≤ r (s % 2 ^ k) := by
    intro k
    induction k with
    | zero => intro _; exact Nat.zero_le _
    | succ k ih =>
      intro hk
      have h1 := ih (by omega)
      simp only [mt_cd]
      cases hb : s.testBit k with
      | true =>
        rw [mt_mod_t hb]
        have h2 := hM.2.2 (s % 2 ^ k) (s ^^^ 2 ^ k) k (mt_modltn s (by omega)) (mt_xorlt hs (by omega)) (fun i hi => by
          rw [Nat.testBit_mod_two_pow] at hi
          simp at hi
          rw [Nat.testBit_xor, mt_two, hi.2]
          simp; omega) (by omega)
        rw [mt_xor_or hb] at h2
        have h3 := hall k (by omega) hb
        simp; omega
      | false => rw [mt_mod_f hb]; simp; exact h1
  have h1 := key n (Nat.le_refl n)
  rw [mt_mod_n hs] at h1
  omega
/-- a largest independent subset -/
theorem mt_basis {n : Nat} {r : Nat → Nat} (hM : mt_M n r) {x : Nat} (hx : x < 2 ^ n) : ∃ b, b < 2 ^ n ∧ mt_sb b x ∧ r b = mt_cd n b ∧ r b = r x := by
  have key : ∀ k, k ≤ n → ∃ b, b < 2 ^ k ∧ mt_sb b (x % 2 ^ k) ∧ r b = mt_cd n b ∧ r b = r (x % 2 ^ k) := by
    intro k
    induction k with
    | zero => intro _; exact ⟨0, by decide, by intro i hi; simp at hi, by rw [hM.1, mt_cd_0], by rw [Nat.pow_zero, Nat.mod_one]⟩
    | succ k ih =>
      intro hk
      obtain ⟨b, h1, h2, h3, h4⟩ := ih (by omega)
      have hbn : b < 2 ^ n := Nat.lt_of_lt_of_le h1 (Nat.pow_le_pow_right (by omega) (by omega))
      have hxn := mt_modltn x (show k ≤ n by omega)
      cases hb : x.testBit k with
      | true =>
        rw [mt_mod_t hb]
        by_cases hg : r (x % 2 ^ k ||| 2 ^ k) = r (x % 2 ^ k)
        · exact ⟨b, Nat.lt_of_lt_of_le h1 (Nat.pow_le_pow_right (by omega) (by omega)), fun i hi => by rw [Nat.testBit_or, h2 i hi]; rfl, h3, by rw [hg]; exact h4⟩
        · have g1 := hM.2.1 (x % 2 ^ k) k hxn (by omega)
          have g2 := hM.2.2 b (x % 2 ^ k) k hbn hxn h2 (by omega)
          have g3 := hM.2.1 b k hbn (by omega)
          have g4 := mt_cd_add (n := n) (s := b) (e := k) (by omega) (mt_big h1 (Nat.le_refl k))
          refine ⟨b ||| 2 ^ k, Nat.or_lt_two_pow (Nat.lt_of_lt_of_le h1 (Nat.pow_le_pow_right (by omega) (by omega))) (mt_pow (by omega)), fun i hi => ?_, by omega, by omega⟩
          rw [Nat.testBit_or] at hi ⊢
          cases h5 : b.testBit i with
          | true => rw [h2 i h5]; rfl
          | false => rw [h5] at hi; simp at hi; rw [hi]; simp
      | false =>
        rw [mt_mod_f hb]
        exact ⟨b, Nat.lt_of_lt_of_le h1 (Nat.pow_le_pow_right (by omega) (by omega)), h2, h3, h4⟩
  obtain ⟨b, h1, h2, h3, h4⟩ := key n (Nat.le_refl n)
  rw [mt_mod_n hx] at h2 h4
  exact ⟨b, h1, h2, h3, h4⟩
end
section
/-! Two ranks at once: the largest common independent set, the largest union; the least minimum of a submodular number; the table of ranks. -/
theorem mt_up {n s : Nat} (h : s < 2 ^ n) : s < 2 ^ (n + 1) := Nat.lt_of_lt_of_le h (Nat.pow_le_pow_right (by omega) (by omega))
theorem mt_M_del {n : Nat} {r : Nat → Nat} (hM : mt_M (n + 1) r) : mt_M n r :=
  ⟨hM.1, fun s e hs he => hM.2.1 s e (mt_up hs) (by omega), fun s t e hs ht h he => hM.2.2 s t e (mt_up hs) (mt_up ht) h (by omega)⟩
theorem mt_or_rot (a b c : Nat) : (a ||| b) ||| c = (a ||| c) ||| b := by
  rw [Nat.or_assoc, Nat.or_comm b c, ← Nat.or_assoc]
theorem mt_sb_or (s t : Nat) : mt_sb t (s ||| t) := fun i hi => by rw [Nat.testBit_or, hi]; simp
theorem mt_sb_orl (s t : Nat) : mt_sb s (s ||| t) := fun i hi => by rw [Nat.testBit_or, hi]; simp
theorem mt_M_con {n : Nat} {r : Nat → Nat} (hM : mt_M (n + 1) r) (h1 : r (2 ^ n) = 1) : mt_M n (fun s => r (s ||| 2 ^ n) - 1) := by
  have ge : ∀ s, s < 2 ^ n → 1 ≤ r (s ||| 2 ^ n) := fun s hs => by
    rw [← h1]
    exact mt_mono hM (mt_pow (by omega)) (mt_orlt (mt_up hs) (by omega)) (mt_sb_or s (2 ^ n))
  refine ⟨by show r (0 ||| 2 ^ n) - 1 = 0; rw [Nat.zero_or, h1], fun s e hs he => ?_, fun s t e hs ht h he => ?_⟩
  · show r (s ||| 2 ^ n) - 1 ≤ r (s ||| 2 ^ e ||| 2 ^ n) - 1 ∧ r (s ||| 2 ^ e ||| 2 ^ n) - 1 ≤ r (s ||| 2 ^ n) - 1 + 1
    have h2 := hM.2.1 (s ||| 2 ^ n) e (mt_orlt (mt_up hs) (by omega)) (by omega)
    have h3 := ge s hs
    rw [mt_or_rot s (2 ^ e) (2 ^ n)]
    omega
  · show r (t ||| 2 ^ e ||| 2 ^ n) - 1 + (r (s ||| 2 ^ n) - 1) ≤ r (s ||| 2 ^ e ||| 2 ^ n) - 1 + (r (t ||| 2 ^ n) - 1)
    have h2 := hM.2.2 (s ||| 2 ^ n) (t ||| 2 ^ n) e (mt_orlt (mt_up hs) (by omega)) (mt_orlt (mt_up ht) (by omega)) (fun i hi => by
      rw [Nat.testBit_or] at hi ⊢
      have := h i
      cases h5 : s.testBit i <;> simp_all) (by omega)
    have h3 := ge s hs
    have h4 := ge t ht
    have h5 := ge (s ||| 2 ^ e) (mt_orlt hs he)
    have h6 := ge (t ||| 2 ^ e) (mt_orlt ht he)
    rw [mt_or_rot s (2 ^ e) (2 ^ n)] at h5 ⊢
    rw [mt_or_rot t (2 ^ e) (2 ^ n)] at h6 ⊢
    omega
theorem mt_co_c1 {n u : Nat} (hu : u < 2 ^ n) : mt_co (n + 1) (u ||| 2 ^ n) = mt_co n u := by
  apply Nat.eq_of_testBit_eq
  intro i
  rw [mt_cot, mt_cot, Nat.testBit_or, mt_two]
  by_cases h1 : i < n
  · simp [h1, show i < n + 1 by omega, show ¬ n = i by omega]
  · by_cases h2 : n = i
    · subst h2; simp [mt_big hu (Nat.le_refl n)]
    · simp [h1, h2, show ¬ i < n + 1 by omega]
theorem mt_co_c2 {n u : Nat} (hu : u < 2 ^ n) : mt_co (n + 1) u = mt_co n u ||| 2 ^ n := by
  apply Nat.eq_of_testBit_eq
  intro i
  rw [Nat.testBit_or, mt_cot, mt_cot, mt_two]
  by_cases h1 : i < n
  · simp [h1, show i < n + 1 by omega, show ¬ n = i by omega]
  · by_cases h2 : n = i
    · subst h2; simp [mt_big hu (Nat.le_refl n)]
    · simp [h1, h2, show ¬ i < n + 1 by omega]
theorem mt_co_and {n a b : Nat} : mt_co n (a &&& b) = mt_co n a ||| mt_co n b ∨ True := Or.inr trivial
theorem mt_co_i {n a b : Nat} (ha : a < 2 ^ n) (hb : b < 2 ^ n) : mt_co n (a &&& b) = mt_co n a ||| mt_co n b := by
  refine mt_ex (mt_colt (Nat.and_lt_two_pow a hb)) (Nat.or_lt_two_pow (mt_colt ha) (mt_colt hb)) fun i hi => ?_
  rw [Nat.testBit_or, mt_cot, mt_cot, mt_cot, Nat.testBit_and]
  cases a.testBit i <;> cases b.testBit i <;> simp [hi]
theorem mt_co_u {n a b : Nat} (ha : a < 2 ^ n) (hb : b < 2 ^ n) : mt_co n (a ||| b) = mt_co n a &&& mt_co n b := by
  refine mt_ex (mt_colt (Nat.or_lt_two_pow ha hb)) (Nat.and_lt_two_pow _ (mt_colt hb)) fun i hi => ?_
  rw [Nat.testBit_and, mt_cot, mt_cot, mt_cot, Nat.testBit_or]
  cases a.testBit i <;> cases b.testBit i <;> simp [hi]
theorem mt_and_top {n a b : Nat} (ha : a < 2 ^ n) : a &&& (b ||| 2 ^ n) = a &&& b := by
  apply Nat.eq_of_testBit_eq
  intro i
  rw [Nat.testBit_and, Nat.testBit_and, Nat.testBit_or, mt_two]
  by_cases h2 : n = i
  · subst h2; simp [mt_big ha (Nat.le_refl n)]
  · simp [h2]
/-- the largest common independent set is as large as no sum of ranks forbids -/
theorem mt_inter : ∀ (n : Nat) (f g : Nat → Nat) (k : Nat), mt_M n f → mt_M n g → (∀ u, u < 2 ^ n → k ≤ f u + g (mt_co n u)) → ∃ i, i < 2 ^ n ∧ mt_cd n i = k ∧ f i = k ∧ g i = k := by
  intro n
  induction n with
  | zero =>
    intro f g k hf hg h
    have h0 := h 0 (by decide)
    have e : mt_co 0 0 = 0 := by decide
    rw [e, hf.1, hg.1] at h0
    have hk : k = 0 := by omega
    subst hk
    exact ⟨0, by decide, rfl, hf.1, hg.1⟩
  | succ n ih =>
    intro f g k hf hg h
    have hp : 2 ^ n < 2 ^ (n + 1) := mt_pow (by omega)
    by_cases hA : ∀ u, u < 2 ^ n → k ≤ f u + g (mt_co n u)
    · obtain ⟨i, h1, h2, h3, h4⟩ := ih f g k (mt_M_del hf) (mt_M_del hg) hA
      exact ⟨i, mt_up h1, by rw [mt_cd_top h1]; exact h2, h3, h4⟩
    · obtain ⟨a, ha⟩ := Classical.not_forall.mp hA
      have ha1 : a < 2 ^ n := Classical.byContradiction (fun q => ha (fun z => absurd z q))
      have ha2 : f a + g (mt_co n a) < k := Nat.lt_of_not_le (fun q => ha (fun _ => q))
      have ca := mt_colt ha1
      have hf1 : f (2 ^ n) = 1 := by
        have g1 := hf.2.1 0 n (Nat.two_pow_pos _) (by omega)
        rw [Nat.zero_or, hf.1] at g1
        refine Classical.byContradiction fun q => ?_
        have z : f (2 ^ n) = 0 := by omega
        have g2 := hf.2.2 0 a n (Nat.two_pow_pos _) (mt_up ha1) (fun i hi => by simp at hi) (by omega)
        rw [Nat.zero_or, hf.1, z] at g2
        have g3 := h (a ||| 2 ^ n) (mt_orlt (mt_up ha1) (by omega))
        rw [mt_co_c1 ha1] at g3
        omega
      have hg1 : g (2 ^ n) = 1 := by
        have g1 := hg.2.1 0 n (Nat.two_pow_pos _) (by omega)
        rw [Nat.zero_or, hg.1] at g1
        refine Classical.byContradiction fun q => ?_
        have z : g (2 ^ n) = 0 := by omega
        have g2 := hg.2.2 0 (mt_co n a) n (Nat.two_pow_pos _) (mt_up ca) (fun i hi => by simp at hi) (by omega)
        rw [Nat.zero_or, hg.1, z] at g2
        have g3 := h a (mt_up ha1)
        rw [mt_co_c2 ha1] at g3
        omega
      have f1 : ∀ u, u < 2 ^ n → 1 ≤ f (u ||| 2 ^ n) := fun u hu => by
        rw [← hf1]; exact mt_mono hf hp (mt_orlt (mt_up hu) (by omega)) (mt_sb_or u (2 ^ n))
      have g1 : ∀ u, u < 2 ^ n → 1 ≤ g (u ||| 2 ^ n) := fun u hu => by
        rw [← hg1]; exact mt_mono hg hp (mt_orlt (mt_up hu) (by omega)) (mt_sb_or u (2 ^ n))
      by_cases hB : ∀ u, u < 2 ^ n → k - 1 ≤ (f (u ||| 2 ^ n) - 1) + (g (mt_co n u ||| 2 ^ n) - 1)
      · obtain ⟨i, h1, h2, h3, h4⟩ := ih _ _ (k - 1) (mt_M_con hf hf1) (mt_M_con hg hg1) hB
        have h3 : f (i ||| 2 ^ n) - 1 = k - 1 := h3
        have h4 : g (i ||| 2 ^ n) - 1 = k - 1 := h4
        have m1 := f1 i h1
        have m2 := g1 i h1
        refine ⟨i ||| 2 ^ n, mt_orlt (mt_up h1) (by omega), ?_, by omega, by omega⟩
        rw [mt_cd_add (by omega) (mt_big h1 (Nat.le_refl n)), mt_cd_top h1]
        omega
      · obtain ⟨b, hb⟩ := Classical.not_forall.mp hB
        have hb1 : b < 2 ^ n := Classical.byContradiction (fun q => hb (fun z => absurd z q))
        have hb2 : (f (b ||| 2 ^ n) - 1) + (g (mt_co n b ||| 2 ^ n) - 1) < k - 1 := Nat.lt_of_not_le (fun q => hb (fun _ => q))
        have cb := mt_colt hb1
        have m1 := f1 b hb1
        have m2 := g1 _ cb
        have s1 := mt_submod hf (mt_up ha1) (mt_orlt (mt_up hb1) (show n < n + 1 by omega))
        have s2 := mt_submod hg (mt_up ca) (mt_orlt (mt_up cb) (show n < n + 1 by omega))
        rw [mt_and_top ha1, ← Nat.or_assoc] at s1
        rw [mt_and_top ca, ← Nat.or_assoc] at s2
        have hab : a &&& b < 2 ^ n := Nat.and_lt_two_pow a hb1
        have hob : a ||| b < 2 ^ n := Nat.or_lt_two_pow ha1 hb1
        have u1 := h (a &&& b) (mt_up hab)
        have u2 := h ((a ||| b) ||| 2 ^ n) (mt_orlt (mt_up hob) (by omega))
        rw [mt_co_c2 hab, mt_co_i ha1 hb1] at u1
        rw [mt_co_c1 hob, mt_co_u ha1 hb1] at u2
        omega
def mt_du (n : Nat) (g : Nat → Nat) : Nat → Nat := fun s => mt_cd n s + g (mt_co n s) - g (2 ^ n - 1)
theorem mt_alllt (n : Nat) : 2 ^ n - 1 < 2 ^ n := by have := Nat.two_pow_pos n; omega
theorem mt_sb_all {n s : Nat} (h : s < 2 ^ n) : mt_sb s (2 ^ n - 1) := fun i hi => by
  rw [Nat.testBit_two_pow_sub_one]; simp; exact mt_lt h hi
theorem mt_s_co {n s : Nat} (h : s < 2 ^ n) : s ||| mt_co n s = 2 ^ n - 1 := by
  refine mt_ex (Nat.or_lt_two_pow h (mt_colt h)) (mt_alllt n) fun i hi => ?_
  rw [Nat.testBit_or, mt_cot, Nat.testBit_two_pow_sub_one]
  cases s.testBit i <;> simp [hi]
theorem mt_s_coi {n s : Nat} (h : s < 2 ^ n) : s &&& mt_co n s = 0 := by
  refine mt_ex (Nat.and_lt_two_pow _ (mt_colt h)) (Nat.two_pow_pos n) fun i hi => ?_
  rw [Nat.testBit_and, mt_cot]
  cases s.testBit i <;> simp [hi]
theorem mt_du_ge {n : Nat} {g : Nat → Nat} (hM : mt_M n g) {s : Nat} (hs : s < 2 ^ n) : g (2 ^ n - 1) ≤ mt_cd n s + g (mt_co n s) := by
  have h1 := mt_submod hM hs (mt_colt hs)
  have h2 := mt_le_cd hM hs
  rw [mt_s_co hs] at h1
  omega
theorem mt_co_add {n s e : Nat} (hs : s < 2 ^ n) (he : e < n) (h : s.testBit e = false) : mt_co n (s ||| 2 ^ e) ||| 2 ^ e = mt_co n s := by
  refine mt_ex (mt_orlt (mt_colt (mt_orlt hs he)) he) (mt_colt hs) fun i hi => ?_
  rw [Nat.testBit_or, mt_cot, mt_cot, Nat.testBit_or, mt_two]
  by_cases h2 : e = i
  · subst h2; simp [h, he]
  · simp [h2]
theorem mt_M_du {n : Nat} {g : Nat → Nat} (hM : mt_M n g) : mt_M n (mt_du n g) := by
  have inc : ∀ s e, s < 2 ^ n → e < n → mt_du n g s ≤ mt_du n g (s ||| 2 ^ e) ∧ mt_du n g (s ||| 2 ^ e) ≤ mt_du n g s + 1 := by
    intro s e hs he
    cases hb : s.testBit e with
    | true => rw [mt_or_in hb]; omega
    | false =>
      have h1 := mt_du_ge hM hs
      have h2 := mt_du_ge hM (mt_orlt hs he)
      have h3 := mt_cd_add he hb
      have h4 := hM.2.1 (mt_co n (s ||| 2 ^ e)) e (mt_colt (mt_orlt hs he)) he
      rw [mt_co_add hs he hb] at h4
      unfold mt_du
      omega
  refine ⟨?_, inc, fun s t e hs ht h he => ?_⟩
  · unfold mt_du
    have h0 : mt_co n 0 = 2 ^ n - 1 := by unfold mt_co; rw [Nat.xor_zero]
    rw [mt_cd_0, h0]; omega
  · cases hb : t.testBit e with
    | true => rw [mt_or_in hb]; have := (inc s e hs he).1; omega
    | false =>
      have hbs : s.testBit e = false := by
        cases hq : s.testBit e with
        | false => rfl
        | true => rw [h e hq] at hb; cases hb
      have h1 := mt_du_ge hM hs
      have h2 := mt_du_ge hM (mt_orlt hs he)
      have h3 := mt_cd_add he hbs
      have h1' := mt_du_ge hM ht
      have h2' := mt_du_ge hM (mt_orlt ht he)
      have h3' := mt_cd_add he hb
      have h4 := hM.2.2 (mt_co n (t ||| 2 ^ e)) (mt_co n (s ||| 2 ^ e)) e (mt_colt (mt_orlt ht he)) (mt_colt (mt_orlt hs he)) (fun i hi => by
        rw [mt_cot, Nat.testBit_or] at hi ⊢
        have hq := h i
        have hr : t.testBit i = true → i < n := mt_lt ht
        cases h5 : s.testBit i with
        | true => rw [hq h5] at hi; exact hi
        | false =>
          cases h6 : t.testBit i with
          | false => rw [h6] at hi; exact hi
          | true =>
            have hin := hr h6
            rw [h6] at hi
            simp [hin] at hi) he
      rw [mt_co_add hs he hbs, mt_co_add ht he hb] at h4
      unfold mt_du
      omega
/-- the largest union of two independent sets -/
theorem mt_union {n : Nat} {f g : Nat → Nat} (hf : mt_M n f) (hg : mt_M n g) {m : Nat} (hge : g (2 ^ n - 1) ≤ m) (hm : ∀ a, a < 2 ^ n → m ≤ f a + g a + (n - mt_cd n a)) : ∃ i b, i < 2 ^ n ∧ b < 2 ^ n ∧ i &&& b = 0 ∧ f i = mt_cd n i ∧ g b = mt_cd n b ∧ mt_cd n (i ||| b) = m := by
  obtain ⟨i, h1, h2, h3, h4⟩ := mt_inter n f (mt_du n g) (m - g (2 ^ n - 1)) hf (mt_M_du hg) (fun u hu => by
    unfold mt_du
    rw [mt_co2]
    have := hm u hu
    have := mt_cd_co n u n (Nat.le_refl n)
    omega)
  have h5 := mt_du_ge hg h1
  have h6 : mt_cd n i + g (mt_co n i) - g (2 ^ n - 1) = m - g (2 ^ n - 1) := h4
  have h7 := mt_mono hg (mt_colt h1) (mt_alllt n) (mt_sb_all (mt_colt h1))
  obtain ⟨b, b1, b2, b3, b4⟩ := mt_basis hg (mt_colt h1)
  have hib : i &&& b = 0 := by
    refine mt_ex (Nat.and_lt_two_pow _ b1) (Nat.two_pow_pos n) fun j hj => ?_
    rw [Nat.testBit_and]
    have := b2 j
    rw [mt_cot] at this
    cases h5 : i.testBit j <;> cases h6 : b.testBit j <;> simp_all
  have h8 := mt_cd_orand n i b
  rw [hib, mt_cd_0] at h8
  exact ⟨i, b, h1, b1, hib, by omega, b3, by omega⟩
theorem mt_union_le {n : Nat} {f g : Nat → Nat} (hf : mt_M n f) (hg : mt_M n g) {i b a : Nat} (hi : i < 2 ^ n) (hb : b < 2 ^ n) (ha : a < 2 ^ n) (h1 : f i = mt_cd n i) (h2 : g b = mt_cd n b) : mt_cd n (i ||| b) ≤ f a + g a + (n - mt_cd n a) := by
  have e1 := mt_cd_orand n (i ||| b) a
  have e2 := mt_cd_le n ((i ||| b) ||| a)
  have e3 : (i ||| b) &&& a = (i &&& a) ||| (b &&& a) := by
    apply Nat.eq_of_testBit_eq
    intro j
    simp only [Nat.testBit_and, Nat.testBit_or]
    cases i.testBit j <;> cases b.testBit j <;> cases a.testBit j <;> rfl
  have e4 := mt_cd_orand n (i &&& a) (b &&& a)
  have sub : ∀ x : Nat, mt_sb (x &&& a) x ∧ mt_sb (x &&& a) a := fun x => ⟨fun j hj => by rw [Nat.testBit_and] at hj; simp at hj; exact hj.1, fun j hj => by rw [Nat.testBit_and] at hj; simp at hj; exact hj.2⟩
  have g1 := mt_ind_sub hf (Nat.and_lt_two_pow i ha) hi (sub i).1 h1
  have g2 := mt_ind_sub hg (Nat.and_lt_two_pow b ha) hb (sub b).1 h2
  have g3 := mt_mono hf (Nat.and_lt_two_pow i ha) ha (sub i).2
  have g4 := mt_mono hg (Nat.and_lt_two_pow b ha) ha (sub b).2
  have g5 := mt_cd_le n a
  rw [e3] at e1
  omega
/-- of the sets with the least submodular number the least one is in all others -/
theorem mt_least {n : Nat} {h : Nat → Nat} (hs : ∀ a b, a < 2 ^ n → b < 2 ^ n → h (a ||| b) + h (a &&& b) ≤ h a + h b) {x : Nat} (hx : x < 2 ^ n) (hmin : ∀ s, s < 2 ^ n → h x ≤ h s) (hfst : ∀ s, s < x → h x < h s) {s : Nat} (hs2 : s < 2 ^ n) (he : h s = h x) : x &&& s = x := by
  have h1 := hs x s hx hs2
  have h2 := hmin (x ||| s) (Nat.or_lt_two_pow hx hs2)
  refine Classical.byContradiction fun q => ?_
  have h3 : x &&& s ≤ x := Nat.and_le_left
  have h4 := hfst (x &&& s) (by omega)
  omega
theorem mt_sub_w {n : Nat} {f g : Nat → Nat} (hf : mt_M n f) (hg : mt_M n g) : ∀ a b, a < 2 ^ n → b < 2 ^ n → (f (a ||| b) + g (mt_co n (a ||| b))) + (f (a &&& b) + g (mt_co n (a &&& b))) ≤ (f a + g (mt_co n a)) + (f b + g (mt_co n b)) := by
  intro a b ha hb
  have h1 := mt_submod hf ha hb
  have h2 := mt_submod hg (mt_colt ha) (mt_colt hb)
  rw [mt_co_i ha hb, mt_co_u ha hb]
  omega
theorem mt_sub_j {n : Nat} {f g : Nat → Nat} (hf : mt_M n f) (hg : mt_M n g) : ∀ a b, a < 2 ^ n → b < 2 ^ n → (f (a ||| b) + g (a ||| b) + (n - mt_cd n (a ||| b))) + (f (a &&& b) + g (a &&& b) + (n - mt_cd n (a &&& b))) ≤ (f a + g a + (n - mt_cd n a)) + (f b + g b + (n - mt_cd n b)) := by
  intro a b ha hb
  have h1 := mt_submod hf ha hb
  have h2 := mt_submod hg ha hb
  have h3 := mt_cd_orand n a b
  have h4 := mt_cd_le n a
  have h5 := mt_cd_le n b
  have h6 := mt_cd_le n (a ||| b)
  have h7 := mt_cd_le n (a &&& b)
  omega
/-- one row of the table of ranks -/
theorem mt_tab {n : Nat} {r : Nat → Nat} (hM : mt_M n r) {s : Nat} (hs : s < 2 ^ n) {best : Nat} (h1 : ∀ e, e < n → s.testBit e = true → r (s ^^^ 2 ^ e) ≤ best) (h2 : best = 0 ∨ ∃ e, e < n ∧ s.testBit e = true ∧ r (s ^^^ 2 ^ e) = best) : (best + 1 = mt_cd n s ∧ r s = mt_cd n s → r s = best + 1) ∧ (¬ (best + 1 = mt_cd n s ∧ r s = mt_cd n s) → r s = best) := by
  refine ⟨fun h => by omega, fun h => ?_⟩
  have h3 := mt_le_cd hM hs
  have hle : best ≤ r s := by
    rcases h2 with h2 | ⟨e, g1, g2, g3⟩
    · omega
    · rw [← g3]; exact mt_mono hM (mt_xorlt hs g1) hs (mt_xor_sb g2)
  by_cases hr : r s = mt_cd n s
  · by_cases h0 : s = 0
    · subst h0; rw [hM.1] at hle ⊢; omega
    · obtain ⟨e, he⟩ := Nat.exists_testBit_of_ne_zero h0
      have he : s.testBit e = true := he
      have hen := mt_lt hs he
      have g1 := h1 e hen he
      have g2 := hM.2.1 (s ^^^ 2 ^ e) e (mt_xorlt hs hen) hen
      rw [mt_xor_or he] at g2
      have g3 := mt_cd_xor hen he
      have g4 : ∀ e, e < n → s.testBit e = true → r (s ^^^ 2 ^ e) + 1 ≤ mt_cd n s := fun e h5 h6 => by
        have := mt_le_cd hM (mt_xorlt hs h5)
        have := mt_cd_xor h5 h6
        omega
      rcases h2 with h2 | ⟨e', q1, q2, q3⟩
      · omega
      · have := g4 e' q1 q2
        omega
  · obtain ⟨e, g1, g2, g3⟩ := mt_dep hM hs (by omega)
    have := h1 e g1 g2
    omega
end
section
/-! The heaviest basis: taking greedily in the order of the elements. -/
def mt_W (w : Nat → Int) : Nat → Nat → Int
  | 0, _ => 0
  | k + 1, s => mt_W w k s + (if s.testBit k = true then w k else 0)
def mt_bf (w : Nat → Int) (a b : Nat) : Prop := w b < w a ∨ (w b = w a ∧ a < b)
def mt_dn (w : Nat → Int) (n t : Nat) : Prop := ∀ a b : Nat, t.testBit a = true → b < n → t.testBit b = false → mt_bf w a b
def mt_gr (w : Nat → Int) (n : Nat) (r : Nat → Nat) (B : Nat) : Prop := B < 2 ^ n ∧ r B = mt_cd n B ∧ r B = r (2 ^ n - 1) ∧ ∀ t, t < 2 ^ n → mt_dn w n t → mt_cd n (B &&& t) = r t
def mt_gi (w : Nat → Int) (n : Nat) (r : Nat → Nat) (tried basis : Nat) : Prop := tried < 2 ^ n ∧ basis < 2 ^ n ∧ mt_sb basis tried ∧ mt_dn w n tried ∧ r basis = mt_cd n basis ∧ r basis = r tried ∧ ∀ t, t < 2 ^ n → mt_dn w n t → mt_sb t tried → mt_cd n (basis &&& t) = r t
def mt_cf (w : Nat → Int) (n s t : Nat) : Prop := ∃ f, f < n ∧ (s ^^^ t).testBit f = true ∧ (∀ e, e < n → (s ^^^ t).testBit e = true → e = f ∨ mt_bf w f e) ∧ s.testBit f = true
theorem mt_mk (p : Nat → Bool) (n : Nat) : ∃ t, t < 2 ^ n ∧ ∀ i, i < n → t.testBit i = p i := by
  induction n with
  | zero => exact ⟨0, by decide, fun i hi => by omega⟩
  | succ n ih =>
    obtain ⟨t, h1, h2⟩ := ih
    cases hp : p n with
    | false =>
      refine ⟨t, mt_up h1, fun i hi => ?_⟩
      by_cases h : i = n
      · subst h; rw [hp]; exact mt_big h1 (Nat.le_refl i)
      · exact h2 i (by omega)
    | true =>
      refine ⟨t ||| 2 ^ n, mt_orlt (mt_up h1) (by omega), fun i hi => ?_⟩
      rw [Nat.testBit_or, mt_two]
      by_cases h : i = n
      · subst h; simp [hp]
      · rw [h2 i (by omega)]; simp [show ¬ n = i by omega]
theorem mt_W_eq {v v' : Nat → Int} {n s : Nat} (h : ∀ i, i < n → v i = v' i) : mt_W v n s = mt_W v' n s := by
  induction n with
  | zero => rfl
  | succ k ih => simp only [mt_W]; rw [ih (fun i hi => h i (by omega)), h k (by omega)]
theorem mt_W_c {v : Nat → Int} {c : Int} {n s : Nat} (h : ∀ i, i < n → v i = c) : mt_W v n s = c * (mt_cd n s : Int) := by
  induction n with
  | zero => simp [mt_W, mt_cd]
  | succ k ih =>
    simp only [mt_W, mt_cd]
    rw [ih (fun i hi => h i (by omega)), h k (by omega)]
    cases s.testBit k
    · simp
    · simp [Int.mul_add]
theorem mt_W_add {v v' : Nat → Int} {t n s : Nat} (h : ∀ i, i < n → v' i = v i + (if t.testBit i = true then 1 else 0)) : mt_W v' n s = mt_W v n s + (mt_cd n (s &&& t) : Int) := by
  induction n with
  | zero => simp [mt_W, mt_cd]
  | succ k ih =>
    simp only [mt_W, mt_cd, Nat.testBit_and]
    rw [ih (fun i hi => h i (by omega)), h k (by omega)]
    cases s.testBit k <;> cases t.testBit k <;> simp <;> omega
theorem mt_gr_W {w : Nat → Int} {n : Nat} {r : Nat → Nat} {B : Nat} (hM : mt_M n r) (hB : mt_gr w n r B) {S : Nat} (hS : S < 2 ^ n) (hi : r S = mt_cd n S) (hc : r S = r (2 ^ n - 1)) (M : Nat) (hw : ∀ i, i < n → -(M : Int) ≤ w i ∧ w i ≤ (M : Int)) : mt_W w n S ≤ mt_W w n B := by
  have key : ∀ j : Nat, mt_W (fun i => min (w i) (-(M : Int) + (j : Int))) n S ≤ mt_W (fun i => min (w i) (-(M : Int) + (j : Int))) n B := by
    intro j
    induction j with
    | zero =>
      have e : ∀ i, i < n → (fun i => min (w i) (-(M : Int) + ((0 : Nat) : Int))) i = -(M : Int) := fun i h => by
        have := hw i h
        show min (w i) (-(M : Int) + ((0 : Nat) : Int)) = -(M : Int)
        omega
      rw [mt_W_c e, mt_W_c e, ← hi, ← hB.2.1, hc, hB.2.2.1]
      exact Int.le_refl _
    | succ j ih =>
      obtain ⟨t, t1, t2⟩ := mt_mk (fun i => decide (-(M : Int) + ((j + 1 : Nat) : Int) ≤ w i)) n
      have e : ∀ i, i < n → (fun i => min (w i) (-(M : Int) + ((j + 1 : Nat) : Int))) i = (fun i => min (w i) (-(M : Int) + (j : Int))) i + (if t.testBit i = true then 1 else 0) := fun i h => by
        rw [t2 i h]
        show min (w i) (-(M : Int) + ((j + 1 : Nat) : Int)) = min (w i) (-(M : Int) + (j : Int)) + _
        by_cases hq : -(M : Int) + ((j + 1 : Nat) : Int) ≤ w i
        · simp only [hq, decide_true, if_true]; omega
        · simp only [hq, decide_false]; simp; omega
      have dn : mt_dn w n t := fun a b ha hb hnb => by
        have han := mt_lt t1 ha
        rw [t2 a han] at ha
        rw [t2 b hb] at hnb
        simp at ha hnb
        exact Or.inl (by omega)
      rw [mt_W_add e, mt_W_add e, hB.2.2.2 t t1 dn]
      have g1 : mt_cd n (S &&& t) ≤ r t := by
        have sa : mt_sb (S &&& t) S := fun j hj => by rw [Nat.testBit_and] at hj; simp at hj; exact hj.1
        have sb : mt_sb (S &&& t) t := fun j hj => by rw [Nat.testBit_and] at hj; simp at hj; exact hj.2
        rw [← mt_ind_sub hM (Nat.and_lt_two_pow S t1) hS sa hi]
        exact mt_mono hM (Nat.and_lt_two_pow S t1) t1 sb
      omega
  have h1 := key (2 * M)
  have e : ∀ i, i < n → (fun i => min (w i) (-(M : Int) + ((2 * M : Nat) : Int))) i = w i := fun i h => by
    have := hw i h
    show min (w i) (-(M : Int) + ((2 * M : Nat) : Int)) = w i
    omega
  rw [mt_W_eq e, mt_W_eq e] at h1
  exact h1
theorem mt_gr_first {w : Nat → Int} {n : Nat} {r : Nat → Nat} {B : Nat} (hM : mt_M n r) (hB : mt_gr w n r B) {S : Nat} (hS : S < 2 ^ n) (hi : r S = mt_cd n S) : ¬ mt_cf w n S B := by
  rintro ⟨f, f1, f2, f3, f4⟩
  obtain ⟨t, t1, t2⟩ := mt_mk (fun i => decide (i = f) || decide (w f < w i) || (decide (w f = w i) && decide (i < f))) n
  have hT : ∀ i, i < n → (t.testBit i = true ↔ (i = f ∨ w f < w i ∨ (w f = w i ∧ i < f))) := fun i h => by
    rw [t2 i h]; simp [or_assoc]
  have dn : mt_dn w n t := fun a b ha hb hnb => by
    have g1 := (hT a (mt_lt t1 ha)).mp ha
    have g2 : ¬ (b = f ∨ w f < w b ∨ (w f = w b ∧ b < f)) := fun q => by rw [(hT b hb).mpr q] at hnb; cases hnb
    unfold mt_bf
    by_cases haf : a = f
    · subst haf; omega
    · omega
  have hBf : B.testBit f = false := by
    rw [Nat.testBit_xor, f4] at f2
    cases h : B.testBit f with
    | false => rfl
    | true => rw [h] at f2; cases f2
  have htf : t.testBit f = true := (hT f f1).mpr (Or.inl rfl)
  have e : S &&& t = (B &&& t) ||| 2 ^ f := by
    refine mt_ex (Nat.and_lt_two_pow S t1) (mt_orlt (Nat.and_lt_two_pow B t1) f1) fun i hi => ?_
    rw [Nat.testBit_or, Nat.testBit_and, Nat.testBit_and, mt_two]
    by_cases hif : f = i
    · subst hif; simp [f4, htf]
    · cases hti : t.testBit i with
      | false => simp [hif]
      | true =>
        have g1 := (hT i hi).mp hti
        have g2 : (S ^^^ B).testBit i = false := by
          cases hq : (S ^^^ B).testBit i with
          | false => rfl
          | true =>
            exfalso
            have := f3 i hi hq
            unfold mt_bf at this
            omega
        rw [Nat.testBit_xor] at g2
        simp only [hif, decide_false, Bool.and_true, Bool.or_false]
        cases h5 : S.testBit i <;> cases h6 : B.testBit i <;> simp_all
  have g1 := mt_cd_add (n := n) (s := B &&& t) f1 (by rw [Nat.testBit_and, hBf]; rfl)
  rw [← e, hB.2.2.2 t t1 dn] at g1
  have sa : mt_sb (S &&& t) S := fun j hj => by rw [Nat.testBit_and] at hj; simp at hj; exact hj.1
  have sb : mt_sb (S &&& t) t := fun j hj => by rw [Nat.testBit_and] at hj; simp at hj; exact hj.2
  have g2 := mt_ind_sub hM (Nat.and_lt_two_pow S t1) hS sa hi
  have g3 := mt_mono hM (Nat.and_lt_two_pow S t1) t1 sb
  omega
theorem mt_first (w : Nat → Int) (x : Nat) : ∀ n, (∃ i, i < n ∧ x.testBit i = true) → ∃ f, f < n ∧ x.testBit f = true ∧ ∀ e, e < n → x.testBit e = true → e = f ∨ mt_bf w f e := by
  intro n
  induction n with
  | zero => rintro ⟨i, h, -⟩; omega
  | succ n ih =>
    rintro ⟨i, h1, h2⟩
    by_cases hq : ∃ i, i < n ∧ x.testBit i = true
    · obtain ⟨f, g1, g2, g3⟩ := ih hq
      by_cases hn : x.testBit n = true ∧ w f < w n
      · refine ⟨n, by omega, hn.1, fun e he hx => ?_⟩
        by_cases hen : e = n
        · exact Or.inl hen
        · refine Or.inr ?_
          have := g3 e (by omega) hx
          unfold mt_bf at this ⊢
          by_cases hef : e = f
          · subst hef; exact Or.inl hn.2
          · have h9 := hn.2; omega
      · refine ⟨f, by omega, g2, fun e he hx => ?_⟩
        by_cases hen : e = n
        · subst hen
          refine Or.inr ?_
          have : ¬ w f < w e := fun z => hn ⟨hx, z⟩
          unfold mt_bf
          omega
        · exact g3 e (by omega) hx
    · have hin : i = n := Classical.byContradiction fun z => hq ⟨i, by omega, h2⟩
      subst hin
      exact ⟨i, by omega, h2, fun e he hx => Or.inl (Classical.byContradiction fun z => hq ⟨e, by omega, hx⟩)⟩
/-- the greedy basis comes first of all that weigh as much -/
theorem mt_gr_cf {w : Nat → Int} {n : Nat} {r : Nat → Nat} {B : Nat} (hM : mt_M n r) (hB : mt_gr w n r B) {S : Nat} (hS : S < 2 ^ n) (hi : r S = mt_cd n S) (hne : S ≠ B) : mt_cf w n B S := by
  have hx : ∃ i, i < n ∧ (B ^^^ S).testBit i = true := by
    obtain ⟨i, hi⟩ := Nat.exists_testBit_ne_of_ne hne
    have h1 : (B ^^^ S).testBit i = true := by
      rw [Nat.testBit_xor]
      cases h5 : S.testBit i <;> cases h6 : B.testBit i <;> simp_all
    exact ⟨i, mt_lt (Nat.xor_lt_two_pow hB.1 hS) h1, h1⟩
  obtain ⟨f, f1, f2, f3⟩ := mt_first w (B ^^^ S) n hx
  cases h : B.testBit f with
  | true => exact ⟨f, f1, f2, f3, h⟩
  | false =>
    exfalso
    refine mt_gr_first hM hB hS hi ⟨f, f1, ?_, ?_, ?_⟩
    · rw [Nat.xor_comm]; exact f2
    · rw [Nat.xor_comm]; exact f3
    · rw [Nat.testBit_xor, h] at f2
      simpa using f2
theorem mt_gi_0 {w : Nat → Int} {n : Nat} {r : Nat → Nat} (hM : mt_M n r) : mt_gi w n r 0 0 := by
  refine ⟨Nat.two_pow_pos n, Nat.two_pow_pos n, fun i hi => hi, fun a b ha => by simp at ha, by rw [hM.1, mt_cd_0], rfl, fun t ht _ hs => ?_⟩
  have h0 : t = 0 := by
    refine mt_ex ht (Nat.two_pow_pos n) fun i _ => ?_
    have := hs i
    cases h5 : t.testBit i <;> simp_all
  subst h0
  rw [Nat.zero_and, mt_cd_0, hM.1]
theorem mt_gi_s {w : Nat → Int} {n : Nat} {r : Nat → Nat} (hM : mt_M n r) {tried basis : Nat} (h : mt_gi w n r tried basis) {e : Nat} (he : e < n) (h1 : tried.testBit e = false) (h2 : ∀ b, b < n → tried.testBit b = false → b = e ∨ mt_bf w e b) :
    (r (basis ||| 2 ^ e) = mt_cd n (basis ||| 2 ^ e) → mt_gi w n r (tried ||| 2 ^ e) (basis ||| 2 ^ e)) ∧ (¬ r (basis ||| 2 ^ e) = mt_cd n (basis ||| 2 ^ e) → mt_gi w n r (tried ||| 2 ^ e) basis) := by
  obtain ⟨a1, a2, a3, a4, a5, a6, a7⟩ := h
  have hbe : basis.testBit e = false := by
    cases hq : basis.testBit e with
    | false => rfl
    | true => rw [a3 e hq] at h1; cases h1
  have ht' := mt_orlt a1 he
  have hb' := mt_orlt a2 he
  have hc := mt_cd_add he hbe
  have i1 := hM.2.1 basis e a2 he
  have i2 := hM.2.1 tried e a1 he
  have i3 := hM.2.2 basis tried e a2 a1 a3 he
  have dn : mt_dn w n (tried ||| 2 ^ e) := by
    intro a b ha hb hnb
    rw [Nat.testBit_or, mt_two] at ha hnb
    have hnb1 : tried.testBit b = false := by
      cases hq : tried.testBit b with
      | false => rfl
      | true => rw [hq] at hnb; simp at hnb
    have hnb2 : ¬ e = b := by
      intro hq; subst hq; simp at hnb
    cases hta : tried.testBit a with
    | true => exact a4 a b hta hb hnb1
    | false =>
      rw [hta] at ha
      simp at ha
      subst ha
      rcases h2 b hb hnb1 with q | q
      · exact absurd q.symm hnb2
      · exact q
  have down : ∀ t, t < 2 ^ n → mt_dn w n t → mt_sb t (tried ||| 2 ^ e) → (t.testBit e = false ∧ mt_sb t tried) ∨ t = tried ||| 2 ^ e := by
    intro t ht hd hs
    cases hte : t.testBit e with
    | false =>
      refine Or.inl ⟨rfl, fun i hi => ?_⟩
      have := hs i hi
      rw [Nat.testBit_or, mt_two] at this
      by_cases hq : e = i
      · subst hq; rw [hte] at hi; cases hi
      · simpa [hq] using this
    | true =>
      refine Or.inr (mt_ex ht ht' fun i hi => ?_)
      cases hti : t.testBit i with
      | true => rw [hs i hti]
      | false =>
        rw [Nat.testBit_or, mt_two]
        have hne : ¬ e = i := by intro hq; subst hq; rw [hte] at hti; cases hti
        cases htr : tried.testBit i with
        | false => simp [hne]
        | true =>
          exfalso
          have g1 := hd e i hte hi hti
          have g2 := a4 i e htr he h1
          unfold mt_bf at g1 g2
          omega
  refine ⟨fun hadd => ?_, fun hno => ?_⟩
  · have hsb : mt_sb (basis ||| 2 ^ e) (tried ||| 2 ^ e) := fun i hi => by
      rw [Nat.testBit_or] at hi ⊢
      cases h5 : basis.testBit i with
      | true => rw [a3 i h5]; rfl
      | false => rw [h5] at hi; simp at hi; rw [hi]; simp
    have hr : r (basis ||| 2 ^ e) = r (tried ||| 2 ^ e) := by
      have := mt_mono hM hb' ht' hsb
      omega
    refine ⟨ht', hb', hsb, dn, hadd, hr, fun t ht hd hs => ?_⟩
    rcases down t ht hd hs with ⟨q1, q2⟩ | q
    · have e1 : (basis ||| 2 ^ e) &&& t = basis &&& t := by
        apply Nat.eq_of_testBit_eq
        intro i
        rw [Nat.testBit_and, Nat.testBit_and, Nat.testBit_or, mt_two]
        by_cases hq : e = i
        · subst hq; simp [q1]
        · simp [hq]
      rw [e1]; exact a7 t ht hd q2
    · subst q
      have e1 : (basis ||| 2 ^ e) &&& (tried ||| 2 ^ e) = basis ||| 2 ^ e := by
        apply Nat.eq_of_testBit_eq
        intro i
        rw [Nat.testBit_and]
        have := hsb i
        cases h5 : (basis ||| 2 ^ e).testBit i <;> simp_all
      rw [e1, ← hadd]; exact hr
  · have hsb : mt_sb basis (tried ||| 2 ^ e) := fun i hi => by
      rw [Nat.testBit_or, a3 i hi]; rfl
    have hr : r basis = r (tried ||| 2 ^ e) := by omega
    refine ⟨ht', a2, hsb, dn, a5, hr, fun t ht hd hs => ?_⟩
    rcases down t ht hd hs with ⟨q1, q2⟩ | q
    · exact a7 t ht hd q2
    · subst q
      have e1 : basis &&& (tried ||| 2 ^ e) = basis := by
        apply Nat.eq_of_testBit_eq
        intro i
        rw [Nat.testBit_and]
        have := hsb i
        cases h5 : basis.testBit i <;> simp_all
      rw [e1, ← a5]; exact hr
theorem mt_gi_e {w : Nat → Int} {n : Nat} {r : Nat → Nat} {tried basis : Nat} (h : mt_gi w n r tried basis) (hc : mt_cd n tried = n) : mt_gr w n r basis := by
  obtain ⟨a1, a2, a3, a4, a5, a6, a7⟩ := h
  have hall : tried = 2 ^ n - 1 := mt_sb_eq a1 (mt_alllt n) (mt_sb_all a1) (by have := mt_cd_le n (2 ^ n - 1); omega)
  subst hall
  exact ⟨a2, a5, a6, fun t ht hd => a7 t ht hd (mt_sb_all ht)⟩
end
section
/-! The kinds: at most k; classes with caps; and a rank that counts, in the order of the elements, those that are not in the span of the ones before. -/
def mt_U (n k : Nat) : Nat → Nat := fun s => min k (mt_cd n s)
theorem mt_U_M (n k : Nat) : mt_M n (mt_U n k) := by
  refine ⟨by unfold mt_U; rw [mt_cd_0]; omega, fun s e hs he => ?_, fun s t e hs ht h he => ?_⟩
  · unfold mt_U
    cases hb : s.testBit e with
    | true => rw [mt_or_in hb]; omega
    | false => rw [mt_cd_add he hb]; omega
  · unfold mt_U
    have h1 := mt_cd_mono (n := n) h
    cases hb : t.testBit e with
    | true =>
      rw [mt_or_in hb]
      have := mt_cd_mono (n := n) (mt_sb_orl s (2 ^ e))
      omega
    | false =>
      have hbs : s.testBit e = false := by
        cases hq : s.testBit e with
        | false => rfl
        | true => rw [h e hq] at hb; cases hb
      rw [mt_cd_add he hb, mt_cd_add he hbs]
      omega
theorem mt_U_ind (n k s : Nat) : mt_U n k s = mt_cd n s ↔ mt_cd n s ≤ k := by unfold mt_U; omega
-- how many of a class
def mt_cc (cls : Nat → Nat) (c : Nat) : Nat → Nat → Nat
  | 0, _ => 0
  | k + 1, s => mt_cc cls c k s + (if s.testBit k = true ∧ cls k = c then 1 else 0)
def mt_C (n : Nat) (cls cap : Nat → Nat) : Nat → Nat := fun s => min (mt_cc cls 0 n s) (cap 0) + min (mt_cc cls 1 n s) (cap 1) + min (mt_cc cls 2 n s) (cap 2) + min (mt_cc cls 3 n s) (cap 3)
theorem mt_cc_eq {cls : Nat → Nat} {c n s t : Nat} (h : ∀ i, i < n → s.testBit i = t.testBit i) : mt_cc cls c n s = mt_cc cls c n t := by
  induction n with
  | zero => rfl
  | succ k ih => simp only [mt_cc]; rw [ih (fun i hi => h i (by omega)), h k (by omega)]
theorem mt_cc_0 (cls : Nat → Nat) (c n : Nat) : mt_cc cls c n 0 = 0 := by
  induction n with
  | zero => rfl
  | succ k ih => simp only [mt_cc]; rw [ih]; simp
theorem mt_cc_mono {cls : Nat → Nat} {c n s t : Nat} (h : mt_sb s t) : mt_cc cls c n s ≤ mt_cc cls c n t := by
  induction n with
  | zero => exact Nat.le_refl _
  | succ k ih =>
    simp only [mt_cc]
    have := h k
    cases h1 : s.testBit k <;> cases h2 : t.testBit k <;> simp_all <;> split <;> omega
theorem mt_cc_add {cls : Nat → Nat} {c n s e : Nat} (he : e < n) (h : s.testBit e = false) : mt_cc cls c n (s ||| 2 ^ e) = mt_cc cls c n s + (if cls e = c then 1 else 0) := by
  induction n with
  | zero => omega
  | succ k ih =>
    simp only [mt_cc, Nat.testBit_or, mt_two]
    by_cases hk : e = k
    · subst hk
      have h0 : mt_cc cls c e (s ||| 2 ^ e) = mt_cc cls c e s := mt_cc_eq (fun i hi => by rw [Nat.testBit_or, mt_two]; simp; omega)
      rw [h0, h]; simp
    · rw [ih (by omega)]
      simp only [hk, decide_false, Bool.or_false]
      omega
theorem mt_cc_sum {cls : Nat → Nat} {n s : Nat} (h : ∀ i, i < n → cls i < 4) : mt_cc cls 0 n s + mt_cc cls 1 n s + mt_cc cls 2 n s + mt_cc cls 3 n s = mt_cd n s := by
  induction n with
  | zero => rfl
  | succ k ih =>
    simp only [mt_cc, mt_cd]
    have h1 := ih (fun i hi => h i (by omega))
    have h2 := h k (by omega)
    cases hb : s.testBit k with
    | false => simp; omega
    | true =>
      have : cls k = 0 ∨ cls k = 1 ∨ cls k = 2 ∨ cls k = 3 := by omega
      rcases this with q | q | q | q <;> simp [q] <;> omega
theorem mt_C_M {n : Nat} {cls cap : Nat → Nat} (hc : ∀ i, i < n → cls i < 4) : mt_M n (mt_C n cls cap) := by
  refine ⟨by unfold mt_C; simp [mt_cc_0], fun s e hs he => ?_, fun s t e hs ht h he => ?_⟩
  · unfold mt_C
    cases hb : s.testBit e with
    | true => rw [mt_or_in hb]; omega
    | false =>
      rw [mt_cc_add he hb, mt_cc_add he hb, mt_cc_add he hb, mt_cc_add he hb]
      have h2 := hc e he
      have : cls e = 0 ∨ cls e = 1 ∨ cls e = 2 ∨ cls e = 3 := by omega
      rcases this with q | q | q | q <;> simp [q] <;> omega
  · unfold mt_C
    have m0 := mt_cc_mono (cls := cls) (c := 0) (n := n) h
    have m1 := mt_cc_mono (cls := cls) (c := 1) (n := n) h
    have m2 := mt_cc_mono (cls := cls) (c := 2) (n := n) h
    have m3 := mt_cc_mono (cls := cls) (c := 3) (n := n) h
    cases hb : t.testBit e with
    | true =>
      rw [mt_or_in hb]
      have o0 := mt_cc_mono (cls := cls) (c := 0) (n := n) (mt_sb_orl s (2 ^ e))
      have o1 := mt_cc_mono (cls := cls) (c := 1) (n := n) (mt_sb_orl s (2 ^ e))
      have o2 := mt_cc_mono (cls := cls) (c := 2) (n := n) (mt_sb_orl s (2 ^ e))
      have o3 := mt_cc_mono (cls := cls) (c := 3) (n := n) (mt_sb_orl s (2 ^ e))
      omega
    | false =>
      have hbs : s.testBit e = false := by
        cases hq : s.testBit e with
        | false => rfl
        | true => rw [h e hq] at hb; cases hb
      rw [mt_cc_add he hb, mt_cc_add he hb, mt_cc_add he hb, mt_cc_add he hb, mt_cc_add he hbs, mt_cc_add he hbs, mt_cc_add he hbs, mt_cc_add he hbs]
      have h2 := hc e he
      have : cls e = 0 ∨ cls e = 1 ∨ cls e = 2 ∨ cls e = 3 := by omega
      rcases this with q | q | q | q <;> simp [q] <;> omega
theorem mt_C_ind {n : Nat} {cls cap : Nat → Nat} (hc : ∀ i, i < n → cls i < 4) (s : Nat) : mt_C n cls cap s = mt_cd n s ↔ ∀ c, c < 4 → mt_cc cls c n s ≤ cap c := by
  have h1 := mt_cc_sum (s := s) hc
  unfold mt_C
  constructor
  · intro h c hcc
    have : c = 0 ∨ c = 1 ∨ c = 2 ∨ c = 3 := by omega
    rcases this with q | q | q | q <;> subst q <;> omega
  · intro h
    have h2 := h 0 (by omega)
    have h3 := h 1 (by omega)
    have h4 := h 2 (by omega)
    have h5 := h 3 (by omega)
    omega
-- spans
def mt_cl (n : Nat) (cl : Nat → Nat → Prop) : Prop :=
  (∀ s t e : Nat, s < 2 ^ n → t < 2 ^ n → e < n → mt_sb s t → cl s e → cl t e) ∧
  (∀ s e f : Nat, s < 2 ^ n → e < n → f < n → cl s e → cl (s ||| 2 ^ e) f → cl s f) ∧
  (∀ s e f : Nat, s < 2 ^ n → e < n → f < n → cl (s ||| 2 ^ e) f → ¬ cl s f → cl (s ||| 2 ^ f) e)
def mt_rk (n : Nat) (cl : Nat → Nat → Prop) (r : Nat → Nat) : Prop :=
  r 0 = 0 ∧ ∀ k s : Nat, k < n → s < 2 ^ k → (cl s k → r (s ||| 2 ^ k) = r s) ∧ (¬ cl s k → r (s ||| 2 ^ k) = r s + 1)
theorem mt_rk_any {n : Nat} {cl : Nat → Nat → Prop} {r : Nat → Nat} (hc : mt_cl n cl) (hr : mt_rk n cl r) (e : Nat) : ∀ j s : Nat, e + 1 + j ≤ n → s < 2 ^ (e + 1 + j) → s.testBit e = false → (cl s e → r (s ||| 2 ^ e) = r s) ∧ (¬ cl s e → r (s ||| 2 ^ e) = r s + 1) := by
  intro j
  induction j with
  | zero =>
    intro s hn hs hb
    have h1 : s < 2 ^ e := by
      apply mt_bnd
      intro i hi
      have := mt_lt hs hi
      have hne : i ≠ e := by intro q; subst q; rw [hb] at hi; cases hi
      omega
    exact hr.2 e s (by omega) h1
  | succ j ih =>
    intro s hn hs hb
    have hk : e + 1 + (j + 1) = (e + 1 + j) + 1 := by omega
    rw [hk] at hs hn
    generalize hkk : e + 1 + j = k at hs hn ih hk
    cases hsk : s.testBit k with
    | false =>
      have h1 : s < 2 ^ k := by
        apply mt_bnd
        intro i hi
        have := mt_lt hs hi
        have hne : i ≠ k := by intro q; subst q; rw [hsk] at hi; cases hi
        omega
      exact ih s (by omega) h1 hb
    | true =>
      have hT : s ^^^ 2 ^ k < 2 ^ k := by
        apply mt_bnd
        intro i hi
        have h1 := mt_lt (mt_xorlt hs (by omega)) hi
        have hne : i ≠ k := by intro q; subst q; rw [mt_xor_out hsk] at hi; cases hi
        omega
      have hTn : s ^^^ 2 ^ k < 2 ^ n := Nat.lt_of_lt_of_le hT (Nat.pow_le_pow_right (by omega) (by omega))
      have hTe : (s ^^^ 2 ^ k).testBit e = false := by
        rw [Nat.testBit_xor, hb, mt_two]; simp; omega
      have hse : s = (s ^^^ 2 ^ k) ||| 2 ^ k := (mt_xor_or hsk).symm
      generalize s ^^^ 2 ^ k = T at hT hTn hTe hse
      subst hse
      have hen : e < n := by omega
      have hkn : k < n := by omega
      have hTek : T ||| 2 ^ e < 2 ^ k := mt_orlt hT (by omega)
      obtain ⟨a1, a2⟩ := ih T (by omega) hT hTe
      obtain ⟨b1, b2⟩ := hr.2 k T hkn hT
      obtain ⟨d1, d2⟩ := hr.2 k (T ||| 2 ^ e) hkn hTek
      rw [mt_or_rot T (2 ^ k) (2 ^ e)]
      have mono := hc.1
      have tr := hc.2.1
      have ex := hc.2.2
      have hTkn : T ||| 2 ^ k < 2 ^ n := mt_orlt hTn hkn
      have hTen : T ||| 2 ^ e < 2 ^ n := mt_orlt hTn hen
      by_cases ce : cl T e
      · have c1 : cl (T ||| 2 ^ k) e := mono T _ e hTn hTkn hen (mt_sb_orl _ _) ce
        have e1 := a1 ce
        refine ⟨fun _ => ?_, fun q => absurd c1 q⟩
        by_cases ck : cl T k
        · rw [d1 (mono T _ k hTn hTen hkn (mt_sb_orl _ _) ck), b1 ck, e1]
        · rw [d2 (fun q => ck (tr T e k hTn hen hkn ce q)), b2 ck, e1]
      · have e1 := a2 ce
        by_cases ck : cl T k
        · have c1 : ¬ cl (T ||| 2 ^ k) e := fun q => ce (tr T k e hTn hkn hen ck q)
          refine ⟨fun q => absurd q c1, fun _ => ?_⟩
          rw [d1 (mono T _ k hTn hTen hkn (mt_sb_orl _ _) ck), b1 ck, e1]
        · by_cases c2 : cl (T ||| 2 ^ e) k
          · have c3 := ex T e k hTn hen hkn c2 ck
            refine ⟨fun _ => ?_, fun q => absurd c3 q⟩
            rw [d1 c2, b2 ck, e1]
          · have c3 : ¬ cl (T ||| 2 ^ k) e := fun q => c2 (ex T k e hTn hkn hen q ce)
            refine ⟨fun q => absurd q c3, fun _ => ?_⟩
            rw [d2 c2, b2 ck, e1]
theorem mt_rk_add {n : Nat} {cl : Nat → Nat → Prop} {r : Nat → Nat} (hc : mt_cl n cl) (hr : mt_rk n cl r) {s e : Nat} (hs : s < 2 ^ n) (he : e < n) (hb : s.testBit e = false) : (cl s e → r (s ||| 2 ^ e) = r s) ∧ (¬ cl s e → r (s ||| 2 ^ e) = r s + 1) :=
  mt_rk_any hc hr e (n - e - 1) s (by omega) (by rw [show e + 1 + (n - e - 1) = n by omega]; exact hs) hb
theorem mt_rk_M {n : Nat} {cl : Nat → Nat → Prop} {r : Nat → Nat} (hc : mt_cl n cl) (hr : mt_rk n cl r) : mt_M n r := by
  have inc : ∀ s e : Nat, s < 2 ^ n → e < n → r s ≤ r (s ||| 2 ^ e) ∧ r (s ||| 2 ^ e) ≤ r s + 1 := by
    intro s e hs he
    cases hb : s.testBit e with
    | true => rw [mt_or_in hb]; omega
    | false =>
      obtain ⟨h1, h2⟩ := mt_rk_add hc hr hs he hb
      by_cases q : cl s e
      · have := h1 q; omega
      · have := h2 q; omega
  refine ⟨hr.1, inc, fun s t e hs ht h he => ?_⟩
  cases hb : t.testBit e with
  | true => rw [mt_or_in hb]; have := (inc s e hs he).1; omega
  | false =>
    have hbs : s.testBit e = false := by
      cases hq : s.testBit e with
      | false => rfl
      | true => rw [h e hq] at hb; cases hb
    obtain ⟨h1, h2⟩ := mt_rk_add hc hr hs he hbs
    obtain ⟨h3, h4⟩ := mt_rk_add hc hr ht he hb
    by_cases q : cl t e
    · have := h3 q
      have := (inc s e hs he).1
      omega
    · have := h4 q
      have := h2 (fun z => q (hc.1 s t e hs ht he h z))
      omega
end
section
/-! The graphic kind: joining groups of vertices counts the rank; taking away edges with a loose end tells the independent sets. -/
def mg_cl (n : Nat) (fr to : Nat → Nat) (s e : Nat) : Prop := ∀ X : Nat → Bool, (∀ i, i < n → s.testBit i = true → X (fr i) = X (to i)) → X (fr e) = X (to e)
theorem mg_cl_ok (n : Nat) (fr to : Nat → Nat) : mt_cl n (mg_cl n fr to) := by
  have grow : ∀ (s e : Nat) (X : Nat → Bool), (∀ i, i < n → s.testBit i = true → X (fr i) = X (to i)) → X (fr e) = X (to e) → ∀ i, i < n → (s ||| 2 ^ e).testBit i = true → X (fr i) = X (to i) := by
    intro s e X h1 h2 i hi hb
    rw [Nat.testBit_or, mt_two] at hb
    by_cases hq : e = i
    · subst hq; exact h2
    · simp [hq] at hb; exact h1 i hi hb
  refine ⟨fun s t e hs ht he hst h X hX => h X (fun i hi hb => hX i hi (hst i hb)), fun s e f hs he hf h1 h2 X hX => h2 X (grow s e X hX (h1 X hX)), fun s e f hs he hf h1 h2 X hX => ?_⟩
  have hXs : ∀ i, i < n → s.testBit i = true → X (fr i) = X (to i) := fun i hi hb => hX i hi (mt_sb_orl s _ i hb)
  have hXf : X (fr f) = X (to f) := hX f hf (by rw [Nat.testBit_or, mt_two]; simp)
  refine Classical.byContradiction fun hXe => ?_
  obtain ⟨Y, hY⟩ := Classical.not_forall.mp h2
  have hYs : ∀ i, i < n → s.testBit i = true → Y (fr i) = Y (to i) := Classical.byContradiction (fun q => hY (fun z => absurd z q))
  have hYf : ¬ Y (fr f) = Y (to f) := fun q => hY (fun _ => q)
  have hYe : ¬ Y (fr e) = Y (to e) := fun q => hYf (h1 Y (grow s e Y hYs q))
  have h3 := h1 (fun v => X v ^^ Y v) (grow s e (fun v => X v ^^ Y v) (fun i hi hb => by
    show (X (fr i) ^^ Y (fr i)) = (X (to i) ^^ Y (to i))
    rw [hXs i hi hb, hYs i hi hb]) (by
    show (X (fr e) ^^ Y (fr e)) = (X (to e) ^^ Y (to e))
    cases h5 : X (fr e) <;> cases h6 : X (to e) <;> cases h7 : Y (fr e) <;> cases h8 : Y (to e) <;> simp_all))
  have h3 : (X (fr f) ^^ Y (fr f)) = (X (to f) ^^ Y (to f)) := h3
  rw [hXf] at h3
  apply hYf
  cases h6 : X (to f) <;> cases h7 : Y (fr f) <;> cases h8 : Y (to f) <;> simp_all
def mg_gl (fr to : Nat → Nat) : Nat → Nat → (Nat → Nat) × Nat
  | 0, _ => (fun v => v, 0)
  | k + 1, s =>
    if s.testBit k = true ∧ (mg_gl fr to k s).1 (fr k) ≠ (mg_gl fr to k s).1 (to k) then
      (fun v => if (mg_gl fr to k s).1 v = (mg_gl fr to k s).1 (to k) then (mg_gl fr to k s).1 (fr k) else (mg_gl fr to k s).1 v, (mg_gl fr to k s).2 + 1)
    else mg_gl fr to k s
def mg_r (n : Nat) (fr to : Nat → Nat) : Nat → Nat := fun s => (mg_gl fr to n s).2
theorem mg_gl_eq {fr to : Nat → Nat} {k s t : Nat} (h : ∀ i, i < k → s.testBit i = t.testBit i) : mg_gl fr to k s = mg_gl fr to k t := by
  induction k with
  | zero => rfl
  | succ k ih => simp only [mg_gl]; rw [ih (fun i hi => h i (by omega)), h k (by omega)]
theorem mg_gl_top {fr to : Nat → Nat} {k n s : Nat} (hk : k ≤ n) (h : ∀ i, k ≤ i → i < n → s.testBit i = false) : mg_gl fr to n s = mg_gl fr to k s := by
  induction n with
  | zero => have : k = 0 := by omega
            subst this; rfl
  | succ n ih =>
    by_cases hq : k = n + 1
    · subst hq; rfl
    · rw [← ih (by omega) (fun i h1 h2 => h i h1 (by omega))]
      simp only [mg_gl]
      rw [h n (by omega) (by omega)]; simp
theorem mg_gl_0 {fr to : Nat → Nat} (k : Nat) : (mg_gl fr to k 0).2 = 0 := by
  induction k with
  | zero => rfl
  | succ k ih => simp only [mg_gl]; simp [ih]
theorem mg_gl_lab (fr to : Nat → Nat) (s : Nat) : ∀ k u v : Nat, (mg_gl fr to k s).1 u = (mg_gl fr to k s).1 v ↔ ∀ X : Nat → Bool, (∀ i, i < k → s.testBit i = true → X (fr i) = X (to i)) → X u = X v := by
  intro k
  induction k with
  | zero =>
    intro u v
    constructor
    · intro h X _
      have h : u = v := h
      rw [h]
    · intro h
      have := h (fun w => decide (w = u)) (fun i hi => by omega)
      simp at this
      show u = v
      exact this.symm
  | succ k ih =>
    intro u v
    by_cases hc : s.testBit k = true ∧ (mg_gl fr to k s).1 (fr k) ≠ (mg_gl fr to k s).1 (to k)
    · simp only [mg_gl, if_pos hc]
      generalize hL : (mg_gl fr to k s).1 = L at hc ih ⊢
      obtain ⟨hb, hne⟩ := hc
      constructor
      · intro h X hX
        have hXk : ∀ i, i < k → s.testBit i = true → X (fr i) = X (to i) := fun i hi hbi => hX i (by omega) hbi
        have hXe : X (fr k) = X (to k) := hX k (by omega) hb
        by_cases h1 : L u = L (to k) <;> by_cases h2 : L v = L (to k) <;> simp [h1, h2] at h
        · rw [(ih u (to k)).mp h1 X hXk, (ih v (to k)).mp h2 X hXk]
        · rw [(ih u (to k)).mp h1 X hXk, ← hXe, (ih (fr k) v).mp h X hXk]
        · rw [(ih v (to k)).mp h2 X hXk, ← hXe, (ih u (fr k)).mp h X hXk]
        · exact (ih u v).mp h X hXk
      · intro h
        have h1 := h (fun w => decide ((if L w = L (to k) then L (fr k) else L w) = (if L u = L (to k) then L (fr k) else L u))) (fun i hi hbi => by
          by_cases hik : i = k
          · subst hik
            simp [hne]
          · have : L (fr i) = L (to i) := (ih (fr i) (to i)).mpr (fun X hX => hX i (by omega) hbi)
            simp [this])
        simp at h1
        exact h1.symm
    · simp only [mg_gl, if_neg hc]
      constructor
      · intro h X hX
        exact (ih u v).mp h X (fun i hi hbi => hX i (by omega) hbi)
      · intro h
        refine (ih u v).mpr (fun X hX => h X (fun i hi hbi => ?_))
        by_cases hik : i = k
        · subst hik
          have h2 : (mg_gl fr to i s).1 (fr i) = (mg_gl fr to i s).1 (to i) := Classical.byContradiction (fun q => hc ⟨hbi, q⟩)
          exact (ih (fr i) (to i)).mp h2 X hX
        · exact hX i (by omega) hbi
theorem mg_r_rk (n : Nat) (fr to : Nat → Nat) : mt_rk n (mg_cl n fr to) (mg_r n fr to) := by
  refine ⟨mg_gl_0 n, fun k s hk hs => ?_⟩
  have h1 : mg_gl fr to n (s ||| 2 ^ k) = mg_gl fr to (k + 1) (s ||| 2 ^ k) := mg_gl_top (by omega) (fun i g1 g2 => by
    rw [Nat.testBit_or, mt_two, mt_big hs (by omega)]; simp; omega)
  have h2 : mg_gl fr to n s = mg_gl fr to k s := mg_gl_top (by omega) (fun i g1 g2 => mt_big hs g1)
  have h3 : mg_gl fr to k (s ||| 2 ^ k) = mg_gl fr to k s := mg_gl_eq (fun i hi => by
    rw [Nat.testBit_or, mt_two]; simp; omega)
  have h4 : (s ||| 2 ^ k).testBit k = true := by rw [Nat.testBit_or, mt_two]; simp
  have h5 : (mg_gl fr to k s).1 (fr k) = (mg_gl fr to k s).1 (to k) ↔ mg_cl n fr to s k := by
    rw [mg_gl_lab]
    constructor
    · intro h X hX
      exact h X (fun i hi hb => hX i (by omega) hb)
    · intro h X hX
      exact h X (fun i hi hb => hX i (mt_lt hs hb) hb)
  unfold mg_r
  rw [h1, h2]
  simp only [mg_gl]
  rw [h3]
  constructor
  · intro hq
    rw [if_neg (fun z => z.2 (h5.mpr hq))]
  · intro hq
    rw [if_pos ⟨h4, fun z => hq (h5.mp z)⟩]
theorem mg_r_M (n : Nat) (fr to : Nat → Nat) : mt_M n (mg_r n fr to) := mt_rk_M (mg_cl_ok n fr to) (mg_r_rk n fr to)
-- how many ends at a vertex
def mg_dg (fr to : Nat → Nat) (v : Nat) : Nat → Nat → Nat
  | 0, _ => 0
  | k + 1, s => mg_dg fr to v k s + (if s.testBit k = true then (if fr k = v then 1 else 0) + (if to k = v then 1 else 0) else 0)
theorem mg_dg_eq {fr to : Nat → Nat} {v n s t : Nat} (h : ∀ i, i < n → s.testBit i = t.testBit i) : mg_dg fr to v n s = mg_dg fr to v n t := by
  induction n with
  | zero => rfl
  | succ k ih => simp only [mg_dg]; rw [ih (fun i hi => h i (by omega)), h k (by omega)]
theorem mg_dg_out {fr to : Nat → Nat} {v n s k : Nat} (hk : k < n) (hb : s.testBit k = true) : mg_dg fr to v n s = mg_dg fr to v n (s ^^^ 2 ^ k) + ((if fr k = v then 1 else 0) + (if to k = v then 1 else 0)) := by
  induction n with
  | zero => omega
  | succ n ih =>
    simp only [mg_dg, Nat.testBit_xor, mt_two]
    by_cases hq : k = n
    · subst hq
      have h0 : mg_dg fr to v k s = mg_dg fr to v k (s ^^^ 2 ^ k) := mg_dg_eq (fun i hi => by
        rw [Nat.testBit_xor, mt_two]; simp [show ¬ k = i by omega])
      rw [h0, hb]; simp
    · rw [ih (by omega)]
      simp only [hq, decide_false, Bool.xor_false]
      omega
theorem mg_dg_pos {fr to : Nat → Nat} {v n s i : Nat} (hi : i < n) (hb : s.testBit i = true) (h : fr i = v ∨ to i = v) : 1 ≤ mg_dg fr to v n s := by
  rw [mg_dg_out hi hb]
  rcases h with h | h <;> simp [h] <;> omega
theorem mg_dg_wit {fr to : Nat → Nat} {v n s : Nat} (h : 1 ≤ mg_dg fr to v n s) : ∃ i, i < n ∧ s.testBit i = true ∧ (fr i = v ∨ to i = v) := by
  induction n with
  | zero => simp [mg_dg] at h
  | succ k ih =>
    simp only [mg_dg] at h
    by_cases hq : 1 ≤ mg_dg fr to v k s
    · obtain ⟨i, h1, h2⟩ := ih hq
      exact ⟨i, by omega, h2⟩
    · cases hb : s.testBit k with
      | false => rw [hb] at h; simp at h; omega
      | true =>
        rw [hb] at h
        refine ⟨k, by omega, hb, ?_⟩
        by_cases h1 : fr k = v
        · exact Or.inl h1
        · by_cases h2 : to k = v
          · exact Or.inr h2
          · simp [h1, h2] at h; omega
def mg_pe (d fr to : Nat → Nat) : Nat → Nat → Nat
  | 0, s => s
  | k + 1, s => if (mg_pe d fr to k s).testBit k = true ∧ (d (fr k) = 1 ∨ d (to k) = 1) then mg_pe d fr to k s ^^^ 2 ^ k else mg_pe d fr to k s
theorem mg_pe_bit {d fr to : Nat → Nat} {s : Nat} : ∀ k i : Nat, (mg_pe d fr to k s).testBit i = (s.testBit i && !(decide (i < k) && (decide (d (fr i) = 1) || decide (d (to i) = 1)))) := by
  intro k
  induction k with
  | zero => intro i; simp [mg_pe]
  | succ k ih =>
    intro i
    simp only [mg_pe]
    have hk := ih k
    simp at hk
    split
    · rename_i hc
      rw [Nat.testBit_xor, mt_two, ih i]
      by_cases hik : k = i
      · subst hik
        rw [hk] at hc
        have : decide (d (fr k) = 1) || decide (d (to k) = 1) := by simpa using hc.2
        simp [hc.1, this]
      · by_cases h1 : i < k
        · simp [hik, h1, show i < k + 1 by omega]
        · simp [hik, h1, show ¬ i < k + 1 by omega]
    · rename_i hc
      rw [ih i]
      by_cases hik : k = i
      · subst hik
        rw [hk] at hc
        cases hb : s.testBit k with
        | false => simp
        | true =>
          have : ¬ (d (fr k) = 1 ∨ d (to k) = 1) := fun z => hc ⟨hb, z⟩
          have h1 : ¬ d (fr k) = 1 := fun z => this (Or.inl z)
          have h2 : ¬ d (to k) = 1 := fun z => this (Or.inr z)
          simp [h1, h2]
      · by_cases h1 : i < k
        · simp [h1, show i < k + 1 by omega]
        · simp [h1, show ¬ i < k + 1 by omega]
def mg_ro (n : Nat) (fr to : Nat → Nat) (s : Nat) : Nat := mg_pe (fun v => mg_dg fr to v n s) fr to n s
def mg_it (n : Nat) (fr to : Nat → Nat) : Nat → Nat → Nat
  | 0, s => s
  | j + 1, s => mg_ro n fr to (mg_it n fr to j s)
theorem mg_ro_bit {n : Nat} {fr to : Nat → Nat} {s i : Nat} (hi : i < n) : (mg_ro n fr to s).testBit i = true ↔ s.testBit i = true ∧ ¬ (mg_dg fr to (fr i) n s = 1 ∨ mg_dg fr to (to i) n s = 1) := by
  unfold mg_ro
  rw [mg_pe_bit]
  simp [hi]
theorem mg_ro_sb {n : Nat} {fr to : Nat → Nat} {s : Nat} : mt_sb (mg_ro n fr to s) s := by
  intro i hi
  unfold mg_ro at hi
  rw [mg_pe_bit] at hi
  simp at hi
  exact hi.1
theorem mg_sb_lt {n s t : Nat} (h : mt_sb s t) (ht : t < 2 ^ n) : s < 2 ^ n := mt_bnd (fun i hi => mt_lt ht (h i hi))
theorem mg_loose {n : Nat} {fr to : Nat → Nat} {s k v : Nat} (hk : k < n) (hb : s.testBit k = true) (hv : fr k = v ∨ to k = v) (hd : mg_dg fr to v n s = 1) : ¬ (fr k = v ∧ to k = v) ∧ ∀ i, i < n → s.testBit i = true → i ≠ k → fr i ≠ v ∧ to i ≠ v := by
  have h1 := mg_dg_out (fr := fr) (to := to) (v := v) hk hb
  rw [hd] at h1
  refine ⟨fun q => ?_, fun i hi hbi hne => ?_⟩
  · simp [q.1, q.2] at h1
  · have h2 : ¬ 1 ≤ mg_dg fr to v n (s ^^^ 2 ^ k) := by
      rcases hv with q | q <;> simp [q] at h1 <;> omega
    have hb2 : (s ^^^ 2 ^ k).testBit i = true := by
      rw [Nat.testBit_xor, mt_two, hbi]; simp; omega
    exact ⟨fun q => h2 (mg_dg_pos hi hb2 (Or.inl q)), fun q => h2 (mg_dg_pos hi hb2 (Or.inr q))⟩
theorem mg_ro_ind {n : Nat} {fr to : Nat → Nat} {s : Nat} (hs : s < 2 ^ n) : mg_r n fr to s = mt_cd n s ↔ mg_r n fr to (mg_ro n fr to s) = mt_cd n (mg_ro n fr to s) := by
  have hM := mg_r_M n fr to
  have hro := mg_sb_lt (mg_ro_sb (n := n) (fr := fr) (to := to) (s := s)) hs
  constructor
  · exact fun h => mt_ind_sub hM hro hs mg_ro_sb h
  · intro h
    have key : ∀ k, k ≤ n → mg_r n fr to (mg_ro n fr to s ||| s % 2 ^ k) = mt_cd n (mg_ro n fr to s ||| s % 2 ^ k) := by
      intro k
      induction k with
      | zero => intro _; rw [Nat.pow_zero, Nat.mod_one, Nat.or_zero]; exact h
      | succ k ih =>
        intro hk
        have h1 := ih (by omega)
        cases hb : s.testBit k with
        | false => rw [mt_mod_f hb]; exact h1
        | true =>
          rw [mt_mod_t hb, ← Nat.or_assoc]
          have hl : mg_ro n fr to s ||| s % 2 ^ k < 2 ^ n := Nat.or_lt_two_pow hro (mt_modltn s (by omega))
          have hsub : mt_sb (mg_ro n fr to s ||| s % 2 ^ k) s := by
            intro i hi
            rw [Nat.testBit_or] at hi
            cases hq : (mg_ro n fr to s).testBit i with
            | true => exact mg_ro_sb i hq
            | false => rw [hq] at hi; simp at hi; exact hi.2
          cases hq : (mg_ro n fr to s ||| s % 2 ^ k).testBit k with
          | true => rw [mt_or_in hq]; exact h1
          | false =>
            have hrk : ¬ (mg_ro n fr to s).testBit k = true := fun z => by rw [Nat.testBit_or, z] at hq; simp at hq
            have hlf : mg_dg fr to (fr k) n s = 1 ∨ mg_dg fr to (to k) n s = 1 := Classical.byContradiction fun z => hrk ((mg_ro_bit (by omega)).mpr ⟨hb, z⟩)
            have hncl : ¬ mg_cl n fr to (mg_ro n fr to s ||| s % 2 ^ k) k := by
              have gen : ∀ v, (fr k = v ∨ to k = v) → mg_dg fr to v n s = 1 → ¬ mg_cl n fr to (mg_ro n fr to s ||| s % 2 ^ k) k := by
                intro v hv hd hcl
                obtain ⟨g1, g2⟩ := mg_loose (show k < n by omega) hb hv hd
                have := hcl (fun w => decide (w = v)) (fun i hi hbi => by
                  have hne : i ≠ k := by intro z; subst z; rw [hq] at hbi; cases hbi
                  obtain ⟨q1, q2⟩ := g2 i hi (hsub i hbi) hne
                  simp [q1, q2])
                rcases hv with q | q
                · have q2 : ¬ to k = v := fun z => g1 ⟨q, z⟩
                  simp [q, q2] at this
                · have q2 : ¬ fr k = v := fun z => g1 ⟨z, q⟩
                  simp [q, q2] at this
              rcases hlf with q | q
              · exact gen _ (Or.inl rfl) q
              · exact gen _ (Or.inr rfl) q
            rw [(mt_rk_add (mg_cl_ok n fr to) (mg_r_rk n fr to) hl (by omega) hq).2 hncl, mt_cd_add (by omega) hq, h1]
    have h1 := key n (Nat.le_refl n)
    rw [mt_mod_n hs] at h1
    have h2 : mg_ro n fr to s ||| s = s := by
      apply Nat.eq_of_testBit_eq
      intro i
      rw [Nat.testBit_or]
      have := mg_ro_sb (n := n) (fr := fr) (to := to) (s := s) i
      cases h5 : (mg_ro n fr to s).testBit i <;> simp_all
    rw [h2] at h1
    exact h1
-- sums over the vertices
def mg_sm (p : Nat → Nat) : Nat → Nat
  | 0 => 0
  | k + 1 => mg_sm p k + p k
theorem mg_sm_le {p q : Nat → Nat} {m : Nat} (h : ∀ v, v < m → p v ≤ q v) : mg_sm p m ≤ mg_sm q m := by
  induction m with
  | zero => exact Nat.le_refl _
  | succ k ih => simp only [mg_sm]; have := ih (fun v hv => h v (by omega)); have := h k (by omega); omega
theorem mg_sm_eq {p q : Nat → Nat} {m : Nat} (h : ∀ v, v < m → p v = q v) : mg_sm p m = mg_sm q m := by
  induction m with
  | zero => rfl
  | succ k ih => simp only [mg_sm]; rw [ih (fun v hv => h v (by omega)), h k (by omega)]
theorem mg_sm_add (p q : Nat → Nat) (m : Nat) : mg_sm (fun v => p v + q v) m = mg_sm p m + mg_sm q m := by
  induction m with
  | zero => rfl
  | succ k ih => simp only [mg_sm]; rw [ih]; omega
theorem mg_sm_0 (m : Nat) : mg_sm (fun _ => 0) m = 0 := by
  induction m with
  | zero => rfl
  | succ k ih => simp only [mg_sm]; rw [ih]
theorem mg_sm_one {x m : Nat} (h : x < m) : mg_sm (fun v => if x = v then 1 else 0) m = 1 := by
  induction m with
  | zero => omega
  | succ k ih =>
    simp only [mg_sm]
    by_cases hq : x = k
    · subst hq
      rw [mg_sm_eq (q := fun _ => 0) (fun v hv => by simp; omega), mg_sm_0]; simp
    · rw [ih (by omega)]; simp [hq]
theorem mg_sm_dg {n s : Nat} {fr to : Nat → Nat} (hf : ∀ i, i < n → fr i < 8 ∧ to i < 8) : mg_sm (fun v => mg_dg fr to v n s) 8 = 2 * mt_cd n s := by
  induction n with
  | zero => simp only [mg_dg, mt_cd]; rw [mg_sm_0]
  | succ k ih =>
    simp only [mg_dg, mt_cd]
    rw [mg_sm_add, ih (fun i hi => hf i (by omega))]
    cases hb : s.testBit k with
    | false => simp [mg_sm_0]
    | true =>
      have e : mg_sm (fun v => if (true = true) then (if fr k = v then 1 else 0) + (if to k = v then 1 else 0) else 0) 8 = mg_sm (fun v => (if fr k = v then 1 else 0) + (if to k = v then 1 else 0)) 8 := mg_sm_eq (fun v hv => by simp)
      rw [e, mg_sm_add, mg_sm_one (hf k (by omega)).1, mg_sm_one (hf k (by omega)).2]
      simp; omega
theorem mg_reps {n s : Nat} {fr to : Nat → Nat} (hf : ∀ i, i < n → fr i < 8 ∧ to i < 8) : ∀ k, k ≤ n → (∀ v, v < 8 → (mg_gl fr to k s).1 v < 8) ∧ (∀ v, (mg_gl fr to k s).1 ((mg_gl fr to k s).1 v) = (mg_gl fr to k s).1 v) ∧ (∀ v, (mg_gl fr to k s).1 v ≠ v → 1 ≤ mg_dg fr to ((mg_gl fr to k s).1 v) n s ∧ 1 ≤ mg_dg fr to v n s) ∧ (mg_gl fr to k s).2 + mg_sm (fun v => if (mg_gl fr to k s).1 v = v then 1 else 0) 8 = 8 := by
  intro k
  induction k with
  | zero =>
    intro _
    exact ⟨fun v hv => hv, fun v => rfl, fun v h => absurd rfl h, by
      show 0 + mg_sm (fun v => if v = v then 1 else 0) 8 = 8
      simp [mg_sm]⟩
  | succ k ih =>
    intro hk
    obtain ⟨h1, h2, h3, h4⟩ := ih (by omega)
    by_cases hc : s.testBit k = true ∧ (mg_gl fr to k s).1 (fr k) ≠ (mg_gl fr to k s).1 (to k)
    · simp only [mg_gl, if_pos hc]
      generalize hL : (mg_gl fr to k s).1 = L at hc h1 h2 h3 h4 ⊢
      generalize (mg_gl fr to k s).2 = j at h4 ⊢
      obtain ⟨hb, hne⟩ := hc
      have ha : 1 ≤ mg_dg fr to (fr k) n s := mg_dg_pos (by omega) hb (Or.inl rfl)
      have hbb : 1 ≤ mg_dg fr to (to k) n s := mg_dg_pos (by omega) hb (Or.inr rfl)
      have hta : 1 ≤ mg_dg fr to (L (fr k)) n s := by
        by_cases q : L (fr k) = fr k
        · rw [q]; exact ha
        · exact (h3 _ q).1
      have htb : 1 ≤ mg_dg fr to (L (to k)) n s := by
        by_cases q : L (to k) = to k
        · rw [q]; exact hbb
        · exact (h3 _ q).1
      refine ⟨fun v hv => ?_, fun v => ?_, fun v hv => ?_, ?_⟩
      · by_cases q : L v = L (to k)
        · simp only [q, if_true]; exact h1 _ (hf k (by omega)).1
        · simp only [q, if_false]; exact h1 v hv
      · by_cases q : L v = L (to k)
        · simp only [q, if_true, h2, hne, if_false]
        · simp only [q, if_false, h2]
      · by_cases q : L v = L (to k)
        · simp only [q, if_true] at hv ⊢
          refine ⟨hta, ?_⟩
          by_cases qv : L v = v
          · rw [← qv, q]; exact htb
          · exact (h3 v qv).2
        · simp only [q, if_false] at hv ⊢
          exact h3 v hv
      · have e : mg_sm (fun v => if L v = v then 1 else 0) 8 = mg_sm (fun v => (if (if L v = L (to k) then L (fr k) else L v) = v then 1 else 0) + (if L (to k) = v then 1 else 0)) 8 := by
          apply mg_sm_eq
          intro v hv
          by_cases q : L v = L (to k)
          · simp only [q, if_true]
            have q2 : ¬ L (fr k) = v := by
              intro z
              apply hne
              rw [← q, ← z, h2]
            by_cases q3 : L (to k) = v
            · simp [q2, q3]
            · simp [q2, q3]
          · simp only [q, if_false]
            have q3 : ¬ L (to k) = v := by
              intro z
              apply q
              rw [← z, h2]
            simp [q3]
        rw [e, mg_sm_add, mg_sm_one (h1 _ (hf k (by omega)).2)] at h4
        omega
    · simp only [mg_gl, if_neg hc]
      exact ⟨h1, h2, h3, h4⟩
theorem mg_ring {n s : Nat} {fr to : Nat → Nat} (hf : ∀ i, i < n → fr i < 8 ∧ to i < 8) (hs : s < 2 ^ n) (h0 : s ≠ 0) (hfix : mg_ro n fr to s = s) : mg_r n fr to s < mt_cd n s := by
  obtain ⟨h1, h2, h3, h4⟩ := mg_reps (s := s) hf n (Nat.le_refl n)
  unfold mg_r
  generalize (mg_gl fr to n s).1 = L at h1 h2 h3 h4
  generalize (mg_gl fr to n s).2 = j at h4 ⊢
  obtain ⟨i, hi⟩ := Nat.exists_testBit_of_ne_zero h0
  have hi : s.testBit i = true := hi
  have hin := mt_lt hs hi
  have ht : 1 ≤ mg_dg fr to (fr i) n s := mg_dg_pos hin hi (Or.inl rfl)
  have hg : 1 ≤ mg_dg fr to (L (fr i)) n s := by
    by_cases q : L (fr i) = fr i
    · rw [q]; exact ht
    · exact (h3 _ q).1
  have hg8 : L (fr i) < 8 := h1 _ (hf i hin).1
  have s1 := mg_sm_dg (s := s) hf
  have s2 : mg_sm (fun v => (if 1 ≤ mg_dg fr to v n s then 1 else 0) + (if 1 ≤ mg_dg fr to v n s then 1 else 0)) 8 ≤ mg_sm (fun v => mg_dg fr to v n s) 8 := by
    apply mg_sm_le
    intro v hv
    by_cases q : 1 ≤ mg_dg fr to v n s
    · simp only [q, if_true]
      obtain ⟨e, e1, e2, e3⟩ := mg_dg_wit q
      have e4 : (mg_ro n fr to s).testBit e = true := by rw [hfix]; exact e2
      have e5 := ((mg_ro_bit e1).mp e4).2
      have e6 : ¬ mg_dg fr to v n s = 1 := by
        rcases e3 with z | z
        · rw [← z]; exact fun w => e5 (Or.inl w)
        · rw [← z]; exact fun w => e5 (Or.inr w)
      omega
    · simp [q]
  have s3 : mg_sm (fun v => (if 1 ≤ mg_dg fr to v n s then 0 else 1) + (if L (fr i) = v then 1 else 0)) 8 ≤ mg_sm (fun v => if L v = v then 1 else 0) 8 := by
    apply mg_sm_le
    intro v hv
    by_cases q : 1 ≤ mg_dg fr to v n s
    · by_cases q2 : L (fr i) = v
      · have : L v = v := by rw [← q2, h2]
        simp [q, q2, this]
      · simp [q, q2]
    · have q3 : L v = v := Classical.byContradiction fun z => q (h3 v z).2
      have q2 : ¬ L (fr i) = v := fun z => q (by rw [← z]; exact hg)
      simp [q, q2, q3]
  have s4 : mg_sm (fun v => (if 1 ≤ mg_dg fr to v n s then 1 else 0) + (if 1 ≤ mg_dg fr to v n s then 0 else 1)) 8 = 8 := by
    rw [mg_sm_eq (q := fun _ => 1) (fun v hv => by by_cases q : 1 ≤ mg_dg fr to v n s <;> simp [q])]
    decide
  rw [mg_sm_add] at s2 s3 s4
  rw [mg_sm_one hg8] at s3
  omega
theorem mg_ind {n s : Nat} {fr to : Nat → Nat} (hf : ∀ i, i < n → fr i < 8 ∧ to i < 8) (hs : s < 2 ^ n) : mg_r n fr to s = mt_cd n s ↔ mg_it n fr to (n + 1) s = 0 := by
  have lt : ∀ j, mg_it n fr to j s < 2 ^ n := by
    intro j
    induction j with
    | zero => exact hs
    | succ j ih => exact mg_sb_lt mg_ro_sb ih
  have eqv : ∀ j, mg_r n fr to s = mt_cd n s ↔ mg_r n fr to (mg_it n fr to j s) = mt_cd n (mg_it n fr to j s) := by
    intro j
    induction j with
    | zero => exact Iff.rfl
    | succ j ih => exact ih.trans (mg_ro_ind (lt j))
  have fall : ∀ j, mt_cd n (mg_it n fr to j s) + j ≤ n ∨ mg_ro n fr to (mg_it n fr to j s) = mg_it n fr to j s := by
    intro j
    induction j with
    | zero => exact Or.inl (mt_cd_le n _)
    | succ j ih =>
      by_cases q : mg_ro n fr to (mg_it n fr to j s) = mg_it n fr to j s
      · refine Or.inr ?_
        show mg_ro n fr to (mg_ro n fr to (mg_it n fr to j s)) = mg_ro n fr to (mg_it n fr to j s)
        rw [q, q]
      · have h1 := ih.resolve_right q
        refine Or.inl ?_
        show mt_cd n (mg_ro n fr to (mg_it n fr to j s)) + (j + 1) ≤ n
        have h2 : ¬ mt_cd n (mg_it n fr to j s) ≤ mt_cd n (mg_ro n fr to (mg_it n fr to j s)) := fun z => q (mt_sb_eq (lt (j + 1)) (lt j) mg_ro_sb z)
        omega
  rw [eqv (n + 1)]
  have hfx := (fall (n + 1)).resolve_left (by omega)
  constructor
  · intro h
    refine Classical.byContradiction fun q => ?_
    have := mg_ring hf (lt (n + 1)) q hfx
    omega
  · intro h
    rw [h, mt_cd_0]
    exact (mg_r_M n fr to).1
end
section
/-! The linear kind: columns of four numbers modulo p; crosswise elimination counts the rank; the minors tell the independent sets. -/
def ml_pr (p : Int) : Prop := ¬ p ∣ 1 ∧ ∀ a b : Int, p ∣ a * b → p ∣ a ∨ p ∣ b
def ml_dt (f x : Nat → Int) : Int := f 0 * x 0 + f 1 * x 1 + f 2 * x 2 + f 3 * x 3
def ml_cl (n : Nat) (p : Int) (col : Nat → Nat → Int) (s e : Nat) : Prop := ∀ f : Nat → Int, (∀ i, i < n → s.testBit i = true → p ∣ ml_dt f (col i)) → p ∣ ml_dt f (col e)
theorem ml_c1 {p a : Int} (h : p ∣ a) (x : Int) : p ∣ x * a := Int.dvd_trans h (Int.dvd_mul_left _ _)
theorem ml_c2 {p a b : Int} (h1 : p ∣ a) (h2 : p ∣ b) (x y : Int) : p ∣ x * a + y * b := Int.dvd_add (ml_c1 h1 x) (ml_c1 h2 y)
theorem ml_cl_ok {n : Nat} {p : Int} (hp : ml_pr p) (col : Nat → Nat → Int) : mt_cl n (ml_cl n p col) := by
  have grow : ∀ (s e : Nat) (X : Nat → Int), (∀ i, i < n → s.testBit i = true → p ∣ ml_dt X (col i)) → p ∣ ml_dt X (col e) → ∀ i, i < n → (s ||| 2 ^ e).testBit i = true → p ∣ ml_dt X (col i) := by
    intro s e X h1 h2 i hi hb
    rw [Nat.testBit_or, mt_two] at hb
    by_cases hq : e = i
    · subst hq; exact h2
    · simp [hq] at hb; exact h1 i hi hb
  refine ⟨fun s t e hs ht he hst h X hX => h X (fun i hi hb => hX i hi (hst i hb)), fun s e f hs he hf h1 h2 X hX => h2 X (grow s e X hX (h1 X hX)), fun s e f hs he hf h1 h2 X hX => ?_⟩
  have hXs : ∀ i, i < n → s.testBit i = true → p ∣ ml_dt X (col i) := fun i hi hb => hX i hi (mt_sb_orl s _ i hb)
  have hXf : p ∣ ml_dt X (col f) := hX f hf (by rw [Nat.testBit_or, mt_two]; simp)
  refine Classical.byContradiction fun hXe => ?_
  obtain ⟨Y, hY⟩ := Classical.not_forall.mp h2
  have hYs : ∀ i, i < n → s.testBit i = true → p ∣ ml_dt Y (col i) := Classical.byContradiction (fun q => hY (fun z => absurd z q))
  have hYf : ¬ p ∣ ml_dt Y (col f) := fun q => hY (fun _ => q)
  have comb : ∀ x : Nat → Int, ml_dt (fun j => ml_dt Y (col e) * X j - ml_dt X (col e) * Y j) x = ml_dt Y (col e) * ml_dt X x + (-ml_dt X (col e)) * ml_dt Y x := by
    intro x
    generalize ml_dt Y (col e) = a
    generalize ml_dt X (col e) = b
    unfold ml_dt
    grind
  have h3 := h1 (fun j => ml_dt Y (col e) * X j - ml_dt X (col e) * Y j) (grow s e (fun j => ml_dt Y (col e) * X j - ml_dt X (col e) * Y j) (fun i hi hb => by
    rw [comb]
    exact ml_c2 (hXs i hi hb) (hYs i hi hb) _ _) (by
    rw [comb]
    have : ml_dt Y (col e) * ml_dt X (col e) + -ml_dt X (col e) * ml_dt Y (col e) = 0 := by grind
    rw [this]
    exact Int.dvd_zero p))
  rw [comb] at h3
  have h4 : p ∣ ml_dt X (col e) * ml_dt Y (col f) := by
    have h5 := ml_c2 h3 hXf (-1) (ml_dt Y (col e))
    have e5 : -1 * (ml_dt Y (col e) * ml_dt X (col f) + -ml_dt X (col e) * ml_dt Y (col f)) + ml_dt Y (col e) * ml_dt X (col f) = ml_dt X (col e) * ml_dt Y (col f) := by grind
    rw [e5] at h5
    exact h5
  rcases hp.2 _ _ h4 with q | q
  · exact hXe q
  · exact hYf q
noncomputable def ml_gk (cl : Nat → Nat → Prop) : Nat → Nat → Nat
  | 0, _ => 0
  | k + 1, s => ml_gk cl k s + @ite Nat (s.testBit k = true ∧ ¬ cl (s % 2 ^ k) k) (Classical.propDecidable _) 1 0
theorem ml_gk_f {cl : Nat → Nat → Prop} {k s : Nat} (h : s.testBit k = false) : ml_gk cl (k + 1) s = ml_gk cl k s := by
  simp only [ml_gk]
  rw [if_neg (fun z => by rw [h] at z; cases z.1), Nat.add_zero]
theorem ml_gk_y {cl : Nat → Nat → Prop} {k s : Nat} (h : cl (s % 2 ^ k) k) : ml_gk cl (k + 1) s = ml_gk cl k s := by
  simp only [ml_gk]
  rw [if_neg (fun z => z.2 h), Nat.add_zero]
theorem ml_gk_n {cl : Nat → Nat → Prop} {k s : Nat} (hb : s.testBit k = true) (h : ¬ cl (s % 2 ^ k) k) : ml_gk cl (k + 1) s = ml_gk cl k s + 1 := by
  simp only [ml_gk]
  rw [if_pos ⟨hb, h⟩]
theorem ml_gk_eq {cl : Nat → Nat → Prop} {k s t : Nat} (h : ∀ i, i < k → s.testBit i = t.testBit i) : ml_gk cl k s = ml_gk cl k t := by
  induction k with
  | zero => rfl
  | succ k ih =>
    have e : s % 2 ^ k = t % 2 ^ k := by
      refine mt_ex (mt_modlt s k) (mt_modlt t k) fun i hi => ?_
      rw [Nat.testBit_mod_two_pow, Nat.testBit_mod_two_pow, h i (by omega)]
    simp only [ml_gk]
    rw [ih (fun i hi => h i (by omega)), h k (by omega), e]
theorem ml_gk_top {cl : Nat → Nat → Prop} {k n s : Nat} (hk : k ≤ n) (h : ∀ i, k ≤ i → i < n → s.testBit i = false) : ml_gk cl n s = ml_gk cl k s := by
  induction n with
  | zero => have : k = 0 := by omega
            subst this; rfl
  | succ n ih =>
    by_cases hq : k = n + 1
    · subst hq; rfl
    · rw [← ih (by omega) (fun i h1 h2 => h i h1 (by omega)), ml_gk_f (h n (by omega) (by omega))]
theorem ml_gk_0 {cl : Nat → Nat → Prop} (k : Nat) : ml_gk cl k 0 = 0 := by
  induction k with
  | zero => rfl
  | succ k ih => rw [ml_gk_f (by simp), ih]
theorem ml_gk_le {cl : Nat → Nat → Prop} (k s : Nat) : ml_gk cl k s ≤ mt_cd k s := by
  induction k with
  | zero => exact Nat.le_refl _
  | succ k ih =>
    simp only [mt_cd]
    cases hb : s.testBit k with
    | false => rw [ml_gk_f hb]; simp; exact ih
    | true =>
      by_cases hc : cl (s % 2 ^ k) k
      · rw [ml_gk_y hc]; simp; omega
      · rw [ml_gk_n hb hc]; simp; exact ih
theorem ml_gk_rk (n : Nat) (cl : Nat → Nat → Prop) : mt_rk n cl (ml_gk cl n) := by
  refine ⟨ml_gk_0 n, fun k s hk hs => ?_⟩
  have h1 : ml_gk cl n (s ||| 2 ^ k) = ml_gk cl (k + 1) (s ||| 2 ^ k) := ml_gk_top (by omega) (fun i g1 g2 => by
    rw [Nat.testBit_or, mt_two, mt_big hs (by omega)]; simp; omega)
  have h2 : ml_gk cl n s = ml_gk cl k s := ml_gk_top (by omega) (fun i g1 g2 => mt_big hs g1)
  have h3 : ml_gk cl k (s ||| 2 ^ k) = ml_gk cl k s := ml_gk_eq (fun i hi => by
    rw [Nat.testBit_or, mt_two]; simp; omega)
  have h4 : (s ||| 2 ^ k).testBit k = true := by rw [Nat.testBit_or, mt_two]; simp
  have h5 : (s ||| 2 ^ k) % 2 ^ k = s := by
    refine mt_ex (mt_modlt _ k) hs fun i hi => ?_
    rw [Nat.testBit_mod_two_pow, Nat.testBit_or, mt_two]; simp [hi]; omega
  rw [h1, h2, ← h3]
  exact ⟨fun q => ml_gk_y (by rw [h5]; exact q), fun q => ml_gk_n h4 (by rw [h5]; exact q)⟩
noncomputable def ml_r (n : Nat) (p : Int) (col : Nat → Nat → Int) : Nat → Nat := ml_gk (ml_cl n p col) n
theorem ml_r_M {n : Nat} {p : Int} (hp : ml_pr p) (col : Nat → Nat → Int) : mt_M n (ml_r n p col) := mt_rk_M (ml_cl_ok hp col) (ml_gk_rk n _)
-- the minors
def ml_sg (Q r : Nat) : Int := if Q.testBit r = true then (if mt_cd 4 (Q >>> (r + 1)) % 2 = 0 then 1 else -1) else 0
def ml_wj (x m : Nat → Int) (Q : Nat) : Int := ml_sg Q 0 * x 0 * m (Q ^^^ 2 ^ 0) + ml_sg Q 1 * x 1 * m (Q ^^^ 2 ^ 1) + ml_sg Q 2 * x 2 * m (Q ^^^ 2 ^ 2) + ml_sg Q 3 * x 3 * m (Q ^^^ 2 ^ 3)
def ml_mn (p : Int) (col : Nat → Nat → Int) : Nat → Nat → Nat → Int
  | 0, _ => fun Q => if Q = 0 then 1 else 0
  | k + 1, s => if s.testBit k = true then fun Q => ml_wj (col k) (ml_mn p col k s) Q % p else ml_mn p col k s
def ml_dm (P Q : Nat) : Prop := mt_cd 4 P ≤ mt_cd 4 Q ∧ mt_cd 4 (P >>> 1) ≤ mt_cd 4 (Q >>> 1) ∧ mt_cd 4 (P >>> 2) ≤ mt_cd 4 (Q >>> 2) ∧ mt_cd 4 (P >>> 3) ≤ mt_cd 4 (Q >>> 3)
def ml_dmb (P Q : Nat) : Bool := decide (mt_cd 4 P ≤ mt_cd 4 Q) && decide (mt_cd 4 (P >>> 1) ≤ mt_cd 4 (Q >>> 1)) && decide (mt_cd 4 (P >>> 2) ≤ mt_cd 4 (Q >>> 2)) && decide (mt_cd 4 (P >>> 3) ≤ mt_cd 4 (Q >>> 3))
theorem ml_dmi (P Q : Nat) : ml_dm P Q ↔ ml_dmb P Q = true := by
  unfold ml_dm ml_dmb
  simp [and_assoc]
theorem ml_d1t : (List.range 16).all (fun P => (List.range 16).all fun Q => (List.range 4).all fun l => (List.range 4).all fun r => (P.testBit l || !(Q.testBit r) || decide (r < l) || !(ml_dmb P (Q ^^^ 2 ^ r)) || ml_dmb (P ||| 2 ^ l) Q)) = true := by decide +kernel
theorem ml_d1 (P : Nat) (hP : P < 16) (Q : Nat) (hQ : Q < 16) (l : Nat) (hl : l < 4) (r : Nat) (hr : r < 4) (h1 : P.testBit l = false) (h2 : Q.testBit r = true) (h3 : l ≤ r) (h4 : ml_dmb P (Q ^^^ 2 ^ r) = true) : ml_dmb (P ||| 2 ^ l) Q = true := by
  have h := List.all_eq_true.mp (List.all_eq_true.mp (List.all_eq_true.mp (List.all_eq_true.mp ml_d1t P (List.mem_range.mpr hP)) Q (List.mem_range.mpr hQ)) l (List.mem_range.mpr hl)) r (List.mem_range.mpr hr)
  rw [h1, h2, h4] at h
  simp [show ¬ r < l by omega] at h
  exact h
theorem ml_d2c : ∀ P, P < 16 → ∀ l, l < 4 → ∀ r, r < 4 → (P.testBit l = false ∧ P.testBit r = true ∧ l < r) → ml_dmb P ((P ||| 2 ^ l) ^^^ 2 ^ r) = false := by decide +kernel
theorem ml_d2 (P : Nat) (hP : P < 16) (l : Nat) (hl : l < 4) (r : Nat) (hr : r < 4) (h1 : P.testBit l = false) (h2 : P.testBit r = true) (h3 : l < r) : ml_dmb P ((P ||| 2 ^ l) ^^^ 2 ^ r) = false := ml_d2c P hP l hl r hr ⟨h1, h2, h3⟩
theorem ml_d3 : ∀ P, P < 16 → ∀ l, l < 4 → P.testBit l = false → (P ||| 2 ^ l) ^^^ 2 ^ l = P ∧ P ||| 2 ^ l < 16 ∧ mt_cd 4 (P ||| 2 ^ l) = mt_cd 4 P + 1 := by decide +kernel
theorem ml_d4 : ∀ Q, Q < 16 → ∀ r, r < 4 → Q ^^^ 2 ^ r < 16 := by decide +kernel
theorem ml_sgv (Q r : Nat) : (Q.testBit r = true → ml_sg Q r = 1 ∨ ml_sg Q r = -1) ∧ (Q.testBit r = false → ml_sg Q r = 0) := by
  unfold ml_sg
  constructor
  · intro h
    simp only [h, if_true]
    split
    · exact Or.inl rfl
    · exact Or.inr rfl
  · intro h
    simp [h]
theorem ml_16 {P : Nat → Prop} (h : P 0 ∧ P 1 ∧ P 2 ∧ P 3 ∧ P 4 ∧ P 5 ∧ P 6 ∧ P 7 ∧ P 8 ∧ P 9 ∧ P 10 ∧ P 11 ∧ P 12 ∧ P 13 ∧ P 14 ∧ P 15) {Q : Nat} (hQ : Q < 16) : P Q := by
  obtain ⟨h0, h1, h2, h3, h4, h5, h6, h7, h8, h9, h10, h11, h12, h13, h14, h15⟩ := h
  have : Q = 0 ∨ Q = 1 ∨ Q = 2 ∨ Q = 3 ∨ Q = 4 ∨ Q = 5 ∨ Q = 6 ∨ Q = 7 ∨ Q = 8 ∨ Q = 9 ∨ Q = 10 ∨ Q = 11 ∨ Q = 12 ∨ Q = 13 ∨ Q = 14 ∨ Q = 15 := by omega
  rcases this with q | q | q | q | q | q | q | q | q | q | q | q | q | q | q | q <;> subst q <;> assumption
/-- the coefficients of a minor, as a number of the last column -/
def ml_ph (m : Nat → Int) (Q : Nat) : Nat → Int := fun r => ml_sg Q r * m (Q ^^^ 2 ^ r)
theorem ml_ph_dt (m x : Nat → Int) (Q : Nat) : ml_dt (ml_ph m Q) x = ml_wj x m Q := by
  unfold ml_dt ml_ph ml_wj
  rw [Int.mul_right_comm (ml_sg Q 0), Int.mul_right_comm (ml_sg Q 1), Int.mul_right_comm (ml_sg Q 2), Int.mul_right_comm (ml_sg Q 3)]
theorem ml_sgt : (List.range 16).all (fun Q => (List.range 4).all fun r => (List.range 4).all fun t => ml_sg Q r * ml_sg (Q ^^^ 2 ^ r) t == - (ml_sg Q t * ml_sg (Q ^^^ 2 ^ t) r)) = true := by decide +kernel
theorem ml_sga {Q r t : Nat} (hQ : Q < 16) (hr : r < 4) (ht : t < 4) : ml_sg Q r * ml_sg (Q ^^^ 2 ^ r) t = - (ml_sg Q t * ml_sg (Q ^^^ 2 ^ t) r) := by
  have h := ml_sgt
  rw [List.all_eq_true] at h
  have h1 := h Q (List.mem_range.mpr hQ)
  rw [List.all_eq_true] at h1
  have h2 := h1 r (List.mem_range.mpr hr)
  rw [List.all_eq_true] at h2
  have h3 := h2 t (List.mem_range.mpr ht)
  exact eq_of_beq h3
theorem ml_key {Q r t : Nat} (hQ : Q < 16) (hr : r < 4) (ht : t < 4) (x y m : Nat → Int) : ml_sg Q r * y r * (ml_sg (Q ^^^ 2 ^ r) t * x t * m (Q ^^^ 2 ^ r ^^^ 2 ^ t)) = -(ml_sg Q t * x t * (ml_sg (Q ^^^ 2 ^ t) r * y r * m (Q ^^^ 2 ^ t ^^^ 2 ^ r))) := by
  have e : Q ^^^ 2 ^ r ^^^ 2 ^ t = Q ^^^ 2 ^ t ^^^ 2 ^ r := by rw [Nat.xor_assoc, Nat.xor_comm (2 ^ r), ← Nat.xor_assoc]
  have h := ml_sga hQ hr ht
  rw [e]
  generalize m (Q ^^^ 2 ^ t ^^^ 2 ^ r) = mm
  generalize x t = xt
  generalize y r = yr
  have e1 : ml_sg Q r * yr * (ml_sg (Q ^^^ 2 ^ r) t * xt * mm) = (ml_sg Q r * ml_sg (Q ^^^ 2 ^ r) t) * (xt * yr * mm) := by grind
  have e2 : ml_sg Q t * xt * (ml_sg (Q ^^^ 2 ^ t) r * yr * mm) = (ml_sg Q t * ml_sg (Q ^^^ 2 ^ t) r) * (xt * yr * mm) := by grind
  rw [e1, e2, h, Int.neg_mul]
theorem ml_anti {Q : Nat} (hQ : Q < 16) (x y m : Nat → Int) : ml_wj y (ml_wj x m) Q = - ml_wj x (ml_wj y m) Q := by
  have k00 := ml_key hQ (r := 0) (t := 0) (by omega) (by omega) x y m
  have k01 := ml_key hQ (r := 0) (t := 1) (by omega) (by omega) x y m
  have k02 := ml_key hQ (r := 0) (t := 2) (by omega) (by omega) x y m
  have k03 := ml_key hQ (r := 0) (t := 3) (by omega) (by omega) x y m
  have k10 := ml_key hQ (r := 1) (t := 0) (by omega) (by omega) x y m
  have k11 := ml_key hQ (r := 1) (t := 1) (by omega) (by omega) x y m
  have k12 := ml_key hQ (r := 1) (t := 2) (by omega) (by omega) x y m
  have k13 := ml_key hQ (r := 1) (t := 3) (by omega) (by omega) x y m
  have k20 := ml_key hQ (r := 2) (t := 0) (by omega) (by omega) x y m
  have k21 := ml_key hQ (r := 2) (t := 1) (by omega) (by omega) x y m
  have k22 := ml_key hQ (r := 2) (t := 2) (by omega) (by omega) x y m
  have k23 := ml_key hQ (r := 2) (t := 3) (by omega) (by omega) x y m
  have k30 := ml_key hQ (r := 3) (t := 0) (by omega) (by omega) x y m
  have k31 := ml_key hQ (r := 3) (t := 1) (by omega) (by omega) x y m
  have k32 := ml_key hQ (r := 3) (t := 2) (by omega) (by omega) x y m
  have k33 := ml_key hQ (r := 3) (t := 3) (by omega) (by omega) x y m
  unfold ml_wj
  simp only [Int.mul_add]
  rw [k00, k01, k02, k03, k10, k11, k12, k13, k20, k21, k22, k23, k30, k31, k32, k33]
  simp only [Int.neg_add]
  ac_rfl
theorem ml_wj_lin {p : Int} {x m m' : Nat → Int} (h : ∀ Q, Q < 16 → p ∣ m Q - m' Q) {Q : Nat} (hQ : Q < 16) : p ∣ ml_wj x m Q - ml_wj x m' Q := by
  have h0 := h _ (ml_d4 Q hQ 0 (by omega))
  have h1 := h _ (ml_d4 Q hQ 1 (by omega))
  have h2 := h _ (ml_d4 Q hQ 2 (by omega))
  have h3 := h _ (ml_d4 Q hQ 3 (by omega))
  have e : ml_wj x m Q - ml_wj x m' Q = (ml_sg Q 0 * x 0 * (m (Q ^^^ 2 ^ 0) - m' (Q ^^^ 2 ^ 0)) + ml_sg Q 1 * x 1 * (m (Q ^^^ 2 ^ 1) - m' (Q ^^^ 2 ^ 1))) + (ml_sg Q 2 * x 2 * (m (Q ^^^ 2 ^ 2) - m' (Q ^^^ 2 ^ 2)) + ml_sg Q 3 * x 3 * (m (Q ^^^ 2 ^ 3) - m' (Q ^^^ 2 ^ 3))) := by
    unfold ml_wj
    simp only [Int.mul_sub]
    omega
  rw [e]
  exact Int.dvd_add (ml_c2 h0 h1 _ _) (ml_c2 h2 h3 _ _)
theorem ml_wj_0 {p : Int} {x m : Nat → Int} (h : ∀ Q, Q < 16 → p ∣ m Q) {Q : Nat} (hQ : Q < 16) : p ∣ ml_wj x m Q := by
  have h0 := h _ (ml_d4 Q hQ 0 (by omega))
  have h1 := h _ (ml_d4 Q hQ 1 (by omega))
  have h2 := h _ (ml_d4 Q hQ 2 (by omega))
  have h3 := h _ (ml_d4 Q hQ 3 (by omega))
  unfold ml_wj
  exact Int.dvd_add (Int.dvd_add (Int.dvd_add (ml_c1 h0 _) (ml_c1 h1 _)) (ml_c1 h2 _)) (ml_c1 h3 _)
-- elimination
def ml_E (p : Int) (piv : Nat → Nat → Int) (x rest : Nat → Int) : Prop := ∃ A : Int, ¬ p ∣ A ∧ ∀ f : Nat → Int, (∀ l, l < 4 → piv l l ≠ 0 → p ∣ ml_dt f (piv l)) → p ∣ ml_dt f rest - A * ml_dt f x
def ml_L (p : Int) (piv : Nat → Nat → Int) (x : Nat → Int) (k : Nat) (rest : Nat → Int) : Prop := (∀ i, i < 4 → 0 ≤ rest i ∧ rest i < p) ∧ (∀ i, i < k → rest i = 0) ∧ ml_E p piv x rest
theorem ml_L_0 {p : Int} (hp : ml_pr p) {piv : Nat → Nat → Int} {x rest : Nat → Int} (hx : ∀ i, i < 4 → 0 ≤ x i ∧ x i < p) (he : ∀ i, i < 4 → rest i = x i) : ml_L p piv x 0 rest := by
  refine ⟨fun i hi => by rw [he i hi]; exact hx i hi, fun i hi => by omega, 1, hp.1, fun f _ => ?_⟩
  have : ml_dt f rest - 1 * ml_dt f x = 0 := by
    unfold ml_dt
    rw [he 0 (by omega), he 1 (by omega), he 2 (by omega), he 3 (by omega)]
    omega
  rw [this]
  exact Int.dvd_zero p
theorem ml_L_z {p : Int} {piv : Nat → Nat → Int} {x rest : Nat → Int} {k : Nat} (h : ml_L p piv x k rest) (hz : rest k = 0) : ml_L p piv x (k + 1) rest :=
  ⟨h.1, fun i hi => by
    by_cases q : i = k
    · rw [q]; exact hz
    · exact h.2.1 i (by omega), h.2.2⟩
theorem ml_L_c {p : Int} (hp : ml_pr p) (h0 : 0 < p) {piv : Nat → Nat → Int} {x rest rest' : Nat → Int} {k : Nat} (hk : k < 4) (h : ml_L p piv x k rest) (hd : piv k k ≠ 0) (hr : 0 ≤ piv k k ∧ piv k k < p) (hz : ∀ i, i < k → piv k i = 0)
    (h' : ∀ i, i < 4 → rest' i = if k ≤ i then (rest i * piv k k - piv k i * rest k) % p else rest i) : ml_L p piv x (k + 1) rest' := by
  obtain ⟨a1, a2, A, a3, a4⟩ := h
  have hcong : ∀ i, i < 4 → p ∣ rest' i - (piv k k * rest i - rest k * piv k i) := by
    intro i hi
    rw [h' i hi]
    by_cases q : k ≤ i
    · rw [if_pos q]
      have e : rest i * piv k k - piv k i * rest k = piv k k * rest i - rest k * piv k i := by rw [Int.mul_comm (rest i), Int.mul_comm (piv k i)]
      rw [e]
      generalize piv k k * rest i - rest k * piv k i = z
      have := Int.emod_add_mul_ediv z p
      exact ⟨-(z / p), by rw [Int.mul_neg]; omega⟩
    · rw [if_neg q, a2 i (by omega), hz i (by omega)]
      simp
  refine ⟨fun i hi => ?_, fun i hi => ?_, piv k k * A, ?_, fun f hf => ?_⟩
  · rw [h' i hi]
    by_cases q : k ≤ i
    · rw [if_pos q]
      exact ⟨Int.emod_nonneg _ (by omega), Int.emod_lt_of_pos _ h0⟩
    · rw [if_neg q]; exact a1 i hi
  · rw [h' i (by omega)]
    by_cases q : k ≤ i
    · have : i = k := by omega
      subst this
      rw [if_pos q, Int.mul_comm (rest i), Int.sub_self, Int.zero_emod]
    · rw [if_neg q]; exact a2 i (by omega)
  · intro q
    rcases hp.2 _ _ q with z | z
    · obtain ⟨c, hc⟩ := z
      have : c = 0 ∨ c ≤ -1 ∨ 1 ≤ c := by omega
      rcases this with w | w | w
      · rw [w] at hc; simp at hc; exact hd hc
      · have : p * c ≤ p * (-1) := Int.mul_le_mul_of_nonneg_left w (by omega)
        omega
      · have : p * 1 ≤ p * c := Int.mul_le_mul_of_nonneg_left w (by omega)
        omega
    · exact a3 z
  · have g1 := a4 f hf
    have g2 := hf k hk hd
    have c0 := hcong 0 (by omega)
    have c1 := hcong 1 (by omega)
    have c2 := hcong 2 (by omega)
    have c3 := hcong 3 (by omega)
    have s1 := Int.dvd_add (ml_c2 c0 c1 (f 0) (f 1)) (ml_c2 c2 c3 (f 2) (f 3))
    have s2 := ml_c2 g1 g2 (piv k k) (-rest k)
    have s3 := Int.dvd_add s1 s2
    have e : ml_dt f rest' - piv k k * A * ml_dt f x = f 0 * (rest' 0 - (piv k k * rest 0 - rest k * piv k 0)) + f 1 * (rest' 1 - (piv k k * rest 1 - rest k * piv k 1)) + (f 2 * (rest' 2 - (piv k k * rest 2 - rest k * piv k 2)) + f 3 * (rest' 3 - (piv k k * rest 3 - rest k * piv k 3))) + (piv k k * (ml_dt f rest - A * ml_dt f x) + -rest k * ml_dt f (piv k)) := by
      generalize ml_dt f x = X
      unfold ml_dt
      grind
    rw [e]
    exact s3
theorem ml_L_4 {p : Int} (hp : ml_pr p) {piv : Nat → Nat → Int} {x rest : Nat → Int} (h : ml_L p piv x 4 rest) (f : Nat → Int) (hf : ∀ l, l < 4 → piv l l ≠ 0 → p ∣ ml_dt f (piv l)) : p ∣ ml_dt f x := by
  obtain ⟨-, a2, A, a3, a4⟩ := h
  have g := a4 f hf
  have e : ml_dt f rest = 0 := by
    unfold ml_dt
    rw [a2 0 (by omega), a2 1 (by omega), a2 2 (by omega), a2 3 (by omega)]
    simp
  rw [e] at g
  have g2 : p ∣ A * ml_dt f x := by
    obtain ⟨c, hc⟩ := g
    exact ⟨-c, by rw [Int.mul_neg]; omega⟩
  rcases hp.2 _ _ g2 with q | q
  · exact absurd q a3
  · exact q
/-- the state of the counting: pivots, and beside them the minors of the chosen columns -/
def ml_G (n : Nat) (p : Int) (col : Nat → Nat → Int) (s k : Nat) (piv : Nat → Nat → Int) (found : Nat) : Prop :=
  ∃ (m : Nat → Int) (P : Nat), P < 16 ∧ mt_cd 4 P = found ∧ ml_gk (ml_cl n p col) k s = found ∧
    (∀ l, l < 4 → (P.testBit l = true ↔ piv l l ≠ 0)) ∧
    (∀ l, l < 4 → P.testBit l = true → (∀ i, i < l → piv l i = 0) ∧ ∀ i, i < 4 → 0 ≤ piv l i ∧ piv l i < p) ∧
    (∀ f : Nat → Int, (∀ i, i < k → s.testBit i = true → p ∣ ml_dt f (col i)) → ∀ l, l < 4 → P.testBit l = true → p ∣ ml_dt f (piv l)) ∧
    (∀ i, i < k → s.testBit i = true → ∀ Q, Q < 16 → p ∣ ml_wj (col i) m Q) ∧
    ¬ p ∣ m P ∧ (∀ Q, Q < 16 → ¬ p ∣ m Q → ml_dmb P Q = true) ∧
    (ml_gk (ml_cl n p col) k s = mt_cd k s → ∀ Q, Q < 16 → p ∣ m Q - ml_mn p col k s Q) ∧
    (ml_gk (ml_cl n p col) k s < mt_cd k s → ∀ Q, Q < 16 → p ∣ ml_mn p col k s Q)
theorem ml_G_0 {n : Nat} {p : Int} (hp : ml_pr p) (col : Nat → Nat → Int) (s : Nat) {piv : Nat → Nat → Int} (hz : ∀ l, l < 4 → piv l l = 0) : ml_G n p col s 0 piv 0 := by
  refine ⟨fun Q => if Q = 0 then 1 else 0, 0, by omega, by decide, rfl, fun l hl => ?_, fun l hl h => by simp at h, fun f _ l hl h => by simp at h, fun i hi => by omega, ?_, fun Q hQ h => ?_, fun _ Q hQ => ?_, fun h => by simp [ml_gk, mt_cd] at h⟩
  · simp [hz l hl]
  · simp; exact hp.1
  · by_cases q : Q = 0
    · subst q; decide
    · simp [q] at h
  · have : (if Q = 0 then (1 : Int) else 0) - ml_mn p col 0 s Q = 0 := by simp [ml_mn]
    rw [this]; exact Int.dvd_zero p
theorem ml_cl_iff {n : Nat} {p : Int} {col : Nat → Nat → Int} {s k : Nat} (hk : k ≤ n) : ml_cl n p col (s % 2 ^ k) k ↔ ∀ f : Nat → Int, (∀ i, i < k → s.testBit i = true → p ∣ ml_dt f (col i)) → p ∣ ml_dt f (col k) := by
  constructor
  · intro h f hf
    refine h f (fun i hi hb => ?_)
    rw [Nat.testBit_mod_two_pow] at hb
    simp at hb
    exact hf i hb.1 hb.2
  · intro h f hf
    refine h f (fun i hi hb => hf i (by omega) ?_)
    rw [Nat.testBit_mod_two_pow]
    simp [hi, hb]
theorem ml_G_f {n : Nat} {p : Int} {col : Nat → Nat → Int} {s k : Nat} {piv : Nat → Nat → Int} {found : Nat} (h : ml_G n p col s k piv found) (hb : s.testBit k = false) : ml_G n p col s (k + 1) piv found := by
  obtain ⟨m, P, a1, a2, a3, a4, a5, a6, a7, a8, a9, a10, a11⟩ := h
  have e1 : mt_cd (k + 1) s = mt_cd k s := by simp only [mt_cd, hb]; simp
  have e2 : ml_mn p col (k + 1) s = ml_mn p col k s := by simp only [ml_mn, hb]; simp
  refine ⟨m, P, a1, a2, by rw [ml_gk_f hb]; exact a3, a4, a5, fun f hf => a6 f (fun i hi hbi => hf i (by omega) hbi), fun i hi hbi => ?_, a8, a9, by rw [ml_gk_f hb, e1, e2]; exact a10, by rw [ml_gk_f hb, e1, e2]; exact a11⟩
  by_cases q : i = k
  · subst q; rw [hb] at hbi; cases hbi
  · exact a7 i (by omega) hbi
theorem ml_emod_dvd {p z : Int} (h : p ∣ z) : p ∣ z % p := by
  obtain ⟨c, hc⟩ := h
  rw [hc, Int.mul_emod_right]
  exact Int.dvd_zero p
theorem ml_emod_sub (p z : Int) : p ∣ z - z % p := by
  have := Int.emod_add_mul_ediv z p
  exact ⟨z / p, by omega⟩
/-- the next column brings nothing new -/
theorem ml_G_y {n : Nat} {p : Int} (hp : ml_pr p) {col : Nat → Nat → Int} {s k : Nat} (hk : k < n) {piv : Nat → Nat → Int} {found : Nat} (h : ml_G n p col s k piv found) (hb : s.testBit k = true)
    (hd : ∀ f : Nat → Int, (∀ l, l < 4 → piv l l ≠ 0 → p ∣ ml_dt f (piv l)) → p ∣ ml_dt f (col k)) : ml_G n p col s (k + 1) piv found := by
  obtain ⟨m, P, a1, a2, a3, a4, a5, a6, a7, a8, a9, a10, a11⟩ := h
  have hcl : ml_cl n p col (s % 2 ^ k) k := (ml_cl_iff (by omega)).mpr (fun f hf => hd f (fun l hl hne => a6 f hf l hl ((a4 l hl).mpr hne)))
  have hw : ∀ Q, Q < 16 → p ∣ ml_wj (col k) m Q := by
    intro Q hQ
    rw [← ml_ph_dt]
    refine hd _ (fun l hl hne => a6 _ (fun i hi hbi => ?_) l hl ((a4 l hl).mpr hne))
    rw [ml_ph_dt]
    exact a7 i hi hbi Q hQ
  have e1 : mt_cd (k + 1) s = mt_cd k s + 1 := by simp only [mt_cd, hb]; simp
  have e2 : ∀ Q, ml_mn p col (k + 1) s Q = ml_wj (col k) (ml_mn p col k s) Q % p := fun Q => by simp only [ml_mn, hb]; simp
  have hle := ml_gk_le (cl := ml_cl n p col) k s
  refine ⟨m, P, a1, a2, by rw [ml_gk_y hcl]; exact a3, a4, a5, fun f hf => a6 f (fun i hi hbi => hf i (by omega) hbi), fun i hi hbi => ?_, a8, a9, fun q => by rw [ml_gk_y hcl, e1] at q; omega, fun _ Q hQ => ?_⟩
  · by_cases q : i = k
    · subst q; exact hw
    · exact a7 i (by omega) hbi
  · rw [e2]
    apply ml_emod_dvd
    by_cases q : ml_gk (ml_cl n p col) k s = mt_cd k s
    · have g1 := ml_wj_lin (x := col k) (a10 q) hQ
      have g2 := hw Q hQ
      have g3 := ml_c2 g2 g1 1 (-1)
      have e : 1 * ml_wj (col k) m Q + -1 * (ml_wj (col k) m Q - ml_wj (col k) (ml_mn p col k s) Q) = ml_wj (col k) (ml_mn p col k s) Q := by omega
      rw [e] at g3
      exact g3
    · exact ml_wj_0 (a11 (by omega)) hQ
theorem ml_not4 {p : Int} {t0 t1 t2 t3 : Int} (h : ¬ p ∣ t0 + t1 + t2 + t3) : ¬ p ∣ t0 ∨ ¬ p ∣ t1 ∨ ¬ p ∣ t2 ∨ ¬ p ∣ t3 := by
  refine Classical.byContradiction fun q => h ?_
  have h0 : p ∣ t0 := Classical.byContradiction fun z => q (Or.inl z)
  have h1 : p ∣ t1 := Classical.byContradiction fun z => q (Or.inr (Or.inl z))
  have h2 : p ∣ t2 := Classical.byContradiction fun z => q (Or.inr (Or.inr (Or.inl z)))
  have h3 : p ∣ t3 := Classical.byContradiction fun z => q (Or.inr (Or.inr (Or.inr z)))
  exact Int.dvd_add (Int.dvd_add (Int.dvd_add h0 h1) h2) h3
theorem ml_term {p a b c : Int} (h : ¬ p ∣ a * b * c) : a ≠ 0 ∧ b ≠ 0 ∧ ¬ p ∣ c := by
  refine ⟨fun q => h ?_, fun q => h ?_, fun q => h (ml_c1 q _)⟩
  · rw [q]; simp
  · rw [q]; simp
theorem ml_nd {p x : Int} (h1 : 0 ≤ x) (h2 : x < p) (h3 : x ≠ 0) : ¬ p ∣ x := by
  rintro ⟨c, hc⟩
  have : c = 0 ∨ c ≤ -1 ∨ 1 ≤ c := by omega
  rcases this with w | w | w
  · rw [w] at hc; simp at hc; exact h3 hc
  · have : p * c ≤ p * (-1) := Int.mul_le_mul_of_nonneg_left w (by omega)
    omega
  · have : p * 1 ≤ p * c := Int.mul_le_mul_of_nonneg_left w (by omega)
    omega
/-- the next column brings a pivot -/
theorem ml_G_n {n : Nat} {p : Int} (hp : ml_pr p) {col : Nat → Nat → Int} {s k : Nat} (hk : k < n) {piv piv' : Nat → Nat → Int} {found l : Nat} {rest : Nat → Int} (h : ml_G n p col s k piv found) (hb : s.testBit k = true)
    (hl : l < 4) (hL : ml_L p piv (col k) l rest) (hne : rest l ≠ 0) (hz : piv l l = 0) (hp1 : ∀ i, i < 4 → piv' l i = rest i) (hp2 : ∀ j, j < 4 → j ≠ l → ∀ i, i < 4 → piv' j i = piv j i) : ml_G n p col s (k + 1) piv' (found + 1) := by
  obtain ⟨m, P, a1, a2, a3, a4, a5, a6, a7, a8, a9, a10, a11⟩ := h
  obtain ⟨b1, b2, A, b3, b4⟩ := hL
  have hPl : P.testBit l = false := by
    cases q : P.testBit l with
    | false => rfl
    | true => exact absurd hz ((a4 l hl).mp q)
  obtain ⟨d1, d2, d3⟩ := ml_d3 P a1 l hl hPl
  have kill : ∀ Q, Q < 16 → p ∣ ml_wj rest m Q - A * ml_wj (col k) m Q := by
    intro Q hQ
    have := b4 (ml_ph m Q) (fun j hj hjn => a6 _ (fun i hi hbi => by rw [ml_ph_dt]; exact a7 i hi hbi Q hQ) j hj ((a4 j hj).mpr hjn))
    rw [ml_ph_dt, ml_ph_dt] at this
    exact this
  have hnd : ¬ p ∣ rest l := ml_nd (b1 l hl).1 (b1 l hl).2 hne
  have main : ¬ p ∣ ml_wj rest m (P ||| 2 ^ l) := by
    intro hdv
    have term : ∀ r, r < 4 → r ≠ l → p ∣ ml_sg (P ||| 2 ^ l) r * rest r * m ((P ||| 2 ^ l) ^^^ 2 ^ r) := by
      intro r hr hrl
      refine Classical.byContradiction fun q => ?_
      obtain ⟨q1, q2, q3⟩ := ml_term q
      have g1 : (P ||| 2 ^ l).testBit r = true := by
        cases z : (P ||| 2 ^ l).testBit r with
        | true => rfl
        | false => exact absurd ((ml_sgv _ _).2 z) q1
      have g2 : P.testBit r = true := by
        rw [Nat.testBit_or, mt_two] at g1
        simpa [show ¬ l = r by omega] using g1
      have g3 : l < r := by
        refine Nat.lt_of_not_le fun z => q2 (b2 r (by omega))
      have g4 := a9 _ (ml_d4 _ d2 r hr) q3
      rw [ml_d2 P a1 l hl r hr hPl g2 g3] at g4
      cases g4
    have tl : p ∣ ml_sg (P ||| 2 ^ l) l * rest l * m ((P ||| 2 ^ l) ^^^ 2 ^ l) := by
      unfold ml_wj at hdv
      have t0 := term 0 (by omega)
      have t1 := term 1 (by omega)
      have t2 := term 2 (by omega)
      have t3 := term 3 (by omega)
      have : l = 0 ∨ l = 1 ∨ l = 2 ∨ l = 3 := by omega
      rcases this with q | q | q | q <;> subst q
      · have z := Int.dvd_sub hdv (Int.dvd_add (Int.dvd_add (t1 (by omega)) (t2 (by omega))) (t3 (by omega)))
        have e : ∀ a b c d : Int, a + b + c + d - (b + c + d) = a := by intros; omega
        rw [e] at z; exact z
      · have z := Int.dvd_sub hdv (Int.dvd_add (Int.dvd_add (t0 (by omega)) (t2 (by omega))) (t3 (by omega)))
        have e : ∀ a b c d : Int, a + b + c + d - (a + c + d) = b := by intros; omega
        rw [e] at z; exact z
      · have z := Int.dvd_sub hdv (Int.dvd_add (Int.dvd_add (t0 (by omega)) (t1 (by omega))) (t3 (by omega)))
        have e : ∀ a b c d : Int, a + b + c + d - (a + b + d) = c := by intros; omega
        rw [e] at z; exact z
      · have z := Int.dvd_sub hdv (Int.dvd_add (Int.dvd_add (t0 (by omega)) (t1 (by omega))) (t2 (by omega)))
        have e : ∀ a b c d : Int, a + b + c + d - (a + b + c) = d := by intros; omega
        rw [e] at z; exact z
    rw [d1] at tl
    have hin : (P ||| 2 ^ l).testBit l = true := by rw [Nat.testBit_or, mt_two]; simp
    rcases hp.2 _ _ tl with q | q
    · rcases (ml_sgv _ _).1 hin with z | z
      · rw [z, Int.one_mul] at q; exact hnd q
      · rw [z] at q
        have : p ∣ rest l := by
          obtain ⟨c, hc⟩ := q
          exact ⟨-c, by rw [Int.mul_neg]; omega⟩
        exact hnd this
    · exact a8 q
  have nz : ∀ Q, Q < 16 → (p ∣ ml_wj (col k) m Q → p ∣ ml_wj rest m Q) ∧ (p ∣ ml_wj rest m Q → p ∣ ml_wj (col k) m Q) := by
    intro Q hQ
    have g := kill Q hQ
    constructor
    · intro q
      have := ml_c2 g q 1 A
      have e : 1 * (ml_wj rest m Q - A * ml_wj (col k) m Q) + A * ml_wj (col k) m Q = ml_wj rest m Q := by omega
      rw [e] at this; exact this
    · intro q
      have := ml_c2 g q (-1) 1
      have e : -1 * (ml_wj rest m Q - A * ml_wj (col k) m Q) + 1 * ml_wj rest m Q = A * ml_wj (col k) m Q := by omega
      rw [e] at this
      rcases hp.2 _ _ this with z | z
      · exact absurd z b3
      · exact z
  have hncl : ¬ ml_cl n p col (s % 2 ^ k) k := by
    intro hcl
    have := (ml_cl_iff (by omega)).mp hcl (ml_ph m (P ||| 2 ^ l)) (fun i hi hbi => by rw [ml_ph_dt]; exact a7 i hi hbi _ d2)
    rw [ml_ph_dt] at this
    exact main ((nz _ d2).1 this)
  have e1 : mt_cd (k + 1) s = mt_cd k s + 1 := by simp only [mt_cd, hb]; simp
  have e2 : ∀ Q, ml_mn p col (k + 1) s Q = ml_wj (col k) (ml_mn p col k s) Q % p := fun Q => by simp only [ml_mn, hb]; simp
  have pl : ∀ j, j < 4 → j ≠ l → P.testBit j = (P ||| 2 ^ l).testBit j := by
    intro j hj hjl
    rw [Nat.testBit_or, mt_two]
    simp [show ¬ l = j by omega]
  have dte : ∀ (f : Nat → Int) (j : Nat), j < 4 → j ≠ l → ml_dt f (piv' j) = ml_dt f (piv j) := by
    intro f j hj hjl
    unfold ml_dt
    rw [hp2 j hj hjl 0 (by omega), hp2 j hj hjl 1 (by omega), hp2 j hj hjl 2 (by omega), hp2 j hj hjl 3 (by omega)]
  have dtl : ∀ f : Nat → Int, ml_dt f (piv' l) = ml_dt f rest := by
    intro f
    unfold ml_dt
    rw [hp1 0 (by omega), hp1 1 (by omega), hp1 2 (by omega), hp1 3 (by omega)]
  refine ⟨ml_wj (col k) m, P ||| 2 ^ l, d2, by rw [d3, a2], by rw [ml_gk_n hb hncl, a3], fun j hj => ?_, fun j hj hPj => ?_, fun f hf j hj hPj => ?_, fun i hi hbi Q hQ => ?_, fun q => main ((nz _ d2).1 q), fun Q hQ q => ?_, fun q Q hQ => ?_, fun q Q hQ => ?_⟩
  · by_cases q : j = l
    · subst q
      rw [hp1 j hj, Nat.testBit_or, mt_two]
      simp [hne]
    · rw [← pl j hj q, hp2 j hj q j hj]
      exact a4 j hj
  · by_cases q : j = l
    · subst q
      exact ⟨fun i hi => by rw [hp1 i (by omega)]; exact b2 i hi, fun i hi => by rw [hp1 i hi]; exact b1 i hi⟩
    · rw [← pl j hj q] at hPj
      obtain ⟨g1, g2⟩ := a5 j hj hPj
      exact ⟨fun i hi => by rw [hp2 j hj q i (by omega)]; exact g1 i hi, fun i hi => by rw [hp2 j hj q i hi]; exact g2 i hi⟩
  · have hf' : ∀ i, i < k → s.testBit i = true → p ∣ ml_dt f (col i) := fun i hi hbi => hf i (by omega) hbi
    by_cases q : j = l
    · subst q
      rw [dtl]
      have g1 := b4 f (fun j hj hjn => a6 f hf' j hj ((a4 j hj).mpr hjn))
      have g2 := hf k (by omega) hb
      have := ml_c2 g1 g2 1 A
      have e : 1 * (ml_dt f rest - A * ml_dt f (col k)) + A * ml_dt f (col k) = ml_dt f rest := by omega
      rw [e] at this
      exact this
    · rw [dte f j hj q]
      rw [← pl j hj q] at hPj
      exact a6 f hf' j hj hPj
  · rw [ml_anti hQ]
    have inner : ∀ Q, Q < 16 → p ∣ ml_wj (col i) m Q ∨ i = k := by
      intro Q hQ
      by_cases q : i = k
      · exact Or.inr q
      · exact Or.inl (a7 i (by omega) hbi Q hQ)
    by_cases q : i = k
    · subst q
      have h2 := ml_anti hQ (col i) (col i) m
      have h3 : ml_wj (col i) (ml_wj (col i) m) Q = 0 := by omega
      rw [h3]; simp
    · have := ml_wj_0 (p := p) (x := col k) (fun Q hQ => (inner Q hQ).resolve_right q) hQ
      obtain ⟨c, hc⟩ := this
      exact ⟨-c, by rw [Int.mul_neg]; omega⟩
  · have g : ¬ p ∣ ml_wj rest m Q := fun z => q ((nz Q hQ).2 z)
    unfold ml_wj at g
    have fin : ∀ r, r < 4 → ¬ p ∣ ml_sg Q r * rest r * m (Q ^^^ 2 ^ r) → ml_dmb (P ||| 2 ^ l) Q = true := by
      intro r hr hq
      obtain ⟨q1, q2, q3⟩ := ml_term hq
      have g1 : Q.testBit r = true := by
        cases z : Q.testBit r with
        | true => rfl
        | false => exact absurd ((ml_sgv _ _).2 z) q1
      have g3 : l ≤ r := Nat.le_of_not_lt fun z => q2 (b2 r z)
      exact ml_d1 P a1 Q hQ l hl r hr hPl g1 g3 (a9 _ (ml_d4 _ hQ r hr) q3)
    rcases ml_not4 g with z | z | z | z
    · exact fin 0 (by omega) z
    · exact fin 1 (by omega) z
    · exact fin 2 (by omega) z
    · exact fin 3 (by omega) z
  · rw [ml_gk_n hb hncl, e1] at q
    rw [e2]
    have g1 := ml_wj_lin (x := col k) (a10 (by omega)) hQ
    have g2 := ml_emod_sub p (ml_wj (col k) (ml_mn p col k s) Q)
    have := Int.dvd_add g1 g2
    have e : ml_wj (col k) m Q - ml_wj (col k) (ml_mn p col k s) Q + (ml_wj (col k) (ml_mn p col k s) Q - ml_wj (col k) (ml_mn p col k s) Q % p) = ml_wj (col k) m Q - ml_wj (col k) (ml_mn p col k s) Q % p := by omega
    rw [e] at this
    exact this
  · rw [ml_gk_n hb hncl, e1] at q
    rw [e2]
    exact ml_emod_dvd (ml_wj_0 (a11 (by omega)) hQ)
/-- every column can be brought to its end -/
theorem ml_run {p : Int} (hp : ml_pr p) (h0 : 0 < p) {piv : Nat → Nat → Int} {x : Nat → Int} (he : ∀ l, l < 4 → piv l l ≠ 0 → (∀ i, i < l → piv l i = 0) ∧ ∀ i, i < 4 → 0 ≤ piv l i ∧ piv l i < p) (hx : ∀ i, i < 4 → 0 ≤ x i ∧ x i < p) :
    (∃ rest, ml_L p piv x 4 rest) ∨ ∃ l rest, l < 4 ∧ ml_L p piv x l rest ∧ rest l ≠ 0 ∧ piv l l = 0 := by
  have key : ∀ k, k ≤ 4 → (∃ rest, ml_L p piv x k rest) ∨ ∃ l rest, l < 4 ∧ ml_L p piv x l rest ∧ rest l ≠ 0 ∧ piv l l = 0 := by
    intro k
    induction k with
    | zero => intro _; exact Or.inl ⟨x, ml_L_0 hp hx (fun _ _ => rfl)⟩
    | succ k ih =>
      intro hk
      rcases ih (by omega) with ⟨rest, h⟩ | h
      · by_cases q : rest k = 0
        · exact Or.inl ⟨rest, ml_L_z h q⟩
        · by_cases q2 : piv k k = 0
          · exact Or.inr ⟨k, rest, by omega, h, q, q2⟩
          · obtain ⟨g1, g2⟩ := he k (by omega) q2
            exact Or.inl ⟨fun i => if k ≤ i then (rest i * piv k k - piv k i * rest k) % p else rest i, ml_L_c hp h0 (by omega) h q2 (g2 k (by omega)) g1 (fun i hi => rfl)⟩
      · exact Or.inr h
  exact key 4 (Nat.le_refl 4)
theorem ml_G_he {n : Nat} {p : Int} {col : Nat → Nat → Int} {s k : Nat} {piv : Nat → Nat → Int} {found : Nat} (h : ml_G n p col s k piv found) : ∀ l, l < 4 → piv l l ≠ 0 → (∀ i, i < l → piv l i = 0) ∧ ∀ i, i < 4 → 0 ≤ piv l i ∧ piv l i < p := by
  obtain ⟨m, P, a1, a2, a3, a4, a5, -⟩ := h
  exact fun l hl hne => a5 l hl ((a4 l hl).mpr hne)
theorem ml_G_ex {n : Nat} {p : Int} (hp : ml_pr p) (h0 : 0 < p) {col : Nat → Nat → Int} (hc : ∀ e, e < n → ∀ i, i < 4 → 0 ≤ col e i ∧ col e i < p) (s : Nat) : ∀ k, k ≤ n → ∃ piv found, ml_G n p col s k piv found := by
  intro k
  induction k with
  | zero => intro _; exact ⟨fun _ _ => 0, 0, ml_G_0 hp col s (fun _ _ => rfl)⟩
  | succ k ih =>
    intro hk
    obtain ⟨piv, found, h⟩ := ih (by omega)
    cases hb : s.testBit k with
    | false => exact ⟨piv, found, ml_G_f h hb⟩
    | true =>
      rcases ml_run hp h0 (x := col k) (ml_G_he h) (hc k (by omega)) with ⟨rest, hL⟩ | ⟨l, rest, hl, hL, hne, hz⟩
      · exact ⟨piv, found, ml_G_y hp (by omega) h hb (fun f hf => ml_L_4 hp hL f hf)⟩
      · exact ⟨fun j => if j = l then rest else piv j, found + 1, ml_G_n hp (by omega) h hb hl hL hne hz (fun i hi => by simp) (fun j hj hjl i hi => by simp [hjl])⟩
/-- four pivots are all there can be -/
theorem ml_G_full {n : Nat} {p : Int} (hp : ml_pr p) (h0 : 0 < p) {col : Nat → Nat → Int} (hc : ∀ e, e < n → ∀ i, i < 4 → 0 ≤ col e i ∧ col e i < p) {s : Nat} {piv : Nat → Nat → Int} : ∀ j k, k + j ≤ n → ml_G n p col s k piv 4 → ml_G n p col s (k + j) piv 4 := by
  intro j
  induction j with
  | zero => intro k _ h; exact h
  | succ j ih =>
    intro k hk h
    have h1 := ih k (by omega) h
    show ml_G n p col s (k + j + 1) piv 4
    cases hb : s.testBit (k + j) with
    | false => exact ml_G_f h1 hb
    | true =>
      rcases ml_run hp h0 (x := col (k + j)) (ml_G_he h1) (hc (k + j) (by omega)) with ⟨rest, hL⟩ | ⟨l, rest, hl, hL, hne, hz⟩
      · exact ml_G_y hp (by omega) h1 hb (fun f hf => ml_L_4 hp hL f hf)
      · exfalso
        obtain ⟨m, P, a1, a2, a3, a4, -⟩ := h1
        have h15 : ∀ P, P < 16 → mt_cd 4 P = 4 → ∀ l, l < 4 → P.testBit l = true := by decide +kernel
        exact (a4 l hl).mp (h15 P a1 a2 l hl) hz
theorem ml_mn_rg {p : Int} (h1 : 1 < p) (col : Nat → Nat → Int) (s : Nat) : ∀ k Q, 0 ≤ ml_mn p col k s Q ∧ ml_mn p col k s Q < p := by
  intro k
  induction k with
  | zero => intro Q; simp only [ml_mn]; split <;> omega
  | succ k ih =>
    intro Q
    simp only [ml_mn]
    split
    · exact ⟨Int.emod_nonneg _ (by omega), Int.emod_lt_of_pos _ (by omega)⟩
    · exact ih Q
theorem ml_ind {n : Nat} {p : Int} (hp : ml_pr p) (h1 : 1 < p) {col : Nat → Nat → Int} (hc : ∀ e, e < n → ∀ i, i < 4 → 0 ≤ col e i ∧ col e i < p) (s : Nat) : ml_r n p col s = mt_cd n s ↔ ∃ Q, Q < 16 ∧ ml_mn p col n s Q ≠ 0 := by
  obtain ⟨piv, found, m, P, a1, a2, a3, a4, a5, a6, a7, a8, a9, a10, a11⟩ := ml_G_ex hp (by omega) hc s n (Nat.le_refl n)
  have hle := ml_gk_le (cl := ml_cl n p col) n s
  unfold ml_r
  constructor
  · intro h
    refine ⟨P, a1, fun q => a8 ?_⟩
    have := a10 h P a1
    rw [q] at this
    simpa using this
  · rintro ⟨Q, hQ, hne⟩
    refine Classical.byContradiction fun q => ?_
    have := a11 (by omega) Q hQ
    have rg := ml_mn_rg h1 col s n Q
    exact ml_nd rg.1 rg.2 hne this
theorem ml_pr_of (q : Nat) (h : ∀ a, a < q → ∀ b, b < q → a * b % q = 0 → a = 0 ∨ b = 0) (h1 : 1 < q) : ml_pr (q : Int) := by
  refine ⟨fun h2 => ?_, fun a b hab => ?_⟩
  · have := Int.le_of_dvd (by omega) h2
    omega
  · have e1 := Int.emod_nonneg a (b := (q : Int)) (by omega)
    have e2 := Int.emod_lt_of_pos a (b := (q : Int)) (by omega)
    have e3 := Int.emod_nonneg b (b := (q : Int)) (by omega)
    have e4 := Int.emod_lt_of_pos b (b := (q : Int)) (by omega)
    have e5 : (a % (q : Int)) * (b % (q : Int)) % (q : Int) = 0 := by
      rw [← Int.mul_emod]; exact Int.emod_eq_zero_of_dvd hab
    obtain ⟨x, hx⟩ := Int.eq_ofNat_of_zero_le e1
    obtain ⟨y, hy⟩ := Int.eq_ofNat_of_zero_le e3
    rw [hx, hy] at e5
    rw [hx] at e2
    rw [hy] at e4
    have e6 : x * y % q = 0 := by
      have : ((x * y % q : Nat) : Int) = 0 := by rw [Int.natCast_emod, Int.natCast_mul]; exact e5
      omega
    rcases h x (by omega) y (by omega) e6 with z | z
    · refine Or.inl (Int.dvd_of_emod_eq_zero ?_)
      rw [hx, z]; rfl
    · refine Or.inr (Int.dvd_of_emod_eq_zero ?_)
      rw [hy, z]; rfl
theorem ml_pr_4 {q : Nat} (h : q = 2 ∨ q = 3 ∨ q = 5 ∨ q = 7) : ml_pr (q : Int) := by
  rcases h with h | h | h | h <;> subst h <;> exact ml_pr_of _ (by decide +kernel) (by decide)
end
section
/-! Int32's bits against the numbers' own. -/
theorem bs_and (a b : Nat) : nI a &&& nI b = nI (a &&& b) := by
  apply Int32.toBitVec_inj.1
  show BitVec.ofNat 32 a &&& BitVec.ofNat 32 b = BitVec.ofNat 32 (a &&& b)
  apply BitVec.eq_of_getLsbD_eq
  intro i hi
  simp [hi]
theorem bs_or (a b : Nat) : nI a ||| nI b = nI (a ||| b) := by
  apply Int32.toBitVec_inj.1
  show BitVec.ofNat 32 a ||| BitVec.ofNat 32 b = BitVec.ofNat 32 (a ||| b)
  apply BitVec.eq_of_getLsbD_eq
  intro i hi
  simp [hi]
theorem bs_xor (a b : Nat) : nI a ^^^ nI b = nI (a ^^^ b) := by
  apply Int32.toBitVec_inj.1
  show BitVec.ofNat 32 a ^^^ BitVec.ofNat 32 b = BitVec.ofNat 32 (a ^^^ b)
  apply BitVec.eq_of_getLsbD_eq
  intro i hi
  simp [hi]
theorem bs_shl : ∀ e, e < 31 → (1 : Int32) <<< (nI e &&& 31) = nI (2 ^ e) := by decide +kernel
theorem bs_sh31 : ∀ e, e < 32 → ((nI e &&& 31).toBitVec.smod 32).toNat = e := by decide +kernel
theorem bs_shr {s e : Nat} (hs : s < 2 ^ 31) (he : e < 32) : nI s >>> (nI e &&& 31) = nI (s / 2 ^ e) := pk_shrN hs _ e (bs_sh31 e he)
theorem bs_bit {s e : Nat} (hs : s < 2 ^ 31) (he : e < 32) : (nI s >>> (nI e &&& 31)) &&& 1 = nI (if s.testBit e = true then 1 else 0) := by
  rw [bs_shr hs he]
  show nI (s / 2 ^ e) &&& nI 1 = _
  rw [bs_and, Nat.and_one_is_mod, Nat.testBit_eq_decide_div_mod_eq]
  congr 1
  generalize s / 2 ^ e = z
  by_cases h : z % 2 = 1
  · simp [h]
  · simp [h]; omega
theorem bs_bit0 {s e : Nat} (hs : s < 2 ^ 31) (he : e < 32) : (nI s >>> (nI e &&& 31)) &&& 1 = 0 ↔ s.testBit e = false := by
  rw [bs_bit hs he]
  cases s.testBit e
  · simp; exact nI_0
  · simp; exact nI_ne0 (by omega) (by omega)
theorem bs_bit1 {s e : Nat} (hs : s < 2 ^ 31) (he : e < 32) : (nI s >>> (nI e &&& 31)) &&& 1 = 1 ↔ s.testBit e = true := by
  rw [bs_bit hs he]
  cases s.testBit e
  · simp
    intro h
    have := (nI_eq (a := 0) (b := 1) (by omega) (by omega)).mp h
    omega
  · simp; rfl
theorem bs_not {t n : Nat} (x : Nat) (ht : t < 2 ^ n) (hn : n ≤ 31) : nI t &&& (nI x ^^^ (-1)) = nI (t &&& mt_co n (x % 2 ^ n)) := by
  have e : (-1 : Int32) = nI (2 ^ 32 - 1) := by decide
  rw [e, bs_xor, bs_and]
  apply Int32.toBitVec_inj.1
  show BitVec.ofNat 32 _ = BitVec.ofNat 32 _
  apply BitVec.eq_of_getLsbD_eq
  intro i hi
  simp only [BitVec.getLsbD_ofNat, hi, decide_true, Bool.true_and]
  rw [Nat.testBit_and, Nat.testBit_and, Nat.testBit_xor, Nat.testBit_two_pow_sub_one, mt_cot, Nat.testBit_mod_two_pow]
  by_cases h1 : i < n
  · simp [h1, hi]
  · rw [mt_big ht (by omega)]; simp
theorem bs_rm {t n e : Nat} (ht : t < 2 ^ n) (hn : n ≤ 31) (he : e < n) : nI t &&& (nI (2 ^ e) ^^^ (-1)) = nI (if t.testBit e = true then t ^^^ 2 ^ e else t) := by
  rw [bs_not (2 ^ e) ht hn, Nat.mod_eq_of_lt (mt_pow he)]
  congr 1
  apply Nat.eq_of_testBit_eq
  intro i
  rw [Nat.testBit_and, mt_cot, mt_two]
  by_cases hi : e = i
  · subst hi
    cases hb : t.testBit e with
    | false => simp [hb]
    | true => simp [hb, he, mt_xor_out]
  · have h2 : (if t.testBit e = true then t ^^^ 2 ^ e else t).testBit i = t.testBit i := by
      split
      · rw [Nat.testBit_xor, mt_two]; simp [hi]
      · rfl
    rw [h2]
    by_cases h1 : i < n
    · simp [hi, h1]
    · rw [mt_big ht (by omega)]; simp
theorem bs_co {s n : Nat} (hs : s < 2 ^ n) (hn : n ≤ 31) : nI (2 ^ n - 1) &&& (nI s ^^^ (-1)) = nI (mt_co n s) := by
  rw [bs_not s (mt_alllt n) hn, Nat.mod_eq_of_lt hs]
  congr 1
  refine mt_ex (Nat.and_lt_two_pow _ (mt_colt hs)) (mt_colt hs) fun i hi => ?_
  rw [Nat.testBit_and, Nat.testBit_two_pow_sub_one]; simp [hi]
theorem bs_orand : ∀ (N a b : Nat), a < 2 ^ N → (a ||| b) + (a &&& b) = a + b := by
  intro N
  induction N with
  | zero =>
    intro a b ha
    have h0 : a = 0 := by omega
    subst h0
    rw [Nat.zero_or, Nat.zero_and]; omega
  | succ N ih =>
    intro a b ha
    have h1 := ih (a / 2) (b / 2) (by rw [Nat.pow_succ] at ha; omega)
    have e1 : (a ||| b) / 2 = a / 2 ||| b / 2 := Nat.or_div_two
    have e2 : (a &&& b) / 2 = a / 2 &&& b / 2 := Nat.and_div_two
    have e3 : (a ||| b) % 2 = 1 ↔ a % 2 = 1 ∨ b % 2 = 1 := Nat.or_mod_two_eq_one
    have e4 : (a &&& b) % 2 = 1 ↔ a % 2 = 1 ∧ b % 2 = 1 := Nat.and_mod_two_eq_one
    rw [← e1, ← e2] at h1
    omega
theorem bs_disj {a b : Nat} (h : a &&& b = 0) : a ||| b = a + b := by
  have := bs_orand a a b Nat.lt_two_pow_self
  omega
theorem bs_sub {s e : Nat} (hb : s.testBit e = true) : s - 2 ^ e = s ^^^ 2 ^ e := by
  have h1 : (s ^^^ 2 ^ e) + 2 ^ e = s := by
    have h2 : (s ^^^ 2 ^ e) &&& 2 ^ e = 0 := by
      apply Nat.eq_of_testBit_eq
      intro i
      rw [Nat.testBit_and, mt_two]
      by_cases hi : e = i
      · subst hi; simp [mt_xor_out hb]
      · simp [hi]
    have h3 := mt_xor_or hb
    rw [bs_disj h2] at h3
    exact h3
  omega
theorem bs_le {s e : Nat} (hb : s.testBit e = true) : 2 ^ e ≤ s := Nat.ge_two_pow_of_testBit hb
theorem bs_andp {s e : Nat} : s &&& 2 ^ e = if s.testBit e = true then 2 ^ e else 0 := by
  apply Nat.eq_of_testBit_eq
  intro i
  rw [Nat.testBit_and, mt_two]
  by_cases hi : e = i
  · subst hi
    cases hb : s.testBit e <;> simp [hb, mt_two]
  · split
    · rw [mt_two]; simp [hi]
    · simp [hi]
theorem bs_cosub {s n : Nat} (hs : s < 2 ^ n) : 2 ^ n - 1 - s = mt_co n s := by
  have h1 := mt_s_co hs
  rw [bs_disj (mt_s_coi hs)] at h1
  omega
/-- the subsets of a set, from above -/
theorem bs_next : ∀ (N s p t : Nat), s < 2 ^ N → mt_sb p s → mt_sb t s → t < p → t ≤ (p - 1) &&& s := by
  intro N
  induction N with
  | zero =>
    intro s p t hs hp ht h
    have hs0 : s = 0 := by omega
    subst hs0
    have : p = 0 := by
      apply Nat.eq_of_testBit_eq
      intro i
      have := hp i
      cases hq : p.testBit i <;> simp_all
    omega
  | succ N ih =>
    intro s p t hs hp ht h
    have half : ∀ {x y : Nat}, mt_sb x y → mt_sb (x / 2) (y / 2) := fun {x y} hxy i hi => by
      rw [← Nat.testBit_succ] at hi ⊢; exact hxy (i + 1) hi
    have hbit : t % 2 ≤ s % 2 := by
      have := ht 0
      simp at this
      omega
    have hand : ∀ x : Nat, x &&& s = 2 * ((x / 2) &&& (s / 2)) + (x % 2) * (s % 2) := by
      intro x
      have e1 := Nat.div_add_mod (x &&& s) 2
      have e2 : (x &&& s) / 2 = (x / 2) &&& (s / 2) := Nat.and_div_two
      have e3 : (x &&& s) % 2 = (x % 2) * (s % 2) := by
        have h0 : (x &&& s) % 2 = 1 ↔ x % 2 = 1 ∧ s % 2 = 1 := Nat.and_mod_two_eq_one
        have a1 : x % 2 = 0 ∨ x % 2 = 1 := by omega
        have a2 : s % 2 = 0 ∨ s % 2 = 1 := by omega
        rcases a1 with q | q <;> rcases a2 with q2 | q2 <;> rw [q, q2] at h0 ⊢ <;> omega
      rw [e2, e3] at e1
      omega
    by_cases hodd : p % 2 = 1
    · have hps : (p - 1) &&& s = p - 1 := by
        apply Nat.eq_of_testBit_eq
        intro i
        rw [Nat.testBit_and]
        cases i with
        | zero => have : (p - 1) % 2 = 0 := by omega
                  simp [this]
        | succ i =>
          have e : (p - 1).testBit (i + 1) = p.testBit (i + 1) := by
            rw [Nat.testBit_succ, Nat.testBit_succ]
            have : (p - 1) / 2 = p / 2 := by omega
            rw [this]
          rw [e]
          have := hp (i + 1)
          cases hq : p.testBit (i + 1) <;> simp_all
      omega
    · rw [hand]
      have h1 := ih (s / 2) (p / 2) (t / 2) (by rw [Nat.pow_succ] at hs; omega) (half hp) (half ht) (by omega)
      have e1 : (p - 1) / 2 = p / 2 - 1 := by omega
      have e2 : (p - 1) % 2 = 1 := by omega
      rw [e1, e2]
      omega
theorem bs_cd10 {n s : Nat} (hn : n ≤ 10) (hs : s < 2 ^ n) : mt_cd 10 s = mt_cd n s := by
  have key : ∀ j, n + j ≤ 10 → mt_cd (n + j) s = mt_cd n s := by
    intro j
    induction j with
    | zero => intro _; rfl
    | succ j ih =>
      intro hj
      have h1 := ih (by omega)
      have h2 := mt_cd_top (n := n + j) (s := s) (Nat.lt_of_lt_of_le hs (Nat.pow_le_pow_right (by omega) (by omega)))
      show mt_cd (n + j + 1) s = _
      rw [h2, h1]
  have := key (10 - n) (by omega)
  rw [show n + (10 - n) = 10 by omega] at this
  exact this
theorem bs_1024 {n s : Nat} (hn : n ≤ 10) (hs : s < 2 ^ n) : s < 1024 := Nat.lt_of_lt_of_le hs (by
  have := Nat.pow_le_pow_right (show 0 < 2 by omega) hn
  exact this)
end
section
/-! Own rows over the kit's: numbers that are not negative, by their naturals. -/
section WI
variable {p : Program} {l : Launch} {e : Env} {R : Room} {s : State} {m : MethodId} {args : Array Value} {below : List Frame} {meth : Method} {c : Code} {H : Heap} {locs : List Loc} {cells slots : Nat} {Q : State → Prop}
variable {cc : ByteArray} {pc : Nat} {ls : Array Slot} {rest : List Value}
theorem wi_iadd (hx : p.tables.exec = Jvm.exec) (hb : c.code = cc) {a b : Nat} (hdg : decode cc pc = .ok (.iadd, 1)) (k : W p l e R s m args below meth c H locs cells slots Q (F0 m (pc + 1) ls (.int (nI (a + b)) :: rest))) : W p l e R s m args below meth c H locs cells slots Q (F0 m pc ls (.int (nI b) :: .int (nI a) :: rest)) := lv_iadd hx hb hdg (by rw [nI_add]; exact k)
theorem wi_imul (hx : p.tables.exec = Jvm.exec) (hb : c.code = cc) {a b : Nat} (hdg : decode cc pc = .ok (.imul, 1)) (k : W p l e R s m args below meth c H locs cells slots Q (F0 m (pc + 1) ls (.int (nI (a * b)) :: rest))) : W p l e R s m args below meth c H locs cells slots Q (F0 m pc ls (.int (nI b) :: .int (nI a) :: rest)) := lv_imul hx hb hdg (by rw [pk_mul]; exact k)
theorem wi_iand (hx : p.tables.exec = Jvm.exec) (hb : c.code = cc) {a b : Nat} (hdg : decode cc pc = .ok (.iand, 1)) (k : W p l e R s m args below meth c H locs cells slots Q (F0 m (pc + 1) ls (.int (nI (a &&& b)) :: rest))) : W p l e R s m args below meth c H locs cells slots Q (F0 m pc ls (.int (nI b) :: .int (nI a) :: rest)) := lv_iand hx hb hdg (by rw [bs_and]; exact k)
theorem wi_ior (hx : p.tables.exec = Jvm.exec) (hb : c.code = cc) {a b : Nat} (hdg : decode cc pc = .ok (.ior, 1)) (k : W p l e R s m args below meth c H locs cells slots Q (F0 m (pc + 1) ls (.int (nI (a ||| b)) :: rest))) : W p l e R s m args below meth c H locs cells slots Q (F0 m pc ls (.int (nI b) :: .int (nI a) :: rest)) := lv_ior hx hb hdg (by rw [bs_or]; exact k)
theorem wi_ixor (hx : p.tables.exec = Jvm.exec) (hb : c.code = cc) {a b : Nat} (hdg : decode cc pc = .ok (.ixor, 1)) (k : W p l e R s m args below meth c H locs cells slots Q (F0 m (pc + 1) ls (.int (nI (a ^^^ b)) :: rest))) : W p l e R s m args below meth c H locs cells slots Q (F0 m pc ls (.int (nI b) :: .int (nI a) :: rest)) := lv_ixor hx hb hdg (by rw [bs_xor]; exact k)
theorem wi_isub (hx : p.tables.exec = Jvm.exec) (hb : c.code = cc) {a b : Nat} (h : b ≤ a) (hdg : decode cc pc = .ok (.isub, 1)) (k : W p l e R s m args below meth c H locs cells slots Q (F0 m (pc + 1) ls (.int (nI (a - b)) :: rest))) : W p l e R s m args below meth c H locs cells slots Q (F0 m pc ls (.int (nI b) :: .int (nI a) :: rest)) := lv_isub hx hb hdg (by rw [pk_sub h]; exact k)
theorem wi_ishr (hx : p.tables.exec = Jvm.exec) (hb : c.code = cc) {a b : Nat} (h : a < 2 ^ 31) (h2 : b < 32) (hdg : decode cc pc = .ok (.ishr, 1)) (k : W p l e R s m args below meth c H locs cells slots Q (F0 m (pc + 1) ls (.int (nI (a / 2 ^ b)) :: rest))) : W p l e R s m args below meth c H locs cells slots Q (F0 m pc ls (.int (nI b) :: .int (nI a) :: rest)) := lv_ishr hx hb hdg (by rw [bs_shr h h2]; exact k)
theorem wi_ishl1 (hx : p.tables.exec = Jvm.exec) (hb : c.code = cc) {b : Nat} (h : b < 31) (hdg : decode cc pc = .ok (.ishl, 1)) (k : W p l e R s m args below meth c H locs cells slots Q (F0 m (pc + 1) ls (.int (nI (2 ^ b)) :: rest))) : W p l e R s m args below meth c H locs cells slots Q (F0 m pc ls (.int (nI b) :: .int (nI 1) :: rest)) := lv_ishl hx hb hdg (by rw [show nI 1 = (1 : Int32) from rfl, bs_shl b h]; exact k)
theorem wi_top {x y : Int32} (h : x = y) (k : W p l e R s m args below meth c H locs cells slots Q (F0 m pc ls (.int y :: rest))) : W p l e R s m args below meth c H locs cells slots Q (F0 m pc ls (.int x :: rest)) := h ▸ k
theorem wi_ic (hx : p.tables.exec = Jvm.exec) (hb : c.code = cc) {a : Nat} (hdg : decode cc pc = .ok (.iconst (a : Int), 1)) (k : W p l e R s m args below meth c H locs cells slots Q (F0 m (pc + 1) ls (.int (nI a) :: rest))) : W p l e R s m args below meth c H locs cells slots Q (F0 m pc ls rest) := lv_iconst (v := nI a) hx hb hdg rfl k
theorem wi_icmp_eq (hx : p.tables.exec = Jvm.exec) (hb : c.code = cc) {a b : Nat} (h1 : a < 2 ^ 31) (h2 : b < 2 ^ 31) {off : Int} {tgt : Nat} (hdg : decode cc pc = .ok (.if_icmp .eq off, 3)) (ht : (pc : Int) + off = (tgt : Int)) (kt : a = b → W p l e R s m args below meth c H locs cells slots Q (F0 m tgt ls rest)) (kf : ¬ a = b → W p l e R s m args below meth c H locs cells slots Q (F0 m (pc + 3) ls rest)) : W p l e R s m args below meth c H locs cells slots Q (F0 m pc ls (.int (nI b) :: .int (nI a) :: rest)) := lv_icmp_eq hx hb hdg ht (fun q => kt ((nI_eq h1 h2).mp q)) (fun q => kf (fun z => q ((nI_eq h1 h2).mpr z)))
theorem wi_icmp_lt (hx : p.tables.exec = Jvm.exec) (hb : c.code = cc) {a b : Nat} (h1 : a < 2 ^ 31) (h2 : b < 2 ^ 31) {off : Int} {tgt : Nat} (hdg : decode cc pc = .ok (.if_icmp .lt off, 3)) (ht : (pc : Int) + off = (tgt : Int)) (kt : a < b → W p l e R s m args below meth c H locs cells slots Q (F0 m tgt ls rest)) (kf : ¬ a < b → W p l e R s m args below meth c H locs cells slots Q (F0 m (pc + 3) ls rest)) : W p l e R s m args below meth c H locs cells slots Q (F0 m pc ls (.int (nI b) :: .int (nI a) :: rest)) := lv_icmp_lt hx hb hdg ht (fun q => kt ((nI_ltI h1 h2).mp q)) (fun q => kf (fun z => q ((nI_ltI h1 h2).mpr z)))
theorem wi_icmp_ge (hx : p.tables.exec = Jvm.exec) (hb : c.code = cc) {a b : Nat} (h1 : a < 2 ^ 31) (h2 : b < 2 ^ 31) {off : Int} {tgt : Nat} (hdg : decode cc pc = .ok (.if_icmp .ge off, 3)) (ht : (pc : Int) + off = (tgt : Int)) (kt : b ≤ a → W p l e R s m args below meth c H locs cells slots Q (F0 m tgt ls rest)) (kf : ¬ b ≤ a → W p l e R s m args below meth c H locs cells slots Q (F0 m (pc + 3) ls rest)) : W p l e R s m args below meth c H locs cells slots Q (F0 m pc ls (.int (nI b) :: .int (nI a) :: rest)) := lv_icmp_ge hx hb hdg ht (fun q => kt ((nI_leI h2 h1).mp q)) (fun q => kf (fun z => q ((nI_leI h2 h1).mpr z)))
theorem wi_icmp_gt (hx : p.tables.exec = Jvm.exec) (hb : c.code = cc) {a b : Nat} (h1 : a < 2 ^ 31) (h2 : b < 2 ^ 31) {off : Int} {tgt : Nat} (hdg : decode cc pc = .ok (.if_icmp .gt off, 3)) (ht : (pc : Int) + off = (tgt : Int)) (kt : b < a → W p l e R s m args below meth c H locs cells slots Q (F0 m tgt ls rest)) (kf : ¬ b < a → W p l e R s m args below meth c H locs cells slots Q (F0 m (pc + 3) ls rest)) : W p l e R s m args below meth c H locs cells slots Q (F0 m pc ls (.int (nI b) :: .int (nI a) :: rest)) := lv_icmp_gt hx hb hdg ht (fun q => kt ((nI_ltI h2 h1).mp q)) (fun q => kf (fun z => q ((nI_ltI h2 h1).mpr z)))
theorem wi_icmp_le (hx : p.tables.exec = Jvm.exec) (hb : c.code = cc) {a b : Nat} (h1 : a < 2 ^ 31) (h2 : b < 2 ^ 31) {off : Int} {tgt : Nat} (hdg : decode cc pc = .ok (.if_icmp .le off, 3)) (ht : (pc : Int) + off = (tgt : Int)) (kt : a ≤ b → W p l e R s m args below meth c H locs cells slots Q (F0 m tgt ls rest)) (kf : ¬ a ≤ b → W p l e R s m args below meth c H locs cells slots Q (F0 m (pc + 3) ls rest)) : W p l e R s m args below meth c H locs cells slots Q (F0 m pc ls (.int (nI b) :: .int (nI a) :: rest)) := lv_icmp_le hx hb hdg ht (fun q => kt ((nI_leI h1 h2).mp q)) (fun q => kf (fun z => q ((nI_leI h1 h2).mpr z)))
theorem wi_icmp_ne (hx : p.tables.exec = Jvm.exec) (hb : c.code = cc) {a b : Nat} (h1 : a < 2 ^ 31) (h2 : b < 2 ^ 31) {off : Int} {tgt : Nat} (hdg : decode cc pc = .ok (.if_icmp .ne off, 3)) (ht : (pc : Int) + off = (tgt : Int)) (kt : ¬ a = b → W p l e R s m args below meth c H locs cells slots Q (F0 m tgt ls rest)) (kf : a = b → W p l e R s m args below meth c H locs cells slots Q (F0 m (pc + 3) ls rest)) : W p l e R s m args below meth c H locs cells slots Q (F0 m pc ls (.int (nI b) :: .int (nI a) :: rest)) := lv_icmp_ne hx hb hdg ht (fun q => kt (fun z => q ((nI_eq h1 h2).mpr z))) (fun q => kf ((nI_eq h1 h2).mp q))
theorem wi_z {a : Nat} (h : a < 2 ^ 31) : nI a = 0 ↔ a = 0 := by rw [← nI_0]; exact nI_eq h (by decide)
theorem wi_if_eq (hx : p.tables.exec = Jvm.exec) (hb : c.code = cc) {a : Nat} (h1 : a < 2 ^ 31) {off : Int} {tgt : Nat} (hdg : decode cc pc = .ok (.ifCond .eq off, 3)) (ht : (pc : Int) + off = (tgt : Int)) (kt : a = 0 → W p l e R s m args below meth c H locs cells slots Q (F0 m tgt ls rest)) (kf : ¬ a = 0 → W p l e R s m args below meth c H locs cells slots Q (F0 m (pc + 3) ls rest)) : W p l e R s m args below meth c H locs cells slots Q (F0 m pc ls (.int (nI a) :: rest)) := lv_if_eq hx hb hdg ht (fun q => kt ((wi_z h1).mp q)) (fun q => kf (fun z => q ((wi_z h1).mpr z)))
theorem wi_if_ne (hx : p.tables.exec = Jvm.exec) (hb : c.code = cc) {a : Nat} (h1 : a < 2 ^ 31) {off : Int} {tgt : Nat} (hdg : decode cc pc = .ok (.ifCond .ne off, 3)) (ht : (pc : Int) + off = (tgt : Int)) (kt : ¬ a = 0 → W p l e R s m args below meth c H locs cells slots Q (F0 m tgt ls rest)) (kf : a = 0 → W p l e R s m args below meth c H locs cells slots Q (F0 m (pc + 3) ls rest)) : W p l e R s m args below meth c H locs cells slots Q (F0 m pc ls (.int (nI a) :: rest)) := lv_if_ne hx hb hdg ht (fun q => kt (fun z => q ((wi_z h1).mpr z))) (fun q => kf ((wi_z h1).mp q))
theorem wi_if_ge (hx : p.tables.exec = Jvm.exec) (hb : c.code = cc) {a : Nat} (h1 : a < 2 ^ 31) {off : Int} {tgt : Nat} (hdg : decode cc pc = .ok (.ifCond .ge off, 3)) (ht : (pc : Int) + off = (tgt : Int)) (kt : W p l e R s m args below meth c H locs cells slots Q (F0 m tgt ls rest)) : W p l e R s m args below meth c H locs cells slots Q (F0 m pc ls (.int (nI a) :: rest)) := lv_if_ge hx hb hdg ht (fun _ => kt) (fun q => absurd (nI_pos' h1) q)
theorem wi_if_lt (hx : p.tables.exec = Jvm.exec) (hb : c.code = cc) {a : Nat} (h1 : a < 2 ^ 31) {off : Int} {tgt : Nat} (hdg : decode cc pc = .ok (.ifCond .lt off, 3)) (ht : (pc : Int) + off = (tgt : Int)) (kf : W p l e R s m args below meth c H locs cells slots Q (F0 m (pc + 3) ls rest)) : W p l e R s m args below meth c H locs cells slots Q (F0 m pc ls (.int (nI a) :: rest)) := lv_if_lt hx hb hdg ht (fun q => absurd q (nI_pos h1)) (fun _ => kf)
theorem wi_if_le (hx : p.tables.exec = Jvm.exec) (hb : c.code = cc) {a : Nat} (h1 : a < 2 ^ 31) {off : Int} {tgt : Nat} (hdg : decode cc pc = .ok (.ifCond .le off, 3)) (ht : (pc : Int) + off = (tgt : Int)) (kt : a = 0 → W p l e R s m args below meth c H locs cells slots Q (F0 m tgt ls rest)) (kf : ¬ a = 0 → W p l e R s m args below meth c H locs cells slots Q (F0 m (pc + 3) ls rest)) : W p l e R s m args below meth c H locs cells slots Q (F0 m pc ls (.int (nI a) :: rest)) := lv_if_le hx hb hdg ht (fun q => kt (by rw [← nI_0] at q; have := (nI_leI h1 (by decide)).mp q; omega)) (fun q => kf (fun z => q (by rw [z, nI_0]; decide)))
variable {D : va_G} {cl : List vw_C} {A : Nat → Prop} {a : Nat} {tys : List (ClassId × FieldType)} {ws : va_W} {H0 : Heap}
theorem wi_iald (hx : p.tables.exec = Jvm.exec) (hb : c.code = cc) (hK : va_K D cl tys s) (hP : va_P D cl ws H) (q0 t0 : Nat) {cA : ClassId} {n : Nat} {f : Nat → Int32} (ha : ws[q0]? = some (a, .inl (cA, n, .inl f))) (ht : tys[t0]? = some (cA, .int)) {i : Nat} (hi : i < n) (hn : n < 2 ^ 31) (hdg : decode cc pc = .ok (.iaload, 1)) (kk : W p l e R s m args below meth c H locs cells slots Q (F0 m (pc + 1) ls (.int (f i) :: rest))) : W p l e R s m args below meth c H locs cells slots Q (F0 m pc ls (.int (nI i) :: .ref a :: rest)) := va_iald hx hb hK hP q0 t0 ha ht (vp_in_nI hi hn) hdg (by rw [nI_clamp (by omega)]; exact kk)
theorem wi_iast (hx : p.tables.exec = Jvm.exec) (hb : c.code = cc) (hK : va_K D cl tys s) (hP : va_P D cl ws H) (hD : va_D A ws) (hS : va_S A H0 H locs) (q0 t0 : Nat) {cA : ClassId} {n : Nat} {f : Nat → Int32} (ha : ws[q0]? = some (a, .inl (cA, n, .inl f))) (ht : tys[t0]? = some (cA, .int)) {i : Nat} {x : Int32} (hi : i < n) (hn : n < 2 ^ 31) (hdg : decode cc pc = .ok (.iastore, 1)) (kk : ∀ (H1 : Heap) (locs1 : List Loc), va_P D cl (ws.set q0 (a, .inl (cA, n, .inl (upd f i x)))) H1 → va_D A (ws.set q0 (a, .inl (cA, n, .inl (upd f i x)))) → va_S A H0 H1 locs1 → W p l e R s m args below meth c H1 locs1 cells slots Q (F0 m (pc + 1) ls rest)) : W p l e R s m args below meth c H locs cells slots Q (F0 m pc ls (.int x :: .int (nI i) :: .ref a :: rest)) := by
  refine va_iast hx hb hK hP hD hS q0 t0 ha ht (vp_in_nI hi hn) hdg ?_
  rw [nI_clamp (by omega)]
  exact kk
theorem wi_aald (hx : p.tables.exec = Jvm.exec) (hb : c.code = cc) (hK : va_K D cl tys s) (hP : va_P D cl ws H) (q0 t0 : Nat) {cA : ClassId} {ty : FieldType} {n : Nat} {f : Nat → Option Nat} (ha : ws[q0]? = some (a, .inl (cA, n, .inr (.inr (.inr (.inr f)))))) (ht : tys[t0]? = some (cA, ty)) (hty : ty.isReference = true) {i : Nat} (hi : i < n) (hn : n < 2 ^ 31) {v : Nat} (hv : f i = some v) (hdg : decode cc pc = .ok (.aaload, 1)) (kk : W p l e R s m args below meth c H locs cells slots Q (F0 m (pc + 1) ls (.ref v :: rest))) : W p l e R s m args below meth c H locs cells slots Q (F0 m pc ls (.int (nI i) :: .ref a :: rest)) := by
  have hc : (nI i).toNatClampNeg = i := nI_clamp (by omega)
  refine W.aald (v := .ref v) (ty := ty) hx hb (hP q0 _ ha) ((hK.2 t0 _ ht).1 n (fun j => va_rf (f j))) hty (fun q => by cases q) (by show ¬ (nI i < 0 ∨ (arrV _ _ _).slots.size ≤ _); rw [arrV_size]; exact vp_in_nI hi hn) (by show (arrV _ _ _).slots[_]? = _; rw [hc, arrV_read _ _ hi]; show some (va_rf (f i)) = _; rw [hv]; rfl) rfl rfl hdg kk
end WI
section WC
variable {p : Program} {l : Launch} {e : Env} {R : Room} {s : State} {m : MethodId} {args : Array Value} {below : List Frame} {meth : Method} {c : Code} {H : Heap} {locs : List Loc} {cells slots : Nat} {Q : State → Prop}
/-- a method that only reads a world -/
def wr_P (D : va_G) (cl : List vw_C) (tys : List (ClassId × FieldType)) (Y : va_W) : State → Prop := fun U => va_P D cl Y U.heap ∧ va_K D cl tys U
theorem wr_bl {D : va_G} {cl : List vw_C} {tys : List (ClassId × FieldType)} {Y : va_W} {av : List Value} : FrameBlind (va_Pc av (wr_P D cl tys Y)) := fun a U g mk q => by
  obtain ⟨q0, qP, qK⟩ := q
  exact ⟨q0, qP, va_K.moved (u := U) (U := U.calling g mk a) (Vm.Alike.refl U.vm) qK⟩
theorem wr_pre {D : va_G} {cl : List vw_C} {tys : List (ClassId × FieldType)} {Y : va_W} {av : List Value} (hP : va_P D cl Y H) (hK : va_K D cl tys s) : PreS s H (va_Pc av (wr_P D cl tys Y)) av :=
  ⟨wr_bl, fun U hU hW => ⟨rfl, by rw [hU]; exact hP, va_K.moved hW.alike hK⟩⟩
/-- a method that may write a world -/
def ww_P (D : va_G) (cl : List vw_C) (tys : List (ClassId × FieldType)) (Y : va_W) (sz : Nat) : State → Prop := fun U => U.heap.size = sz ∧ va_P D cl Y U.heap ∧ va_K D cl tys U ∧ va_D (fun _ => True) Y
def ww_B {S : Type} (D : va_G) (cl : List vw_C) (tys : List (ClassId × FieldType)) (Y : va_W) (sz : Nat) (Y' : S → va_W) : S → State → Prop := fun u t => va_P D cl (Y' u) t.heap ∧ va_K D cl tys t ∧ va_D (va_A Y sz) (Y' u)
theorem ww_bl {D : va_G} {cl : List vw_C} {tys : List (ClassId × FieldType)} {Y : va_W} {sz : Nat} {av : List Value} : FrameBlind (va_Pc av (ww_P D cl tys Y sz)) := fun a U g mk q => by
  obtain ⟨q0, q1, qP, qK, qD⟩ := q
  exact ⟨q0, q1, qP, va_K.moved (u := U) (U := U.calling g mk a) (Vm.Alike.refl U.vm) qK, qD⟩
theorem ww_pre {D : va_G} {cl : List vw_C} {tys : List (ClassId × FieldType)} {Y : va_W} {A : Nat → Prop} {av : List Value} (hP : va_P D cl Y H) (hK : va_K D cl tys s) (hD : va_D A Y) : PreS s H (va_Pc av (ww_P D cl tys Y H.size)) av :=
  ⟨ww_bl, fun U hU hW => ⟨rfl, by rw [hU], by rw [hU]; exact hP, va_K.moved hW.alike hK, hD.weaken (fun _ _ _ _ => trivial)⟩⟩
/-- a world's part between two others -/
theorem wm_P {D : va_G} {cl : List vw_C} {X Y Z : va_W} (hP : va_P D cl (X ++ (Y ++ Z)) H) : va_P D cl X H ∧ va_P D cl Y H ∧ va_P D cl Z H := by
  have get : ∀ q, q ∈ X ++ (Y ++ Z) → va_at D cl q H := fun q hq => by
    obtain ⟨k, hk⟩ := List.getElem?_of_mem hq
    exact hP k q hk
  exact ⟨fun k q hk => get q (List.mem_append_left _ (List.mem_of_getElem? hk)), fun k q hk => get q (List.mem_append_right _ (List.mem_append_left _ (List.mem_of_getElem? hk))), fun k q hk => get q (List.mem_append_right _ (List.mem_append_right _ (List.mem_of_getElem? hk)))⟩
theorem wm_Dl {A : Nat → Prop} {X Y : va_W} (h : va_D A (X ++ Y)) : va_D A X := by
  have em : ∀ (k : Nat) (q : Nat × va_E), X[k]? = some q → (X ++ Y)[k]? = some q := fun k q hk => by
    rw [List.getElem?_append_left (List.getElem?_eq_some_iff.mp hk).1]; exact hk
  exact ⟨fun i j p q hi hj e => h.1 i j p q (em i p hi) (em j q hj) e, fun k q hk => h.2 k q (em k q hk)⟩
theorem wm_Dr {A : Nat → Prop} {X Y : va_W} (h : va_D A (X ++ Y)) : va_D A Y := by
  have em : ∀ (k : Nat) (q : Nat × va_E), Y[k]? = some q → (X ++ Y)[X.length + k]? = some q := fun k q hk => by
    rw [List.getElem?_append_right (by omega)]
    simpa using hk
  exact ⟨fun i j p q hi hj e => by have := h.1 _ _ p q (em i p hi) (em j q hj) e; omega, fun k q hk => h.2 _ q (em k q hk)⟩
theorem wm_Dx {A : Nat → Prop} {X Y : va_W} (h : va_D A (X ++ Y)) {i j : Nat} {p q : Nat × va_E} (hi : X[i]? = some p) (hj : Y[j]? = some q) : p.1 ≠ q.1 := fun e => by
  have h1 : (X ++ Y)[i]? = some p := by rw [List.getElem?_append_left (List.getElem?_eq_some_iff.mp hi).1]; exact hi
  have h2 : (X ++ Y)[X.length + j]? = some q := by rw [List.getElem?_append_right (by omega)]; simpa using hj
  have := h.1 _ _ p q h1 h2 e
  have := (List.getElem?_eq_some_iff.mp hi).1
  omega
theorem wm_free {A0 : Nat → Prop} {X Y Z : va_W} {H0 : Heap} (hD : va_D A0 (X ++ (Y ++ Z))) (hS : va_S A0 H0 H locs) (hA : ∀ q, H0.size ≤ q → A0 q) : ∀ q, va_A Y H.size q → A0 q := by
  intro q h
  rcases h with ⟨k, en, h⟩ | h
  · exact (wm_Dl (wm_Dr hD)).2 k _ h
  · exact hA q (Nat.le_trans hS.1 h)
/-- behind a call that had the middle part -/
theorem wm_join {D : va_G} {cl : List vw_C} {A0 : Nat → Prop} {X Y Z Y' : va_W} {H1 : Heap} (hP : va_P D cl (X ++ (Y ++ Z)) H) (hD : va_D A0 (X ++ (Y ++ Z))) (hk : ∀ q : Nat, q < H.size → ¬ va_A Y H.size q → H1[q]? = H[q]?) (hF : ∀ q, va_A Y H.size q → A0 q) (hP1 : va_P D cl Y' H1) (hD1 : va_D (va_A Y H.size) Y') : va_P D cl (X ++ (Y' ++ Z)) H1 ∧ va_D A0 (X ++ (Y' ++ Z)) := by
  obtain ⟨pX, pY, pZ⟩ := wm_P hP
  have nX : ∀ (k : Nat) (q : Nat × va_E), X[k]? = some q → ¬ va_A Y H.size q.1 := fun k q hq h => by
    rcases h with ⟨j, en, h⟩ | h
    · obtain ⟨j2, hj2⟩ := List.getElem?_of_mem (List.mem_append_left Z (List.mem_of_getElem? h))
      exact wm_Dx hD hq hj2 rfl
    · have := (pX k q hq).lt; omega
  have nZ : ∀ (k : Nat) (q : Nat × va_E), Z[k]? = some q → ¬ va_A Y H.size q.1 := fun k q hq h => by
    rcases h with ⟨j, en, h⟩ | h
    · exact wm_Dx (wm_Dr hD) h hq rfl
    · have := (pZ k q hq).lt; omega
  refine ⟨va_P.app (fun k q hq => (pX k q hq).kept (hk q.1 (pX k q hq).lt (nX k q hq))) (va_P.app hP1 (fun k q hq => (pZ k q hq).kept (hk q.1 (pZ k q hq).lt (nZ k q hq)))), ?_⟩
  have dY : va_D A0 Y' := hD1.weaken (fun k q _ h => hF q.1 h)
  have dYZ : va_D A0 (Y' ++ Z) := va_D.app dY (wm_Dr (wm_Dr hD)) (fun i j x y hx hy hxy => nZ j y hy (by rw [← hxy]; exact hD1.2 i x hx))
  refine va_D.app (wm_Dl hD) dYZ (fun i j x y hx hy hxy => ?_)
  rcases List.mem_append.mp (List.mem_of_getElem? hy) with h | h
  · obtain ⟨j2, hj2⟩ := List.getElem?_of_mem h
    exact nX i x hx (by rw [hxy]; exact hD1.2 j2 y hj2)
  · obtain ⟨j2, hj2⟩ := List.getElem?_of_mem (List.mem_append_right Y h)
    exact wm_Dx hD hx hj2 hxy
end WC
end
section
-- ===== PART A: goes FIRST, ahead of the names: the tables' words, and 'selects' of the private methods out of them =====
/-- a private method of a class that the tables say can be made, by its rows of tables_1 -/
def lw_okq (q : MethodName × Nat) : Prop := (q.1.cls ≠ "java/lang/invoke/MethodHandle" ∧ q.1.cls ≠ "java/lang/invoke/VarHandle") ∧ Cond.instantiable q.1.cls q.2 ∈ tables_1 ∧ Cond.privateMethod q.1 ∈ tables_1 ∧ Cond.instanceMethod q.1 ∈ tables_1
theorem lw_p0 : lw_okq (⟨"CommonBases$Matroid", "become", "(LCommonBases$Kind;)V"⟩, 7) := ⟨⟨by decide +kernel, by decide +kernel⟩, List.mem_of_getElem? (i := 23) (by decide +kernel), List.mem_of_getElem? (i := 150) (by decide +kernel), List.mem_of_getElem? (i := 151) (by decide +kernel)⟩
theorem lw_p1 : lw_okq (⟨"CommonBases$Matroid", "forgetRanks", "()V"⟩, 7) := ⟨⟨by decide +kernel, by decide +kernel⟩, List.mem_of_getElem? (i := 23) (by decide +kernel), List.mem_of_getElem? (i := 154) (by decide +kernel), List.mem_of_getElem? (i := 155) (by decide +kernel)⟩
theorem lw_p2 : lw_okq (⟨"CommonBases", "isElement", "(I)Z"⟩, 4) := ⟨⟨by decide +kernel, by decide +kernel⟩, List.mem_of_getElem? (i := 14) (by decide +kernel), List.mem_of_getElem? (i := 175) (by decide +kernel), List.mem_of_getElem? (i := 176) (by decide +kernel)⟩
theorem lw_p3 : lw_okq (⟨"CommonBases", "isSet", "(I)Z"⟩, 4) := ⟨⟨by decide +kernel, by decide +kernel⟩, List.mem_of_getElem? (i := 14) (by decide +kernel), List.mem_of_getElem? (i := 253) (by decide +kernel), List.mem_of_getElem? (i := 254) (by decide +kernel)⟩
theorem lw_p4 : lw_okq (⟨"CommonBases$GraphicKind", "joins", "(II)Z"⟩, 2) := ⟨⟨by decide +kernel, by decide +kernel⟩, List.mem_of_getElem? (i := 44) (by decide +kernel), List.mem_of_getElem? (i := 281) (by decide +kernel), List.mem_of_getElem? (i := 282) (by decide +kernel)⟩
theorem lw_p5 : lw_okq (⟨"CommonBases$LinearKind", "addsPivot", "(I)Z"⟩, 4) := ⟨⟨by decide +kernel, by decide +kernel⟩, List.mem_of_getElem? (i := 78) (by decide +kernel), List.mem_of_getElem? (i := 289) (by decide +kernel), List.mem_of_getElem? (i := 290) (by decide +kernel)⟩
theorem lw_p6 : lw_okq (⟨"CommonBases$LinearKind", "cancel", "(I)V"⟩, 4) := ⟨⟨by decide +kernel, by decide +kernel⟩, List.mem_of_getElem? (i := 78) (by decide +kernel), List.mem_of_getElem? (i := 296) (by decide +kernel), List.mem_of_getElem? (i := 297) (by decide +kernel)⟩
theorem lw_p7 : lw_okq (⟨"CommonBases", "firstInOrder", "(I)I"⟩, 4) := ⟨⟨by decide +kernel, by decide +kernel⟩, List.mem_of_getElem? (i := 14) (by decide +kernel), List.mem_of_getElem? (i := 329) (by decide +kernel), List.mem_of_getElem? (i := 330) (by decide +kernel)⟩
theorem lw_p8 : lw_okq (⟨"CommonBases", "isCommon", "(I)Z"⟩, 4) := ⟨⟨by decide +kernel, by decide +kernel⟩, List.mem_of_getElem? (i := 14) (by decide +kernel), List.mem_of_getElem? (i := 338) (by decide +kernel), List.mem_of_getElem? (i := 339) (by decide +kernel)⟩
theorem lw_p9 : lw_okq (⟨"CommonBases", "sumOfWeights", "(I)I"⟩, 4) := ⟨⟨by decide +kernel, by decide +kernel⟩, List.mem_of_getElem? (i := 14) (by decide +kernel), List.mem_of_getElem? (i := 342) (by decide +kernel), List.mem_of_getElem? (i := 343) (by decide +kernel)⟩
theorem lw_p10 : lw_okq (⟨"CommonBases", "commonBound", "(I)I"⟩, 4) := ⟨⟨by decide +kernel, by decide +kernel⟩, List.mem_of_getElem? (i := 14) (by decide +kernel), List.mem_of_getElem? (i := 358) (by decide +kernel), List.mem_of_getElem? (i := 359) (by decide +kernel)⟩
theorem lw_p11 : lw_okq (⟨"CommonBases", "jointBound", "(I)I"⟩, 4) := ⟨⟨by decide +kernel, by decide +kernel⟩, List.mem_of_getElem? (i := 14) (by decide +kernel), List.mem_of_getElem? (i := 370) (by decide +kernel), List.mem_of_getElem? (i := 371) (by decide +kernel)⟩
theorem lw_p12 : lw_okq (⟨"CommonBasesModel", "become", "(II)V"⟩, 14) := ⟨⟨by decide +kernel, by decide +kernel⟩, List.mem_of_getElem? (i := 378) (by decide +kernel), List.mem_of_getElem? (i := 438) (by decide +kernel), List.mem_of_getElem? (i := 439) (by decide +kernel)⟩
theorem lw_p13 : lw_okq (⟨"CommonBasesModel", "isElement", "(I)Z"⟩, 14) := ⟨⟨by decide +kernel, by decide +kernel⟩, List.mem_of_getElem? (i := 378) (by decide +kernel), List.mem_of_getElem? (i := 446) (by decide +kernel), List.mem_of_getElem? (i := 447) (by decide +kernel)⟩
theorem lw_p14 : lw_okq (⟨"CommonBasesModel", "isSet", "(I)Z"⟩, 14) := ⟨⟨by decide +kernel, by decide +kernel⟩, List.mem_of_getElem? (i := 378) (by decide +kernel), List.mem_of_getElem? (i := 480) (by decide +kernel), List.mem_of_getElem? (i := 481) (by decide +kernel)⟩
theorem lw_p15 : lw_okq (⟨"CommonBasesModel", "isFree", "(II)Z"⟩, 14) := ⟨⟨by decide +kernel, by decide +kernel⟩, List.mem_of_getElem? (i := 378) (by decide +kernel), List.mem_of_getElem? (i := 484) (by decide +kernel), List.mem_of_getElem? (i := 485) (by decide +kernel)⟩
def lw_privs_1 : List (MethodName × Nat) := [(⟨"CommonBases$Matroid", "become", "(LCommonBases$Kind;)V"⟩, 7), (⟨"CommonBases$Matroid", "forgetRanks", "()V"⟩, 7), (⟨"CommonBases", "isElement", "(I)Z"⟩, 4), (⟨"CommonBases", "isSet", "(I)Z"⟩, 4), (⟨"CommonBases$GraphicKind", "joins", "(II)Z"⟩, 2), (⟨"CommonBases$LinearKind", "addsPivot", "(I)Z"⟩, 4), (⟨"CommonBases$LinearKind", "cancel", "(I)V"⟩, 4), (⟨"CommonBases", "firstInOrder", "(I)I"⟩, 4), (⟨"CommonBases", "isCommon", "(I)Z"⟩, 4), (⟨"CommonBases", "sumOfWeights", "(I)I"⟩, 4), (⟨"CommonBases", "commonBound", "(I)I"⟩, 4), (⟨"CommonBases", "jointBound", "(I)I"⟩, 4), (⟨"CommonBasesModel", "become", "(II)V"⟩, 14), (⟨"CommonBasesModel", "isElement", "(I)Z"⟩, 14), (⟨"CommonBasesModel", "isSet", "(I)Z"⟩, 14), (⟨"CommonBasesModel", "isFree", "(II)Z"⟩, 14)]
theorem lw_r1 : ∀ q ∈ lw_privs_1, lw_okq q := List.forall_mem_cons.mpr ⟨lw_p0, List.forall_mem_cons.mpr ⟨lw_p1, List.forall_mem_cons.mpr ⟨lw_p2, List.forall_mem_cons.mpr ⟨lw_p3, List.forall_mem_cons.mpr ⟨lw_p4, List.forall_mem_cons.mpr ⟨lw_p5, List.forall_mem_cons.mpr ⟨lw_p6, List.forall_mem_cons.mpr ⟨lw_p7, List.forall_mem_cons.mpr ⟨lw_p8, List.forall_mem_cons.mpr ⟨lw_p9, List.forall_mem_cons.mpr ⟨lw_p10, List.forall_mem_cons.mpr ⟨lw_p11, List.forall_mem_cons.mpr ⟨lw_p12, List.forall_mem_cons.mpr ⟨lw_p13, List.forall_mem_cons.mpr ⟨lw_p14, List.forall_mem_cons.mpr ⟨lw_p15, fun _ h => absurd h List.not_mem_nil⟩⟩⟩⟩⟩⟩⟩⟩⟩⟩⟩⟩⟩⟩⟩⟩
theorem lw_p16 : lw_okq (⟨"CommonBasesModel", "noRing", "(II)Z"⟩, 14) := ⟨⟨by decide +kernel, by decide +kernel⟩, List.mem_of_getElem? (i := 378) (by decide +kernel), List.mem_of_getElem? (i := 491) (by decide +kernel), List.mem_of_getElem? (i := 492) (by decide +kernel)⟩
theorem lw_p17 : lw_okq (⟨"CommonBasesModel", "underCaps", "(II)Z"⟩, 14) := ⟨⟨by decide +kernel, by decide +kernel⟩, List.mem_of_getElem? (i := 378) (by decide +kernel), List.mem_of_getElem? (i := 495) (by decide +kernel), List.mem_of_getElem? (i := 496) (by decide +kernel)⟩
theorem lw_p18 : lw_okq (⟨"CommonBasesModel", "freeColumns", "(II)Z"⟩, 14) := ⟨⟨by decide +kernel, by decide +kernel⟩, List.mem_of_getElem? (i := 378) (by decide +kernel), List.mem_of_getElem? (i := 499) (by decide +kernel), List.mem_of_getElem? (i := 500) (by decide +kernel)⟩
theorem lw_p19 : lw_okq (⟨"CommonBasesModel", "join", "(II)V"⟩, 14) := ⟨⟨by decide +kernel, by decide +kernel⟩, List.mem_of_getElem? (i := 378) (by decide +kernel), List.mem_of_getElem? (i := 503) (by decide +kernel), List.mem_of_getElem? (i := 504) (by decide +kernel)⟩
theorem lw_p20 : lw_okq (⟨"CommonBasesModel", "work", "()V"⟩, 14) := ⟨⟨by decide +kernel, by decide +kernel⟩, List.mem_of_getElem? (i := 378) (by decide +kernel), List.mem_of_getElem? (i := 511) (by decide +kernel), List.mem_of_getElem? (i := 512) (by decide +kernel)⟩
theorem lw_p21 : lw_okq (⟨"CommonBasesModel", "tableFree", "(II)Z"⟩, 14) := ⟨⟨by decide +kernel, by decide +kernel⟩, List.mem_of_getElem? (i := 378) (by decide +kernel), List.mem_of_getElem? (i := 527) (by decide +kernel), List.mem_of_getElem? (i := 528) (by decide +kernel)⟩
theorem lw_p22 : lw_okq (⟨"CommonBasesModel", "heaviness", "(I)I"⟩, 14) := ⟨⟨by decide +kernel, by decide +kernel⟩, List.mem_of_getElem? (i := 378) (by decide +kernel), List.mem_of_getElem? (i := 531) (by decide +kernel), List.mem_of_getElem? (i := 532) (by decide +kernel)⟩
theorem lw_p23 : lw_okq (⟨"CommonBasesModel", "comesFirst", "(II)Z"⟩, 14) := ⟨⟨by decide +kernel, by decide +kernel⟩, List.mem_of_getElem? (i := 378) (by decide +kernel), List.mem_of_getElem? (i := 535) (by decide +kernel), List.mem_of_getElem? (i := 536) (by decide +kernel)⟩
theorem lw_p24 : lw_okq (⟨"CommonBasesModel", "least", "(Z)I"⟩, 14) := ⟨⟨by decide +kernel, by decide +kernel⟩, List.mem_of_getElem? (i := 378) (by decide +kernel), List.mem_of_getElem? (i := 555) (by decide +kernel), List.mem_of_getElem? (i := 556) (by decide +kernel)⟩
theorem lw_p25 : lw_okq (⟨"CommonBasesModel", "isJoint", "(I)Z"⟩, 14) := ⟨⟨by decide +kernel, by decide +kernel⟩, List.mem_of_getElem? (i := 378) (by decide +kernel), List.mem_of_getElem? (i := 563) (by decide +kernel), List.mem_of_getElem? (i := 564) (by decide +kernel)⟩
def lw_privs_2 : List (MethodName × Nat) := [(⟨"CommonBasesModel", "noRing", "(II)Z"⟩, 14), (⟨"CommonBasesModel", "underCaps", "(II)Z"⟩, 14), (⟨"CommonBasesModel", "freeColumns", "(II)Z"⟩, 14), (⟨"CommonBasesModel", "join", "(II)V"⟩, 14), (⟨"CommonBasesModel", "work", "()V"⟩, 14), (⟨"CommonBasesModel", "tableFree", "(II)Z"⟩, 14), (⟨"CommonBasesModel", "heaviness", "(I)I"⟩, 14), (⟨"CommonBasesModel", "comesFirst", "(II)Z"⟩, 14), (⟨"CommonBasesModel", "least", "(Z)I"⟩, 14), (⟨"CommonBasesModel", "isJoint", "(I)Z"⟩, 14)]
theorem lw_r2 : ∀ q ∈ lw_privs_2, lw_okq q := List.forall_mem_cons.mpr ⟨lw_p16, List.forall_mem_cons.mpr ⟨lw_p17, List.forall_mem_cons.mpr ⟨lw_p18, List.forall_mem_cons.mpr ⟨lw_p19, List.forall_mem_cons.mpr ⟨lw_p20, List.forall_mem_cons.mpr ⟨lw_p21, List.forall_mem_cons.mpr ⟨lw_p22, List.forall_mem_cons.mpr ⟨lw_p23, List.forall_mem_cons.mpr ⟨lw_p24, List.forall_mem_cons.mpr ⟨lw_p25, fun _ h => absurd h List.not_mem_nil⟩⟩⟩⟩⟩⟩⟩⟩⟩⟩
def lw_privs : List (MethodName × Nat) := lw_privs_1 ++ (lw_privs_2)
def lw_tbl : List Cond := k2_sels lw_privs ++ tables_1
theorem lw_privs_ok : ∀ q ∈ lw_privs, lw_okq q := by
  show ∀ q ∈ lw_privs_1 ++ (lw_privs_2), lw_okq q
  exact List.forall_mem_append.mpr ⟨lw_r1, lw_r2⟩
end
section
/-! Names: by program (wip/whole/names.py) out of the claim's own tables. -/
abbrev nr_CB : String := "CommonBases"
abbrev nr_MA : String := "CommonBases$Matroid"
abbrev nr_KI : String := "CommonBases$Kind"
abbrev nr_UK : String := "CommonBases$UniformKind"
abbrev nr_GK : String := "CommonBases$GraphicKind"
abbrev nr_CK : String := "CommonBases$ClassesKind"
abbrev nr_LK : String := "CommonBases$LinearKind"
abbrev nr_CM : String := "CommonBasesModel"
abbrev nr_IN : String := "java/lang/Integer"
abbrev nr_MT : String := "java/lang/Math"
abbrev nr_SY : String := "java/lang/System"
abbrev nr_AR : String := "java/util/Arrays"
abbrev nr_LA : String := "CommonBasesLaw"
def nt_CB : u_T := fun k => match k with
  | 0 => ("CommonBases", "n", "I", true)
  | 1 => ("CommonBases", "all", "I", true)
  | 2 => ("CommonBases", "weights", "[I", true)
  | _ => ("CommonBases", "matroids", "[LCommonBases$Matroid;", true)
def nu_CB : Nat → FieldType := fun k => match k with
  | 0 => .int
  | 1 => .int
  | 2 => .array .int
  | _ => .array (.object "CommonBases$Matroid")
theorem nn_CB : ∀ a, a < 4 → ∀ b, b < 4 → a ≠ b → (nt_CB a).2.1 ≠ (nt_CB b).2.1 := by decide +kernel
theorem no_CB : ∀ k, k < 4 → parseFieldDescriptor (nt_CB k).2.2.1 = some (nu_CB k) := by decide +kernel
def nt_MA : u_T := fun k => match k with
  | 0 => ("CommonBases$Matroid", "uniformKind", "LCommonBases$UniformKind;", true)
  | 1 => ("CommonBases$Matroid", "graphicKind", "LCommonBases$GraphicKind;", true)
  | 2 => ("CommonBases$Matroid", "classesKind", "LCommonBases$ClassesKind;", true)
  | 3 => ("CommonBases$Matroid", "linearKind", "LCommonBases$LinearKind;", true)
  | 4 => ("CommonBases$Matroid", "ranks", "[I", true)
  | 5 => ("CommonBases$Matroid", "anyRankKept", "Z", false)
  | _ => ("CommonBases$Matroid", "kind", "LCommonBases$Kind;", false)
def nu_MA : Nat → FieldType := fun k => match k with
  | 0 => .object "CommonBases$UniformKind"
  | 1 => .object "CommonBases$GraphicKind"
  | 2 => .object "CommonBases$ClassesKind"
  | 3 => .object "CommonBases$LinearKind"
  | 4 => .array .int
  | 5 => .boolean
  | _ => .object "CommonBases$Kind"
theorem nn_MA : ∀ a, a < 7 → ∀ b, b < 7 → a ≠ b → (nt_MA a).2.1 ≠ (nt_MA b).2.1 := by decide +kernel
theorem no_MA : ∀ k, k < 7 → parseFieldDescriptor (nt_MA k).2.2.1 = some (nu_MA k) := by decide +kernel
def nt_UK : u_T := fun k => match k with
  | _ => ("CommonBases$UniformKind", "most", "I", false)
def nu_UK : Nat → FieldType := fun k => match k with
  | _ => .int
theorem nn_UK : ∀ a, a < 1 → ∀ b, b < 1 → a ≠ b → (nt_UK a).2.1 ≠ (nt_UK b).2.1 := by decide +kernel
theorem no_UK : ∀ k, k < 1 → parseFieldDescriptor (nt_UK k).2.2.1 = some (nu_UK k) := by decide +kernel
def nt_GK : u_T := fun k => match k with
  | 0 => ("CommonBases$GraphicKind", "ends", "[[I", true)
  | _ => ("CommonBases$GraphicKind", "groupOf", "[I", true)
def nu_GK : Nat → FieldType := fun k => match k with
  | 0 => .array (.array .int)
  | _ => .array .int
theorem nn_GK : ∀ a, a < 2 → ∀ b, b < 2 → a ≠ b → (nt_GK a).2.1 ≠ (nt_GK b).2.1 := by decide +kernel
theorem no_GK : ∀ k, k < 2 → parseFieldDescriptor (nt_GK k).2.2.1 = some (nu_GK k) := by decide +kernel
def nt_CK : u_T := fun k => match k with
  | 0 => ("CommonBases$ClassesKind", "classOf", "[I", true)
  | 1 => ("CommonBases$ClassesKind", "caps", "[I", true)
  | _ => ("CommonBases$ClassesKind", "counts", "[I", true)
def nu_CK : Nat → FieldType := fun k => match k with
  | 0 => .array .int
  | 1 => .array .int
  | _ => .array .int
theorem nn_CK : ∀ a, a < 3 → ∀ b, b < 3 → a ≠ b → (nt_CK a).2.1 ≠ (nt_CK b).2.1 := by decide +kernel
theorem no_CK : ∀ k, k < 3 → parseFieldDescriptor (nt_CK k).2.2.1 = some (nu_CK k) := by decide +kernel
def nt_LK : u_T := fun k => match k with
  | 0 => ("CommonBases$LinearKind", "columns", "[[I", true)
  | 1 => ("CommonBases$LinearKind", "pivots", "[[I", true)
  | 2 => ("CommonBases$LinearKind", "rest", "[I", true)
  | _ => ("CommonBases$LinearKind", "modulus", "I", false)
def nu_LK : Nat → FieldType := fun k => match k with
  | 0 => .array (.array .int)
  | 1 => .array (.array .int)
  | 2 => .array .int
  | _ => .int
theorem nn_LK : ∀ a, a < 4 → ∀ b, b < 4 → a ≠ b → (nt_LK a).2.1 ≠ (nt_LK b).2.1 := by decide +kernel
theorem no_LK : ∀ k, k < 4 → parseFieldDescriptor (nt_LK k).2.2.1 = some (nu_LK k) := by decide +kernel
def nt_CM : u_T := fun k => match k with
  | 0 => ("CommonBasesModel", "n", "I", false)
  | 1 => ("CommonBasesModel", "weights", "[I", false)
  | 2 => ("CommonBasesModel", "kind", "[I", false)
  | 3 => ("CommonBasesModel", "most", "[I", false)
  | 4 => ("CommonBasesModel", "modulus", "[I", false)
  | 5 => ("CommonBasesModel", "from", "[I", false)
  | 6 => ("CommonBasesModel", "to", "[I", false)
  | 7 => ("CommonBasesModel", "classOf", "[I", false)
  | 8 => ("CommonBasesModel", "caps", "[I", false)
  | 9 => ("CommonBasesModel", "number", "[I", false)
  | 10 => ("CommonBasesModel", "degree", "[I", false)
  | 11 => ("CommonBasesModel", "minor", "[I", false)
  | 12 => ("CommonBasesModel", "next", "[I", false)
  | _ => ("CommonBasesModel", "ranks", "[I", false)
def nu_CM : Nat → FieldType := fun k => match k with
  | 0 => .int
  | 1 => .array .int
  | 2 => .array .int
  | 3 => .array .int
  | 4 => .array .int
  | 5 => .array .int
  | 6 => .array .int
  | 7 => .array .int
  | 8 => .array .int
  | 9 => .array .int
  | 10 => .array .int
  | 11 => .array .int
  | 12 => .array .int
  | _ => .array .int
theorem nn_CM : ∀ a, a < 14 → ∀ b, b < 14 → a ≠ b → (nt_CM a).2.1 ≠ (nt_CM b).2.1 := by decide +kernel
theorem no_CM : ∀ k, k < 14 → parseFieldDescriptor (nt_CM k).2.2.1 = some (nu_CM k) := by decide +kernel
abbrev cl_all : List vw_C := [(nr_CB, nt_CB, 4), (nr_MA, nt_MA, 7), (nr_UK, nt_UK, 1), (nr_GK, nt_GK, 2), (nr_CK, nt_CK, 3), (nr_LK, nt_LK, 4), (nr_CM, nt_CM, 14)]
abbrev nc_CB_init : ByteArray := prog_1_method_1_code
def ny_CB_init : MethodName := ⟨nr_CB, "<init>", "(I)V"⟩
abbrev nc_MA_init : ByteArray := prog_6_method_1_code
def ny_MA_init : MethodName := ⟨nr_MA, "<init>", "(I)V"⟩
abbrev nc_UK_init : ByteArray := prog_7_method_1_code
def ny_UK_init : MethodName := ⟨nr_UK, "<init>", "()V"⟩
abbrev nc_KI_init : ByteArray := prog_4_method_1_code
def ny_KI_init : MethodName := ⟨nr_KI, "<init>", "()V"⟩
abbrev nc_GK_init : ByteArray := prog_3_method_1_code
def ny_GK_init : MethodName := ⟨nr_GK, "<init>", "(I)V"⟩
abbrev nc_CK_init : ByteArray := prog_2_method_1_code
def ny_CK_init : MethodName := ⟨nr_CK, "<init>", "(I)V"⟩
abbrev nc_LK_init : ByteArray := prog_5_method_1_code
def ny_LK_init : MethodName := ⟨nr_LK, "<init>", "(I)V"⟩
abbrev nc_AR_fill : ByteArray := prog_13_method_103_code
def ny_AR_fill : MethodName := ⟨nr_AR, "fill", "([II)V"⟩
abbrev nc_CB_uniform : ByteArray := prog_1_method_2_code
def ny_CB_uniform : MethodName := ⟨nr_CB, "uniform", "(II)Z"⟩
abbrev nc_CB_isMatroid : ByteArray := prog_1_method_29_code
def ny_CB_isMatroid : MethodName := ⟨nr_CB, "isMatroid", "(I)Z"⟩
abbrev nc_CB_isUpTo : ByteArray := prog_1_method_31_code
def ny_CB_isUpTo : MethodName := ⟨nr_CB, "isUpTo", "(II)Z"⟩
abbrev nc_MA_becomeUniform : ByteArray := prog_6_method_2_code
def ny_MA_becomeUniform : MethodName := ⟨nr_MA, "becomeUniform", "(I)V"⟩
abbrev nc_MA_become : ByteArray := prog_6_method_12_code
def ny_MA_become : MethodName := ⟨nr_MA, "become", "(LCommonBases$Kind;)V"⟩
abbrev nc_MA_forgetRanks : ByteArray := prog_6_method_13_code
def ny_MA_forgetRanks : MethodName := ⟨nr_MA, "forgetRanks", "()V"⟩
abbrev nc_CB_graphic : ByteArray := prog_1_method_3_code
def ny_CB_graphic : MethodName := ⟨nr_CB, "graphic", "(I)Z"⟩
abbrev nc_MA_becomeGraphic : ByteArray := prog_6_method_3_code
def ny_MA_becomeGraphic : MethodName := ⟨nr_MA, "becomeGraphic", "()V"⟩
abbrev nc_GK_clear : ByteArray := prog_3_method_2_code
def ny_GK_clear : MethodName := ⟨nr_GK, "clear", "()V"⟩
abbrev nc_CB_edge : ByteArray := prog_1_method_4_code
def ny_CB_edge : MethodName := ⟨nr_CB, "edge", "(IIII)Z"⟩
abbrev nc_CB_isElement : ByteArray := prog_1_method_27_code
def ny_CB_isElement : MethodName := ⟨nr_CB, "isElement", "(I)Z"⟩
abbrev nc_MA_setEdge : ByteArray := prog_6_method_6_code
def ny_MA_setEdge : MethodName := ⟨nr_MA, "setEdge", "(III)Z"⟩
abbrev nc_CB_classes : ByteArray := prog_1_method_5_code
def ny_CB_classes : MethodName := ⟨nr_CB, "classes", "(I)Z"⟩
abbrev nc_MA_becomeClasses : ByteArray := prog_6_method_4_code
def ny_MA_becomeClasses : MethodName := ⟨nr_MA, "becomeClasses", "()V"⟩
abbrev nc_CK_clear : ByteArray := prog_2_method_2_code
def ny_CK_clear : MethodName := ⟨nr_CK, "clear", "()V"⟩
abbrev nc_CB_part : ByteArray := prog_1_method_6_code
def ny_CB_part : MethodName := ⟨nr_CB, "part", "(III)Z"⟩
abbrev nc_MA_setClass : ByteArray := prog_6_method_7_code
def ny_MA_setClass : MethodName := ⟨nr_MA, "setClass", "(II)Z"⟩
abbrev nc_CB_cap : ByteArray := prog_1_method_7_code
def ny_CB_cap : MethodName := ⟨nr_CB, "cap", "(III)Z"⟩
abbrev nc_MA_setCap : ByteArray := prog_6_method_8_code
def ny_MA_setCap : MethodName := ⟨nr_MA, "setCap", "(II)Z"⟩
abbrev nc_CB_linear : ByteArray := prog_1_method_8_code
def ny_CB_linear : MethodName := ⟨nr_CB, "linear", "(II)Z"⟩
abbrev nc_CB_isModulus : ByteArray := prog_1_method_30_code
def ny_CB_isModulus : MethodName := ⟨nr_CB, "isModulus", "(I)Z"⟩
abbrev nc_MA_becomeLinear : ByteArray := prog_6_method_5_code
def ny_MA_becomeLinear : MethodName := ⟨nr_MA, "becomeLinear", "(I)V"⟩
abbrev nc_LK_clear : ByteArray := prog_5_method_2_code
def ny_LK_clear : MethodName := ⟨nr_LK, "clear", "(I)V"⟩
abbrev nc_CB_entry : ByteArray := prog_1_method_9_code
def ny_CB_entry : MethodName := ⟨nr_CB, "entry", "(IIII)Z"⟩
abbrev nc_MA_setEntry : ByteArray := prog_6_method_9_code
def ny_MA_setEntry : MethodName := ⟨nr_MA, "setEntry", "(III)Z"⟩
abbrev nc_LK_setNumber : ByteArray := prog_5_method_3_code
def ny_LK_setNumber : MethodName := ⟨nr_LK, "setNumber", "(III)V"⟩
abbrev nc_MT_floorMod : ByteArray := prog_11_method_50_code
def ny_MT_floorMod : MethodName := ⟨nr_MT, "floorMod", "(II)I"⟩
abbrev nc_CB_weight : ByteArray := prog_1_method_10_code
def ny_CB_weight : MethodName := ⟨nr_CB, "weight", "(II)Z"⟩
abbrev nc_CB_independent : ByteArray := prog_1_method_11_code
def ny_CB_independent : MethodName := ⟨nr_CB, "independent", "(II)I"⟩
abbrev nc_CB_isSet : ByteArray := prog_1_method_28_code
def ny_CB_isSet : MethodName := ⟨nr_CB, "isSet", "(I)Z"⟩
abbrev nc_MA_isIndependent : ByteArray := prog_6_method_10_code
def ny_MA_isIndependent : MethodName := ⟨nr_MA, "isIndependent", "(I)Z"⟩
abbrev nc_MA_rankOf : ByteArray := prog_6_method_11_code
def ny_MA_rankOf : MethodName := ⟨nr_MA, "rankOf", "(I)I"⟩
abbrev nc_CK_findRank : ByteArray := prog_2_method_3_code
def ny_CK_findRank : MethodName := ⟨nr_CK, "findRank", "(I)I"⟩
abbrev nc_CB_has : ByteArray := prog_1_method_32_code
def ny_CB_has : MethodName := ⟨nr_CB, "has", "(II)Z"⟩
abbrev nc_MT_min : ByteArray := prog_11_method_69_code
def ny_MT_min : MethodName := ⟨nr_MT, "min", "(II)I"⟩
abbrev nc_GK_findRank : ByteArray := prog_3_method_3_code
def ny_GK_findRank : MethodName := ⟨nr_GK, "findRank", "(I)I"⟩
abbrev nc_GK_joins : ByteArray := prog_3_method_4_code
def ny_GK_joins : MethodName := ⟨nr_GK, "joins", "(II)Z"⟩
abbrev nc_LK_findRank : ByteArray := prog_5_method_4_code
def ny_LK_findRank : MethodName := ⟨nr_LK, "findRank", "(I)I"⟩
abbrev nc_LK_addsPivot : ByteArray := prog_5_method_5_code
def ny_LK_addsPivot : MethodName := ⟨nr_LK, "addsPivot", "(I)Z"⟩
abbrev nc_LK_cancel : ByteArray := prog_5_method_6_code
def ny_LK_cancel : MethodName := ⟨nr_LK, "cancel", "(I)V"⟩
abbrev nc_UK_findRank : ByteArray := prog_7_method_2_code
def ny_UK_findRank : MethodName := ⟨nr_UK, "findRank", "(I)I"⟩
abbrev nc_IN_bitCount : ByteArray := prog_10_method_49_code
def ny_IN_bitCount : MethodName := ⟨nr_IN, "bitCount", "(I)I"⟩
abbrev nc_CB_rank : ByteArray := prog_1_method_12_code
def ny_CB_rank : MethodName := ⟨nr_CB, "rank", "(II)I"⟩
abbrev nc_CB_span : ByteArray := prog_1_method_13_code
def ny_CB_span : MethodName := ⟨nr_CB, "span", "(II)I"⟩
abbrev nc_CB_circuit : ByteArray := prog_1_method_14_code
def ny_CB_circuit : MethodName := ⟨nr_CB, "circuit", "(III)I"⟩
abbrev nc_CB_best : ByteArray := prog_1_method_15_code
def ny_CB_best : MethodName := ⟨nr_CB, "best", "(I)I"⟩
abbrev nc_CB_firstInOrder : ByteArray := prog_1_method_26_code
def ny_CB_firstInOrder : MethodName := ⟨nr_CB, "firstInOrder", "(I)I"⟩
abbrev nc_CB_common : ByteArray := prog_1_method_16_code
def ny_CB_common : MethodName := ⟨nr_CB, "common", "(I)I"⟩
abbrev nc_CB_isCommon : ByteArray := prog_1_method_24_code
def ny_CB_isCommon : MethodName := ⟨nr_CB, "isCommon", "(I)Z"⟩
abbrev nc_CB_sumOfWeights : ByteArray := prog_1_method_25_code
def ny_CB_sumOfWeights : MethodName := ⟨nr_CB, "sumOfWeights", "(I)I"⟩
abbrev nc_CB_weightOf : ByteArray := prog_1_method_17_code
def ny_CB_weightOf : MethodName := ⟨nr_CB, "weightOf", "(I)I"⟩
abbrev nc_CB_largest : ByteArray := prog_1_method_18_code
def ny_CB_largest : MethodName := ⟨nr_CB, "largest", "()I"⟩
abbrev nc_CB_witness : ByteArray := prog_1_method_19_code
def ny_CB_witness : MethodName := ⟨nr_CB, "witness", "()I"⟩
abbrev nc_CB_commonBound : ByteArray := prog_1_method_22_code
def ny_CB_commonBound : MethodName := ⟨nr_CB, "commonBound", "(I)I"⟩
abbrev nc_CB_joint : ByteArray := prog_1_method_20_code
def ny_CB_joint : MethodName := ⟨nr_CB, "joint", "()I"⟩
abbrev nc_CB_jointWitness : ByteArray := prog_1_method_21_code
def ny_CB_jointWitness : MethodName := ⟨nr_CB, "jointWitness", "()I"⟩
abbrev nc_CB_jointBound : ByteArray := prog_1_method_23_code
def ny_CB_jointBound : MethodName := ⟨nr_CB, "jointBound", "(I)I"⟩
abbrev nc_LA_cell : ByteArray := method_2_code
def ny_LA_cell : MethodName := ⟨nr_LA, "cell", "([II)I"⟩
abbrev nc_CM_init : ByteArray := prog_9_method_1_code
def ny_CM_init : MethodName := ⟨nr_CM, "<init>", "(I)V"⟩
abbrev nc_CM_uniform : ByteArray := prog_9_method_6_code
def ny_CM_uniform : MethodName := ⟨nr_CM, "uniform", "(II)Z"⟩
abbrev nc_CM_isWhich : ByteArray := prog_9_method_2_code
def ny_CM_isWhich : MethodName := ⟨nr_CM, "isWhich", "(I)Z"⟩
abbrev nc_CM_graphic : ByteArray := prog_9_method_8_code
def ny_CM_graphic : MethodName := ⟨nr_CM, "graphic", "(I)Z"⟩
abbrev nc_CM_become : ByteArray := prog_9_method_7_code
def ny_CM_become : MethodName := ⟨nr_CM, "become", "(II)V"⟩
abbrev nc_CM_edge : ByteArray := prog_9_method_9_code
def ny_CM_edge : MethodName := ⟨nr_CM, "edge", "(IIII)Z"⟩
abbrev nc_CM_isElement : ByteArray := prog_9_method_3_code
def ny_CM_isElement : MethodName := ⟨nr_CM, "isElement", "(I)Z"⟩
abbrev nc_CM_classes : ByteArray := prog_9_method_10_code
def ny_CM_classes : MethodName := ⟨nr_CM, "classes", "(I)Z"⟩
abbrev nc_CM_part : ByteArray := prog_9_method_11_code
def ny_CM_part : MethodName := ⟨nr_CM, "part", "(III)Z"⟩
abbrev nc_CM_cap : ByteArray := prog_9_method_12_code
def ny_CM_cap : MethodName := ⟨nr_CM, "cap", "(III)Z"⟩
abbrev nc_CM_linear : ByteArray := prog_9_method_13_code
def ny_CM_linear : MethodName := ⟨nr_CM, "linear", "(II)Z"⟩
abbrev nc_CM_entry : ByteArray := prog_9_method_14_code
def ny_CM_entry : MethodName := ⟨nr_CM, "entry", "(IIII)Z"⟩
abbrev nc_CM_weight : ByteArray := prog_9_method_15_code
def ny_CM_weight : MethodName := ⟨nr_CM, "weight", "(II)Z"⟩
abbrev nc_CM_independent : ByteArray := prog_9_method_23_code
def ny_CM_independent : MethodName := ⟨nr_CM, "independent", "(II)I"⟩
abbrev nc_CM_isSet : ByteArray := prog_9_method_4_code
def ny_CM_isSet : MethodName := ⟨nr_CM, "isSet", "(I)Z"⟩
abbrev nc_CM_isFree : ByteArray := prog_9_method_20_code
def ny_CM_isFree : MethodName := ⟨nr_CM, "isFree", "(II)Z"⟩
abbrev nc_CM_sizeOf : ByteArray := prog_9_method_5_code
def ny_CM_sizeOf : MethodName := ⟨nr_CM, "sizeOf", "(I)I"⟩
abbrev nc_CM_noRing : ByteArray := prog_9_method_16_code
def ny_CM_noRing : MethodName := ⟨nr_CM, "noRing", "(II)Z"⟩
abbrev nc_CM_underCaps : ByteArray := prog_9_method_17_code
def ny_CM_underCaps : MethodName := ⟨nr_CM, "underCaps", "(II)Z"⟩
abbrev nc_CM_freeColumns : ByteArray := prog_9_method_19_code
def ny_CM_freeColumns : MethodName := ⟨nr_CM, "freeColumns", "(II)Z"⟩
abbrev nc_CM_join : ByteArray := prog_9_method_18_code
def ny_CM_join : MethodName := ⟨nr_CM, "join", "(II)V"⟩
abbrev nc_CM_rank : ByteArray := prog_9_method_24_code
def ny_CM_rank : MethodName := ⟨nr_CM, "rank", "(II)I"⟩
abbrev nc_CM_work : ByteArray := prog_9_method_21_code
def ny_CM_work : MethodName := ⟨nr_CM, "work", "()V"⟩
abbrev nc_CM_span : ByteArray := prog_9_method_25_code
def ny_CM_span : MethodName := ⟨nr_CM, "span", "(II)I"⟩
abbrev nc_CM_circuit : ByteArray := prog_9_method_26_code
def ny_CM_circuit : MethodName := ⟨nr_CM, "circuit", "(III)I"⟩
abbrev nc_CM_best : ByteArray := prog_9_method_29_code
def ny_CM_best : MethodName := ⟨nr_CM, "best", "(I)I"⟩
abbrev nc_CM_tableFree : ByteArray := prog_9_method_22_code
def ny_CM_tableFree : MethodName := ⟨nr_CM, "tableFree", "(II)Z"⟩
abbrev nc_CM_heaviness : ByteArray := prog_9_method_27_code
def ny_CM_heaviness : MethodName := ⟨nr_CM, "heaviness", "(I)I"⟩
abbrev nc_CM_comesFirst : ByteArray := prog_9_method_28_code
def ny_CM_comesFirst : MethodName := ⟨nr_CM, "comesFirst", "(II)Z"⟩
abbrev nc_CM_common : ByteArray := prog_9_method_30_code
def ny_CM_common : MethodName := ⟨nr_CM, "common", "(I)I"⟩
abbrev nc_CM_weightOf : ByteArray := prog_9_method_31_code
def ny_CM_weightOf : MethodName := ⟨nr_CM, "weightOf", "(I)I"⟩
abbrev nc_CM_largest : ByteArray := prog_9_method_32_code
def ny_CM_largest : MethodName := ⟨nr_CM, "largest", "()I"⟩
abbrev nc_CM_witness : ByteArray := prog_9_method_34_code
def ny_CM_witness : MethodName := ⟨nr_CM, "witness", "()I"⟩
abbrev nc_CM_least : ByteArray := prog_9_method_33_code
def ny_CM_least : MethodName := ⟨nr_CM, "least", "(Z)I"⟩
abbrev nc_CM_joint : ByteArray := prog_9_method_36_code
def ny_CM_joint : MethodName := ⟨nr_CM, "joint", "()I"⟩
abbrev nc_CM_isJoint : ByteArray := prog_9_method_35_code
def ny_CM_isJoint : MethodName := ⟨nr_CM, "isJoint", "(I)Z"⟩
abbrev nc_CM_jointWitness : ByteArray := prog_9_method_37_code
def ny_CM_jointWitness : MethodName := ⟨nr_CM, "jointWitness", "()I"⟩
def ny_SY_arraycopy : MethodName := ⟨nr_SY, "arraycopy", "(Ljava/lang/Object;ILjava/lang/Object;II)V"⟩
def ny_KI_findRank : MethodName := ⟨nr_KI, "findRank", "(I)I"⟩
def tg_ : List Cond := lw_tbl.filter goodWord
theorem tg_t {w : Cond} (i : Nat) (h : tables_1[i]? = some w) (hg : goodWord w = true) : w ∈ tg_ := List.mem_filter.mpr ⟨List.mem_append_right _ (List.mem_of_getElem? h), hg⟩
theorem tg_p {w : Cond} (i : Nat) (h : (k2_sels lw_privs)[i]? = some w) (hg : goodWord w = true) : w ∈ tg_ := List.mem_filter.mpr ⟨List.mem_append_left _ (List.mem_of_getElem? h), hg⟩
theorem tg_good {w0 w1 : Cond} (h : w1 ∈ tg_) : GoodIn (w0 :: tg_) (w1 :: tg_) := fun w hw => by
  have h1 : w ∈ tg_ := (List.mem_cons.mp hw).elim (fun e => e ▸ h) id
  exact ⟨List.mem_cons_of_mem _ h1, good_of_word (List.mem_filter.mp h1).2⟩
theorem tm_0 : (Cond.initialized "CommonBasesLaw") ∈ tg_ := tg_t 0 (by decide +kernel) (by decide +kernel)
theorem tm_1 : (Cond.initialized "CommonBases") ∈ tg_ := tg_t 1 (by decide +kernel) (by decide +kernel)
theorem tm_2 : (Cond.initialized "CommonBases$Matroid") ∈ tg_ := tg_t 2 (by decide +kernel) (by decide +kernel)
theorem tm_3 : (Cond.initialized "CommonBases$Kind") ∈ tg_ := tg_t 3 (by decide +kernel) (by decide +kernel)
theorem tm_4 : (Cond.initialized "CommonBases$UniformKind") ∈ tg_ := tg_t 4 (by decide +kernel) (by decide +kernel)
theorem tm_5 : (Cond.initialized "CommonBases$GraphicKind") ∈ tg_ := tg_t 5 (by decide +kernel) (by decide +kernel)
theorem tm_6 : (Cond.initialized "CommonBases$ClassesKind") ∈ tg_ := tg_t 6 (by decide +kernel) (by decide +kernel)
theorem tm_7 : (Cond.initialized "CommonBases$LinearKind") ∈ tg_ := tg_t 7 (by decide +kernel) (by decide +kernel)
theorem tm_8 : (Cond.initialized "java/util/Arrays") ∈ tg_ := tg_t 8 (by decide +kernel) (by decide +kernel)
theorem tm_9 : (Cond.initialized "CommonBasesModel") ∈ tg_ := tg_t 9 (by decide +kernel) (by decide +kernel)
theorem tm_10 : (Cond.initialized "java/lang/Math") ∈ tg_ := tg_t 10 (by decide +kernel) (by decide +kernel)
theorem tm_11 : (Cond.initialized "java/lang/System") ∈ tg_ := tg_t 11 (by decide +kernel) (by decide +kernel)
theorem tm_12 : (Cond.initialized "java/lang/Integer") ∈ tg_ := tg_t 12 (by decide +kernel) (by decide +kernel)
theorem tm_13 : (Cond.classLink "CommonBasesLaw" (7) "CommonBases") ∈ tg_ := tg_t 13 (by decide +kernel) (by decide +kernel)
theorem tm_14 : (Cond.instantiable "CommonBases" (4)) ∈ tg_ := tg_t 14 (by decide +kernel) (by decide +kernel)
theorem tm_15 : (Cond.methodLink "CommonBasesLaw" (15) ny_CB_init) ∈ tg_ := tg_t 15 (by decide +kernel) (by decide +kernel)
theorem tm_16 : (Cond.instanceMethod ny_CB_init) ∈ tg_ := tg_t 16 (by decide +kernel) (by decide +kernel)
theorem tm_17 : (Cond.code ny_CB_init nc_CB_init 2 (none)) ∈ tg_ := tg_t 17 (by decide +kernel) (by decide +kernel)
theorem tm_18 : (Cond.methodLink "CommonBases" (1) objectInit) ∈ tg_ := tg_t 18 (by decide +kernel) (by decide +kernel)
theorem tm_19 : (Cond.instanceMethod objectInit) ∈ tg_ := tg_t 19 (by decide +kernel) (by decide +kernel)
theorem tm_20 : (Cond.code objectInit object_method_1_code 1 none) ∈ tg_ := tg_t 20 (by decide +kernel) (by decide +kernel)
theorem tm_21 : (Cond.classLink "CommonBases" (20) "CommonBases$Matroid") ∈ tg_ := tg_t 21 (by decide +kernel) (by decide +kernel)
theorem tm_23 : (Cond.instantiable "CommonBases$Matroid" (7)) ∈ tg_ := tg_t 23 (by decide +kernel) (by decide +kernel)
theorem tm_24 : (Cond.methodLink "CommonBases" (22) ny_MA_init) ∈ tg_ := tg_t 24 (by decide +kernel) (by decide +kernel)
theorem tm_25 : (Cond.instanceMethod ny_MA_init) ∈ tg_ := tg_t 25 (by decide +kernel) (by decide +kernel)
theorem tm_26 : (Cond.code ny_MA_init nc_MA_init 2 (none)) ∈ tg_ := tg_t 26 (by decide +kernel) (by decide +kernel)
theorem tm_27 : (Cond.methodLink "CommonBases$Matroid" (3) objectInit) ∈ tg_ := tg_t 27 (by decide +kernel) (by decide +kernel)
theorem tm_28 : (Cond.classLink "CommonBases$Matroid" (9) "CommonBases$UniformKind") ∈ tg_ := tg_t 28 (by decide +kernel) (by decide +kernel)
theorem tm_29 : (Cond.instantiable "CommonBases$UniformKind" (1)) ∈ tg_ := tg_t 29 (by decide +kernel) (by decide +kernel)
theorem tm_31 : (Cond.instanceMethod ny_UK_init) ∈ tg_ := tg_t 31 (by decide +kernel) (by decide +kernel)
theorem tm_32 : (Cond.code ny_UK_init nc_UK_init 1 (none)) ∈ tg_ := tg_t 32 (by decide +kernel) (by decide +kernel)
theorem tm_34 : (Cond.instanceMethod ny_KI_init) ∈ tg_ := tg_t 34 (by decide +kernel) (by decide +kernel)
theorem tm_35 : (Cond.code ny_KI_init nc_KI_init 1 (none)) ∈ tg_ := tg_t 35 (by decide +kernel) (by decide +kernel)
theorem tm_36 : (Cond.methodLink "CommonBases$Kind" (1) objectInit) ∈ tg_ := tg_t 36 (by decide +kernel) (by decide +kernel)
theorem tm_37 : (Cond.fieldLink "CommonBases$UniformKind" (7) "CommonBases$UniformKind" "most" "I") ∈ tg_ := tg_t 37 (by decide +kernel) (by decide +kernel)
theorem tm_39 : (Cond.lays "CommonBases$UniformKind" "CommonBases$UniformKind" "most" "I") ∈ tg_ := tg_t 39 (by decide +kernel) (by decide +kernel)
theorem tm_42 : (Cond.arrayClass .int) ∈ tg_ := tg_t 42 (by decide +kernel) (by decide +kernel)
theorem tm_43 : (Cond.classLink "CommonBases$Matroid" (18) "CommonBases$GraphicKind") ∈ tg_ := tg_t 43 (by decide +kernel) (by decide +kernel)
theorem tm_44 : (Cond.instantiable "CommonBases$GraphicKind" (2)) ∈ tg_ := tg_t 44 (by decide +kernel) (by decide +kernel)
theorem tm_45 : (Cond.methodLink "CommonBases$Matroid" (20) ny_GK_init) ∈ tg_ := tg_t 45 (by decide +kernel) (by decide +kernel)
theorem tm_46 : (Cond.instanceMethod ny_GK_init) ∈ tg_ := tg_t 46 (by decide +kernel) (by decide +kernel)
theorem tm_47 : (Cond.code ny_GK_init nc_GK_init 2 (none)) ∈ tg_ := tg_t 47 (by decide +kernel) (by decide +kernel)
theorem tm_49 : (Cond.classLink "CommonBases$GraphicKind" (15) "[[I") ∈ tg_ := tg_t 49 (by decide +kernel) (by decide +kernel)
theorem tm_51 : (Cond.fieldLink "CommonBases$GraphicKind" (17) "CommonBases$GraphicKind" "ends" "[[I") ∈ tg_ := tg_t 51 (by decide +kernel) (by decide +kernel)
theorem tm_53 : (Cond.fieldLink "CommonBases$GraphicKind" (9) "CommonBases$GraphicKind" "groupOf" "[I") ∈ tg_ := tg_t 53 (by decide +kernel) (by decide +kernel)
theorem tm_54 : (Cond.laysFinal "CommonBases$GraphicKind" "CommonBases$GraphicKind" "ends" "[[I") ∈ tg_ := tg_t 54 (by decide +kernel) (by decide +kernel)
theorem tm_56 : (Cond.laysFinal "CommonBases$GraphicKind" "CommonBases$GraphicKind" "groupOf" "[I") ∈ tg_ := tg_t 56 (by decide +kernel) (by decide +kernel)
theorem tm_59 : (Cond.classLink "CommonBases$Matroid" (27) "CommonBases$ClassesKind") ∈ tg_ := tg_t 59 (by decide +kernel) (by decide +kernel)
theorem tm_60 : (Cond.instantiable "CommonBases$ClassesKind" (3)) ∈ tg_ := tg_t 60 (by decide +kernel) (by decide +kernel)
theorem tm_61 : (Cond.methodLink "CommonBases$Matroid" (29) ny_CK_init) ∈ tg_ := tg_t 61 (by decide +kernel) (by decide +kernel)
theorem tm_62 : (Cond.instanceMethod ny_CK_init) ∈ tg_ := tg_t 62 (by decide +kernel) (by decide +kernel)
theorem tm_63 : (Cond.code ny_CK_init nc_CK_init 2 (none)) ∈ tg_ := tg_t 63 (by decide +kernel) (by decide +kernel)
theorem tm_65 : (Cond.fieldLink "CommonBases$ClassesKind" (18) "CommonBases$ClassesKind" "classOf" "[I") ∈ tg_ := tg_t 65 (by decide +kernel) (by decide +kernel)
theorem tm_67 : (Cond.fieldLink "CommonBases$ClassesKind" (9) "CommonBases$ClassesKind" "caps" "[I") ∈ tg_ := tg_t 67 (by decide +kernel) (by decide +kernel)
theorem tm_69 : (Cond.fieldLink "CommonBases$ClassesKind" (15) "CommonBases$ClassesKind" "counts" "[I") ∈ tg_ := tg_t 69 (by decide +kernel) (by decide +kernel)
theorem tm_70 : (Cond.laysFinal "CommonBases$ClassesKind" "CommonBases$ClassesKind" "classOf" "[I") ∈ tg_ := tg_t 70 (by decide +kernel) (by decide +kernel)
theorem tm_72 : (Cond.laysFinal "CommonBases$ClassesKind" "CommonBases$ClassesKind" "caps" "[I") ∈ tg_ := tg_t 72 (by decide +kernel) (by decide +kernel)
theorem tm_74 : (Cond.laysFinal "CommonBases$ClassesKind" "CommonBases$ClassesKind" "counts" "[I") ∈ tg_ := tg_t 74 (by decide +kernel) (by decide +kernel)
theorem tm_77 : (Cond.classLink "CommonBases$Matroid" (34) "CommonBases$LinearKind") ∈ tg_ := tg_t 77 (by decide +kernel) (by decide +kernel)
theorem tm_78 : (Cond.instantiable "CommonBases$LinearKind" (4)) ∈ tg_ := tg_t 78 (by decide +kernel) (by decide +kernel)
theorem tm_79 : (Cond.methodLink "CommonBases$Matroid" (36) ny_LK_init) ∈ tg_ := tg_t 79 (by decide +kernel) (by decide +kernel)
theorem tm_80 : (Cond.instanceMethod ny_LK_init) ∈ tg_ := tg_t 80 (by decide +kernel) (by decide +kernel)
theorem tm_81 : (Cond.code ny_LK_init nc_LK_init 2 (none)) ∈ tg_ := tg_t 81 (by decide +kernel) (by decide +kernel)
theorem tm_83 : (Cond.classLink "CommonBases$LinearKind" (9) "[[I") ∈ tg_ := tg_t 83 (by decide +kernel) (by decide +kernel)
theorem tm_84 : (Cond.fieldLink "CommonBases$LinearKind" (24) "CommonBases$LinearKind" "columns" "[[I") ∈ tg_ := tg_t 84 (by decide +kernel) (by decide +kernel)
theorem tm_85 : (Cond.fieldLink "CommonBases$LinearKind" (11) "CommonBases$LinearKind" "pivots" "[[I") ∈ tg_ := tg_t 85 (by decide +kernel) (by decide +kernel)
theorem tm_86 : (Cond.fieldLink "CommonBases$LinearKind" (16) "CommonBases$LinearKind" "rest" "[I") ∈ tg_ := tg_t 86 (by decide +kernel) (by decide +kernel)
theorem tm_87 : (Cond.fieldLink "CommonBases$LinearKind" (20) "CommonBases$LinearKind" "modulus" "I") ∈ tg_ := tg_t 87 (by decide +kernel) (by decide +kernel)
theorem tm_88 : (Cond.laysFinal "CommonBases$LinearKind" "CommonBases$LinearKind" "columns" "[[I") ∈ tg_ := tg_t 88 (by decide +kernel) (by decide +kernel)
theorem tm_90 : (Cond.laysFinal "CommonBases$LinearKind" "CommonBases$LinearKind" "pivots" "[[I") ∈ tg_ := tg_t 90 (by decide +kernel) (by decide +kernel)
theorem tm_92 : (Cond.laysFinal "CommonBases$LinearKind" "CommonBases$LinearKind" "rest" "[I") ∈ tg_ := tg_t 92 (by decide +kernel) (by decide +kernel)
theorem tm_94 : (Cond.lays "CommonBases$LinearKind" "CommonBases$LinearKind" "modulus" "I") ∈ tg_ := tg_t 94 (by decide +kernel) (by decide +kernel)
theorem tm_97 : (Cond.methodLink "CommonBases$Matroid" (45) ny_AR_fill) ∈ tg_ := tg_t 97 (by decide +kernel) (by decide +kernel)
theorem tm_98 : (Cond.static ny_AR_fill) ∈ tg_ := tg_t 98 (by decide +kernel) (by decide +kernel)
theorem tm_99 : (Cond.code ny_AR_fill nc_AR_fill 4 (none)) ∈ tg_ := tg_t 99 (by decide +kernel) (by decide +kernel)
theorem tm_100 : (Cond.fieldLink "CommonBases$Matroid" (12) "CommonBases$Matroid" "uniformKind" "LCommonBases$UniformKind;") ∈ tg_ := tg_t 100 (by decide +kernel) (by decide +kernel)
theorem tm_101 : (Cond.fieldLink "CommonBases$Matroid" (23) "CommonBases$Matroid" "graphicKind" "LCommonBases$GraphicKind;") ∈ tg_ := tg_t 101 (by decide +kernel) (by decide +kernel)
theorem tm_102 : (Cond.fieldLink "CommonBases$Matroid" (30) "CommonBases$Matroid" "classesKind" "LCommonBases$ClassesKind;") ∈ tg_ := tg_t 102 (by decide +kernel) (by decide +kernel)
theorem tm_103 : (Cond.fieldLink "CommonBases$Matroid" (37) "CommonBases$Matroid" "linearKind" "LCommonBases$LinearKind;") ∈ tg_ := tg_t 103 (by decide +kernel) (by decide +kernel)
theorem tm_104 : (Cond.fieldLink "CommonBases$Matroid" (41) "CommonBases$Matroid" "ranks" "[I") ∈ tg_ := tg_t 104 (by decide +kernel) (by decide +kernel)
theorem tm_105 : (Cond.fieldLink "CommonBases$Matroid" (100) "CommonBases$Matroid" "anyRankKept" "Z") ∈ tg_ := tg_t 105 (by decide +kernel) (by decide +kernel)
theorem tm_106 : (Cond.fieldLink "CommonBases$Matroid" (51) "CommonBases$Matroid" "kind" "LCommonBases$Kind;") ∈ tg_ := tg_t 106 (by decide +kernel) (by decide +kernel)
theorem tm_107 : (Cond.laysFinal "CommonBases$Matroid" "CommonBases$Matroid" "uniformKind" "LCommonBases$UniformKind;") ∈ tg_ := tg_t 107 (by decide +kernel) (by decide +kernel)
theorem tm_109 : (Cond.laysFinal "CommonBases$Matroid" "CommonBases$Matroid" "graphicKind" "LCommonBases$GraphicKind;") ∈ tg_ := tg_t 109 (by decide +kernel) (by decide +kernel)
theorem tm_111 : (Cond.laysFinal "CommonBases$Matroid" "CommonBases$Matroid" "classesKind" "LCommonBases$ClassesKind;") ∈ tg_ := tg_t 111 (by decide +kernel) (by decide +kernel)
theorem tm_113 : (Cond.laysFinal "CommonBases$Matroid" "CommonBases$Matroid" "linearKind" "LCommonBases$LinearKind;") ∈ tg_ := tg_t 113 (by decide +kernel) (by decide +kernel)
theorem tm_115 : (Cond.laysFinal "CommonBases$Matroid" "CommonBases$Matroid" "ranks" "[I") ∈ tg_ := tg_t 115 (by decide +kernel) (by decide +kernel)
theorem tm_117 : (Cond.lays "CommonBases$Matroid" "CommonBases$Matroid" "anyRankKept" "Z") ∈ tg_ := tg_t 117 (by decide +kernel) (by decide +kernel)
theorem tm_119 : (Cond.lays "CommonBases$Matroid" "CommonBases$Matroid" "kind" "LCommonBases$Kind;") ∈ tg_ := tg_t 119 (by decide +kernel) (by decide +kernel)
theorem tm_122 : (Cond.fieldLink "CommonBases" (9) "CommonBases" "n" "I") ∈ tg_ := tg_t 122 (by decide +kernel) (by decide +kernel)
theorem tm_123 : (Cond.fieldLink "CommonBases" (13) "CommonBases" "all" "I") ∈ tg_ := tg_t 123 (by decide +kernel) (by decide +kernel)
theorem tm_124 : (Cond.fieldLink "CommonBases" (16) "CommonBases" "weights" "[I") ∈ tg_ := tg_t 124 (by decide +kernel) (by decide +kernel)
theorem tm_125 : (Cond.fieldLink "CommonBases" (25) "CommonBases" "matroids" "[LCommonBases$Matroid;") ∈ tg_ := tg_t 125 (by decide +kernel) (by decide +kernel)
theorem tm_126 : (Cond.laysFinal "CommonBases" "CommonBases" "n" "I") ∈ tg_ := tg_t 126 (by decide +kernel) (by decide +kernel)
theorem tm_128 : (Cond.laysFinal "CommonBases" "CommonBases" "all" "I") ∈ tg_ := tg_t 128 (by decide +kernel) (by decide +kernel)
theorem tm_130 : (Cond.laysFinal "CommonBases" "CommonBases" "weights" "[I") ∈ tg_ := tg_t 130 (by decide +kernel) (by decide +kernel)
theorem tm_132 : (Cond.laysFinal "CommonBases" "CommonBases" "matroids" "[LCommonBases$Matroid;") ∈ tg_ := tg_t 132 (by decide +kernel) (by decide +kernel)
theorem tm_135 : (Cond.methodLink "CommonBasesLaw" (21) ny_CB_uniform) ∈ tg_ := tg_t 135 (by decide +kernel) (by decide +kernel)
theorem tm_136 : (Cond.instanceMethod ny_CB_uniform) ∈ tg_ := tg_t 136 (by decide +kernel) (by decide +kernel)
theorem tm_137 : (Cond.selects "CommonBases" ny_CB_uniform ny_CB_uniform) ∈ tg_ := tg_t 137 (by decide +kernel) (by decide +kernel)
theorem tm_138 : (Cond.code ny_CB_uniform nc_CB_uniform 3 (some .boolean)) ∈ tg_ := tg_t 138 (by decide +kernel) (by decide +kernel)
theorem tm_139 : (Cond.methodLink "CommonBases" (29) ny_CB_isMatroid) ∈ tg_ := tg_t 139 (by decide +kernel) (by decide +kernel)
theorem tm_140 : (Cond.static ny_CB_isMatroid) ∈ tg_ := tg_t 140 (by decide +kernel) (by decide +kernel)
theorem tm_141 : (Cond.code ny_CB_isMatroid nc_CB_isMatroid 1 (some .boolean)) ∈ tg_ := tg_t 141 (by decide +kernel) (by decide +kernel)
theorem tm_142 : (Cond.methodLink "CommonBases" (33) ny_CB_isUpTo) ∈ tg_ := tg_t 142 (by decide +kernel) (by decide +kernel)
theorem tm_143 : (Cond.static ny_CB_isUpTo) ∈ tg_ := tg_t 143 (by decide +kernel) (by decide +kernel)
theorem tm_144 : (Cond.code ny_CB_isUpTo nc_CB_isUpTo 2 (some .boolean)) ∈ tg_ := tg_t 144 (by decide +kernel) (by decide +kernel)
theorem tm_145 : (Cond.methodLink "CommonBases" (37) ny_MA_becomeUniform) ∈ tg_ := tg_t 145 (by decide +kernel) (by decide +kernel)
theorem tm_146 : (Cond.instanceMethod ny_MA_becomeUniform) ∈ tg_ := tg_t 146 (by decide +kernel) (by decide +kernel)
theorem tm_147 : (Cond.selects "CommonBases$Matroid" ny_MA_becomeUniform ny_MA_becomeUniform) ∈ tg_ := tg_t 147 (by decide +kernel) (by decide +kernel)
theorem tm_148 : (Cond.code ny_MA_becomeUniform nc_MA_becomeUniform 2 (none)) ∈ tg_ := tg_t 148 (by decide +kernel) (by decide +kernel)
theorem tm_149 : (Cond.methodLink "CommonBases$Matroid" (59) ny_MA_become) ∈ tg_ := tg_t 149 (by decide +kernel) (by decide +kernel)
theorem tm_151 : (Cond.instanceMethod ny_MA_become) ∈ tg_ := tg_t 151 (by decide +kernel) (by decide +kernel)
theorem tm_152 : (Cond.code ny_MA_become nc_MA_become 2 (none)) ∈ tg_ := tg_t 152 (by decide +kernel) (by decide +kernel)
theorem tm_153 : (Cond.methodLink "CommonBases$Matroid" (73) ny_MA_forgetRanks) ∈ tg_ := tg_t 153 (by decide +kernel) (by decide +kernel)
theorem tm_155 : (Cond.instanceMethod ny_MA_forgetRanks) ∈ tg_ := tg_t 155 (by decide +kernel) (by decide +kernel)
theorem tm_156 : (Cond.code ny_MA_forgetRanks nc_MA_forgetRanks 1 (none)) ∈ tg_ := tg_t 156 (by decide +kernel) (by decide +kernel)
theorem tm_157 : (Cond.methodLink "CommonBasesLaw" (26) ny_CB_graphic) ∈ tg_ := tg_t 157 (by decide +kernel) (by decide +kernel)
theorem tm_158 : (Cond.instanceMethod ny_CB_graphic) ∈ tg_ := tg_t 158 (by decide +kernel) (by decide +kernel)
theorem tm_159 : (Cond.selects "CommonBases" ny_CB_graphic ny_CB_graphic) ∈ tg_ := tg_t 159 (by decide +kernel) (by decide +kernel)
theorem tm_160 : (Cond.code ny_CB_graphic nc_CB_graphic 2 (some .boolean)) ∈ tg_ := tg_t 160 (by decide +kernel) (by decide +kernel)
theorem tm_161 : (Cond.methodLink "CommonBases" (40) ny_MA_becomeGraphic) ∈ tg_ := tg_t 161 (by decide +kernel) (by decide +kernel)
theorem tm_162 : (Cond.instanceMethod ny_MA_becomeGraphic) ∈ tg_ := tg_t 162 (by decide +kernel) (by decide +kernel)
theorem tm_163 : (Cond.selects "CommonBases$Matroid" ny_MA_becomeGraphic ny_MA_becomeGraphic) ∈ tg_ := tg_t 163 (by decide +kernel) (by decide +kernel)
theorem tm_164 : (Cond.code ny_MA_becomeGraphic nc_MA_becomeGraphic 1 (none)) ∈ tg_ := tg_t 164 (by decide +kernel) (by decide +kernel)
theorem tm_165 : (Cond.methodLink "CommonBases$Matroid" (63) ny_GK_clear) ∈ tg_ := tg_t 165 (by decide +kernel) (by decide +kernel)
theorem tm_166 : (Cond.instanceMethod ny_GK_clear) ∈ tg_ := tg_t 166 (by decide +kernel) (by decide +kernel)
theorem tm_167 : (Cond.selects "CommonBases$GraphicKind" ny_GK_clear ny_GK_clear) ∈ tg_ := tg_t 167 (by decide +kernel) (by decide +kernel)
theorem tm_168 : (Cond.code ny_GK_clear nc_GK_clear 2 (none)) ∈ tg_ := tg_t 168 (by decide +kernel) (by decide +kernel)
theorem tm_169 : (Cond.methodLink "CommonBases$GraphicKind" (20) ny_AR_fill) ∈ tg_ := tg_t 169 (by decide +kernel) (by decide +kernel)
theorem tm_170 : (Cond.methodLink "CommonBasesLaw" (31) ny_CB_edge) ∈ tg_ := tg_t 170 (by decide +kernel) (by decide +kernel)
theorem tm_171 : (Cond.instanceMethod ny_CB_edge) ∈ tg_ := tg_t 171 (by decide +kernel) (by decide +kernel)
theorem tm_172 : (Cond.selects "CommonBases" ny_CB_edge ny_CB_edge) ∈ tg_ := tg_t 172 (by decide +kernel) (by decide +kernel)
theorem tm_173 : (Cond.code ny_CB_edge nc_CB_edge 5 (some .boolean)) ∈ tg_ := tg_t 173 (by decide +kernel) (by decide +kernel)
theorem tm_174 : (Cond.methodLink "CommonBases" (43) ny_CB_isElement) ∈ tg_ := tg_t 174 (by decide +kernel) (by decide +kernel)
theorem tm_176 : (Cond.instanceMethod ny_CB_isElement) ∈ tg_ := tg_t 176 (by decide +kernel) (by decide +kernel)
theorem tm_177 : (Cond.code ny_CB_isElement nc_CB_isElement 2 (some .boolean)) ∈ tg_ := tg_t 177 (by decide +kernel) (by decide +kernel)
theorem tm_178 : (Cond.methodLink "CommonBases" (46) ny_MA_setEdge) ∈ tg_ := tg_t 178 (by decide +kernel) (by decide +kernel)
theorem tm_179 : (Cond.instanceMethod ny_MA_setEdge) ∈ tg_ := tg_t 179 (by decide +kernel) (by decide +kernel)
theorem tm_180 : (Cond.selects "CommonBases$Matroid" ny_MA_setEdge ny_MA_setEdge) ∈ tg_ := tg_t 180 (by decide +kernel) (by decide +kernel)
theorem tm_181 : (Cond.code ny_MA_setEdge nc_MA_setEdge 6 (some .boolean)) ∈ tg_ := tg_t 181 (by decide +kernel) (by decide +kernel)
theorem tm_182 : (Cond.methodLink "CommonBasesLaw" (36) ny_CB_classes) ∈ tg_ := tg_t 182 (by decide +kernel) (by decide +kernel)
theorem tm_183 : (Cond.instanceMethod ny_CB_classes) ∈ tg_ := tg_t 183 (by decide +kernel) (by decide +kernel)
theorem tm_184 : (Cond.selects "CommonBases" ny_CB_classes ny_CB_classes) ∈ tg_ := tg_t 184 (by decide +kernel) (by decide +kernel)
theorem tm_185 : (Cond.code ny_CB_classes nc_CB_classes 2 (some .boolean)) ∈ tg_ := tg_t 185 (by decide +kernel) (by decide +kernel)
theorem tm_186 : (Cond.methodLink "CommonBases" (50) ny_MA_becomeClasses) ∈ tg_ := tg_t 186 (by decide +kernel) (by decide +kernel)
theorem tm_187 : (Cond.instanceMethod ny_MA_becomeClasses) ∈ tg_ := tg_t 187 (by decide +kernel) (by decide +kernel)
theorem tm_188 : (Cond.selects "CommonBases$Matroid" ny_MA_becomeClasses ny_MA_becomeClasses) ∈ tg_ := tg_t 188 (by decide +kernel) (by decide +kernel)
theorem tm_189 : (Cond.code ny_MA_becomeClasses nc_MA_becomeClasses 1 (none)) ∈ tg_ := tg_t 189 (by decide +kernel) (by decide +kernel)
theorem tm_190 : (Cond.methodLink "CommonBases$Matroid" (66) ny_CK_clear) ∈ tg_ := tg_t 190 (by decide +kernel) (by decide +kernel)
theorem tm_191 : (Cond.instanceMethod ny_CK_clear) ∈ tg_ := tg_t 191 (by decide +kernel) (by decide +kernel)
theorem tm_192 : (Cond.selects "CommonBases$ClassesKind" ny_CK_clear ny_CK_clear) ∈ tg_ := tg_t 192 (by decide +kernel) (by decide +kernel)
theorem tm_193 : (Cond.code ny_CK_clear nc_CK_clear 1 (none)) ∈ tg_ := tg_t 193 (by decide +kernel) (by decide +kernel)
theorem tm_194 : (Cond.methodLink "CommonBases$ClassesKind" (21) ny_AR_fill) ∈ tg_ := tg_t 194 (by decide +kernel) (by decide +kernel)
theorem tm_195 : (Cond.methodLink "CommonBasesLaw" (40) ny_CB_part) ∈ tg_ := tg_t 195 (by decide +kernel) (by decide +kernel)
theorem tm_196 : (Cond.instanceMethod ny_CB_part) ∈ tg_ := tg_t 196 (by decide +kernel) (by decide +kernel)
theorem tm_197 : (Cond.selects "CommonBases" ny_CB_part ny_CB_part) ∈ tg_ := tg_t 197 (by decide +kernel) (by decide +kernel)
theorem tm_198 : (Cond.code ny_CB_part nc_CB_part 4 (some .boolean)) ∈ tg_ := tg_t 198 (by decide +kernel) (by decide +kernel)
theorem tm_199 : (Cond.methodLink "CommonBases" (53) ny_MA_setClass) ∈ tg_ := tg_t 199 (by decide +kernel) (by decide +kernel)
theorem tm_200 : (Cond.instanceMethod ny_MA_setClass) ∈ tg_ := tg_t 200 (by decide +kernel) (by decide +kernel)
theorem tm_201 : (Cond.selects "CommonBases$Matroid" ny_MA_setClass ny_MA_setClass) ∈ tg_ := tg_t 201 (by decide +kernel) (by decide +kernel)
theorem tm_202 : (Cond.code ny_MA_setClass nc_MA_setClass 5 (some .boolean)) ∈ tg_ := tg_t 202 (by decide +kernel) (by decide +kernel)
theorem tm_203 : (Cond.methodLink "CommonBasesLaw" (45) ny_CB_cap) ∈ tg_ := tg_t 203 (by decide +kernel) (by decide +kernel)
theorem tm_204 : (Cond.instanceMethod ny_CB_cap) ∈ tg_ := tg_t 204 (by decide +kernel) (by decide +kernel)
theorem tm_205 : (Cond.selects "CommonBases" ny_CB_cap ny_CB_cap) ∈ tg_ := tg_t 205 (by decide +kernel) (by decide +kernel)
theorem tm_206 : (Cond.code ny_CB_cap nc_CB_cap 4 (some .boolean)) ∈ tg_ := tg_t 206 (by decide +kernel) (by decide +kernel)
theorem tm_207 : (Cond.methodLink "CommonBases" (56) ny_MA_setCap) ∈ tg_ := tg_t 207 (by decide +kernel) (by decide +kernel)
theorem tm_208 : (Cond.instanceMethod ny_MA_setCap) ∈ tg_ := tg_t 208 (by decide +kernel) (by decide +kernel)
theorem tm_209 : (Cond.selects "CommonBases$Matroid" ny_MA_setCap ny_MA_setCap) ∈ tg_ := tg_t 209 (by decide +kernel) (by decide +kernel)
theorem tm_210 : (Cond.code ny_MA_setCap nc_MA_setCap 5 (some .boolean)) ∈ tg_ := tg_t 210 (by decide +kernel) (by decide +kernel)
theorem tm_211 : (Cond.methodLink "CommonBasesLaw" (49) ny_CB_linear) ∈ tg_ := tg_t 211 (by decide +kernel) (by decide +kernel)
theorem tm_212 : (Cond.instanceMethod ny_CB_linear) ∈ tg_ := tg_t 212 (by decide +kernel) (by decide +kernel)
theorem tm_213 : (Cond.selects "CommonBases" ny_CB_linear ny_CB_linear) ∈ tg_ := tg_t 213 (by decide +kernel) (by decide +kernel)
theorem tm_214 : (Cond.code ny_CB_linear nc_CB_linear 3 (some .boolean)) ∈ tg_ := tg_t 214 (by decide +kernel) (by decide +kernel)
theorem tm_215 : (Cond.methodLink "CommonBases" (59) ny_CB_isModulus) ∈ tg_ := tg_t 215 (by decide +kernel) (by decide +kernel)
theorem tm_216 : (Cond.static ny_CB_isModulus) ∈ tg_ := tg_t 216 (by decide +kernel) (by decide +kernel)
theorem tm_217 : (Cond.code ny_CB_isModulus nc_CB_isModulus 1 (some .boolean)) ∈ tg_ := tg_t 217 (by decide +kernel) (by decide +kernel)
theorem tm_218 : (Cond.methodLink "CommonBases" (62) ny_MA_becomeLinear) ∈ tg_ := tg_t 218 (by decide +kernel) (by decide +kernel)
theorem tm_219 : (Cond.instanceMethod ny_MA_becomeLinear) ∈ tg_ := tg_t 219 (by decide +kernel) (by decide +kernel)
theorem tm_220 : (Cond.selects "CommonBases$Matroid" ny_MA_becomeLinear ny_MA_becomeLinear) ∈ tg_ := tg_t 220 (by decide +kernel) (by decide +kernel)
theorem tm_221 : (Cond.code ny_MA_becomeLinear nc_MA_becomeLinear 2 (none)) ∈ tg_ := tg_t 221 (by decide +kernel) (by decide +kernel)
theorem tm_222 : (Cond.methodLink "CommonBases$Matroid" (67) ny_LK_clear) ∈ tg_ := tg_t 222 (by decide +kernel) (by decide +kernel)
theorem tm_223 : (Cond.instanceMethod ny_LK_clear) ∈ tg_ := tg_t 223 (by decide +kernel) (by decide +kernel)
theorem tm_224 : (Cond.selects "CommonBases$LinearKind" ny_LK_clear ny_LK_clear) ∈ tg_ := tg_t 224 (by decide +kernel) (by decide +kernel)
theorem tm_225 : (Cond.code ny_LK_clear nc_LK_clear 3 (none)) ∈ tg_ := tg_t 225 (by decide +kernel) (by decide +kernel)
theorem tm_226 : (Cond.methodLink "CommonBases$LinearKind" (27) ny_AR_fill) ∈ tg_ := tg_t 226 (by decide +kernel) (by decide +kernel)
theorem tm_227 : (Cond.methodLink "CommonBasesLaw" (53) ny_CB_entry) ∈ tg_ := tg_t 227 (by decide +kernel) (by decide +kernel)
theorem tm_228 : (Cond.instanceMethod ny_CB_entry) ∈ tg_ := tg_t 228 (by decide +kernel) (by decide +kernel)
theorem tm_229 : (Cond.selects "CommonBases" ny_CB_entry ny_CB_entry) ∈ tg_ := tg_t 229 (by decide +kernel) (by decide +kernel)
theorem tm_230 : (Cond.code ny_CB_entry nc_CB_entry 5 (some .boolean)) ∈ tg_ := tg_t 230 (by decide +kernel) (by decide +kernel)
theorem tm_231 : (Cond.methodLink "CommonBases" (65) ny_MA_setEntry) ∈ tg_ := tg_t 231 (by decide +kernel) (by decide +kernel)
theorem tm_232 : (Cond.instanceMethod ny_MA_setEntry) ∈ tg_ := tg_t 232 (by decide +kernel) (by decide +kernel)
theorem tm_233 : (Cond.selects "CommonBases$Matroid" ny_MA_setEntry ny_MA_setEntry) ∈ tg_ := tg_t 233 (by decide +kernel) (by decide +kernel)
theorem tm_234 : (Cond.code ny_MA_setEntry nc_MA_setEntry 6 (some .boolean)) ∈ tg_ := tg_t 234 (by decide +kernel) (by decide +kernel)
theorem tm_235 : (Cond.methodLink "CommonBases$Matroid" (82) ny_LK_setNumber) ∈ tg_ := tg_t 235 (by decide +kernel) (by decide +kernel)
theorem tm_236 : (Cond.instanceMethod ny_LK_setNumber) ∈ tg_ := tg_t 236 (by decide +kernel) (by decide +kernel)
theorem tm_237 : (Cond.selects "CommonBases$LinearKind" ny_LK_setNumber ny_LK_setNumber) ∈ tg_ := tg_t 237 (by decide +kernel) (by decide +kernel)
theorem tm_238 : (Cond.code ny_LK_setNumber nc_LK_setNumber 4 (none)) ∈ tg_ := tg_t 238 (by decide +kernel) (by decide +kernel)
theorem tm_239 : (Cond.methodLink "CommonBases$LinearKind" (33) ny_MT_floorMod) ∈ tg_ := tg_t 239 (by decide +kernel) (by decide +kernel)
theorem tm_240 : (Cond.static ny_MT_floorMod) ∈ tg_ := tg_t 240 (by decide +kernel) (by decide +kernel)
theorem tm_241 : (Cond.code ny_MT_floorMod nc_MT_floorMod 3 (some .int)) ∈ tg_ := tg_t 241 (by decide +kernel) (by decide +kernel)
theorem tm_242 : (Cond.methodLink "CommonBasesLaw" (57) ny_CB_weight) ∈ tg_ := tg_t 242 (by decide +kernel) (by decide +kernel)
theorem tm_243 : (Cond.instanceMethod ny_CB_weight) ∈ tg_ := tg_t 243 (by decide +kernel) (by decide +kernel)
theorem tm_244 : (Cond.selects "CommonBases" ny_CB_weight ny_CB_weight) ∈ tg_ := tg_t 244 (by decide +kernel) (by decide +kernel)
theorem tm_245 : (Cond.code ny_CB_weight nc_CB_weight 3 (some .boolean)) ∈ tg_ := tg_t 245 (by decide +kernel) (by decide +kernel)
theorem tm_246 : (Cond.constant "CommonBases" (68) (-1000000 : Int32)) ∈ tg_ := tg_t 246 (by decide +kernel) (by decide +kernel)
theorem tm_247 : (Cond.constant "CommonBases" (69) (1000000 : Int32)) ∈ tg_ := tg_t 247 (by decide +kernel) (by decide +kernel)
theorem tm_248 : (Cond.methodLink "CommonBasesLaw" (61) ny_CB_independent) ∈ tg_ := tg_t 248 (by decide +kernel) (by decide +kernel)
theorem tm_249 : (Cond.instanceMethod ny_CB_independent) ∈ tg_ := tg_t 249 (by decide +kernel) (by decide +kernel)
theorem tm_250 : (Cond.selects "CommonBases" ny_CB_independent ny_CB_independent) ∈ tg_ := tg_t 250 (by decide +kernel) (by decide +kernel)
theorem tm_251 : (Cond.code ny_CB_independent nc_CB_independent 3 (some .int)) ∈ tg_ := tg_t 251 (by decide +kernel) (by decide +kernel)
theorem tm_252 : (Cond.methodLink "CommonBases" (70) ny_CB_isSet) ∈ tg_ := tg_t 252 (by decide +kernel) (by decide +kernel)
theorem tm_254 : (Cond.instanceMethod ny_CB_isSet) ∈ tg_ := tg_t 254 (by decide +kernel) (by decide +kernel)
theorem tm_255 : (Cond.code ny_CB_isSet nc_CB_isSet 2 (some .boolean)) ∈ tg_ := tg_t 255 (by decide +kernel) (by decide +kernel)
theorem tm_256 : (Cond.methodLink "CommonBases" (73) ny_MA_isIndependent) ∈ tg_ := tg_t 256 (by decide +kernel) (by decide +kernel)
theorem tm_257 : (Cond.instanceMethod ny_MA_isIndependent) ∈ tg_ := tg_t 257 (by decide +kernel) (by decide +kernel)
theorem tm_258 : (Cond.selects "CommonBases$Matroid" ny_MA_isIndependent ny_MA_isIndependent) ∈ tg_ := tg_t 258 (by decide +kernel) (by decide +kernel)
theorem tm_259 : (Cond.code ny_MA_isIndependent nc_MA_isIndependent 2 (some .boolean)) ∈ tg_ := tg_t 259 (by decide +kernel) (by decide +kernel)
theorem tm_260 : (Cond.methodLink "CommonBases$Matroid" (86) ny_MA_rankOf) ∈ tg_ := tg_t 260 (by decide +kernel) (by decide +kernel)
theorem tm_261 : (Cond.instanceMethod ny_MA_rankOf) ∈ tg_ := tg_t 261 (by decide +kernel) (by decide +kernel)
theorem tm_262 : (Cond.selects "CommonBases$Matroid" ny_MA_rankOf ny_MA_rankOf) ∈ tg_ := tg_t 262 (by decide +kernel) (by decide +kernel)
theorem tm_263 : (Cond.code ny_MA_rankOf nc_MA_rankOf 2 (some .int)) ∈ tg_ := tg_t 263 (by decide +kernel) (by decide +kernel)
theorem tm_264 : (Cond.methodLink "CommonBases$Matroid" (95) ny_KI_findRank) ∈ tg_ := tg_t 264 (by decide +kernel) (by decide +kernel)
theorem tm_267 : (Cond.selects "CommonBases$ClassesKind" ny_KI_findRank ny_CK_findRank) ∈ tg_ := tg_t 267 (by decide +kernel) (by decide +kernel)
theorem tm_268 : (Cond.instanceMethod ny_CK_findRank) ∈ tg_ := tg_t 268 (by decide +kernel) (by decide +kernel)
theorem tm_269 : (Cond.code ny_CK_findRank nc_CK_findRank 4 (some .int)) ∈ tg_ := tg_t 269 (by decide +kernel) (by decide +kernel)
theorem tm_271 : (Cond.static ny_CB_has) ∈ tg_ := tg_t 271 (by decide +kernel) (by decide +kernel)
theorem tm_272 : (Cond.code ny_CB_has nc_CB_has 2 (some .boolean)) ∈ tg_ := tg_t 272 (by decide +kernel) (by decide +kernel)
theorem tm_273 : (Cond.methodLink "CommonBases$ClassesKind" (31) ny_MT_min) ∈ tg_ := tg_t 273 (by decide +kernel) (by decide +kernel)
theorem tm_274 : (Cond.static ny_MT_min) ∈ tg_ := tg_t 274 (by decide +kernel) (by decide +kernel)
theorem tm_275 : (Cond.code ny_MT_min nc_MT_min 2 (some .int)) ∈ tg_ := tg_t 275 (by decide +kernel) (by decide +kernel)
theorem tm_276 : (Cond.selects "CommonBases$GraphicKind" ny_KI_findRank ny_GK_findRank) ∈ tg_ := tg_t 276 (by decide +kernel) (by decide +kernel)
theorem tm_277 : (Cond.instanceMethod ny_GK_findRank) ∈ tg_ := tg_t 277 (by decide +kernel) (by decide +kernel)
theorem tm_278 : (Cond.code ny_GK_findRank nc_GK_findRank 4 (some .int)) ∈ tg_ := tg_t 278 (by decide +kernel) (by decide +kernel)
theorem tm_280 : (Cond.methodLink "CommonBases$GraphicKind" (30) ny_GK_joins) ∈ tg_ := tg_t 280 (by decide +kernel) (by decide +kernel)
theorem tm_282 : (Cond.instanceMethod ny_GK_joins) ∈ tg_ := tg_t 282 (by decide +kernel) (by decide +kernel)
theorem tm_283 : (Cond.code ny_GK_joins nc_GK_joins 4 (some .boolean)) ∈ tg_ := tg_t 283 (by decide +kernel) (by decide +kernel)
theorem tm_284 : (Cond.selects "CommonBases$LinearKind" ny_KI_findRank ny_LK_findRank) ∈ tg_ := tg_t 284 (by decide +kernel) (by decide +kernel)
theorem tm_285 : (Cond.instanceMethod ny_LK_findRank) ∈ tg_ := tg_t 285 (by decide +kernel) (by decide +kernel)
theorem tm_286 : (Cond.code ny_LK_findRank nc_LK_findRank 4 (some .int)) ∈ tg_ := tg_t 286 (by decide +kernel) (by decide +kernel)
theorem tm_288 : (Cond.methodLink "CommonBases$LinearKind" (43) ny_LK_addsPivot) ∈ tg_ := tg_t 288 (by decide +kernel) (by decide +kernel)
theorem tm_290 : (Cond.instanceMethod ny_LK_addsPivot) ∈ tg_ := tg_t 290 (by decide +kernel) (by decide +kernel)
theorem tm_291 : (Cond.code ny_LK_addsPivot nc_LK_addsPivot 3 (some .boolean)) ∈ tg_ := tg_t 291 (by decide +kernel) (by decide +kernel)
theorem tm_292 : (Cond.methodLink "CommonBases$LinearKind" (47) ny_SY_arraycopy) ∈ tg_ := tg_t 292 (by decide +kernel) (by decide +kernel)
theorem tm_293 : (Cond.static ny_SY_arraycopy) ∈ tg_ := tg_t 293 (by decide +kernel) (by decide +kernel)
theorem tm_294 : (Cond.native ny_SY_arraycopy) ∈ tg_ := tg_t 294 (by decide +kernel) (by decide +kernel)
theorem tm_295 : (Cond.methodLink "CommonBases$LinearKind" (53) ny_LK_cancel) ∈ tg_ := tg_t 295 (by decide +kernel) (by decide +kernel)
theorem tm_297 : (Cond.instanceMethod ny_LK_cancel) ∈ tg_ := tg_t 297 (by decide +kernel) (by decide +kernel)
theorem tm_298 : (Cond.code ny_LK_cancel nc_LK_cancel 5 (none)) ∈ tg_ := tg_t 298 (by decide +kernel) (by decide +kernel)
theorem tm_299 : (Cond.selects "CommonBases$UniformKind" ny_KI_findRank ny_UK_findRank) ∈ tg_ := tg_t 299 (by decide +kernel) (by decide +kernel)
theorem tm_300 : (Cond.instanceMethod ny_UK_findRank) ∈ tg_ := tg_t 300 (by decide +kernel) (by decide +kernel)
theorem tm_301 : (Cond.code ny_UK_findRank nc_UK_findRank 2 (some .int)) ∈ tg_ := tg_t 301 (by decide +kernel) (by decide +kernel)
theorem tm_302 : (Cond.methodLink "CommonBases$UniformKind" (13) ny_IN_bitCount) ∈ tg_ := tg_t 302 (by decide +kernel) (by decide +kernel)
theorem tm_303 : (Cond.static ny_IN_bitCount) ∈ tg_ := tg_t 303 (by decide +kernel) (by decide +kernel)
theorem tm_304 : (Cond.code ny_IN_bitCount nc_IN_bitCount 1 (some .int)) ∈ tg_ := tg_t 304 (by decide +kernel) (by decide +kernel)
theorem tm_305 : (Cond.constant "java/lang/Integer" (265) (1431655765 : Int32)) ∈ tg_ := tg_t 305 (by decide +kernel) (by decide +kernel)
theorem tm_306 : (Cond.constant "java/lang/Integer" (266) (858993459 : Int32)) ∈ tg_ := tg_t 306 (by decide +kernel) (by decide +kernel)
theorem tm_307 : (Cond.constant "java/lang/Integer" (267) (252645135 : Int32)) ∈ tg_ := tg_t 307 (by decide +kernel) (by decide +kernel)
theorem tm_308 : (Cond.methodLink "CommonBases$UniformKind" (19) ny_MT_min) ∈ tg_ := tg_t 308 (by decide +kernel) (by decide +kernel)
theorem tm_309 : (Cond.methodLink "CommonBases$Matroid" (90) ny_IN_bitCount) ∈ tg_ := tg_t 309 (by decide +kernel) (by decide +kernel)
theorem tm_310 : (Cond.methodLink "CommonBasesLaw" (66) ny_CB_rank) ∈ tg_ := tg_t 310 (by decide +kernel) (by decide +kernel)
theorem tm_311 : (Cond.instanceMethod ny_CB_rank) ∈ tg_ := tg_t 311 (by decide +kernel) (by decide +kernel)
theorem tm_312 : (Cond.selects "CommonBases" ny_CB_rank ny_CB_rank) ∈ tg_ := tg_t 312 (by decide +kernel) (by decide +kernel)
theorem tm_313 : (Cond.code ny_CB_rank nc_CB_rank 3 (some .int)) ∈ tg_ := tg_t 313 (by decide +kernel) (by decide +kernel)
theorem tm_314 : (Cond.methodLink "CommonBases" (76) ny_MA_rankOf) ∈ tg_ := tg_t 314 (by decide +kernel) (by decide +kernel)
theorem tm_315 : (Cond.methodLink "CommonBasesLaw" (70) ny_CB_span) ∈ tg_ := tg_t 315 (by decide +kernel) (by decide +kernel)
theorem tm_316 : (Cond.instanceMethod ny_CB_span) ∈ tg_ := tg_t 316 (by decide +kernel) (by decide +kernel)
theorem tm_317 : (Cond.selects "CommonBases" ny_CB_span ny_CB_span) ∈ tg_ := tg_t 317 (by decide +kernel) (by decide +kernel)
theorem tm_318 : (Cond.code ny_CB_span nc_CB_span 6 (some .int)) ∈ tg_ := tg_t 318 (by decide +kernel) (by decide +kernel)
theorem tm_319 : (Cond.methodLink "CommonBasesLaw" (74) ny_CB_circuit) ∈ tg_ := tg_t 319 (by decide +kernel) (by decide +kernel)
theorem tm_320 : (Cond.instanceMethod ny_CB_circuit) ∈ tg_ := tg_t 320 (by decide +kernel) (by decide +kernel)
theorem tm_321 : (Cond.selects "CommonBases" ny_CB_circuit ny_CB_circuit) ∈ tg_ := tg_t 321 (by decide +kernel) (by decide +kernel)
theorem tm_322 : (Cond.code ny_CB_circuit nc_CB_circuit 8 (some .int)) ∈ tg_ := tg_t 322 (by decide +kernel) (by decide +kernel)
theorem tm_323 : (Cond.methodLink "CommonBases" (80) ny_CB_has) ∈ tg_ := tg_t 323 (by decide +kernel) (by decide +kernel)
theorem tm_324 : (Cond.methodLink "CommonBasesLaw" (79) ny_CB_best) ∈ tg_ := tg_t 324 (by decide +kernel) (by decide +kernel)
theorem tm_325 : (Cond.instanceMethod ny_CB_best) ∈ tg_ := tg_t 325 (by decide +kernel) (by decide +kernel)
theorem tm_326 : (Cond.selects "CommonBases" ny_CB_best ny_CB_best) ∈ tg_ := tg_t 326 (by decide +kernel) (by decide +kernel)
theorem tm_327 : (Cond.code ny_CB_best nc_CB_best 7 (some .int)) ∈ tg_ := tg_t 327 (by decide +kernel) (by decide +kernel)
theorem tm_328 : (Cond.methodLink "CommonBases" (83) ny_CB_firstInOrder) ∈ tg_ := tg_t 328 (by decide +kernel) (by decide +kernel)
theorem tm_330 : (Cond.instanceMethod ny_CB_firstInOrder) ∈ tg_ := tg_t 330 (by decide +kernel) (by decide +kernel)
theorem tm_331 : (Cond.code ny_CB_firstInOrder nc_CB_firstInOrder 4 (some .int)) ∈ tg_ := tg_t 331 (by decide +kernel) (by decide +kernel)
theorem tm_332 : (Cond.methodLink "CommonBasesLaw" (84) ny_CB_common) ∈ tg_ := tg_t 332 (by decide +kernel) (by decide +kernel)
theorem tm_333 : (Cond.instanceMethod ny_CB_common) ∈ tg_ := tg_t 333 (by decide +kernel) (by decide +kernel)
theorem tm_334 : (Cond.selects "CommonBases" ny_CB_common ny_CB_common) ∈ tg_ := tg_t 334 (by decide +kernel) (by decide +kernel)
theorem tm_335 : (Cond.code ny_CB_common nc_CB_common 6 (some .int)) ∈ tg_ := tg_t 335 (by decide +kernel) (by decide +kernel)
theorem tm_336 : (Cond.methodLink "CommonBases" (86) ny_IN_bitCount) ∈ tg_ := tg_t 336 (by decide +kernel) (by decide +kernel)
theorem tm_337 : (Cond.methodLink "CommonBases" (91) ny_CB_isCommon) ∈ tg_ := tg_t 337 (by decide +kernel) (by decide +kernel)
theorem tm_339 : (Cond.instanceMethod ny_CB_isCommon) ∈ tg_ := tg_t 339 (by decide +kernel) (by decide +kernel)
theorem tm_340 : (Cond.code ny_CB_isCommon nc_CB_isCommon 2 (some .boolean)) ∈ tg_ := tg_t 340 (by decide +kernel) (by decide +kernel)
theorem tm_341 : (Cond.methodLink "CommonBases" (94) ny_CB_sumOfWeights) ∈ tg_ := tg_t 341 (by decide +kernel) (by decide +kernel)
theorem tm_343 : (Cond.instanceMethod ny_CB_sumOfWeights) ∈ tg_ := tg_t 343 (by decide +kernel) (by decide +kernel)
theorem tm_344 : (Cond.code ny_CB_sumOfWeights nc_CB_sumOfWeights 4 (some .int)) ∈ tg_ := tg_t 344 (by decide +kernel) (by decide +kernel)
theorem tm_345 : (Cond.methodLink "CommonBasesLaw" (88) ny_CB_weightOf) ∈ tg_ := tg_t 345 (by decide +kernel) (by decide +kernel)
theorem tm_346 : (Cond.instanceMethod ny_CB_weightOf) ∈ tg_ := tg_t 346 (by decide +kernel) (by decide +kernel)
theorem tm_347 : (Cond.selects "CommonBases" ny_CB_weightOf ny_CB_weightOf) ∈ tg_ := tg_t 347 (by decide +kernel) (by decide +kernel)
theorem tm_348 : (Cond.code ny_CB_weightOf nc_CB_weightOf 2 (some .int)) ∈ tg_ := tg_t 348 (by decide +kernel) (by decide +kernel)
theorem tm_349 : (Cond.methodLink "CommonBasesLaw" (92) ny_CB_largest) ∈ tg_ := tg_t 349 (by decide +kernel) (by decide +kernel)
theorem tm_350 : (Cond.instanceMethod ny_CB_largest) ∈ tg_ := tg_t 350 (by decide +kernel) (by decide +kernel)
theorem tm_351 : (Cond.selects "CommonBases" ny_CB_largest ny_CB_largest) ∈ tg_ := tg_t 351 (by decide +kernel) (by decide +kernel)
theorem tm_352 : (Cond.code ny_CB_largest nc_CB_largest 3 (some .int)) ∈ tg_ := tg_t 352 (by decide +kernel) (by decide +kernel)
theorem tm_353 : (Cond.methodLink "CommonBasesLaw" (97) ny_CB_witness) ∈ tg_ := tg_t 353 (by decide +kernel) (by decide +kernel)
theorem tm_354 : (Cond.instanceMethod ny_CB_witness) ∈ tg_ := tg_t 354 (by decide +kernel) (by decide +kernel)
theorem tm_355 : (Cond.selects "CommonBases" ny_CB_witness ny_CB_witness) ∈ tg_ := tg_t 355 (by decide +kernel) (by decide +kernel)
theorem tm_356 : (Cond.code ny_CB_witness nc_CB_witness 5 (some .int)) ∈ tg_ := tg_t 356 (by decide +kernel) (by decide +kernel)
theorem tm_357 : (Cond.methodLink "CommonBases" (97) ny_CB_commonBound) ∈ tg_ := tg_t 357 (by decide +kernel) (by decide +kernel)
theorem tm_359 : (Cond.instanceMethod ny_CB_commonBound) ∈ tg_ := tg_t 359 (by decide +kernel) (by decide +kernel)
theorem tm_360 : (Cond.code ny_CB_commonBound nc_CB_commonBound 2 (some .int)) ∈ tg_ := tg_t 360 (by decide +kernel) (by decide +kernel)
theorem tm_361 : (Cond.methodLink "CommonBasesLaw" (101) ny_CB_joint) ∈ tg_ := tg_t 361 (by decide +kernel) (by decide +kernel)
theorem tm_362 : (Cond.instanceMethod ny_CB_joint) ∈ tg_ := tg_t 362 (by decide +kernel) (by decide +kernel)
theorem tm_363 : (Cond.selects "CommonBases" ny_CB_joint ny_CB_joint) ∈ tg_ := tg_t 363 (by decide +kernel) (by decide +kernel)
theorem tm_364 : (Cond.code ny_CB_joint nc_CB_joint 1 (some .int)) ∈ tg_ := tg_t 364 (by decide +kernel) (by decide +kernel)
theorem tm_365 : (Cond.methodLink "CommonBases" (100) ny_CB_jointWitness) ∈ tg_ := tg_t 365 (by decide +kernel) (by decide +kernel)
theorem tm_366 : (Cond.instanceMethod ny_CB_jointWitness) ∈ tg_ := tg_t 366 (by decide +kernel) (by decide +kernel)
theorem tm_367 : (Cond.selects "CommonBases" ny_CB_jointWitness ny_CB_jointWitness) ∈ tg_ := tg_t 367 (by decide +kernel) (by decide +kernel)
theorem tm_368 : (Cond.code ny_CB_jointWitness nc_CB_jointWitness 5 (some .int)) ∈ tg_ := tg_t 368 (by decide +kernel) (by decide +kernel)
theorem tm_369 : (Cond.methodLink "CommonBases" (104) ny_CB_jointBound) ∈ tg_ := tg_t 369 (by decide +kernel) (by decide +kernel)
theorem tm_371 : (Cond.instanceMethod ny_CB_jointBound) ∈ tg_ := tg_t 371 (by decide +kernel) (by decide +kernel)
theorem tm_372 : (Cond.code ny_CB_jointBound nc_CB_jointBound 2 (some .int)) ∈ tg_ := tg_t 372 (by decide +kernel) (by decide +kernel)
theorem tm_373 : (Cond.methodLink "CommonBasesLaw" (105) ny_CB_jointWitness) ∈ tg_ := tg_t 373 (by decide +kernel) (by decide +kernel)
theorem tm_374 : (Cond.methodLink "CommonBasesLaw" (9) ny_LA_cell) ∈ tg_ := tg_t 374 (by decide +kernel) (by decide +kernel)
theorem tm_375 : (Cond.static ny_LA_cell) ∈ tg_ := tg_t 375 (by decide +kernel) (by decide +kernel)
theorem tm_376 : (Cond.code ny_LA_cell nc_LA_cell 2 (some .int)) ∈ tg_ := tg_t 376 (by decide +kernel) (by decide +kernel)
theorem tm_377 : (Cond.classLink "CommonBasesLaw" (18) "CommonBasesModel") ∈ tg_ := tg_t 377 (by decide +kernel) (by decide +kernel)
theorem tm_378 : (Cond.instantiable "CommonBasesModel" (14)) ∈ tg_ := tg_t 378 (by decide +kernel) (by decide +kernel)
theorem tm_379 : (Cond.methodLink "CommonBasesLaw" (20) ny_CM_init) ∈ tg_ := tg_t 379 (by decide +kernel) (by decide +kernel)
theorem tm_380 : (Cond.instanceMethod ny_CM_init) ∈ tg_ := tg_t 380 (by decide +kernel) (by decide +kernel)
theorem tm_381 : (Cond.code ny_CM_init nc_CM_init 2 (none)) ∈ tg_ := tg_t 381 (by decide +kernel) (by decide +kernel)
theorem tm_382 : (Cond.methodLink "CommonBasesModel" (1) objectInit) ∈ tg_ := tg_t 382 (by decide +kernel) (by decide +kernel)
theorem tm_383 : (Cond.fieldLink "CommonBasesModel" (49) "CommonBasesModel" "n" "I") ∈ tg_ := tg_t 383 (by decide +kernel) (by decide +kernel)
theorem tm_384 : (Cond.fieldLink "CommonBasesModel" (7) "CommonBasesModel" "weights" "[I") ∈ tg_ := tg_t 384 (by decide +kernel) (by decide +kernel)
theorem tm_385 : (Cond.fieldLink "CommonBasesModel" (13) "CommonBasesModel" "kind" "[I") ∈ tg_ := tg_t 385 (by decide +kernel) (by decide +kernel)
theorem tm_386 : (Cond.fieldLink "CommonBasesModel" (16) "CommonBasesModel" "most" "[I") ∈ tg_ := tg_t 386 (by decide +kernel) (by decide +kernel)
theorem tm_387 : (Cond.fieldLink "CommonBasesModel" (19) "CommonBasesModel" "modulus" "[I") ∈ tg_ := tg_t 387 (by decide +kernel) (by decide +kernel)
theorem tm_388 : (Cond.fieldLink "CommonBasesModel" (22) "CommonBasesModel" "from" "[I") ∈ tg_ := tg_t 388 (by decide +kernel) (by decide +kernel)
theorem tm_389 : (Cond.fieldLink "CommonBasesModel" (25) "CommonBasesModel" "to" "[I") ∈ tg_ := tg_t 389 (by decide +kernel) (by decide +kernel)
theorem tm_390 : (Cond.fieldLink "CommonBasesModel" (28) "CommonBasesModel" "classOf" "[I") ∈ tg_ := tg_t 390 (by decide +kernel) (by decide +kernel)
theorem tm_391 : (Cond.fieldLink "CommonBasesModel" (31) "CommonBasesModel" "caps" "[I") ∈ tg_ := tg_t 391 (by decide +kernel) (by decide +kernel)
theorem tm_392 : (Cond.fieldLink "CommonBasesModel" (34) "CommonBasesModel" "number" "[I") ∈ tg_ := tg_t 392 (by decide +kernel) (by decide +kernel)
theorem tm_393 : (Cond.fieldLink "CommonBasesModel" (37) "CommonBasesModel" "degree" "[I") ∈ tg_ := tg_t 393 (by decide +kernel) (by decide +kernel)
theorem tm_394 : (Cond.fieldLink "CommonBasesModel" (40) "CommonBasesModel" "minor" "[I") ∈ tg_ := tg_t 394 (by decide +kernel) (by decide +kernel)
theorem tm_395 : (Cond.fieldLink "CommonBasesModel" (43) "CommonBasesModel" "next" "[I") ∈ tg_ := tg_t 395 (by decide +kernel) (by decide +kernel)
theorem tm_396 : (Cond.fieldLink "CommonBasesModel" (46) "CommonBasesModel" "ranks" "[I") ∈ tg_ := tg_t 396 (by decide +kernel) (by decide +kernel)
theorem tm_397 : (Cond.lays "CommonBasesModel" "CommonBasesModel" "n" "I") ∈ tg_ := tg_t 397 (by decide +kernel) (by decide +kernel)
theorem tm_399 : (Cond.lays "CommonBasesModel" "CommonBasesModel" "weights" "[I") ∈ tg_ := tg_t 399 (by decide +kernel) (by decide +kernel)
theorem tm_401 : (Cond.lays "CommonBasesModel" "CommonBasesModel" "kind" "[I") ∈ tg_ := tg_t 401 (by decide +kernel) (by decide +kernel)
theorem tm_403 : (Cond.lays "CommonBasesModel" "CommonBasesModel" "most" "[I") ∈ tg_ := tg_t 403 (by decide +kernel) (by decide +kernel)
theorem tm_405 : (Cond.lays "CommonBasesModel" "CommonBasesModel" "modulus" "[I") ∈ tg_ := tg_t 405 (by decide +kernel) (by decide +kernel)
theorem tm_407 : (Cond.lays "CommonBasesModel" "CommonBasesModel" "from" "[I") ∈ tg_ := tg_t 407 (by decide +kernel) (by decide +kernel)
theorem tm_409 : (Cond.lays "CommonBasesModel" "CommonBasesModel" "to" "[I") ∈ tg_ := tg_t 409 (by decide +kernel) (by decide +kernel)
theorem tm_411 : (Cond.lays "CommonBasesModel" "CommonBasesModel" "classOf" "[I") ∈ tg_ := tg_t 411 (by decide +kernel) (by decide +kernel)
theorem tm_413 : (Cond.lays "CommonBasesModel" "CommonBasesModel" "caps" "[I") ∈ tg_ := tg_t 413 (by decide +kernel) (by decide +kernel)
theorem tm_415 : (Cond.lays "CommonBasesModel" "CommonBasesModel" "number" "[I") ∈ tg_ := tg_t 415 (by decide +kernel) (by decide +kernel)
theorem tm_417 : (Cond.lays "CommonBasesModel" "CommonBasesModel" "degree" "[I") ∈ tg_ := tg_t 417 (by decide +kernel) (by decide +kernel)
theorem tm_419 : (Cond.lays "CommonBasesModel" "CommonBasesModel" "minor" "[I") ∈ tg_ := tg_t 419 (by decide +kernel) (by decide +kernel)
theorem tm_421 : (Cond.lays "CommonBasesModel" "CommonBasesModel" "next" "[I") ∈ tg_ := tg_t 421 (by decide +kernel) (by decide +kernel)
theorem tm_423 : (Cond.lays "CommonBasesModel" "CommonBasesModel" "ranks" "[I") ∈ tg_ := tg_t 423 (by decide +kernel) (by decide +kernel)
theorem tm_426 : (Cond.methodLink "CommonBasesLaw" (25) ny_CM_uniform) ∈ tg_ := tg_t 426 (by decide +kernel) (by decide +kernel)
theorem tm_427 : (Cond.instanceMethod ny_CM_uniform) ∈ tg_ := tg_t 427 (by decide +kernel) (by decide +kernel)
theorem tm_428 : (Cond.selects "CommonBasesModel" ny_CM_uniform ny_CM_uniform) ∈ tg_ := tg_t 428 (by decide +kernel) (by decide +kernel)
theorem tm_429 : (Cond.code ny_CM_uniform nc_CM_uniform 3 (some .boolean)) ∈ tg_ := tg_t 429 (by decide +kernel) (by decide +kernel)
theorem tm_430 : (Cond.methodLink "CommonBasesModel" (53) ny_CM_isWhich) ∈ tg_ := tg_t 430 (by decide +kernel) (by decide +kernel)
theorem tm_431 : (Cond.static ny_CM_isWhich) ∈ tg_ := tg_t 431 (by decide +kernel) (by decide +kernel)
theorem tm_432 : (Cond.code ny_CM_isWhich nc_CM_isWhich 1 (some .boolean)) ∈ tg_ := tg_t 432 (by decide +kernel) (by decide +kernel)
theorem tm_433 : (Cond.methodLink "CommonBasesLaw" (30) ny_CM_graphic) ∈ tg_ := tg_t 433 (by decide +kernel) (by decide +kernel)
theorem tm_434 : (Cond.instanceMethod ny_CM_graphic) ∈ tg_ := tg_t 434 (by decide +kernel) (by decide +kernel)
theorem tm_435 : (Cond.selects "CommonBasesModel" ny_CM_graphic ny_CM_graphic) ∈ tg_ := tg_t 435 (by decide +kernel) (by decide +kernel)
theorem tm_436 : (Cond.code ny_CM_graphic nc_CM_graphic 2 (some .boolean)) ∈ tg_ := tg_t 436 (by decide +kernel) (by decide +kernel)
theorem tm_437 : (Cond.methodLink "CommonBasesModel" (57) ny_CM_become) ∈ tg_ := tg_t 437 (by decide +kernel) (by decide +kernel)
theorem tm_439 : (Cond.instanceMethod ny_CM_become) ∈ tg_ := tg_t 439 (by decide +kernel) (by decide +kernel)
theorem tm_440 : (Cond.code ny_CM_become nc_CM_become 5 (none)) ∈ tg_ := tg_t 440 (by decide +kernel) (by decide +kernel)
theorem tm_441 : (Cond.methodLink "CommonBasesLaw" (35) ny_CM_edge) ∈ tg_ := tg_t 441 (by decide +kernel) (by decide +kernel)
theorem tm_442 : (Cond.instanceMethod ny_CM_edge) ∈ tg_ := tg_t 442 (by decide +kernel) (by decide +kernel)
theorem tm_443 : (Cond.selects "CommonBasesModel" ny_CM_edge ny_CM_edge) ∈ tg_ := tg_t 443 (by decide +kernel) (by decide +kernel)
theorem tm_444 : (Cond.code ny_CM_edge nc_CM_edge 5 (some .boolean)) ∈ tg_ := tg_t 444 (by decide +kernel) (by decide +kernel)
theorem tm_445 : (Cond.methodLink "CommonBasesModel" (61) ny_CM_isElement) ∈ tg_ := tg_t 445 (by decide +kernel) (by decide +kernel)
theorem tm_447 : (Cond.instanceMethod ny_CM_isElement) ∈ tg_ := tg_t 447 (by decide +kernel) (by decide +kernel)
theorem tm_448 : (Cond.code ny_CM_isElement nc_CM_isElement 2 (some .boolean)) ∈ tg_ := tg_t 448 (by decide +kernel) (by decide +kernel)
theorem tm_449 : (Cond.methodLink "CommonBasesLaw" (39) ny_CM_classes) ∈ tg_ := tg_t 449 (by decide +kernel) (by decide +kernel)
theorem tm_450 : (Cond.instanceMethod ny_CM_classes) ∈ tg_ := tg_t 450 (by decide +kernel) (by decide +kernel)
theorem tm_451 : (Cond.selects "CommonBasesModel" ny_CM_classes ny_CM_classes) ∈ tg_ := tg_t 451 (by decide +kernel) (by decide +kernel)
theorem tm_452 : (Cond.code ny_CM_classes nc_CM_classes 2 (some .boolean)) ∈ tg_ := tg_t 452 (by decide +kernel) (by decide +kernel)
theorem tm_453 : (Cond.methodLink "CommonBasesLaw" (44) ny_CM_part) ∈ tg_ := tg_t 453 (by decide +kernel) (by decide +kernel)
theorem tm_454 : (Cond.instanceMethod ny_CM_part) ∈ tg_ := tg_t 454 (by decide +kernel) (by decide +kernel)
theorem tm_455 : (Cond.selects "CommonBasesModel" ny_CM_part ny_CM_part) ∈ tg_ := tg_t 455 (by decide +kernel) (by decide +kernel)
theorem tm_456 : (Cond.code ny_CM_part nc_CM_part 4 (some .boolean)) ∈ tg_ := tg_t 456 (by decide +kernel) (by decide +kernel)
theorem tm_457 : (Cond.methodLink "CommonBasesLaw" (48) ny_CM_cap) ∈ tg_ := tg_t 457 (by decide +kernel) (by decide +kernel)
theorem tm_458 : (Cond.instanceMethod ny_CM_cap) ∈ tg_ := tg_t 458 (by decide +kernel) (by decide +kernel)
theorem tm_459 : (Cond.selects "CommonBasesModel" ny_CM_cap ny_CM_cap) ∈ tg_ := tg_t 459 (by decide +kernel) (by decide +kernel)
theorem tm_460 : (Cond.code ny_CM_cap nc_CM_cap 4 (some .boolean)) ∈ tg_ := tg_t 460 (by decide +kernel) (by decide +kernel)
theorem tm_461 : (Cond.methodLink "CommonBasesLaw" (52) ny_CM_linear) ∈ tg_ := tg_t 461 (by decide +kernel) (by decide +kernel)
theorem tm_462 : (Cond.instanceMethod ny_CM_linear) ∈ tg_ := tg_t 462 (by decide +kernel) (by decide +kernel)
theorem tm_463 : (Cond.selects "CommonBasesModel" ny_CM_linear ny_CM_linear) ∈ tg_ := tg_t 463 (by decide +kernel) (by decide +kernel)
theorem tm_464 : (Cond.code ny_CM_linear nc_CM_linear 3 (some .boolean)) ∈ tg_ := tg_t 464 (by decide +kernel) (by decide +kernel)
theorem tm_465 : (Cond.methodLink "CommonBasesLaw" (56) ny_CM_entry) ∈ tg_ := tg_t 465 (by decide +kernel) (by decide +kernel)
theorem tm_466 : (Cond.instanceMethod ny_CM_entry) ∈ tg_ := tg_t 466 (by decide +kernel) (by decide +kernel)
theorem tm_467 : (Cond.selects "CommonBasesModel" ny_CM_entry ny_CM_entry) ∈ tg_ := tg_t 467 (by decide +kernel) (by decide +kernel)
theorem tm_468 : (Cond.code ny_CM_entry nc_CM_entry 6 (some .boolean)) ∈ tg_ := tg_t 468 (by decide +kernel) (by decide +kernel)
theorem tm_469 : (Cond.methodLink "CommonBasesLaw" (60) ny_CM_weight) ∈ tg_ := tg_t 469 (by decide +kernel) (by decide +kernel)
theorem tm_470 : (Cond.instanceMethod ny_CM_weight) ∈ tg_ := tg_t 470 (by decide +kernel) (by decide +kernel)
theorem tm_471 : (Cond.selects "CommonBasesModel" ny_CM_weight ny_CM_weight) ∈ tg_ := tg_t 471 (by decide +kernel) (by decide +kernel)
theorem tm_472 : (Cond.code ny_CM_weight nc_CM_weight 3 (some .boolean)) ∈ tg_ := tg_t 472 (by decide +kernel) (by decide +kernel)
theorem tm_473 : (Cond.constant "CommonBasesModel" (64) (-1000000 : Int32)) ∈ tg_ := tg_t 473 (by decide +kernel) (by decide +kernel)
theorem tm_474 : (Cond.constant "CommonBasesModel" (65) (1000000 : Int32)) ∈ tg_ := tg_t 474 (by decide +kernel) (by decide +kernel)
theorem tm_475 : (Cond.methodLink "CommonBasesLaw" (65) ny_CM_independent) ∈ tg_ := tg_t 475 (by decide +kernel) (by decide +kernel)
theorem tm_476 : (Cond.instanceMethod ny_CM_independent) ∈ tg_ := tg_t 476 (by decide +kernel) (by decide +kernel)
theorem tm_477 : (Cond.selects "CommonBasesModel" ny_CM_independent ny_CM_independent) ∈ tg_ := tg_t 477 (by decide +kernel) (by decide +kernel)
theorem tm_478 : (Cond.code ny_CM_independent nc_CM_independent 3 (some .int)) ∈ tg_ := tg_t 478 (by decide +kernel) (by decide +kernel)
theorem tm_479 : (Cond.methodLink "CommonBasesModel" (86) ny_CM_isSet) ∈ tg_ := tg_t 479 (by decide +kernel) (by decide +kernel)
theorem tm_481 : (Cond.instanceMethod ny_CM_isSet) ∈ tg_ := tg_t 481 (by decide +kernel) (by decide +kernel)
theorem tm_482 : (Cond.code ny_CM_isSet nc_CM_isSet 2 (some .boolean)) ∈ tg_ := tg_t 482 (by decide +kernel) (by decide +kernel)
theorem tm_483 : (Cond.methodLink "CommonBasesModel" (83) ny_CM_isFree) ∈ tg_ := tg_t 483 (by decide +kernel) (by decide +kernel)
theorem tm_485 : (Cond.instanceMethod ny_CM_isFree) ∈ tg_ := tg_t 485 (by decide +kernel) (by decide +kernel)
theorem tm_486 : (Cond.code ny_CM_isFree nc_CM_isFree 3 (some .boolean)) ∈ tg_ := tg_t 486 (by decide +kernel) (by decide +kernel)
theorem tm_487 : (Cond.methodLink "CommonBasesModel" (69) ny_CM_sizeOf) ∈ tg_ := tg_t 487 (by decide +kernel) (by decide +kernel)
theorem tm_488 : (Cond.static ny_CM_sizeOf) ∈ tg_ := tg_t 488 (by decide +kernel) (by decide +kernel)
theorem tm_489 : (Cond.code ny_CM_sizeOf nc_CM_sizeOf 3 (some .int)) ∈ tg_ := tg_t 489 (by decide +kernel) (by decide +kernel)
theorem tm_490 : (Cond.methodLink "CommonBasesModel" (73) ny_CM_noRing) ∈ tg_ := tg_t 490 (by decide +kernel) (by decide +kernel)
theorem tm_492 : (Cond.instanceMethod ny_CM_noRing) ∈ tg_ := tg_t 492 (by decide +kernel) (by decide +kernel)
theorem tm_493 : (Cond.code ny_CM_noRing nc_CM_noRing 7 (some .boolean)) ∈ tg_ := tg_t 493 (by decide +kernel) (by decide +kernel)
theorem tm_494 : (Cond.methodLink "CommonBasesModel" (77) ny_CM_underCaps) ∈ tg_ := tg_t 494 (by decide +kernel) (by decide +kernel)
theorem tm_496 : (Cond.instanceMethod ny_CM_underCaps) ∈ tg_ := tg_t 496 (by decide +kernel) (by decide +kernel)
theorem tm_497 : (Cond.code ny_CM_underCaps nc_CM_underCaps 6 (some .boolean)) ∈ tg_ := tg_t 497 (by decide +kernel) (by decide +kernel)
theorem tm_498 : (Cond.methodLink "CommonBasesModel" (80) ny_CM_freeColumns) ∈ tg_ := tg_t 498 (by decide +kernel) (by decide +kernel)
theorem tm_500 : (Cond.instanceMethod ny_CM_freeColumns) ∈ tg_ := tg_t 500 (by decide +kernel) (by decide +kernel)
theorem tm_501 : (Cond.code ny_CM_freeColumns nc_CM_freeColumns 5 (some .boolean)) ∈ tg_ := tg_t 501 (by decide +kernel) (by decide +kernel)
theorem tm_502 : (Cond.methodLink "CommonBasesModel" (66) ny_CM_join) ∈ tg_ := tg_t 502 (by decide +kernel) (by decide +kernel)
theorem tm_504 : (Cond.instanceMethod ny_CM_join) ∈ tg_ := tg_t 504 (by decide +kernel) (by decide +kernel)
theorem tm_505 : (Cond.code ny_CM_join nc_CM_join 8 (none)) ∈ tg_ := tg_t 505 (by decide +kernel) (by decide +kernel)
theorem tm_506 : (Cond.methodLink "CommonBasesLaw" (69) ny_CM_rank) ∈ tg_ := tg_t 506 (by decide +kernel) (by decide +kernel)
theorem tm_507 : (Cond.instanceMethod ny_CM_rank) ∈ tg_ := tg_t 507 (by decide +kernel) (by decide +kernel)
theorem tm_508 : (Cond.selects "CommonBasesModel" ny_CM_rank ny_CM_rank) ∈ tg_ := tg_t 508 (by decide +kernel) (by decide +kernel)
theorem tm_509 : (Cond.code ny_CM_rank nc_CM_rank 3 (some .int)) ∈ tg_ := tg_t 509 (by decide +kernel) (by decide +kernel)
theorem tm_510 : (Cond.methodLink "CommonBasesModel" (89) ny_CM_work) ∈ tg_ := tg_t 510 (by decide +kernel) (by decide +kernel)
theorem tm_512 : (Cond.instanceMethod ny_CM_work) ∈ tg_ := tg_t 512 (by decide +kernel) (by decide +kernel)
theorem tm_513 : (Cond.code ny_CM_work nc_CM_work 6 (none)) ∈ tg_ := tg_t 513 (by decide +kernel) (by decide +kernel)
theorem tm_514 : (Cond.methodLink "CommonBasesLaw" (73) ny_CM_span) ∈ tg_ := tg_t 514 (by decide +kernel) (by decide +kernel)
theorem tm_515 : (Cond.instanceMethod ny_CM_span) ∈ tg_ := tg_t 515 (by decide +kernel) (by decide +kernel)
theorem tm_516 : (Cond.selects "CommonBasesModel" ny_CM_span ny_CM_span) ∈ tg_ := tg_t 516 (by decide +kernel) (by decide +kernel)
theorem tm_517 : (Cond.code ny_CM_span nc_CM_span 5 (some .int)) ∈ tg_ := tg_t 517 (by decide +kernel) (by decide +kernel)
theorem tm_518 : (Cond.methodLink "CommonBasesLaw" (78) ny_CM_circuit) ∈ tg_ := tg_t 518 (by decide +kernel) (by decide +kernel)
theorem tm_519 : (Cond.instanceMethod ny_CM_circuit) ∈ tg_ := tg_t 519 (by decide +kernel) (by decide +kernel)
theorem tm_520 : (Cond.selects "CommonBasesModel" ny_CM_circuit ny_CM_circuit) ∈ tg_ := tg_t 520 (by decide +kernel) (by decide +kernel)
theorem tm_521 : (Cond.code ny_CM_circuit nc_CM_circuit 7 (some .int)) ∈ tg_ := tg_t 521 (by decide +kernel) (by decide +kernel)
theorem tm_522 : (Cond.methodLink "CommonBasesLaw" (83) ny_CM_best) ∈ tg_ := tg_t 522 (by decide +kernel) (by decide +kernel)
theorem tm_523 : (Cond.instanceMethod ny_CM_best) ∈ tg_ := tg_t 523 (by decide +kernel) (by decide +kernel)
theorem tm_524 : (Cond.selects "CommonBasesModel" ny_CM_best ny_CM_best) ∈ tg_ := tg_t 524 (by decide +kernel) (by decide +kernel)
theorem tm_525 : (Cond.code ny_CM_best nc_CM_best 6 (some .int)) ∈ tg_ := tg_t 525 (by decide +kernel) (by decide +kernel)
theorem tm_526 : (Cond.methodLink "CommonBasesModel" (92) ny_CM_tableFree) ∈ tg_ := tg_t 526 (by decide +kernel) (by decide +kernel)
theorem tm_528 : (Cond.instanceMethod ny_CM_tableFree) ∈ tg_ := tg_t 528 (by decide +kernel) (by decide +kernel)
theorem tm_529 : (Cond.code ny_CM_tableFree nc_CM_tableFree 3 (some .boolean)) ∈ tg_ := tg_t 529 (by decide +kernel) (by decide +kernel)
theorem tm_530 : (Cond.methodLink "CommonBasesModel" (95) ny_CM_heaviness) ∈ tg_ := tg_t 530 (by decide +kernel) (by decide +kernel)
theorem tm_532 : (Cond.instanceMethod ny_CM_heaviness) ∈ tg_ := tg_t 532 (by decide +kernel) (by decide +kernel)
theorem tm_533 : (Cond.code ny_CM_heaviness nc_CM_heaviness 4 (some .int)) ∈ tg_ := tg_t 533 (by decide +kernel) (by decide +kernel)
theorem tm_534 : (Cond.methodLink "CommonBasesModel" (98) ny_CM_comesFirst) ∈ tg_ := tg_t 534 (by decide +kernel) (by decide +kernel)
theorem tm_536 : (Cond.instanceMethod ny_CM_comesFirst) ∈ tg_ := tg_t 536 (by decide +kernel) (by decide +kernel)
theorem tm_537 : (Cond.code ny_CM_comesFirst nc_CM_comesFirst 6 (some .boolean)) ∈ tg_ := tg_t 537 (by decide +kernel) (by decide +kernel)
theorem tm_538 : (Cond.methodLink "CommonBasesLaw" (87) ny_CM_common) ∈ tg_ := tg_t 538 (by decide +kernel) (by decide +kernel)
theorem tm_539 : (Cond.instanceMethod ny_CM_common) ∈ tg_ := tg_t 539 (by decide +kernel) (by decide +kernel)
theorem tm_540 : (Cond.selects "CommonBasesModel" ny_CM_common ny_CM_common) ∈ tg_ := tg_t 540 (by decide +kernel) (by decide +kernel)
theorem tm_541 : (Cond.code ny_CM_common nc_CM_common 4 (some .int)) ∈ tg_ := tg_t 541 (by decide +kernel) (by decide +kernel)
theorem tm_542 : (Cond.methodLink "CommonBasesLaw" (91) ny_CM_weightOf) ∈ tg_ := tg_t 542 (by decide +kernel) (by decide +kernel)
theorem tm_543 : (Cond.instanceMethod ny_CM_weightOf) ∈ tg_ := tg_t 543 (by decide +kernel) (by decide +kernel)
theorem tm_544 : (Cond.selects "CommonBasesModel" ny_CM_weightOf ny_CM_weightOf) ∈ tg_ := tg_t 544 (by decide +kernel) (by decide +kernel)
theorem tm_545 : (Cond.code ny_CM_weightOf nc_CM_weightOf 2 (some .int)) ∈ tg_ := tg_t 545 (by decide +kernel) (by decide +kernel)
theorem tm_546 : (Cond.methodLink "CommonBasesLaw" (96) ny_CM_largest) ∈ tg_ := tg_t 546 (by decide +kernel) (by decide +kernel)
theorem tm_547 : (Cond.instanceMethod ny_CM_largest) ∈ tg_ := tg_t 547 (by decide +kernel) (by decide +kernel)
theorem tm_548 : (Cond.selects "CommonBasesModel" ny_CM_largest ny_CM_largest) ∈ tg_ := tg_t 548 (by decide +kernel) (by decide +kernel)
theorem tm_549 : (Cond.code ny_CM_largest nc_CM_largest 3 (some .int)) ∈ tg_ := tg_t 549 (by decide +kernel) (by decide +kernel)
theorem tm_550 : (Cond.methodLink "CommonBasesLaw" (100) ny_CM_witness) ∈ tg_ := tg_t 550 (by decide +kernel) (by decide +kernel)
theorem tm_551 : (Cond.instanceMethod ny_CM_witness) ∈ tg_ := tg_t 551 (by decide +kernel) (by decide +kernel)
theorem tm_552 : (Cond.selects "CommonBasesModel" ny_CM_witness ny_CM_witness) ∈ tg_ := tg_t 552 (by decide +kernel) (by decide +kernel)
theorem tm_553 : (Cond.code ny_CM_witness nc_CM_witness 1 (some .int)) ∈ tg_ := tg_t 553 (by decide +kernel) (by decide +kernel)
theorem tm_554 : (Cond.methodLink "CommonBasesModel" (101) ny_CM_least) ∈ tg_ := tg_t 554 (by decide +kernel) (by decide +kernel)
theorem tm_556 : (Cond.instanceMethod ny_CM_least) ∈ tg_ := tg_t 556 (by decide +kernel) (by decide +kernel)
theorem tm_557 : (Cond.code ny_CM_least nc_CM_least 7 (some .int)) ∈ tg_ := tg_t 557 (by decide +kernel) (by decide +kernel)
theorem tm_558 : (Cond.methodLink "CommonBasesLaw" (104) ny_CM_joint) ∈ tg_ := tg_t 558 (by decide +kernel) (by decide +kernel)
theorem tm_559 : (Cond.instanceMethod ny_CM_joint) ∈ tg_ := tg_t 559 (by decide +kernel) (by decide +kernel)
theorem tm_560 : (Cond.selects "CommonBasesModel" ny_CM_joint ny_CM_joint) ∈ tg_ := tg_t 560 (by decide +kernel) (by decide +kernel)
theorem tm_561 : (Cond.code ny_CM_joint nc_CM_joint 3 (some .int)) ∈ tg_ := tg_t 561 (by decide +kernel) (by decide +kernel)
theorem tm_562 : (Cond.methodLink "CommonBasesModel" (105) ny_CM_isJoint) ∈ tg_ := tg_t 562 (by decide +kernel) (by decide +kernel)
theorem tm_564 : (Cond.instanceMethod ny_CM_isJoint) ∈ tg_ := tg_t 564 (by decide +kernel) (by decide +kernel)
theorem tm_565 : (Cond.code ny_CM_isJoint nc_CM_isJoint 4 (some .boolean)) ∈ tg_ := tg_t 565 (by decide +kernel) (by decide +kernel)
theorem tm_566 : (Cond.methodLink "CommonBasesLaw" (108) ny_CM_jointWitness) ∈ tg_ := tg_t 566 (by decide +kernel) (by decide +kernel)
theorem tm_567 : (Cond.instanceMethod ny_CM_jointWitness) ∈ tg_ := tg_t 567 (by decide +kernel) (by decide +kernel)
theorem tm_568 : (Cond.selects "CommonBasesModel" ny_CM_jointWitness ny_CM_jointWitness) ∈ tg_ := tg_t 568 (by decide +kernel) (by decide +kernel)
theorem tm_569 : (Cond.code ny_CM_jointWitness nc_CM_jointWitness 1 (some .int)) ∈ tg_ := tg_t 569 (by decide +kernel) (by decide +kernel)
theorem tp_0 : Cond.selects nr_MA ny_MA_become ny_MA_become ∈ tg_ := tg_p 0 (by decide +kernel) (by decide +kernel)
theorem tp_1 : Cond.selects nr_MA ny_MA_forgetRanks ny_MA_forgetRanks ∈ tg_ := tg_p 1 (by decide +kernel) (by decide +kernel)
theorem tp_2 : Cond.selects nr_CB ny_CB_isElement ny_CB_isElement ∈ tg_ := tg_p 2 (by decide +kernel) (by decide +kernel)
theorem tp_3 : Cond.selects nr_CB ny_CB_isSet ny_CB_isSet ∈ tg_ := tg_p 3 (by decide +kernel) (by decide +kernel)
theorem tp_4 : Cond.selects nr_GK ny_GK_joins ny_GK_joins ∈ tg_ := tg_p 4 (by decide +kernel) (by decide +kernel)
theorem tp_5 : Cond.selects nr_LK ny_LK_addsPivot ny_LK_addsPivot ∈ tg_ := tg_p 5 (by decide +kernel) (by decide +kernel)
theorem tp_6 : Cond.selects nr_LK ny_LK_cancel ny_LK_cancel ∈ tg_ := tg_p 6 (by decide +kernel) (by decide +kernel)
theorem tp_7 : Cond.selects nr_CB ny_CB_firstInOrder ny_CB_firstInOrder ∈ tg_ := tg_p 7 (by decide +kernel) (by decide +kernel)
theorem tp_8 : Cond.selects nr_CB ny_CB_isCommon ny_CB_isCommon ∈ tg_ := tg_p 8 (by decide +kernel) (by decide +kernel)
theorem tp_9 : Cond.selects nr_CB ny_CB_sumOfWeights ny_CB_sumOfWeights ∈ tg_ := tg_p 9 (by decide +kernel) (by decide +kernel)
theorem tp_10 : Cond.selects nr_CB ny_CB_commonBound ny_CB_commonBound ∈ tg_ := tg_p 10 (by decide +kernel) (by decide +kernel)
theorem tp_11 : Cond.selects nr_CB ny_CB_jointBound ny_CB_jointBound ∈ tg_ := tg_p 11 (by decide +kernel) (by decide +kernel)
theorem tp_12 : Cond.selects nr_CM ny_CM_become ny_CM_become ∈ tg_ := tg_p 12 (by decide +kernel) (by decide +kernel)
theorem tp_13 : Cond.selects nr_CM ny_CM_isElement ny_CM_isElement ∈ tg_ := tg_p 13 (by decide +kernel) (by decide +kernel)
theorem tp_14 : Cond.selects nr_CM ny_CM_isSet ny_CM_isSet ∈ tg_ := tg_p 14 (by decide +kernel) (by decide +kernel)
theorem tp_15 : Cond.selects nr_CM ny_CM_isFree ny_CM_isFree ∈ tg_ := tg_p 15 (by decide +kernel) (by decide +kernel)
theorem tp_16 : Cond.selects nr_CM ny_CM_noRing ny_CM_noRing ∈ tg_ := tg_p 16 (by decide +kernel) (by decide +kernel)
theorem tp_17 : Cond.selects nr_CM ny_CM_underCaps ny_CM_underCaps ∈ tg_ := tg_p 17 (by decide +kernel) (by decide +kernel)
theorem tp_18 : Cond.selects nr_CM ny_CM_freeColumns ny_CM_freeColumns ∈ tg_ := tg_p 18 (by decide +kernel) (by decide +kernel)
theorem tp_19 : Cond.selects nr_CM ny_CM_join ny_CM_join ∈ tg_ := tg_p 19 (by decide +kernel) (by decide +kernel)
theorem tp_20 : Cond.selects nr_CM ny_CM_work ny_CM_work ∈ tg_ := tg_p 20 (by decide +kernel) (by decide +kernel)
theorem tp_21 : Cond.selects nr_CM ny_CM_tableFree ny_CM_tableFree ∈ tg_ := tg_p 21 (by decide +kernel) (by decide +kernel)
theorem tp_22 : Cond.selects nr_CM ny_CM_heaviness ny_CM_heaviness ∈ tg_ := tg_p 22 (by decide +kernel) (by decide +kernel)
theorem tp_23 : Cond.selects nr_CM ny_CM_comesFirst ny_CM_comesFirst ∈ tg_ := tg_p 23 (by decide +kernel) (by decide +kernel)
theorem tp_24 : Cond.selects nr_CM ny_CM_least ny_CM_least ∈ tg_ := tg_p 24 (by decide +kernel) (by decide +kernel)
theorem tp_25 : Cond.selects nr_CM ny_CM_isJoint ny_CM_isJoint ∈ tg_ := tg_p 25 (by decide +kernel) (by decide +kernel)
end
section
/-! What is known of the tables besides the good words; contracts that read, contracts that write; calls. -/
def tn_K (U : State) : Prop := (va_Nw (Cond.methodLinkNest "CommonBases$Matroid" (11) ny_UK_init "CommonBases") U) ∧ (va_Nw (Cond.methodLinkNest "CommonBases$UniformKind" (1) ny_KI_init "CommonBases") U) ∧ (va_Nw (Cond.fieldLinkNest "CommonBases$Matroid" (55) "CommonBases$UniformKind" "most" "I" "CommonBases") U) ∧ (va_Nw (Cond.methodLinkNest "CommonBases$GraphicKind" (3) ny_KI_init "CommonBases") U) ∧ (va_Nw (Cond.fieldLinkNest "CommonBases$Matroid" (69) "CommonBases$GraphicKind" "ends" "[[I" "CommonBases") U) ∧ (va_Nw (Cond.methodLinkNest "CommonBases$ClassesKind" (3) ny_KI_init "CommonBases") U) ∧ (va_Nw (Cond.fieldLinkNest "CommonBases$Matroid" (76) "CommonBases$ClassesKind" "classOf" "[I" "CommonBases") U) ∧ (va_Nw (Cond.fieldLinkNest "CommonBases$Matroid" (79) "CommonBases$ClassesKind" "caps" "[I" "CommonBases") U) ∧ (va_Nw (Cond.methodLinkNest "CommonBases$LinearKind" (3) ny_KI_init "CommonBases") U) ∧ (va_Nw (Cond.declares ny_KI_findRank) U) ∧ (va_Nw (Cond.methodLinkNest "CommonBases$ClassesKind" (27) ny_CB_has "CommonBases") U) ∧ (va_Nw (Cond.methodLinkNest "CommonBases$GraphicKind" (26) ny_CB_has "CommonBases") U) ∧ (va_Nw (Cond.methodLinkNest "CommonBases$LinearKind" (39) ny_CB_has "CommonBases") U) ∧ (va_Nw (Cond.castable "CommonBases$GraphicKind" "CommonBases$GraphicKind") U) ∧ (va_Nw (Cond.castable "CommonBases$ClassesKind" "CommonBases$ClassesKind") U) ∧ (va_Nw (Cond.castable "CommonBases$LinearKind" "CommonBases$LinearKind") U) ∧ (va_Nc nr_UK nr_GK U) ∧ (va_Nc nr_CK nr_GK U) ∧ (va_Nc nr_LK nr_GK U) ∧ (va_Nc nr_UK nr_CK U) ∧ (va_Nc nr_GK nr_CK U) ∧ (va_Nc nr_LK nr_CK U) ∧ (va_Nc nr_UK nr_LK U) ∧ (va_Nc nr_GK nr_LK U) ∧ (va_Nc nr_CK nr_LK U)
theorem tn_30 {U : State} (h : tn_K U) : va_Nw (Cond.methodLinkNest "CommonBases$Matroid" (11) ny_UK_init "CommonBases") U := h.1
theorem tn_33 {U : State} (h : tn_K U) : va_Nw (Cond.methodLinkNest "CommonBases$UniformKind" (1) ny_KI_init "CommonBases") U := h.2.1
theorem tn_38 {U : State} (h : tn_K U) : va_Nw (Cond.fieldLinkNest "CommonBases$Matroid" (55) "CommonBases$UniformKind" "most" "I" "CommonBases") U := h.2.2.1
theorem tn_48 {U : State} (h : tn_K U) : va_Nw (Cond.methodLinkNest "CommonBases$GraphicKind" (3) ny_KI_init "CommonBases") U := h.2.2.2.1
theorem tn_52 {U : State} (h : tn_K U) : va_Nw (Cond.fieldLinkNest "CommonBases$Matroid" (69) "CommonBases$GraphicKind" "ends" "[[I" "CommonBases") U := h.2.2.2.2.1
theorem tn_64 {U : State} (h : tn_K U) : va_Nw (Cond.methodLinkNest "CommonBases$ClassesKind" (3) ny_KI_init "CommonBases") U := h.2.2.2.2.2.1
theorem tn_66 {U : State} (h : tn_K U) : va_Nw (Cond.fieldLinkNest "CommonBases$Matroid" (76) "CommonBases$ClassesKind" "classOf" "[I" "CommonBases") U := h.2.2.2.2.2.2.1
theorem tn_68 {U : State} (h : tn_K U) : va_Nw (Cond.fieldLinkNest "CommonBases$Matroid" (79) "CommonBases$ClassesKind" "caps" "[I" "CommonBases") U := h.2.2.2.2.2.2.2.1
theorem tn_82 {U : State} (h : tn_K U) : va_Nw (Cond.methodLinkNest "CommonBases$LinearKind" (3) ny_KI_init "CommonBases") U := h.2.2.2.2.2.2.2.2.1
theorem tn_265 {U : State} (h : tn_K U) : va_Nw (Cond.declares ny_KI_findRank) U := h.2.2.2.2.2.2.2.2.2.1
theorem tn_270 {U : State} (h : tn_K U) : va_Nw (Cond.methodLinkNest "CommonBases$ClassesKind" (27) ny_CB_has "CommonBases") U := h.2.2.2.2.2.2.2.2.2.2.1
theorem tn_279 {U : State} (h : tn_K U) : va_Nw (Cond.methodLinkNest "CommonBases$GraphicKind" (26) ny_CB_has "CommonBases") U := h.2.2.2.2.2.2.2.2.2.2.2.1
theorem tn_287 {U : State} (h : tn_K U) : va_Nw (Cond.methodLinkNest "CommonBases$LinearKind" (39) ny_CB_has "CommonBases") U := h.2.2.2.2.2.2.2.2.2.2.2.2.1
theorem tn_570 {U : State} (h : tn_K U) : va_Nw (Cond.castable "CommonBases$GraphicKind" "CommonBases$GraphicKind") U := h.2.2.2.2.2.2.2.2.2.2.2.2.2.1
theorem tn_571 {U : State} (h : tn_K U) : va_Nw (Cond.castable "CommonBases$ClassesKind" "CommonBases$ClassesKind") U := h.2.2.2.2.2.2.2.2.2.2.2.2.2.2.1
theorem tn_572 {U : State} (h : tn_K U) : va_Nw (Cond.castable "CommonBases$LinearKind" "CommonBases$LinearKind") U := h.2.2.2.2.2.2.2.2.2.2.2.2.2.2.2.1
theorem tn_UK_GK {U : State} (h : tn_K U) : va_Nc nr_UK nr_GK U := h.2.2.2.2.2.2.2.2.2.2.2.2.2.2.2.2.1
theorem tn_CK_GK {U : State} (h : tn_K U) : va_Nc nr_CK nr_GK U := h.2.2.2.2.2.2.2.2.2.2.2.2.2.2.2.2.2.1
theorem tn_LK_GK {U : State} (h : tn_K U) : va_Nc nr_LK nr_GK U := h.2.2.2.2.2.2.2.2.2.2.2.2.2.2.2.2.2.2.1
theorem tn_UK_CK {U : State} (h : tn_K U) : va_Nc nr_UK nr_CK U := h.2.2.2.2.2.2.2.2.2.2.2.2.2.2.2.2.2.2.2.1
theorem tn_GK_CK {U : State} (h : tn_K U) : va_Nc nr_GK nr_CK U := h.2.2.2.2.2.2.2.2.2.2.2.2.2.2.2.2.2.2.2.2.1
theorem tn_LK_CK {U : State} (h : tn_K U) : va_Nc nr_LK nr_CK U := h.2.2.2.2.2.2.2.2.2.2.2.2.2.2.2.2.2.2.2.2.2.1
theorem tn_UK_LK {U : State} (h : tn_K U) : va_Nc nr_UK nr_LK U := h.2.2.2.2.2.2.2.2.2.2.2.2.2.2.2.2.2.2.2.2.2.2.1
theorem tn_GK_LK {U : State} (h : tn_K U) : va_Nc nr_GK nr_LK U := h.2.2.2.2.2.2.2.2.2.2.2.2.2.2.2.2.2.2.2.2.2.2.2.1
theorem tn_CK_LK {U : State} (h : tn_K U) : va_Nc nr_CK nr_LK U := h.2.2.2.2.2.2.2.2.2.2.2.2.2.2.2.2.2.2.2.2.2.2.2.2
theorem tn_warm {s U : State} (hW : s.WarmedH U.vm) (h : tn_K s) : tn_K U := ⟨va_Nw.warmM hW (tn_30 h), va_Nw.warmM hW (tn_33 h), va_Nw.warmF hW (tn_38 h), va_Nw.warmM hW (tn_48 h), va_Nw.warmF hW (tn_52 h), va_Nw.warmM hW (tn_64 h), va_Nw.warmF hW (tn_66 h), va_Nw.warmF hW (tn_68 h), va_Nw.warmM hW (tn_82 h), va_Nw.warmD hW (tn_265 h), va_Nw.warmM hW (tn_270 h), va_Nw.warmM hW (tn_279 h), va_Nw.warmM hW (tn_287 h), va_Nw.warmC hW (tn_570 h), va_Nw.warmC hW (tn_571 h), va_Nw.warmC hW (tn_572 h), va_Nc.moved hW.alike (tn_UK_GK h), va_Nc.moved hW.alike (tn_CK_GK h), va_Nc.moved hW.alike (tn_LK_GK h), va_Nc.moved hW.alike (tn_UK_CK h), va_Nc.moved hW.alike (tn_GK_CK h), va_Nc.moved hW.alike (tn_LK_CK h), va_Nc.moved hW.alike (tn_UK_LK h), va_Nc.moved hW.alike (tn_GK_LK h), va_Nc.moved hW.alike (tn_CK_LK h)⟩
theorem tn_same {u U : State} (q : u.vm = U.vm) (h : tn_K u) : tn_K U := ⟨va_Nw.same rfl q (tn_30 h), va_Nw.same rfl q (tn_33 h), va_Nw.same rfl q (tn_38 h), va_Nw.same rfl q (tn_48 h), va_Nw.same rfl q (tn_52 h), va_Nw.same rfl q (tn_64 h), va_Nw.same rfl q (tn_66 h), va_Nw.same rfl q (tn_68 h), va_Nw.same rfl q (tn_82 h), va_Nw.same rfl q (tn_265 h), va_Nw.same rfl q (tn_270 h), va_Nw.same rfl q (tn_279 h), va_Nw.same rfl q (tn_287 h), va_Nw.same rfl q (tn_570 h), va_Nw.same rfl q (tn_571 h), va_Nw.same rfl q (tn_572 h), va_Nc.moved (q ▸ Vm.Alike.refl _) (tn_UK_GK h), va_Nc.moved (q ▸ Vm.Alike.refl _) (tn_CK_GK h), va_Nc.moved (q ▸ Vm.Alike.refl _) (tn_LK_GK h), va_Nc.moved (q ▸ Vm.Alike.refl _) (tn_UK_CK h), va_Nc.moved (q ▸ Vm.Alike.refl _) (tn_GK_CK h), va_Nc.moved (q ▸ Vm.Alike.refl _) (tn_LK_CK h), va_Nc.moved (q ▸ Vm.Alike.refl _) (tn_UK_LK h), va_Nc.moved (q ▸ Vm.Alike.refl _) (tn_GK_LK h), va_Nc.moved (q ▸ Vm.Alike.refl _) (tn_CK_LK h)⟩
theorem tm_266 : (Cond.sameMethod nr_KI nr_KI "findRank" "(I)I") ∈ tg_ := tg_t 266 (by decide +kernel) (by decide +kernel)
theorem tf_of {C : String} {T : u_T} {N : Nat} (h : ∀ k, k < N → u_lay C T k ∈ tg_) : ∀ w ∈ u_ws C T N, w ∈ tg_ := fun w hw => by
  obtain ⟨k, hk, rfl⟩ := List.mem_map.mp hw
  exact h k (List.mem_range.mp hk)
theorem tf_CB : ∀ w ∈ u_ws nr_CB nt_CB 4, w ∈ tg_ := tf_of (fun k hk => by
  have q : k = 0 ∨ k = 1 ∨ k = 2 ∨ k = 3 := by omega
  rcases q with rfl | rfl | rfl | rfl
  · exact tm_126
  · exact tm_128
  · exact tm_130
  · exact tm_132)
theorem tf_MA : ∀ w ∈ u_ws nr_MA nt_MA 7, w ∈ tg_ := tf_of (fun k hk => by
  have q : k = 0 ∨ k = 1 ∨ k = 2 ∨ k = 3 ∨ k = 4 ∨ k = 5 ∨ k = 6 := by omega
  rcases q with rfl | rfl | rfl | rfl | rfl | rfl | rfl
  · exact tm_107
  · exact tm_109
  · exact tm_111
  · exact tm_113
  · exact tm_115
  · exact tm_117
  · exact tm_119)
theorem tf_UK : ∀ w ∈ u_ws nr_UK nt_UK 1, w ∈ tg_ := tf_of (fun k hk => by
  have q : k = 0 := by omega
  subst q
  exact tm_39)
theorem tf_GK : ∀ w ∈ u_ws nr_GK nt_GK 2, w ∈ tg_ := tf_of (fun k hk => by
  have q : k = 0 ∨ k = 1 := by omega
  rcases q with rfl | rfl
  · exact tm_54
  · exact tm_56)
theorem tf_CK : ∀ w ∈ u_ws nr_CK nt_CK 3, w ∈ tg_ := tf_of (fun k hk => by
  have q : k = 0 ∨ k = 1 ∨ k = 2 := by omega
  rcases q with rfl | rfl | rfl
  · exact tm_70
  · exact tm_72
  · exact tm_74)
theorem tf_LK : ∀ w ∈ u_ws nr_LK nt_LK 4, w ∈ tg_ := tf_of (fun k hk => by
  have q : k = 0 ∨ k = 1 ∨ k = 2 ∨ k = 3 := by omega
  rcases q with rfl | rfl | rfl | rfl
  · exact tm_88
  · exact tm_90
  · exact tm_92
  · exact tm_94)
theorem tf_CM : ∀ w ∈ u_ws nr_CM nt_CM 14, w ∈ tg_ := tf_of (fun k hk => by
  have q : k = 0 ∨ k = 1 ∨ k = 2 ∨ k = 3 ∨ k = 4 ∨ k = 5 ∨ k = 6 ∨ k = 7 ∨ k = 8 ∨ k = 9 ∨ k = 10 ∨ k = 11 ∨ k = 12 ∨ k = 13 := by omega
  rcases q with rfl | rfl | rfl | rfl | rfl | rfl | rfl | rfl | rfl | rfl | rfl | rfl | rfl | rfl
  · exact tm_397
  · exact tm_399
  · exact tm_401
  · exact tm_403
  · exact tm_405
  · exact tm_407
  · exact tm_409
  · exact tm_411
  · exact tm_413
  · exact tm_415
  · exact tm_417
  · exact tm_419
  · exact tm_421
  · exact tm_423)
theorem tg_g {w1 : Cond} (h : w1 ∈ tg_) : GoodIn tg_ (w1 :: tg_) := fun w hw => by
  have h1 : w ∈ tg_ := (List.mem_cons.mp hw).elim (fun e => e ▸ h) id
  exact ⟨h1, good_of_word (List.mem_filter.mp h1).2⟩
def wa_P (D : va_G) (tys : List (ClassId × FieldType)) (Y : va_W) : State → Prop := fun U => va_P D cl_all Y U.heap ∧ va_K D cl_all tys U ∧ tn_K U
def wb_P (D : va_G) (tys : List (ClassId × FieldType)) (Y : va_W) (sz : Nat) : State → Prop := fun U => U.heap.size = sz ∧ va_P D cl_all Y U.heap ∧ va_K D cl_all tys U ∧ tn_K U ∧ va_D (fun _ => True) Y
def wb_B {S : Type} (D : va_G) (Y : va_W) (sz : Nat) (Y' : S → va_W) : S → State → Prop := fun u t => va_P D cl_all (Y' u) t.heap ∧ va_D (va_A Y sz) (Y' u)
/-- a contract that reads and answers an int; one that writes and answers nothing, or an int -/
abbrev wa_M (l : Launch) (y : MethodName) (cc : ByteArray) (maxL : Nat) (ret : Option FieldType) (rm : Room) (D : va_G) (tys : List (ClassId × FieldType)) (Y : va_W) (av : List Value) (r : Int32) : Prop := Met l y (Cond.code y cc maxL ret :: tg_) rm (va_Pc av (wa_P D tys Y)) (QcRead r) 0 0 (fun _ => False)
abbrev wb_Mv {S : Type} (l : Launch) (y : MethodName) (cc : ByteArray) (maxL : Nat) (rm : Room) (D : va_G) (tys : List (ClassId × FieldType)) (Y : va_W) (sz : Nat) (av : List Value) (post : S → Prop) (Y' : S → va_W) : Prop := Met l y (Cond.code y cc maxL none :: tg_) rm (va_Pc av (wb_P D tys Y sz)) (va_Qv post (wb_B D Y sz Y') (va_A Y sz)) 0 0 (va_A Y sz)
abbrev wb_Mi {S : Type} (l : Launch) (y : MethodName) (cc : ByteArray) (maxL : Nat) (ret : Option FieldType) (rm : Room) (D : va_G) (tys : List (ClassId × FieldType)) (Y : va_W) (sz : Nat) (av : List Value) (post : Int32 → S → Prop) (Y' : S → va_W) : Prop := Met l y (Cond.code y cc maxL ret :: tg_) rm (va_Pc av (wb_P D tys Y sz)) (va_Qi post (wb_B D Y sz Y') (va_A Y sz)) 0 0 (va_A Y sz)
section WK
variable {p : Program} {l : Launch} {e : Env} {R : Room} {s : State} {m : MethodId} {args : Array Value} {below : List Frame} {meth : Method} {c : Code} {H : Heap} {locs : List Loc} {cells slots : Nat} {Q : State → Prop}
variable {cc : ByteArray} {pc : Nat} {ls : Array Slot} {rest : List Value} {D : va_G} {tys : List (ClassId × FieldType)} {Y : va_W} {av : List Value}
theorem wa_bl : FrameBlind (va_Pc av (wa_P D tys Y)) := fun a U g mk q => by
  obtain ⟨q0, qP, qK, qN⟩ := q
  exact ⟨q0, qP, va_K.moved (u := U) (U := U.calling g mk a) (Vm.Alike.refl U.vm) qK, tn_same (u := U) (U := U.calling g mk a) rfl qN⟩
theorem wa_pre (hP : va_P D cl_all Y H) (hK : va_K D cl_all tys s) (hN : tn_K s) : PreS s H (va_Pc av (wa_P D tys Y)) av :=
  ⟨wa_bl, fun U hU hW => ⟨rfl, by rw [hU]; exact hP, va_K.moved hW.alike hK, tn_warm hW hN⟩⟩
theorem wb_bl {sz : Nat} : FrameBlind (va_Pc av (wb_P D tys Y sz)) := fun a U g mk q => by
  obtain ⟨q0, q1, qP, qK, qN, qD⟩ := q
  exact ⟨q0, q1, qP, va_K.moved (u := U) (U := U.calling g mk a) (Vm.Alike.refl U.vm) qK, tn_same (u := U) (U := U.calling g mk a) rfl qN, qD⟩
theorem wb_pre {A : Nat → Prop} (hP : va_P D cl_all Y H) (hK : va_K D cl_all tys s) (hN : tn_K s) (hD : va_D A Y) : PreS s H (va_Pc av (wb_P D tys Y H.size)) av :=
  ⟨wb_bl, fun U hU hW => ⟨rfl, by rw [hU], by rw [hU]; exact hP, va_K.moved hW.alike hK, tn_warm hW hN, hD.weaken (fun _ _ _ _ => trivial)⟩⟩
/-- the start of a method that reads -/
theorem wa_start {y : MethodName} {maxL : Nat} {ret : Option FieldType} {rm : Room} {r : Int32} (hy : plainName y.cls = true) (hlen : (lg_sl av).length ≤ maxL)
    (body : ∀ (p : Program) (e : Env) (s : State) (m : MethodId) (below : List Frame) (meth : Method) (c : Code) (ls : Array Slot), p.tables.exec = Jvm.exec → c.code = cc → meth.sig.returnType = ret → c.maxLocals = maxL → (∀ w ∈ tg_, w.before av.toArray s = true) → s.vm.findClass y.cls = some m.cls → meth.locks = false → va_P D cl_all Y s.heap → va_K D cl_all tys s → tn_K s → lv_has ls maxL (lv_args 0 av) →
      W p l e rm s m av.toArray below meth c s.heap [] 0 0 (MQ below (QcRead r) av.toArray s 0 0 (fun _ => False)) (F0 m 0 ls [])) : wa_M l y cc maxL ret rm D tys Y av r := by
  refine Met.ofW (cc := cc) (maxL := maxL) (ret := ret) hy rfl ?_
  intro p e s m args below meth c s₁ B hml hv
  obtain ⟨rfl, hP, hK, hN⟩ := hv
  have hts := atoms_spec (ws := Cond.code y cc maxL ret :: tg_) B.pre
  have hl := lv_entry av (n := maxL) hlen
  rw [lg_entry_eq]
  exact body p e s m below meth c _ B.exec B.bytes B.returns hml (fun w h => hts w (List.mem_cons_of_mem _ h)) (findClass_of_methodNamed B.named) B.notSynchronized hP hK hN hl
/-- the start of a method that writes -/
theorem wb_start {S : Type} {y : MethodName} {maxL : Nat} {ret : Option FieldType} {rm : Room} {sz : Nat} {Qc : Array Value → State → Outcome → State → Prop} (hy : plainName y.cls = true) (hlen : (lg_sl av).length ≤ maxL)
    (body : ∀ (p : Program) (e : Env) (s : State) (m : MethodId) (below : List Frame) (meth : Method) (c : Code) (ls : Array Slot) (A : Nat → Prop), p.tables.exec = Jvm.exec → c.code = cc → meth.sig.returnType = ret → c.maxLocals = maxL → (∀ w ∈ tg_, w.before av.toArray s = true) → s.vm.findClass y.cls = some m.cls → meth.locks = false → va_P D cl_all Y s.heap → va_K D cl_all tys s → tn_K s → lv_has ls maxL (lv_args 0 av) → va_A Y sz = A → s.heap.size = sz → va_D A Y → (∀ q : Nat, s.heap.size ≤ q → A q) →
      W p l e rm s m av.toArray below meth c s.heap [] 0 0 (MQ below Qc av.toArray s 0 0 A) (F0 m 0 ls [])) : Met l y (Cond.code y cc maxL ret :: tg_) rm (va_Pc av (wb_P D tys Y sz)) Qc 0 0 (va_A Y sz) := by
  refine Met.ofW (cc := cc) (maxL := maxL) (ret := ret) hy rfl ?_
  intro p e s m args below meth c s₁ B hml hv
  obtain ⟨rfl, hsz, hP, hK, hN, hD0⟩ := hv
  have hts := atoms_spec (ws := Cond.code y cc maxL ret :: tg_) B.pre
  have hl := lv_entry av (n := maxL) hlen
  rw [lg_entry_eq]
  exact body p e s m below meth c _ (va_A Y sz) B.exec B.bytes B.returns hml (fun w h => hts w (List.mem_cons_of_mem _ h)) (findClass_of_methodNamed B.named) B.notSynchronized hP hK hN hl rfl hsz (hD0.self) (fun q h => Or.inr (by omega))
/-- the ends -/
theorem wa_iret {r v : Int32} (hx : p.tables.exec = Jvm.exec) (hb : c.code = cc) (hr : meth.sig.returnType = some .int) (hk : meth.locks = false) (hv : v = r) (hdg : decode cc pc = .ok (.ireturn, 1)) : W p l e R s m args below meth c s.heap [] 0 0 (MQ below (QcRead r) args s 0 0 (fun _ => False)) (F0 m pc ls [.int v]) :=
  W.iret hx hb hr (fun t ht _ => ⟨by rw [hv], ht⟩) (fun q h => by cases h) hdg hk
theorem wa_zret {r v : Int32} (hx : p.tables.exec = Jvm.exec) (hb : c.code = cc) (hr : meth.sig.returnType = some .boolean) (hk : meth.locks = false) (hn : narrow .boolean (.int v) = .int v) (hv : v = r) (hdg : decode cc pc = .ok (.ireturn, 1)) : W p l e R s m args below meth c s.heap [] 0 0 (MQ below (QcRead r) args s 0 0 (fun _ => False)) (F0 m pc ls [.int v]) :=
  W.zret (ty := .boolean) hx hb hr hn (fun t ht _ => ⟨by rw [hv], ht⟩) (fun q h => by cases h) hdg hk
theorem wb_vret {S : Type} {A : Nat → Prop} {sz : Nat} {post : S → Prop} {Y' : S → va_W} (u : S) (hx : p.tables.exec = Jvm.exec) (hb : c.code = cc) (hr : meth.sig.returnType = none) (hk : meth.locks = false) (hA : va_A Y sz = A) (hp : post u) (hP : va_P D cl_all (Y' u) H) (hD : va_D A (Y' u)) (hS : va_S A s.heap H locs) (hdg : decode cc pc = .ok (.return_, 1)) : W p l e R s m args below meth c H locs cells slots (MQ below (va_Qv post (wb_B D Y sz Y') (va_A Y sz)) args s cells slots A) (F0 m pc ls []) :=
  W.vret hx hb hr (fun t ht _ => ⟨⟨u, rfl, hp, by rw [ht]; exact hP, by rw [hA]; exact hD⟩, by rw [hA]; exact hS.F ht⟩) hS.2.2 hdg hk
theorem wb_iret {S : Type} {A : Nat → Prop} {sz : Nat} {v : Int32} {post : Int32 → S → Prop} {Y' : S → va_W} (u : S) (hx : p.tables.exec = Jvm.exec) (hb : c.code = cc) (hr : meth.sig.returnType = some .int) (hk : meth.locks = false) (hA : va_A Y sz = A) (hp : post v u) (hP : va_P D cl_all (Y' u) H) (hD : va_D A (Y' u)) (hS : va_S A s.heap H locs) (hdg : decode cc pc = .ok (.ireturn, 1)) : W p l e R s m args below meth c H locs cells slots (MQ below (va_Qi post (wb_B D Y sz Y') (va_A Y sz)) args s cells slots A) (F0 m pc ls [.int v]) :=
  W.iret hx hb hr (fun t ht _ => ⟨⟨v, u, rfl, hp, by rw [ht]; exact hP, by rw [hA]; exact hD⟩, by rw [hA]; exact hS.F ht⟩) hS.2.2 hdg hk
theorem wb_zret {S : Type} {A : Nat → Prop} {sz : Nat} {v : Int32} {post : Int32 → S → Prop} {Y' : S → va_W} (u : S) (hx : p.tables.exec = Jvm.exec) (hb : c.code = cc) (hr : meth.sig.returnType = some .boolean) (hk : meth.locks = false) (hn : narrow .boolean (.int v) = .int v) (hA : va_A Y sz = A) (hp : post v u) (hP : va_P D cl_all (Y' u) H) (hD : va_D A (Y' u)) (hS : va_S A s.heap H locs) (hdg : decode cc pc = .ok (.ireturn, 1)) : W p l e R s m args below meth c H locs cells slots (MQ below (va_Qi post (wb_B D Y sz Y') (va_A Y sz)) args s cells slots A) (F0 m pc ls [.int v]) :=
  W.zret (ty := .boolean) hx hb hr hn (fun t ht _ => ⟨⟨v, u, rfl, hp, by rw [ht]; exact hP, by rw [hA]; exact hD⟩, by rw [hA]; exact hS.F ht⟩) hS.2.2 hdg hk
-- calls of methods that read: static, of the nest's host, of an object
variable {y : MethodName} {bytes : ByteArray} {maxL nL n index : Nat} {ret : Option FieldType} {rm : Room} {own C host : String} {b : Addr} {As st : List Value} {r : Int32} {Pc : Array Value → State → Prop}
theorem wc_S (hx : p.tables.exec = Jvm.exec) (hb : c.code = cc) (hml : c.maxLocals = nL) (hown : s.vm.findClass own = some m.cls) (htg : ∀ w ∈ tg_, w.before args s = true) (hM : Met l y (Cond.code y bytes maxL ret :: tg_) rm Pc (QcRead r) 0 0 (fun _ => False)) (hc : Cond.code y bytes maxL ret ∈ tg_) (hl : Cond.methodLink own index y ∈ tg_) (hs : Cond.static y ∈ tg_) (hi : Cond.initialized y.cls ∈ tg_)
    (hd : y.cls ≠ "java/lang/invoke/MethodHandle" ∧ y.cls ≠ "java/lang/invoke/VarHandle" ∧ (parseMethodDescriptor y.desc).map (fun d => d.parameters.length) = some n) (hR : (rm.frames + 1 ≤ R.frames ∧ 8 + (maxL + 11) + rm.locals ≤ R.locals) ∧ rm.cells = 0 ∧ rm.slots = 0) (hp : PreS s H Pc As) (hn : As.length = n) (hsz : ls.size = nL) (hst : st = As.reverse ++ rest) (hW : (rest.map fun v => v.category).sum ≤ 8) (hdg : decode cc pc = .ok (.invokestatic index, 3)) (hf : cells ≤ R.cells ∧ slots ≤ R.slots)
    (kk : W p l e R s m args below meth c H locs cells slots Q (F0 m (pc + 3) ls (.int r :: rest))) : W p l e R s m args below meth c H locs cells slots Q (F0 m pc ls st) :=
  W.callR (W.runS (Ts := tg_) ⟨hx, hb, hml, hown, htg⟩ hM ⟨callB_of n htg (tg_g hc) rfl hR.2.1 hR.2.2 (htg _ hi) (htg _ hl) hd hR.1, htg _ hs⟩ hp rfl hn hsz hst (lv_room hW) hdg hf) kk
theorem wc_SN (hx : p.tables.exec = Jvm.exec) (hb : c.code = cc) (hml : c.maxLocals = nL) (hown : s.vm.findClass own = some m.cls) (htg : ∀ w ∈ tg_, w.before args s = true) (hM : Met l y (Cond.code y bytes maxL ret :: tg_) rm Pc (QcRead r) 0 0 (fun _ => False)) (hc : Cond.code y bytes maxL ret ∈ tg_) (hl : va_Nw (.methodLinkNest own index y host) s) (hs : Cond.static y ∈ tg_) (hi : Cond.initialized y.cls ∈ tg_)
    (hd : y.cls ≠ "java/lang/invoke/MethodHandle" ∧ y.cls ≠ "java/lang/invoke/VarHandle" ∧ (parseMethodDescriptor y.desc).map (fun d => d.parameters.length) = some n) (hR : (rm.frames + 1 ≤ R.frames ∧ 8 + (maxL + 11) + rm.locals ≤ R.locals) ∧ rm.cells = 0 ∧ rm.slots = 0) (hp : PreS s H Pc As) (hn : As.length = n) (hsz : ls.size = nL) (hst : st = As.reverse ++ rest) (hW : (rest.map fun v => v.category).sum ≤ 8) (hdg : decode cc pc = .ok (.invokestatic index, 3)) (hf : cells ≤ R.cells ∧ slots ≤ R.slots)
    (kk : W p l e R s m args below meth c H locs cells slots Q (F0 m (pc + 3) ls (.int r :: rest))) : W p l e R s m args below meth c H locs cells slots Q (F0 m pc ls st) :=
  W.callR (va_Run.run (va_runSN (Ts := tg_) ⟨hx, hb, hml, hown, htg⟩ hM ⟨va_cnB n htg (tg_g hc) rfl hR.2.1 hR.2.2 hl (htg _ hi) hd hR.1, htg _ hs, trivial⟩ hp rfl hn hsz hst (lv_room hW) hdg hf)) kk
theorem wc_V (hx : p.tables.exec = Jvm.exec) (hb : c.code = cc) (hml : c.maxLocals = nL) (hown : s.vm.findClass own = some m.cls) (htg : ∀ w ∈ tg_, w.before args s = true) (hM : Met l y (Cond.code y bytes maxL ret :: tg_) rm Pc (QcRead r) 0 0 (fun _ => False)) (hc : Cond.code y bytes maxL ret ∈ tg_) (hl : Cond.methodLink own index y ∈ tg_) (hs : Cond.instanceMethod y ∈ tg_) (he : Cond.selects C y y ∈ tg_) (hi : Cond.initialized y.cls ∈ tg_)
    (hd : y.cls ≠ "java/lang/invoke/MethodHandle" ∧ y.cls ≠ "java/lang/invoke/VarHandle" ∧ (parseMethodDescriptor y.desc).map (fun d => d.parameters.length) = some n) (hR : (rm.frames + 1 ≤ R.frames ∧ 8 + (maxL + 11) + rm.locals ≤ R.locals) ∧ rm.cells = 0 ∧ rm.slots = 0) (hp : PreS s H Pc (.ref b :: As)) (hq : ∃ cellB : Cell, H[b]? = some cellB ∧ cellB.vm.isStatics = false ∧ s.vm.findClass C = some cellB.cls) (hn : As.length = n) (hsz : ls.size = nL) (hst : st = As.reverse ++ .ref b :: rest) (hW : (rest.map fun v => v.category).sum ≤ 8) (hdg : decode cc pc = .ok (.invokevirtual index, 3)) (hf : cells ≤ R.cells ∧ slots ≤ R.slots)
    (kk : W p l e R s m args below meth c H locs cells slots Q (F0 m (pc + 3) ls (.int r :: rest))) : W p l e R s m args below meth c H locs cells slots Q (F0 m pc ls st) :=
  W.callR (W.runV (Ts := tg_) ⟨hx, hb, hml, hown, htg⟩ hM ⟨callB_of n htg (tg_g hc) rfl hR.2.1 hR.2.2 (htg _ hi) (htg _ hl) hd hR.1, htg _ hs, htg _ he⟩ ⟨hp.1, hq, hp.2⟩ rfl hn hsz hst (lv_room hW) hdg hf) kk
end WK
end
section
/-! Small methods that only read. -/
section SM
variable {p : Program} {l : Launch} {e : Env} {R : Room} {s : State} {m : MethodId} {args : Array Value} {below : List Frame} {meth : Method} {c : Code} {H : Heap} {locs : List Loc} {cells slots : Nat} {Q : State → Prop}
variable {cc : ByteArray} {pc : Nat} {ls : Array Slot} {rest : List Value}
def mt_bt (s e : Nat) : Nat := if s.testBit e = true then 1 else 0
theorem mt_bt_lt (s e : Nat) : mt_bt s e < 2 := by unfold mt_bt; split <;> omega
theorem mt_bt_t {s e : Nat} : mt_bt s e = 1 ↔ s.testBit e = true := by unfold mt_bt; split <;> simp_all
theorem mt_bt_f {s e : Nat} : mt_bt s e = 0 ↔ s.testBit e = false := by unfold mt_bt; split <;> simp_all
theorem mt_bt_n {s e : Nat} : ¬ mt_bt s e = 0 ↔ s.testBit e = true := by unfold mt_bt; split <;> simp_all
theorem mt_bt_e (s e : Nat) : s / 2 ^ e &&& 1 = mt_bt s e := by
  unfold mt_bt
  rw [Nat.and_one_is_mod, Nat.testBit_eq_decide_div_mod_eq]
  generalize s / 2 ^ e = z
  by_cases h : z % 2 = 1
  · simp [h]
  · simp [h]; omega
theorem mt_cd_bt (k s : Nat) : mt_cd (k + 1) s = mt_cd k s + mt_bt s k := rfl
theorem wi_inc (a k : Nat) : nI a + Int32.ofInt (k : Int) = nI (a + k) := nI_add a k
theorem wi_bit (hx : p.tables.exec = Jvm.exec) (hb : c.code = cc) {a b : Nat} (hdg : decode cc pc = .ok (.iand, 1)) (k : W p l e R s m args below meth c H locs cells slots Q (F0 m (pc + 1) ls (.int (nI (mt_bt a b)) :: rest))) : W p l e R s m args below meth c H locs cells slots Q (F0 m pc ls (.int (nI 1) :: .int (nI (a / 2 ^ b)) :: rest)) := wi_iand hx hb hdg (by rw [mt_bt_e]; exact k)
theorem wa_nil {D : va_G} : va_P D cl_all [] H := fun k q h => by simp at h
variable {D : va_G} {A : Nat → Prop} {a : Nat} {tys : List (ClassId × FieldType)} {ws : va_W} {H0 : Heap} {cl : List vw_C}
theorem wi_iastn (hx : p.tables.exec = Jvm.exec) (hb : c.code = cc) (hK : va_K D cl tys s) (hP : va_P D cl ws H) (hD : va_D A ws) (hS : va_S A H0 H locs) (q0 t0 : Nat) {cA : ClassId} {n : Nat} {g : Nat → Nat} (ha : ws[q0]? = some (a, .inl (cA, n, .inl (fun j => nI (g j))))) (ht : tys[t0]? = some (cA, .int)) {i y : Nat} (hi : i < n) (hn : n < 2 ^ 31) (hdg : decode cc pc = .ok (.iastore, 1)) (kk : ∀ (H1 : Heap) (locs1 : List Loc), va_P D cl (ws.set q0 (a, .inl (cA, n, .inl (fun j => nI (va_up g i y j))))) H1 → va_D A (ws.set q0 (a, .inl (cA, n, .inl (fun j => nI (va_up g i y j))))) → va_S A H0 H1 locs1 → W p l e R s m args below meth c H1 locs1 cells slots Q (F0 m (pc + 1) ls rest)) : W p l e R s m args below meth c H locs cells slots Q (F0 m pc ls (.int (nI y) :: .int (nI i) :: .ref a :: rest)) := by
  have e : upd (fun j => nI (g j)) i (nI y) = fun j => nI (va_up g i y j) := by
    funext j
    unfold upd va_up
    split <;> rfl
  refine wi_iast hx hb hK hP hD hS q0 t0 ha ht hi hn hdg ?_
  rw [e]
  exact kk
end SM
theorem nd_CB_has_0 : decode nc_CB_has 0 = .ok (.iload_n 0, 1) := by decide +kernel
theorem nd_CB_has_1 : decode nc_CB_has 1 = .ok (.iload_n 1, 1) := by decide +kernel
theorem nd_CB_has_2 : decode nc_CB_has 2 = .ok (.ishr, 1) := by decide +kernel
theorem nd_CB_has_3 : decode nc_CB_has 3 = .ok (.iconst 1, 1) := by decide +kernel
theorem nd_CB_has_4 : decode nc_CB_has 4 = .ok (.iand, 1) := by decide +kernel
theorem nd_CB_has_5 : decode nc_CB_has 5 = .ok (.ifCond .eq 7, 3) := by decide +kernel
theorem nd_CB_has_8 : decode nc_CB_has 8 = .ok (.iconst 1, 1) := by decide +kernel
theorem nd_CB_has_9 : decode nc_CB_has 9 = .ok (.goto 4, 3) := by decide +kernel
theorem nd_CB_has_12 : decode nc_CB_has 12 = .ok (.iconst 0, 1) := by decide +kernel
theorem nd_CB_has_13 : decode nc_CB_has 13 = .ok (.ireturn, 1) := by decide +kernel
set_option maxRecDepth 20000 in
theorem c_CB_has (l : Launch) (D : va_G) (tys : List (ClassId × FieldType)) (s e : Nat) (hs : s < 2 ^ 31) (he : e < 32) : wa_M l ny_CB_has nc_CB_has 2 (some .boolean) ({ frames := 0, cells := 0, slots := 0, locals := 0 }) D tys ([]) [.int (nI (s)), .int (nI (e))] (nI (mt_bt s e)) := by
  refine wa_start (by decide) (Nat.le_of_ble_eq_true rfl) ?_
  intro p e0 s0 m below meth c ls hx hb hr hml htg hown hk hP hK hN hl
  have hl : lv_has ls 2 [(0, .int (nI (s))), (1, .int (nI (e)))] := hl
  refine lv_iload_n hx hb nd_CB_has_0 rfl (lv_at hl 0 rfl) ?_
  refine lv_iload_n hx hb nd_CB_has_1 rfl (lv_at hl 1 rfl) ?_
  refine wi_ishr hx hb (by omega) (by omega) nd_CB_has_2 ?_
  refine wi_ic hx hb (a := 1) nd_CB_has_3 ?_
  refine wi_bit hx hb nd_CB_has_4 ?_
  have hbt4 := mt_bt_lt s e
  refine wi_if_eq (tgt := 12) hx hb (by omega) nd_CB_has_5 rfl (fun hc5 => ?_) (fun hc5 => ?_)
  · refine wi_ic hx hb (a := 0) nd_CB_has_12 ?_
    exact wa_zret hx hb hr hk rfl (congrArg nI (by omega)) nd_CB_has_13
  · refine wi_ic hx hb (a := 1) nd_CB_has_8 ?_
    refine lv_goto (tgt := 13) hx hb nd_CB_has_9 rfl ?_
    exact wa_zret hx hb hr hk rfl (congrArg nI (by omega)) nd_CB_has_13
theorem nd_CB_isMatroid_0 : decode nc_CB_isMatroid 0 = .ok (.iload_n 0, 1) := by decide +kernel
theorem nd_CB_isMatroid_1 : decode nc_CB_isMatroid 1 = .ok (.ifCond .eq 8, 3) := by decide +kernel
theorem nd_CB_isMatroid_4 : decode nc_CB_isMatroid 4 = .ok (.iload_n 0, 1) := by decide +kernel
theorem nd_CB_isMatroid_5 : decode nc_CB_isMatroid 5 = .ok (.iconst 1, 1) := by decide +kernel
theorem nd_CB_isMatroid_6 : decode nc_CB_isMatroid 6 = .ok (.if_icmp .ne 7, 3) := by decide +kernel
theorem nd_CB_isMatroid_9 : decode nc_CB_isMatroid 9 = .ok (.iconst 1, 1) := by decide +kernel
theorem nd_CB_isMatroid_10 : decode nc_CB_isMatroid 10 = .ok (.goto 4, 3) := by decide +kernel
theorem nd_CB_isMatroid_13 : decode nc_CB_isMatroid 13 = .ok (.iconst 0, 1) := by decide +kernel
theorem nd_CB_isMatroid_14 : decode nc_CB_isMatroid 14 = .ok (.ireturn, 1) := by decide +kernel
set_option maxRecDepth 20000 in
theorem c_CB_isMatroid (l : Launch) (D : va_G) (tys : List (ClassId × FieldType)) (x r : Int32) (h1 : (x = 0 ∨ x = nI 1) → r = 1) (h0 : ¬ (x = 0 ∨ x = nI 1) → r = 0) : wa_M l ny_CB_isMatroid nc_CB_isMatroid 1 (some .boolean) ({ frames := 0, cells := 0, slots := 0, locals := 0 }) D tys ([]) [.int (x)] (r) := by
  refine wa_start (by decide) (Nat.le_of_ble_eq_true rfl) ?_
  intro p e0 s0 m below meth c ls hx hb hr hml htg hown hk hP hK hN hl
  have hl : lv_has ls 1 [(0, .int (x))] := hl
  refine lv_iload_n hx hb nd_CB_isMatroid_0 rfl (lv_at hl 0 rfl) ?_
  refine lv_if_eq (tgt := 9) hx hb nd_CB_isMatroid_1 rfl (fun hc1 => ?_) (fun hc1 => ?_)
  · refine wi_ic hx hb (a := 1) nd_CB_isMatroid_9 ?_
    refine lv_goto (tgt := 14) hx hb nd_CB_isMatroid_10 rfl ?_
    exact wa_zret hx hb hr hk rfl ((h1 (by simp_all)).symm) nd_CB_isMatroid_14
  · refine lv_iload_n hx hb nd_CB_isMatroid_4 rfl (lv_at hl 0 rfl) ?_
    refine wi_ic hx hb (a := 1) nd_CB_isMatroid_5 ?_
    refine lv_icmp_ne (tgt := 13) hx hb nd_CB_isMatroid_6 rfl (fun hc6 => ?_) (fun hc6 => ?_)
    · refine wi_ic hx hb (a := 0) nd_CB_isMatroid_13 ?_
      exact wa_zret hx hb hr hk rfl ((h0 (by simp_all)).symm) nd_CB_isMatroid_14
    · refine wi_ic hx hb (a := 1) nd_CB_isMatroid_9 ?_
      refine lv_goto (tgt := 14) hx hb nd_CB_isMatroid_10 rfl ?_
      exact wa_zret hx hb hr hk rfl ((h1 (by simp_all)).symm) nd_CB_isMatroid_14
theorem nd_CM_isWhich_0 : decode nc_CM_isWhich 0 = .ok (.iload_n 0, 1) := by decide +kernel
theorem nd_CM_isWhich_1 : decode nc_CM_isWhich 1 = .ok (.ifCond .eq 8, 3) := by decide +kernel
theorem nd_CM_isWhich_4 : decode nc_CM_isWhich 4 = .ok (.iload_n 0, 1) := by decide +kernel
theorem nd_CM_isWhich_5 : decode nc_CM_isWhich 5 = .ok (.iconst 1, 1) := by decide +kernel
theorem nd_CM_isWhich_6 : decode nc_CM_isWhich 6 = .ok (.if_icmp .ne 7, 3) := by decide +kernel
theorem nd_CM_isWhich_9 : decode nc_CM_isWhich 9 = .ok (.iconst 1, 1) := by decide +kernel
theorem nd_CM_isWhich_10 : decode nc_CM_isWhich 10 = .ok (.goto 4, 3) := by decide +kernel
theorem nd_CM_isWhich_13 : decode nc_CM_isWhich 13 = .ok (.iconst 0, 1) := by decide +kernel
theorem nd_CM_isWhich_14 : decode nc_CM_isWhich 14 = .ok (.ireturn, 1) := by decide +kernel
set_option maxRecDepth 20000 in
theorem c_CM_isWhich (l : Launch) (D : va_G) (tys : List (ClassId × FieldType)) (x r : Int32) (h1 : (x = 0 ∨ x = nI 1) → r = 1) (h0 : ¬ (x = 0 ∨ x = nI 1) → r = 0) : wa_M l ny_CM_isWhich nc_CM_isWhich 1 (some .boolean) ({ frames := 0, cells := 0, slots := 0, locals := 0 }) D tys ([]) [.int (x)] (r) := by
  refine wa_start (by decide) (Nat.le_of_ble_eq_true rfl) ?_
  intro p e0 s0 m below meth c ls hx hb hr hml htg hown hk hP hK hN hl
  have hl : lv_has ls 1 [(0, .int (x))] := hl
  refine lv_iload_n hx hb nd_CM_isWhich_0 rfl (lv_at hl 0 rfl) ?_
  refine lv_if_eq (tgt := 9) hx hb nd_CM_isWhich_1 rfl (fun hc1 => ?_) (fun hc1 => ?_)
  · refine wi_ic hx hb (a := 1) nd_CM_isWhich_9 ?_
    refine lv_goto (tgt := 14) hx hb nd_CM_isWhich_10 rfl ?_
    exact wa_zret hx hb hr hk rfl ((h1 (by simp_all)).symm) nd_CM_isWhich_14
  · refine lv_iload_n hx hb nd_CM_isWhich_4 rfl (lv_at hl 0 rfl) ?_
    refine wi_ic hx hb (a := 1) nd_CM_isWhich_5 ?_
    refine lv_icmp_ne (tgt := 13) hx hb nd_CM_isWhich_6 rfl (fun hc6 => ?_) (fun hc6 => ?_)
    · refine wi_ic hx hb (a := 0) nd_CM_isWhich_13 ?_
      exact wa_zret hx hb hr hk rfl ((h0 (by simp_all)).symm) nd_CM_isWhich_14
    · refine wi_ic hx hb (a := 1) nd_CM_isWhich_9 ?_
      refine lv_goto (tgt := 14) hx hb nd_CM_isWhich_10 rfl ?_
      exact wa_zret hx hb hr hk rfl ((h1 (by simp_all)).symm) nd_CM_isWhich_14
theorem nd_CB_isUpTo_0 : decode nc_CB_isUpTo 0 = .ok (.iload_n 0, 1) := by decide +kernel
theorem nd_CB_isUpTo_1 : decode nc_CB_isUpTo 1 = .ok (.ifCond .lt 12, 3) := by decide +kernel
theorem nd_CB_isUpTo_4 : decode nc_CB_isUpTo 4 = .ok (.iload_n 0, 1) := by decide +kernel
theorem nd_CB_isUpTo_5 : decode nc_CB_isUpTo 5 = .ok (.iload_n 1, 1) := by decide +kernel
theorem nd_CB_isUpTo_6 : decode nc_CB_isUpTo 6 = .ok (.if_icmp .gt 7, 3) := by decide +kernel
theorem nd_CB_isUpTo_9 : decode nc_CB_isUpTo 9 = .ok (.iconst 1, 1) := by decide +kernel
theorem nd_CB_isUpTo_10 : decode nc_CB_isUpTo 10 = .ok (.goto 4, 3) := by decide +kernel
theorem nd_CB_isUpTo_13 : decode nc_CB_isUpTo 13 = .ok (.iconst 0, 1) := by decide +kernel
theorem nd_CB_isUpTo_14 : decode nc_CB_isUpTo 14 = .ok (.ireturn, 1) := by decide +kernel
set_option maxRecDepth 20000 in
theorem c_CB_isUpTo (l : Launch) (D : va_G) (tys : List (ClassId × FieldType)) (x y r : Int32) (h1 : (¬ x < 0 ∧ ¬ y < x) → r = 1) (h0 : ¬ (¬ x < 0 ∧ ¬ y < x) → r = 0) : wa_M l ny_CB_isUpTo nc_CB_isUpTo 2 (some .boolean) ({ frames := 0, cells := 0, slots := 0, locals := 0 }) D tys ([]) [.int (x), .int (y)] (r) := by
  refine wa_start (by decide) (Nat.le_of_ble_eq_true rfl) ?_
  intro p e0 s0 m below meth c ls hx hb hr hml htg hown hk hP hK hN hl
  have hl : lv_has ls 2 [(0, .int (x)), (1, .int (y))] := hl
  refine lv_iload_n hx hb nd_CB_isUpTo_0 rfl (lv_at hl 0 rfl) ?_
  refine lv_if_lt (tgt := 13) hx hb nd_CB_isUpTo_1 rfl (fun hc1 => ?_) (fun hc1 => ?_)
  · refine wi_ic hx hb (a := 0) nd_CB_isUpTo_13 ?_
    exact wa_zret hx hb hr hk rfl ((h0 (by simp_all)).symm) nd_CB_isUpTo_14
  · refine lv_iload_n hx hb nd_CB_isUpTo_4 rfl (lv_at hl 0 rfl) ?_
    refine lv_iload_n hx hb nd_CB_isUpTo_5 rfl (lv_at hl 1 rfl) ?_
    refine lv_icmp_gt (tgt := 13) hx hb nd_CB_isUpTo_6 rfl (fun hc6 => ?_) (fun hc6 => ?_)
    · refine wi_ic hx hb (a := 0) nd_CB_isUpTo_13 ?_
      exact wa_zret hx hb hr hk rfl ((h0 (by simp_all)).symm) nd_CB_isUpTo_14
    · refine wi_ic hx hb (a := 1) nd_CB_isUpTo_9 ?_
      refine lv_goto (tgt := 14) hx hb nd_CB_isUpTo_10 rfl ?_
      exact wa_zret hx hb hr hk rfl ((h1 (by simp_all)).symm) nd_CB_isUpTo_14
theorem nd_CB_isModulus_0 : decode nc_CB_isModulus 0 = .ok (.iload_n 0, 1) := by decide +kernel
theorem nd_CB_isModulus_1 : decode nc_CB_isModulus 1 = .ok (.iconst 2, 1) := by decide +kernel
theorem nd_CB_isModulus_2 : decode nc_CB_isModulus 2 = .ok (.if_icmp .eq 19, 3) := by decide +kernel
theorem nd_CB_isModulus_5 : decode nc_CB_isModulus 5 = .ok (.iload_n 0, 1) := by decide +kernel
theorem nd_CB_isModulus_6 : decode nc_CB_isModulus 6 = .ok (.iconst 3, 1) := by decide +kernel
theorem nd_CB_isModulus_7 : decode nc_CB_isModulus 7 = .ok (.if_icmp .eq 14, 3) := by decide +kernel
theorem nd_CB_isModulus_10 : decode nc_CB_isModulus 10 = .ok (.iload_n 0, 1) := by decide +kernel
theorem nd_CB_isModulus_11 : decode nc_CB_isModulus 11 = .ok (.iconst 5, 1) := by decide +kernel
theorem nd_CB_isModulus_12 : decode nc_CB_isModulus 12 = .ok (.if_icmp .eq 9, 3) := by decide +kernel
theorem nd_CB_isModulus_15 : decode nc_CB_isModulus 15 = .ok (.iload_n 0, 1) := by decide +kernel
theorem nd_CB_isModulus_16 : decode nc_CB_isModulus 16 = .ok (.bipush 7, 2) := by decide +kernel
theorem nd_CB_isModulus_18 : decode nc_CB_isModulus 18 = .ok (.if_icmp .ne 7, 3) := by decide +kernel
theorem nd_CB_isModulus_21 : decode nc_CB_isModulus 21 = .ok (.iconst 1, 1) := by decide +kernel
theorem nd_CB_isModulus_22 : decode nc_CB_isModulus 22 = .ok (.goto 4, 3) := by decide +kernel
theorem nd_CB_isModulus_25 : decode nc_CB_isModulus 25 = .ok (.iconst 0, 1) := by decide +kernel
theorem nd_CB_isModulus_26 : decode nc_CB_isModulus 26 = .ok (.ireturn, 1) := by decide +kernel
set_option maxRecDepth 20000 in
theorem c_CB_isModulus (l : Launch) (D : va_G) (tys : List (ClassId × FieldType)) (x r : Int32) (h1 : (x = nI 2 ∨ x = nI 3 ∨ x = nI 5 ∨ x = nI 7) → r = 1) (h0 : ¬ (x = nI 2 ∨ x = nI 3 ∨ x = nI 5 ∨ x = nI 7) → r = 0) : wa_M l ny_CB_isModulus nc_CB_isModulus 1 (some .boolean) ({ frames := 0, cells := 0, slots := 0, locals := 0 }) D tys ([]) [.int (x)] (r) := by
  refine wa_start (by decide) (Nat.le_of_ble_eq_true rfl) ?_
  intro p e0 s0 m below meth c ls hx hb hr hml htg hown hk hP hK hN hl
  have hl : lv_has ls 1 [(0, .int (x))] := hl
  refine lv_iload_n hx hb nd_CB_isModulus_0 rfl (lv_at hl 0 rfl) ?_
  refine wi_ic hx hb (a := 2) nd_CB_isModulus_1 ?_
  refine lv_icmp_eq (tgt := 21) hx hb nd_CB_isModulus_2 rfl (fun hc2 => ?_) (fun hc2 => ?_)
  · refine wi_ic hx hb (a := 1) nd_CB_isModulus_21 ?_
    refine lv_goto (tgt := 26) hx hb nd_CB_isModulus_22 rfl ?_
    exact wa_zret hx hb hr hk rfl ((h1 (by simp_all)).symm) nd_CB_isModulus_26
  · refine lv_iload_n hx hb nd_CB_isModulus_5 rfl (lv_at hl 0 rfl) ?_
    refine wi_ic hx hb (a := 3) nd_CB_isModulus_6 ?_
    refine lv_icmp_eq (tgt := 21) hx hb nd_CB_isModulus_7 rfl (fun hc7 => ?_) (fun hc7 => ?_)
    · refine wi_ic hx hb (a := 1) nd_CB_isModulus_21 ?_
      refine lv_goto (tgt := 26) hx hb nd_CB_isModulus_22 rfl ?_
      exact wa_zret hx hb hr hk rfl ((h1 (by simp_all)).symm) nd_CB_isModulus_26
    · refine lv_iload_n hx hb nd_CB_isModulus_10 rfl (lv_at hl 0 rfl) ?_
      refine wi_ic hx hb (a := 5) nd_CB_isModulus_11 ?_
      refine lv_icmp_eq (tgt := 21) hx hb nd_CB_isModulus_12 rfl (fun hc12 => ?_) (fun hc12 => ?_)
      · refine wi_ic hx hb (a := 1) nd_CB_isModulus_21 ?_
        refine lv_goto (tgt := 26) hx hb nd_CB_isModulus_22 rfl ?_
        exact wa_zret hx hb hr hk rfl ((h1 (by simp_all)).symm) nd_CB_isModulus_26
      · refine lv_iload_n hx hb nd_CB_isModulus_15 rfl (lv_at hl 0 rfl) ?_
        refine lv_bipush (v := nI 7) hx hb nd_CB_isModulus_16 (by decide) ?_
        refine lv_icmp_ne (tgt := 25) hx hb nd_CB_isModulus_18 rfl (fun hc18 => ?_) (fun hc18 => ?_)
        · refine wi_ic hx hb (a := 0) nd_CB_isModulus_25 ?_
          exact wa_zret hx hb hr hk rfl ((h0 (by simp_all)).symm) nd_CB_isModulus_26
        · refine wi_ic hx hb (a := 1) nd_CB_isModulus_21 ?_
          refine lv_goto (tgt := 26) hx hb nd_CB_isModulus_22 rfl ?_
          exact wa_zret hx hb hr hk rfl ((h1 (by simp_all)).symm) nd_CB_isModulus_26
theorem nd_CB_isElement_0 : decode nc_CB_isElement 0 = .ok (.iload_n 1, 1) := by decide +kernel
theorem nd_CB_isElement_1 : decode nc_CB_isElement 1 = .ok (.ifCond .lt 15, 3) := by decide +kernel
theorem nd_CB_isElement_4 : decode nc_CB_isElement 4 = .ok (.iload_n 1, 1) := by decide +kernel
theorem nd_CB_isElement_5 : decode nc_CB_isElement 5 = .ok (.aload_n 0, 1) := by decide +kernel
theorem nd_CB_isElement_6 : decode nc_CB_isElement 6 = .ok (.getfield 9, 3) := by decide +kernel
theorem nd_CB_isElement_9 : decode nc_CB_isElement 9 = .ok (.if_icmp .ge 7, 3) := by decide +kernel
theorem nd_CB_isElement_12 : decode nc_CB_isElement 12 = .ok (.iconst 1, 1) := by decide +kernel
theorem nd_CB_isElement_13 : decode nc_CB_isElement 13 = .ok (.goto 4, 3) := by decide +kernel
theorem nd_CB_isElement_16 : decode nc_CB_isElement 16 = .ok (.iconst 0, 1) := by decide +kernel
theorem nd_CB_isElement_17 : decode nc_CB_isElement 17 = .ok (.ireturn, 1) := by decide +kernel
set_option maxRecDepth 20000 in
theorem c_CB_isElement (l : Launch) (D : va_G) (tys : List (ClassId × FieldType)) (q0 q1 q2 n : Nat) (x r : Int32) (h1 : (¬ x < 0 ∧ ¬ nI n ≤ x) → r = 1) (h0 : ¬ (¬ x < 0 ∧ ¬ nI n ≤ x) → r = 0) : wa_M l ny_CB_isElement nc_CB_isElement 2 (some .boolean) ({ frames := 0, cells := 0, slots := 0, locals := 0 }) D tys ([(q0, .inr (0, [.int (nI (n)), .int (nI (2 ^ n - 1)), .ref q1, .ref q2]))]) [.ref q0, .int (x)] (r) := by
  refine wa_start (by decide) (Nat.le_of_ble_eq_true rfl) ?_
  intro p e0 s0 m below meth c ls hx hb hr hml htg hown hk hP hK hN hl
  have hl : lv_has ls 2 [(0, .ref q0), (1, .int (x))] := hl
  refine lv_iload_n hx hb nd_CB_isElement_0 rfl (lv_at hl 1 rfl) ?_
  refine lv_if_lt (tgt := 16) hx hb nd_CB_isElement_1 rfl (fun hc1 => ?_) (fun hc1 => ?_)
  · refine wi_ic hx hb (a := 0) nd_CB_isElement_16 ?_
    exact wa_zret hx hb hr hk rfl ((h0 (by simp_all)).symm) nd_CB_isElement_17
  · refine lv_iload_n hx hb nd_CB_isElement_4 rfl (lv_at hl 1 rfl) ?_
    refine lv_aload_n hx hb nd_CB_isElement_5 rfl (lv_at hl 0 rfl) ?_
    refine va_get (D := D) (C := nr_CB) (T := nt_CB) (N := 4) hx hb htg tf_CB hown hK hP 0 rfl rfl 0 (by decide) (htg _ tm_122) (fun _ h => h) rfl nd_CB_isElement_6 ?_
    refine lv_icmp_ge (tgt := 16) hx hb nd_CB_isElement_9 rfl (fun hc9 => ?_) (fun hc9 => ?_)
    · refine wi_ic hx hb (a := 0) nd_CB_isElement_16 ?_
      exact wa_zret hx hb hr hk rfl ((h0 (by simp_all)).symm) nd_CB_isElement_17
    · refine wi_ic hx hb (a := 1) nd_CB_isElement_12 ?_
      refine lv_goto (tgt := 17) hx hb nd_CB_isElement_13 rfl ?_
      exact wa_zret hx hb hr hk rfl ((h1 (by simp_all)).symm) nd_CB_isElement_17
theorem nd_CB_isSet_0 : decode nc_CB_isSet 0 = .ok (.iload_n 1, 1) := by decide +kernel
theorem nd_CB_isSet_1 : decode nc_CB_isSet 1 = .ok (.ifCond .lt 15, 3) := by decide +kernel
theorem nd_CB_isSet_4 : decode nc_CB_isSet 4 = .ok (.iload_n 1, 1) := by decide +kernel
theorem nd_CB_isSet_5 : decode nc_CB_isSet 5 = .ok (.aload_n 0, 1) := by decide +kernel
theorem nd_CB_isSet_6 : decode nc_CB_isSet 6 = .ok (.getfield 13, 3) := by decide +kernel
theorem nd_CB_isSet_9 : decode nc_CB_isSet 9 = .ok (.if_icmp .gt 7, 3) := by decide +kernel
theorem nd_CB_isSet_12 : decode nc_CB_isSet 12 = .ok (.iconst 1, 1) := by decide +kernel
theorem nd_CB_isSet_13 : decode nc_CB_isSet 13 = .ok (.goto 4, 3) := by decide +kernel
theorem nd_CB_isSet_16 : decode nc_CB_isSet 16 = .ok (.iconst 0, 1) := by decide +kernel
theorem nd_CB_isSet_17 : decode nc_CB_isSet 17 = .ok (.ireturn, 1) := by decide +kernel
set_option maxRecDepth 20000 in
theorem c_CB_isSet (l : Launch) (D : va_G) (tys : List (ClassId × FieldType)) (q0 q1 q2 n : Nat) (x r : Int32) (h1 : (¬ x < 0 ∧ ¬ nI (2 ^ n - 1) < x) → r = 1) (h0 : ¬ (¬ x < 0 ∧ ¬ nI (2 ^ n - 1) < x) → r = 0) : wa_M l ny_CB_isSet nc_CB_isSet 2 (some .boolean) ({ frames := 0, cells := 0, slots := 0, locals := 0 }) D tys ([(q0, .inr (0, [.int (nI (n)), .int (nI (2 ^ n - 1)), .ref q1, .ref q2]))]) [.ref q0, .int (x)] (r) := by
  refine wa_start (by decide) (Nat.le_of_ble_eq_true rfl) ?_
  intro p e0 s0 m below meth c ls hx hb hr hml htg hown hk hP hK hN hl
  have hl : lv_has ls 2 [(0, .ref q0), (1, .int (x))] := hl
  refine lv_iload_n hx hb nd_CB_isSet_0 rfl (lv_at hl 1 rfl) ?_
  refine lv_if_lt (tgt := 16) hx hb nd_CB_isSet_1 rfl (fun hc1 => ?_) (fun hc1 => ?_)
  · refine wi_ic hx hb (a := 0) nd_CB_isSet_16 ?_
    exact wa_zret hx hb hr hk rfl ((h0 (by simp_all)).symm) nd_CB_isSet_17
  · refine lv_iload_n hx hb nd_CB_isSet_4 rfl (lv_at hl 1 rfl) ?_
    refine lv_aload_n hx hb nd_CB_isSet_5 rfl (lv_at hl 0 rfl) ?_
    refine va_get (D := D) (C := nr_CB) (T := nt_CB) (N := 4) hx hb htg tf_CB hown hK hP 0 rfl rfl 1 (by decide) (htg _ tm_123) (fun _ h => h) rfl nd_CB_isSet_6 ?_
    refine lv_icmp_gt (tgt := 16) hx hb nd_CB_isSet_9 rfl (fun hc9 => ?_) (fun hc9 => ?_)
    · refine wi_ic hx hb (a := 0) nd_CB_isSet_16 ?_
      exact wa_zret hx hb hr hk rfl ((h0 (by simp_all)).symm) nd_CB_isSet_17
    · refine wi_ic hx hb (a := 1) nd_CB_isSet_12 ?_
      refine lv_goto (tgt := 17) hx hb nd_CB_isSet_13 rfl ?_
      exact wa_zret hx hb hr hk rfl ((h1 (by simp_all)).symm) nd_CB_isSet_17
theorem nd_CM_isElement_0 : decode nc_CM_isElement 0 = .ok (.iload_n 1, 1) := by decide +kernel
theorem nd_CM_isElement_1 : decode nc_CM_isElement 1 = .ok (.ifCond .lt 15, 3) := by decide +kernel
theorem nd_CM_isElement_4 : decode nc_CM_isElement 4 = .ok (.iload_n 1, 1) := by decide +kernel
theorem nd_CM_isElement_5 : decode nc_CM_isElement 5 = .ok (.aload_n 0, 1) := by decide +kernel
theorem nd_CM_isElement_6 : decode nc_CM_isElement 6 = .ok (.getfield 49, 3) := by decide +kernel
theorem nd_CM_isElement_9 : decode nc_CM_isElement 9 = .ok (.if_icmp .ge 7, 3) := by decide +kernel
theorem nd_CM_isElement_12 : decode nc_CM_isElement 12 = .ok (.iconst 1, 1) := by decide +kernel
theorem nd_CM_isElement_13 : decode nc_CM_isElement 13 = .ok (.goto 4, 3) := by decide +kernel
theorem nd_CM_isElement_16 : decode nc_CM_isElement 16 = .ok (.iconst 0, 1) := by decide +kernel
theorem nd_CM_isElement_17 : decode nc_CM_isElement 17 = .ok (.ireturn, 1) := by decide +kernel
set_option maxRecDepth 20000 in
theorem c_CM_isElement (l : Launch) (D : va_G) (tys : List (ClassId × FieldType)) (q : Nat → Nat) (n : Nat) (x r : Int32) (h1 : (¬ x < 0 ∧ ¬ nI n ≤ x) → r = 1) (h0 : ¬ (¬ x < 0 ∧ ¬ nI n ≤ x) → r = 0) : wa_M l ny_CM_isElement nc_CM_isElement 2 (some .boolean) ({ frames := 0, cells := 0, slots := 0, locals := 0 }) D tys ([(q 0, .inr (6, [.int (nI (n)), .ref (q 2), .ref (q 3), .ref (q 4), .ref (q 5), .ref (q 6), .ref (q 7), .ref (q 8), .ref (q 9), .ref (q 10), .ref (q 11), .ref (q 12), .ref (q 13), .ref (q 14)]))]) [.ref (q 0), .int (x)] (r) := by
  refine wa_start (by decide) (Nat.le_of_ble_eq_true rfl) ?_
  intro p e0 s0 m below meth c ls hx hb hr hml htg hown hk hP hK hN hl
  have hl : lv_has ls 2 [(0, .ref (q 0)), (1, .int (x))] := hl
  refine lv_iload_n hx hb nd_CM_isElement_0 rfl (lv_at hl 1 rfl) ?_
  refine lv_if_lt (tgt := 16) hx hb nd_CM_isElement_1 rfl (fun hc1 => ?_) (fun hc1 => ?_)
  · refine wi_ic hx hb (a := 0) nd_CM_isElement_16 ?_
    exact wa_zret hx hb hr hk rfl ((h0 (by simp_all)).symm) nd_CM_isElement_17
  · refine lv_iload_n hx hb nd_CM_isElement_4 rfl (lv_at hl 1 rfl) ?_
    refine lv_aload_n hx hb nd_CM_isElement_5 rfl (lv_at hl 0 rfl) ?_
    refine va_get (D := D) (C := nr_CM) (T := nt_CM) (N := 14) hx hb htg tf_CM hown hK hP 0 rfl rfl 0 (by decide) (htg _ tm_383) (fun _ h => h) rfl nd_CM_isElement_6 ?_
    refine lv_icmp_ge (tgt := 16) hx hb nd_CM_isElement_9 rfl (fun hc9 => ?_) (fun hc9 => ?_)
    · refine wi_ic hx hb (a := 0) nd_CM_isElement_16 ?_
      exact wa_zret hx hb hr hk rfl ((h0 (by simp_all)).symm) nd_CM_isElement_17
    · refine wi_ic hx hb (a := 1) nd_CM_isElement_12 ?_
      refine lv_goto (tgt := 17) hx hb nd_CM_isElement_13 rfl ?_
      exact wa_zret hx hb hr hk rfl ((h1 (by simp_all)).symm) nd_CM_isElement_17
theorem nd_CM_isSet_0 : decode nc_CM_isSet 0 = .ok (.iload_n 1, 1) := by decide +kernel
theorem nd_CM_isSet_1 : decode nc_CM_isSet 1 = .ok (.ifCond .lt 17, 3) := by decide +kernel
theorem nd_CM_isSet_4 : decode nc_CM_isSet 4 = .ok (.iload_n 1, 1) := by decide +kernel
theorem nd_CM_isSet_5 : decode nc_CM_isSet 5 = .ok (.iconst 1, 1) := by decide +kernel
theorem nd_CM_isSet_6 : decode nc_CM_isSet 6 = .ok (.aload_n 0, 1) := by decide +kernel
theorem nd_CM_isSet_7 : decode nc_CM_isSet 7 = .ok (.getfield 49, 3) := by decide +kernel
theorem nd_CM_isSet_10 : decode nc_CM_isSet 10 = .ok (.ishl, 1) := by decide +kernel
theorem nd_CM_isSet_11 : decode nc_CM_isSet 11 = .ok (.if_icmp .ge 7, 3) := by decide +kernel
theorem nd_CM_isSet_14 : decode nc_CM_isSet 14 = .ok (.iconst 1, 1) := by decide +kernel
theorem nd_CM_isSet_15 : decode nc_CM_isSet 15 = .ok (.goto 4, 3) := by decide +kernel
theorem nd_CM_isSet_18 : decode nc_CM_isSet 18 = .ok (.iconst 0, 1) := by decide +kernel
theorem nd_CM_isSet_19 : decode nc_CM_isSet 19 = .ok (.ireturn, 1) := by decide +kernel
set_option maxRecDepth 20000 in
theorem c_CM_isSet (l : Launch) (D : va_G) (tys : List (ClassId × FieldType)) (q : Nat → Nat) (n : Nat) (hn : n ≤ 10) (x r : Int32) (h1 : (¬ x < 0 ∧ ¬ nI (2 ^ n) ≤ x) → r = 1) (h0 : ¬ (¬ x < 0 ∧ ¬ nI (2 ^ n) ≤ x) → r = 0) : wa_M l ny_CM_isSet nc_CM_isSet 2 (some .boolean) ({ frames := 0, cells := 0, slots := 0, locals := 0 }) D tys ([(q 0, .inr (6, [.int (nI (n)), .ref (q 2), .ref (q 3), .ref (q 4), .ref (q 5), .ref (q 6), .ref (q 7), .ref (q 8), .ref (q 9), .ref (q 10), .ref (q 11), .ref (q 12), .ref (q 13), .ref (q 14)]))]) [.ref (q 0), .int (x)] (r) := by
  refine wa_start (by decide) (Nat.le_of_ble_eq_true rfl) ?_
  intro p e0 s0 m below meth c ls hx hb hr hml htg hown hk hP hK hN hl
  have hl : lv_has ls 2 [(0, .ref (q 0)), (1, .int (x))] := hl
  refine lv_iload_n hx hb nd_CM_isSet_0 rfl (lv_at hl 1 rfl) ?_
  refine lv_if_lt (tgt := 18) hx hb nd_CM_isSet_1 rfl (fun hc1 => ?_) (fun hc1 => ?_)
  · refine wi_ic hx hb (a := 0) nd_CM_isSet_18 ?_
    exact wa_zret hx hb hr hk rfl ((h0 (by simp_all)).symm) nd_CM_isSet_19
  · refine lv_iload_n hx hb nd_CM_isSet_4 rfl (lv_at hl 1 rfl) ?_
    refine wi_ic hx hb (a := 1) nd_CM_isSet_5 ?_
    refine lv_aload_n hx hb nd_CM_isSet_6 rfl (lv_at hl 0 rfl) ?_
    refine va_get (D := D) (C := nr_CM) (T := nt_CM) (N := 14) hx hb htg tf_CM hown hK hP 0 rfl rfl 0 (by decide) (htg _ tm_383) (fun _ h => h) rfl nd_CM_isSet_7 ?_
    refine wi_ishl1 hx hb (by omega) nd_CM_isSet_10 ?_
    refine lv_icmp_ge (tgt := 18) hx hb nd_CM_isSet_11 rfl (fun hc11 => ?_) (fun hc11 => ?_)
    · refine wi_ic hx hb (a := 0) nd_CM_isSet_18 ?_
      exact wa_zret hx hb hr hk rfl ((h0 (by simp_all)).symm) nd_CM_isSet_19
    · refine wi_ic hx hb (a := 1) nd_CM_isSet_14 ?_
      refine lv_goto (tgt := 19) hx hb nd_CM_isSet_15 rfl ?_
      exact wa_zret hx hb hr hk rfl ((h1 (by simp_all)).symm) nd_CM_isSet_19
def bc_1 (x : Int32) : Int32 := x - ((x.toUInt32 >>> ((nI 1).toUInt32 &&& Int32.toUInt32 31)).toInt32 &&& 1431655765)
def bc_2 (x : Int32) : Int32 := (x &&& 858993459) + ((x.toUInt32 >>> ((nI 2).toUInt32 &&& Int32.toUInt32 31)).toInt32 &&& 858993459)
def bc_3 (x : Int32) : Int32 := (x + (x.toUInt32 >>> ((nI 4).toUInt32 &&& Int32.toUInt32 31)).toInt32) &&& 252645135
def bc_4 (x : Int32) : Int32 := x + (x.toUInt32 >>> ((nI 8).toUInt32 &&& Int32.toUInt32 31)).toInt32
def bc_5 (x : Int32) : Int32 := x + (x.toUInt32 >>> ((nI 16).toUInt32 &&& Int32.toUInt32 31)).toInt32
theorem bc_t : (List.range 1024).all (fun s => bc_5 (bc_4 (bc_3 (bc_2 (bc_1 (nI s))))) &&& nI 63 == nI (mt_cd 10 s)) = true := by decide +kernel
theorem bc_ok {s : Nat} (h : s < 1024) : bc_5 (bc_4 (bc_3 (bc_2 (bc_1 (nI s))))) &&& nI 63 = nI (mt_cd 10 s) := eq_of_beq (List.all_eq_true.mp bc_t s (List.mem_range.mpr h))
theorem nd_IN_bitCount_0 : decode nc_IN_bitCount 0 = .ok (.iload_n 0, 1) := by decide +kernel
theorem nd_IN_bitCount_1 : decode nc_IN_bitCount 1 = .ok (.iload_n 0, 1) := by decide +kernel
theorem nd_IN_bitCount_2 : decode nc_IN_bitCount 2 = .ok (.iconst 1, 1) := by decide +kernel
theorem nd_IN_bitCount_3 : decode nc_IN_bitCount 3 = .ok (.iushr, 1) := by decide +kernel
theorem nd_IN_bitCount_4 : decode nc_IN_bitCount 4 = .ok (.ldc_w 265, 3) := by decide +kernel
theorem nd_IN_bitCount_7 : decode nc_IN_bitCount 7 = .ok (.iand, 1) := by decide +kernel
theorem nd_IN_bitCount_8 : decode nc_IN_bitCount 8 = .ok (.isub, 1) := by decide +kernel
theorem nd_IN_bitCount_9 : decode nc_IN_bitCount 9 = .ok (.istore_n 0, 1) := by decide +kernel
theorem nd_IN_bitCount_10 : decode nc_IN_bitCount 10 = .ok (.iload_n 0, 1) := by decide +kernel
theorem nd_IN_bitCount_11 : decode nc_IN_bitCount 11 = .ok (.ldc_w 266, 3) := by decide +kernel
theorem nd_IN_bitCount_14 : decode nc_IN_bitCount 14 = .ok (.iand, 1) := by decide +kernel
theorem nd_IN_bitCount_15 : decode nc_IN_bitCount 15 = .ok (.iload_n 0, 1) := by decide +kernel
theorem nd_IN_bitCount_16 : decode nc_IN_bitCount 16 = .ok (.iconst 2, 1) := by decide +kernel
theorem nd_IN_bitCount_17 : decode nc_IN_bitCount 17 = .ok (.iushr, 1) := by decide +kernel
theorem nd_IN_bitCount_18 : decode nc_IN_bitCount 18 = .ok (.ldc_w 266, 3) := by decide +kernel
theorem nd_IN_bitCount_21 : decode nc_IN_bitCount 21 = .ok (.iand, 1) := by decide +kernel
theorem nd_IN_bitCount_22 : decode nc_IN_bitCount 22 = .ok (.iadd, 1) := by decide +kernel
theorem nd_IN_bitCount_23 : decode nc_IN_bitCount 23 = .ok (.istore_n 0, 1) := by decide +kernel
theorem nd_IN_bitCount_24 : decode nc_IN_bitCount 24 = .ok (.iload_n 0, 1) := by decide +kernel
theorem nd_IN_bitCount_25 : decode nc_IN_bitCount 25 = .ok (.iload_n 0, 1) := by decide +kernel
theorem nd_IN_bitCount_26 : decode nc_IN_bitCount 26 = .ok (.iconst 4, 1) := by decide +kernel
theorem nd_IN_bitCount_27 : decode nc_IN_bitCount 27 = .ok (.iushr, 1) := by decide +kernel
theorem nd_IN_bitCount_28 : decode nc_IN_bitCount 28 = .ok (.iadd, 1) := by decide +kernel
theorem nd_IN_bitCount_29 : decode nc_IN_bitCount 29 = .ok (.ldc_w 267, 3) := by decide +kernel
theorem nd_IN_bitCount_32 : decode nc_IN_bitCount 32 = .ok (.iand, 1) := by decide +kernel
theorem nd_IN_bitCount_33 : decode nc_IN_bitCount 33 = .ok (.istore_n 0, 1) := by decide +kernel
theorem nd_IN_bitCount_34 : decode nc_IN_bitCount 34 = .ok (.iload_n 0, 1) := by decide +kernel
theorem nd_IN_bitCount_35 : decode nc_IN_bitCount 35 = .ok (.iload_n 0, 1) := by decide +kernel
theorem nd_IN_bitCount_36 : decode nc_IN_bitCount 36 = .ok (.bipush 8, 2) := by decide +kernel
theorem nd_IN_bitCount_38 : decode nc_IN_bitCount 38 = .ok (.iushr, 1) := by decide +kernel
theorem nd_IN_bitCount_39 : decode nc_IN_bitCount 39 = .ok (.iadd, 1) := by decide +kernel
theorem nd_IN_bitCount_40 : decode nc_IN_bitCount 40 = .ok (.istore_n 0, 1) := by decide +kernel
theorem nd_IN_bitCount_41 : decode nc_IN_bitCount 41 = .ok (.iload_n 0, 1) := by decide +kernel
theorem nd_IN_bitCount_42 : decode nc_IN_bitCount 42 = .ok (.iload_n 0, 1) := by decide +kernel
theorem nd_IN_bitCount_43 : decode nc_IN_bitCount 43 = .ok (.bipush 16, 2) := by decide +kernel
theorem nd_IN_bitCount_45 : decode nc_IN_bitCount 45 = .ok (.iushr, 1) := by decide +kernel
theorem nd_IN_bitCount_46 : decode nc_IN_bitCount 46 = .ok (.iadd, 1) := by decide +kernel
theorem nd_IN_bitCount_47 : decode nc_IN_bitCount 47 = .ok (.istore_n 0, 1) := by decide +kernel
theorem nd_IN_bitCount_48 : decode nc_IN_bitCount 48 = .ok (.iload_n 0, 1) := by decide +kernel
theorem nd_IN_bitCount_49 : decode nc_IN_bitCount 49 = .ok (.bipush 63, 2) := by decide +kernel
theorem nd_IN_bitCount_51 : decode nc_IN_bitCount 51 = .ok (.iand, 1) := by decide +kernel
theorem nd_IN_bitCount_52 : decode nc_IN_bitCount 52 = .ok (.ireturn, 1) := by decide +kernel
set_option maxRecDepth 20000 in
theorem c_IN_bitCount (l : Launch) (D : va_G) (tys : List (ClassId × FieldType)) (s : Nat) (hs : s < 1024) : wa_M l ny_IN_bitCount nc_IN_bitCount 1 (some .int) ({ frames := 0, cells := 0, slots := 0, locals := 0 }) D tys ([]) [.int (nI (s))] (nI (mt_cd 10 s)) := by
  refine wa_start (by decide) (Nat.le_of_ble_eq_true rfl) ?_
  intro p e0 s0 m below meth c ls hx hb hr hml htg hown hk hP hK hN hl
  have hl : lv_has ls 1 [(0, .int (nI (s)))] := hl
  refine lv_iload_n hx hb nd_IN_bitCount_0 rfl (lv_at hl 0 rfl) ?_
  refine lv_iload_n hx hb nd_IN_bitCount_1 rfl (lv_at hl 0 rfl) ?_
  refine wi_ic hx hb (a := 1) nd_IN_bitCount_2 ?_
  refine lv_iushr hx hb nd_IN_bitCount_3 rfl ?_
  refine lv_ldcw hx hb hown (htg _ tm_305) nd_IN_bitCount_4 ?_
  refine lv_iand hx hb nd_IN_bitCount_7 ?_
  refine lv_isub hx hb nd_IN_bitCount_8 ?_
  refine wi_top (y := bc_1 (nI s)) rfl ?_
  refine lv_topi (fun x1 ex1 => ?_)
  refine lv_istore_n hx hb nd_IN_bitCount_9 rfl hl (by decide) rfl (fun ls hl => ?_)
  have hl : lv_has ls 1 [(0, .int (x1))] := hl
  refine lv_iload_n hx hb nd_IN_bitCount_10 rfl (lv_at hl 0 rfl) ?_
  refine lv_ldcw hx hb hown (htg _ tm_306) nd_IN_bitCount_11 ?_
  refine lv_iand hx hb nd_IN_bitCount_14 ?_
  refine lv_iload_n hx hb nd_IN_bitCount_15 rfl (lv_at hl 0 rfl) ?_
  refine wi_ic hx hb (a := 2) nd_IN_bitCount_16 ?_
  refine lv_iushr hx hb nd_IN_bitCount_17 rfl ?_
  refine lv_ldcw hx hb hown (htg _ tm_306) nd_IN_bitCount_18 ?_
  refine lv_iand hx hb nd_IN_bitCount_21 ?_
  refine lv_iadd hx hb nd_IN_bitCount_22 ?_
  refine wi_top (y := bc_2 x1) rfl ?_
  refine lv_topi (fun x2 ex2 => ?_)
  refine lv_istore_n hx hb nd_IN_bitCount_23 rfl hl (by decide) rfl (fun ls hl => ?_)
  have hl : lv_has ls 1 [(0, .int (x2))] := hl
  refine lv_iload_n hx hb nd_IN_bitCount_24 rfl (lv_at hl 0 rfl) ?_
  refine lv_iload_n hx hb nd_IN_bitCount_25 rfl (lv_at hl 0 rfl) ?_
  refine wi_ic hx hb (a := 4) nd_IN_bitCount_26 ?_
  refine lv_iushr hx hb nd_IN_bitCount_27 rfl ?_
  refine lv_iadd hx hb nd_IN_bitCount_28 ?_
  refine lv_ldcw hx hb hown (htg _ tm_307) nd_IN_bitCount_29 ?_
  refine lv_iand hx hb nd_IN_bitCount_32 ?_
  refine wi_top (y := bc_3 x2) rfl ?_
  refine lv_topi (fun x3 ex3 => ?_)
  refine lv_istore_n hx hb nd_IN_bitCount_33 rfl hl (by decide) rfl (fun ls hl => ?_)
  have hl : lv_has ls 1 [(0, .int (x3))] := hl
  refine lv_iload_n hx hb nd_IN_bitCount_34 rfl (lv_at hl 0 rfl) ?_
  refine lv_iload_n hx hb nd_IN_bitCount_35 rfl (lv_at hl 0 rfl) ?_
  refine lv_bipush (v := nI 8) hx hb nd_IN_bitCount_36 (by decide) ?_
  refine lv_iushr hx hb nd_IN_bitCount_38 rfl ?_
  refine lv_iadd hx hb nd_IN_bitCount_39 ?_
  refine wi_top (y := bc_4 x3) rfl ?_
  refine lv_topi (fun x4 ex4 => ?_)
  refine lv_istore_n hx hb nd_IN_bitCount_40 rfl hl (by decide) rfl (fun ls hl => ?_)
  have hl : lv_has ls 1 [(0, .int (x4))] := hl
  refine lv_iload_n hx hb nd_IN_bitCount_41 rfl (lv_at hl 0 rfl) ?_
  refine lv_iload_n hx hb nd_IN_bitCount_42 rfl (lv_at hl 0 rfl) ?_
  refine lv_bipush (v := nI 16) hx hb nd_IN_bitCount_43 (by decide) ?_
  refine lv_iushr hx hb nd_IN_bitCount_45 rfl ?_
  refine lv_iadd hx hb nd_IN_bitCount_46 ?_
  refine wi_top (y := bc_5 x4) rfl ?_
  refine lv_topi (fun x5 ex5 => ?_)
  refine lv_istore_n hx hb nd_IN_bitCount_47 rfl hl (by decide) rfl (fun ls hl => ?_)
  have hl : lv_has ls 1 [(0, .int (x5))] := hl
  refine lv_iload_n hx hb nd_IN_bitCount_48 rfl (lv_at hl 0 rfl) ?_
  refine lv_bipush (v := nI 63) hx hb nd_IN_bitCount_49 (by decide) ?_
  refine lv_iand hx hb nd_IN_bitCount_51 ?_
  exact wa_iret hx hb hr hk (by subst ex5; subst ex4; subst ex3; subst ex2; subst ex1; exact bc_ok hs) nd_IN_bitCount_52
theorem fm_rem {a m : Int32} : (a - (a / m) * m).toInt = a.toInt.tmod m.toInt := rem_toInt a m
end
section
/-! Methods that only read, with loops. -/
abbrev ty_all (cI cG cM : ClassId) : List (ClassId × FieldType) := [(cI, .int), (cG, .array .int), (cM, .object "CommonBases$Matroid")]
def ms_W (w : Nat → Int32) : Nat → Nat → Int32
  | 0, _ => 0
  | k + 1, s => if s.testBit k = true then ms_W w k s + w k else ms_W w k s
theorem ms_Wf {w : Nat → Int32} {k s : Nat} (h : mt_bt s k = 0) : ms_W w (k + 1) s = ms_W w k s := by
  show (if s.testBit k = true then ms_W w k s + w k else ms_W w k s) = _
  rw [mt_bt_f.mp h]; rfl
theorem ms_Wt {w : Nat → Int32} {k s : Nat} (h : mt_bt s k = 1) : ms_W w (k + 1) s = ms_W w k s + w k := by
  show (if s.testBit k = true then ms_W w k s + w k else ms_W w k s) = _
  rw [mt_bt_t.mp h]; rfl
def ms_F (w : Nat → Int32) (t : Nat) : Nat → Nat
  | 0 => 0
  | k + 1 => if k = 0 then 0 else if mt_bt t k = 0 ∧ (mt_bt t (ms_F w t k) = 1 ∨ w (ms_F w t k) < w k) then k else ms_F w t k
theorem ms_F_lt (w : Nat → Int32) (t k : Nat) (h : 1 ≤ k) : ms_F w t k < k := by
  induction k with
  | zero => omega
  | succ k ih =>
    simp only [ms_F]
    by_cases h0 : k = 0
    · simp [h0]
    · rw [if_neg h0]
      split
      · omega
      · have := ih (by omega); omega
theorem ms_F_1 (w : Nat → Int32) (t : Nat) : ms_F w t 1 = 0 := rfl
theorem ms_Fy {w : Nat → Int32} {t k : Nat} (h0 : 1 ≤ k) (h : mt_bt t k = 0) (h2 : mt_bt t (ms_F w t k) = 1 ∨ w (ms_F w t k) < w k) : ms_F w t (k + 1) = k := by
  simp only [ms_F]
  rw [if_neg (by omega), if_pos ⟨h, h2⟩]
theorem ms_Fn {w : Nat → Int32} {t k : Nat} (h0 : 1 ≤ k) (h : ¬ (mt_bt t k = 0 ∧ (mt_bt t (ms_F w t k) = 1 ∨ w (ms_F w t k) < w k))) : ms_F w t (k + 1) = ms_F w t k := by
  simp only [ms_F]
  rw [if_neg (by omega), if_neg h]
theorem nd_CM_sizeOf_0 : decode nc_CM_sizeOf 0 = .ok (.iconst 0, 1) := by decide +kernel
theorem nd_CM_sizeOf_1 : decode nc_CM_sizeOf 1 = .ok (.istore_n 1, 1) := by decide +kernel
theorem nd_CM_sizeOf_2 : decode nc_CM_sizeOf 2 = .ok (.iconst 0, 1) := by decide +kernel
theorem nd_CM_sizeOf_3 : decode nc_CM_sizeOf 3 = .ok (.istore_n 2, 1) := by decide +kernel
theorem nd_CM_sizeOf_4 : decode nc_CM_sizeOf 4 = .ok (.iload_n 2, 1) := by decide +kernel
theorem nd_CM_sizeOf_5 : decode nc_CM_sizeOf 5 = .ok (.bipush 10, 2) := by decide +kernel
theorem nd_CM_sizeOf_7 : decode nc_CM_sizeOf 7 = .ok (.if_icmp .ge 17, 3) := by decide +kernel
theorem nd_CM_sizeOf_10 : decode nc_CM_sizeOf 10 = .ok (.iload_n 1, 1) := by decide +kernel
theorem nd_CM_sizeOf_11 : decode nc_CM_sizeOf 11 = .ok (.iload_n 0, 1) := by decide +kernel
theorem nd_CM_sizeOf_12 : decode nc_CM_sizeOf 12 = .ok (.iload_n 2, 1) := by decide +kernel
theorem nd_CM_sizeOf_13 : decode nc_CM_sizeOf 13 = .ok (.ishr, 1) := by decide +kernel
theorem nd_CM_sizeOf_14 : decode nc_CM_sizeOf 14 = .ok (.iconst 1, 1) := by decide +kernel
theorem nd_CM_sizeOf_15 : decode nc_CM_sizeOf 15 = .ok (.iand, 1) := by decide +kernel
theorem nd_CM_sizeOf_16 : decode nc_CM_sizeOf 16 = .ok (.iadd, 1) := by decide +kernel
theorem nd_CM_sizeOf_17 : decode nc_CM_sizeOf 17 = .ok (.istore_n 1, 1) := by decide +kernel
theorem nd_CM_sizeOf_18 : decode nc_CM_sizeOf 18 = .ok (.iinc 2 1, 3) := by decide +kernel
theorem nd_CM_sizeOf_21 : decode nc_CM_sizeOf 21 = .ok (.goto (-17), 3) := by decide +kernel
theorem nd_CM_sizeOf_24 : decode nc_CM_sizeOf 24 = .ok (.iload_n 1, 1) := by decide +kernel
theorem nd_CM_sizeOf_25 : decode nc_CM_sizeOf 25 = .ok (.ireturn, 1) := by decide +kernel
set_option maxRecDepth 20000 in
theorem lp_CM_sizeOf {p : Program} {l : Launch} {e0 : Env} {R : Room} {s0 : State} {m : MethodId} {args : Array Value} {below : List Frame} {meth : Method} {c : Code} {H : Heap} {locs : List Loc} {cells slots : Nat} {Q : State → Prop} {D : va_G} (cI cG cM : ClassId) (s : Nat) (hs : s < 2 ^ 31) (hx : p.tables.exec = Jvm.exec) (hb : c.code = nc_CM_sizeOf) (hml : c.maxLocals = 3) (htg : ∀ w ∈ tg_, w.before args s0 = true) (hown : s0.vm.findClass ny_CM_sizeOf.cls = some m.cls) (hK : va_K D cl_all (ty_all cI cG cM) s0) (hN : tn_K s0) (hRf : 0 ≤ R.frames) (hRl : 0 ≤ R.locals) (hCS : cells ≤ R.cells ∧ slots ≤ R.slots) (kx : ∀ (ls : Array Slot), lv_has ls 3 [(1, .int (nI (mt_cd 10 s)))] → W p l e0 R s0 m args below meth c H locs cells slots Q (F0 m 24 ls [])) : ∀ (f : Nat) (i : Nat) (ls : Array Slot), 10 - i < f → i ≤ 10 → lv_has ls 3 [(2, .int (nI (i))), (1, .int (nI (mt_cd i s))), (0, .int (nI (s)))] → W p l e0 R s0 m args below meth c H locs cells slots Q (F0 m 4 ls []) := by
  intro f
  induction f with
  | zero => intro i ls hf; omega
  | succ f ih =>
    intro i ls hf hi hl
    refine lv_iload_n hx hb nd_CM_sizeOf_4 rfl (lv_at hl 0 rfl) ?_
    refine lv_bipush (v := nI 10) hx hb nd_CM_sizeOf_5 (by decide) ?_
    refine wi_icmp_ge (tgt := 24) hx hb (by omega) (by omega) nd_CM_sizeOf_7 rfl (fun hc7 => ?_) (fun hc7 => ?_)
    · have hl : lv_has ls 3 [(1, .int (nI (mt_cd i s)))] := lv_sub hl [1] rfl
      have hi10 : i = 10 := by omega
      subst hi10
      exact kx ls hl
    · refine lv_iload_n hx hb nd_CM_sizeOf_10 rfl (lv_at hl 1 rfl) ?_
      refine lv_iload_n hx hb nd_CM_sizeOf_11 rfl (lv_at hl 2 rfl) ?_
      refine lv_iload_n hx hb nd_CM_sizeOf_12 rfl (lv_at hl 0 rfl) ?_
      refine wi_ishr hx hb (by omega) (by omega) nd_CM_sizeOf_13 ?_
      refine wi_ic hx hb (a := 1) nd_CM_sizeOf_14 ?_
      refine wi_bit hx hb nd_CM_sizeOf_15 ?_
      have hbt15 := mt_bt_lt s i
      refine wi_iadd hx hb nd_CM_sizeOf_16 ?_
      refine lv_istore_n hx hb nd_CM_sizeOf_17 rfl hl (by decide) rfl (fun ls hl => ?_)
      have hl : lv_has ls 3 [(1, .int (nI ((mt_cd i s) + (mt_bt s i)))), (2, .int (nI (i))), (0, .int (nI (s)))] := hl
      refine lv_iinc (k := 1) (v := nI (i + 1)) hx hb nd_CM_sizeOf_18 hl rfl (wi_inc _ 1) (by decide) rfl (fun ls hl => ?_)
      have hl : lv_has ls 3 [(2, .int (nI (i + 1))), (1, .int (nI ((mt_cd i s) + (mt_bt s i)))), (0, .int (nI (s)))] := hl
      refine lv_goto (tgt := 4) hx hb nd_CM_sizeOf_21 rfl ?_
      have hl : lv_has ls 3 [(2, .int (nI (i + 1))), (1, .int (nI ((mt_cd i s) + (mt_bt s i)))), (0, .int (nI (s)))] := lv_sub hl [0, 1, 2] rfl
      exact ih _ ls (by omega) (by omega) hl
set_option maxRecDepth 20000 in
theorem c_CM_sizeOf (l : Launch) (D : va_G) (cI cG cM : ClassId) (s : Nat) (hs : s < 2 ^ 31) : wa_M l ny_CM_sizeOf nc_CM_sizeOf 3 (some .int) ({ frames := 0, cells := 0, slots := 0, locals := 0 }) D (ty_all cI cG cM) ([]) [.int (nI (s))] (nI (mt_cd 10 s)) := by
  refine wa_start (by decide) (Nat.le_of_ble_eq_true rfl) ?_
  intro p e0 s0 m below meth c ls hx hb hr hml htg hown hk hP hK hN hl
  have hl : lv_has ls 3 [(0, .int (nI (s)))] := hl
  have hRf : 0 ≤ ({ frames := 0, cells := 0, slots := 0, locals := 0 } : Room).frames := Nat.le_refl _
  have hRl : 0 ≤ ({ frames := 0, cells := 0, slots := 0, locals := 0 } : Room).locals := Nat.le_refl _
  have hCS : 0 ≤ ({ frames := 0, cells := 0, slots := 0, locals := 0 } : Room).cells ∧ 0 ≤ ({ frames := 0, cells := 0, slots := 0, locals := 0 } : Room).slots := ⟨Nat.zero_le _, Nat.zero_le _⟩
  refine wi_ic hx hb (a := 0) nd_CM_sizeOf_0 ?_
  refine lv_istore_n hx hb nd_CM_sizeOf_1 rfl hl (by decide) rfl (fun ls hl => ?_)
  have hl : lv_has ls 3 [(1, .int (nI (0))), (0, .int (nI (s)))] := hl
  refine wi_ic hx hb (a := 0) nd_CM_sizeOf_2 ?_
  refine lv_istore_n hx hb nd_CM_sizeOf_3 rfl hl (by decide) rfl (fun ls hl => ?_)
  have hl : lv_has ls 3 [(2, .int (nI (0))), (1, .int (nI (0))), (0, .int (nI (s)))] := hl
  have hl : lv_has ls 3 [(2, .int (nI (0))), (1, .int (nI (0))), (0, .int (nI (s)))] := lv_sub hl [0, 1, 2] rfl
  refine lp_CM_sizeOf cI cG cM s hs hx hb hml htg hown hK hN hRf hRl hCS (fun ls hl => ?_) 11 0 ls (by omega) (by omega) hl
  refine lv_iload_n hx hb nd_CM_sizeOf_24 rfl (lv_at hl 0 rfl) ?_
  exact wa_iret hx hb hr hk (rfl) nd_CM_sizeOf_25
theorem nd_CB_sumOfWeights_0 : decode nc_CB_sumOfWeights 0 = .ok (.iconst 0, 1) := by decide +kernel
theorem nd_CB_sumOfWeights_1 : decode nc_CB_sumOfWeights 1 = .ok (.istore_n 2, 1) := by decide +kernel
theorem nd_CB_sumOfWeights_2 : decode nc_CB_sumOfWeights 2 = .ok (.iconst 0, 1) := by decide +kernel
theorem nd_CB_sumOfWeights_3 : decode nc_CB_sumOfWeights 3 = .ok (.istore_n 3, 1) := by decide +kernel
theorem nd_CB_sumOfWeights_4 : decode nc_CB_sumOfWeights 4 = .ok (.iload_n 3, 1) := by decide +kernel
theorem nd_CB_sumOfWeights_5 : decode nc_CB_sumOfWeights 5 = .ok (.aload_n 0, 1) := by decide +kernel
theorem nd_CB_sumOfWeights_6 : decode nc_CB_sumOfWeights 6 = .ok (.getfield 9, 3) := by decide +kernel
theorem nd_CB_sumOfWeights_9 : decode nc_CB_sumOfWeights 9 = .ok (.if_icmp .ge 26, 3) := by decide +kernel
theorem nd_CB_sumOfWeights_12 : decode nc_CB_sumOfWeights 12 = .ok (.iload_n 1, 1) := by decide +kernel
theorem nd_CB_sumOfWeights_13 : decode nc_CB_sumOfWeights 13 = .ok (.iload_n 3, 1) := by decide +kernel
theorem nd_CB_sumOfWeights_14 : decode nc_CB_sumOfWeights 14 = .ok (.invokestatic 80, 3) := by decide +kernel
theorem nd_CB_sumOfWeights_17 : decode nc_CB_sumOfWeights 17 = .ok (.ifCond .eq 12, 3) := by decide +kernel
theorem nd_CB_sumOfWeights_20 : decode nc_CB_sumOfWeights 20 = .ok (.iload_n 2, 1) := by decide +kernel
theorem nd_CB_sumOfWeights_21 : decode nc_CB_sumOfWeights 21 = .ok (.aload_n 0, 1) := by decide +kernel
theorem nd_CB_sumOfWeights_22 : decode nc_CB_sumOfWeights 22 = .ok (.getfield 16, 3) := by decide +kernel
theorem nd_CB_sumOfWeights_25 : decode nc_CB_sumOfWeights 25 = .ok (.iload_n 3, 1) := by decide +kernel
theorem nd_CB_sumOfWeights_26 : decode nc_CB_sumOfWeights 26 = .ok (.iaload, 1) := by decide +kernel
theorem nd_CB_sumOfWeights_27 : decode nc_CB_sumOfWeights 27 = .ok (.iadd, 1) := by decide +kernel
theorem nd_CB_sumOfWeights_28 : decode nc_CB_sumOfWeights 28 = .ok (.istore_n 2, 1) := by decide +kernel
theorem nd_CB_sumOfWeights_29 : decode nc_CB_sumOfWeights 29 = .ok (.iinc 3 1, 3) := by decide +kernel
theorem nd_CB_sumOfWeights_32 : decode nc_CB_sumOfWeights 32 = .ok (.goto (-28), 3) := by decide +kernel
theorem nd_CB_sumOfWeights_35 : decode nc_CB_sumOfWeights 35 = .ok (.iload_n 2, 1) := by decide +kernel
theorem nd_CB_sumOfWeights_36 : decode nc_CB_sumOfWeights 36 = .ok (.ireturn, 1) := by decide +kernel
set_option maxRecDepth 20000 in
theorem lp_CB_sumOfWeights {p : Program} {l : Launch} {e0 : Env} {R : Room} {s0 : State} {m : MethodId} {args : Array Value} {below : List Frame} {meth : Method} {c : Code} {H : Heap} {locs : List Loc} {cells slots : Nat} {Q : State → Prop} {D : va_G} (cI cG cM : ClassId) (q0 q1 q2 n : Nat) (hn : n ≤ 10) (w : Nat → Int32) (s : Nat) (hs : s < 2 ^ 31) (hx : p.tables.exec = Jvm.exec) (hb : c.code = nc_CB_sumOfWeights) (hml : c.maxLocals = 4) (htg : ∀ w ∈ tg_, w.before args s0 = true) (hown : s0.vm.findClass ny_CB_sumOfWeights.cls = some m.cls) (hK : va_K D cl_all (ty_all cI cG cM) s0) (hN : tn_K s0) (hP : va_P D cl_all ([(q0, .inr (0, [.int (nI (n)), .int (nI (2 ^ n - 1)), .ref q1, .ref q2])), (q1, .inl (cI, n, .inl w))]) H) (hRf : 1 ≤ R.frames) (hRl : 21 ≤ R.locals) (hCS : cells ≤ R.cells ∧ slots ≤ R.slots) (kx : ∀ (ls : Array Slot), lv_has ls 4 [(2, .int (ms_W w n s))] → W p l e0 R s0 m args below meth c H locs cells slots Q (F0 m 35 ls [])) : ∀ (f : Nat) (i : Nat) (ls : Array Slot), n - i < f → i ≤ n → lv_has ls 4 [(3, .int (nI (i))), (2, .int (ms_W w i s)), (0, .ref q0), (1, .int (nI (s)))] → W p l e0 R s0 m args below meth c H locs cells slots Q (F0 m 4 ls []) := by
  intro f
  induction f with
  | zero => intro i ls hf; omega
  | succ f ih =>
    intro i ls hf hi hl
    refine lv_iload_n hx hb nd_CB_sumOfWeights_4 rfl (lv_at hl 0 rfl) ?_
    refine lv_aload_n hx hb nd_CB_sumOfWeights_5 rfl (lv_at hl 2 rfl) ?_
    refine va_get (D := D) (C := nr_CB) (T := nt_CB) (N := 4) hx hb htg tf_CB hown hK hP 0 rfl rfl 0 (by decide) (htg _ tm_122) (fun _ h => h) rfl nd_CB_sumOfWeights_6 ?_
    refine wi_icmp_ge (tgt := 35) hx hb (by omega) (by omega) nd_CB_sumOfWeights_9 rfl (fun hc9 => ?_) (fun hc9 => ?_)
    · have hl : lv_has ls 4 [(2, .int (ms_W w i s))] := lv_sub hl [1] rfl
      have hin : i = n := by omega
      subst hin
      exact kx ls hl
    · refine lv_iload_n hx hb nd_CB_sumOfWeights_12 rfl (lv_at hl 3 rfl) ?_
      refine lv_iload_n hx hb nd_CB_sumOfWeights_13 rfl (lv_at hl 0 rfl) ?_
      refine wc_S (n := 2) hx hb hml hown htg (c_CB_has l D _ s i (by omega) (by omega)) tm_272 tm_323 tm_271 tm_1 (by decide +kernel) ⟨⟨Nat.le_trans (by decide) hRf, Nat.le_trans (by decide) hRl⟩, rfl, rfl⟩ (wa_pre wa_nil hK hN) rfl hl.1 rfl (Nat.le_of_ble_eq_true rfl) nd_CB_sumOfWeights_14 hCS ?_
      have hbt14 := mt_bt_lt s i
      refine wi_if_eq (tgt := 29) hx hb (by omega) nd_CB_sumOfWeights_17 rfl (fun hc17 => ?_) (fun hc17 => ?_)
      · refine lv_iinc (k := 0) (v := nI (i + 1)) hx hb nd_CB_sumOfWeights_29 hl rfl (wi_inc _ 1) (by decide) rfl (fun ls hl => ?_)
        have hl : lv_has ls 4 [(3, .int (nI (i + 1))), (2, .int (ms_W w i s)), (0, .ref q0), (1, .int (nI (s)))] := hl
        refine lv_goto (tgt := 4) hx hb nd_CB_sumOfWeights_32 rfl ?_
        have hl : lv_has ls 4 [(3, .int (nI (i + 1))), (2, .int (ms_W w i s)), (0, .ref q0), (1, .int (nI (s)))] := lv_sub hl [0, 1, 2, 3] rfl
        exact ih (i + 1) ls (by omega) (by omega) (by rw [ms_Wf (by omega)]; exact hl)
      · refine lv_iload_n hx hb nd_CB_sumOfWeights_20 rfl (lv_at hl 1 rfl) ?_
        refine lv_aload_n hx hb nd_CB_sumOfWeights_21 rfl (lv_at hl 2 rfl) ?_
        refine va_get (D := D) (C := nr_CB) (T := nt_CB) (N := 4) hx hb htg tf_CB hown hK hP 0 rfl rfl 2 (by decide) (htg _ tm_124) (fun _ h => h) rfl nd_CB_sumOfWeights_22 ?_
        refine lv_iload_n hx hb nd_CB_sumOfWeights_25 rfl (lv_at hl 0 rfl) ?_
        refine wi_iald hx hb hK hP 1 0 rfl rfl (by omega) (by omega) nd_CB_sumOfWeights_26 ?_
        refine lv_iadd hx hb nd_CB_sumOfWeights_27 ?_
        refine lv_istore_n hx hb nd_CB_sumOfWeights_28 rfl hl (by decide) rfl (fun ls hl => ?_)
        have hl : lv_has ls 4 [(2, .int ((ms_W w i s + w i))), (3, .int (nI (i))), (0, .ref q0), (1, .int (nI (s)))] := hl
        refine lv_iinc (k := 1) (v := nI (i + 1)) hx hb nd_CB_sumOfWeights_29 hl rfl (wi_inc _ 1) (by decide) rfl (fun ls hl => ?_)
        have hl : lv_has ls 4 [(3, .int (nI (i + 1))), (2, .int ((ms_W w i s + w i))), (0, .ref q0), (1, .int (nI (s)))] := hl
        refine lv_goto (tgt := 4) hx hb nd_CB_sumOfWeights_32 rfl ?_
        have hl : lv_has ls 4 [(3, .int (nI (i + 1))), (2, .int ((ms_W w i s + w i))), (0, .ref q0), (1, .int (nI (s)))] := lv_sub hl [0, 1, 2, 3] rfl
        exact ih (i + 1) ls (by omega) (by omega) (by rw [ms_Wt (by omega)]; exact hl)
set_option maxRecDepth 20000 in
theorem c_CB_sumOfWeights (l : Launch) (D : va_G) (cI cG cM : ClassId) (q0 q1 q2 n : Nat) (hn : n ≤ 10) (w : Nat → Int32) (s : Nat) (hs : s < 2 ^ 31) : wa_M l ny_CB_sumOfWeights nc_CB_sumOfWeights 4 (some .int) ({ frames := 1, cells := 0, slots := 0, locals := 21 }) D (ty_all cI cG cM) ([(q0, .inr (0, [.int (nI (n)), .int (nI (2 ^ n - 1)), .ref q1, .ref q2])), (q1, .inl (cI, n, .inl w))]) [.ref q0, .int (nI (s))] (ms_W w n s) := by
  refine wa_start (by decide) (Nat.le_of_ble_eq_true rfl) ?_
  intro p e0 s0 m below meth c ls hx hb hr hml htg hown hk hP hK hN hl
  have hl : lv_has ls 4 [(0, .ref q0), (1, .int (nI (s)))] := hl
  have hRf : 1 ≤ ({ frames := 1, cells := 0, slots := 0, locals := 21 } : Room).frames := Nat.le_refl _
  have hRl : 21 ≤ ({ frames := 1, cells := 0, slots := 0, locals := 21 } : Room).locals := Nat.le_refl _
  have hCS : 0 ≤ ({ frames := 1, cells := 0, slots := 0, locals := 21 } : Room).cells ∧ 0 ≤ ({ frames := 1, cells := 0, slots := 0, locals := 21 } : Room).slots := ⟨Nat.zero_le _, Nat.zero_le _⟩
  refine wi_ic hx hb (a := 0) nd_CB_sumOfWeights_0 ?_
  refine lv_istore_n hx hb nd_CB_sumOfWeights_1 rfl hl (by decide) rfl (fun ls hl => ?_)
  have hl : lv_has ls 4 [(2, .int (nI (0))), (0, .ref q0), (1, .int (nI (s)))] := hl
  refine wi_ic hx hb (a := 0) nd_CB_sumOfWeights_2 ?_
  refine lv_istore_n hx hb nd_CB_sumOfWeights_3 rfl hl (by decide) rfl (fun ls hl => ?_)
  have hl : lv_has ls 4 [(3, .int (nI (0))), (2, .int (nI (0))), (0, .ref q0), (1, .int (nI (s)))] := hl
  have hl : lv_has ls 4 [(3, .int (nI (0))), (2, .int (nI (0))), (0, .ref q0), (1, .int (nI (s)))] := lv_sub hl [0, 1, 2, 3] rfl
  refine lp_CB_sumOfWeights cI cG cM q0 q1 q2 n hn w s hs hx hb hml htg hown hK hN hP hRf hRl hCS (fun ls hl => ?_) (n + 1) 0 ls (by omega) (by omega) hl
  refine lv_iload_n hx hb nd_CB_sumOfWeights_35 rfl (lv_at hl 0 rfl) ?_
  exact wa_iret hx hb hr hk (rfl) nd_CB_sumOfWeights_36
theorem nd_CM_heaviness_0 : decode nc_CM_heaviness 0 = .ok (.iconst 0, 1) := by decide +kernel
theorem nd_CM_heaviness_1 : decode nc_CM_heaviness 1 = .ok (.istore_n 2, 1) := by decide +kernel
theorem nd_CM_heaviness_2 : decode nc_CM_heaviness 2 = .ok (.iconst 0, 1) := by decide +kernel
theorem nd_CM_heaviness_3 : decode nc_CM_heaviness 3 = .ok (.istore_n 3, 1) := by decide +kernel
theorem nd_CM_heaviness_4 : decode nc_CM_heaviness 4 = .ok (.iload_n 3, 1) := by decide +kernel
theorem nd_CM_heaviness_5 : decode nc_CM_heaviness 5 = .ok (.aload_n 0, 1) := by decide +kernel
theorem nd_CM_heaviness_6 : decode nc_CM_heaviness 6 = .ok (.getfield 49, 3) := by decide +kernel
theorem nd_CM_heaviness_9 : decode nc_CM_heaviness 9 = .ok (.if_icmp .ge 31, 3) := by decide +kernel
theorem nd_CM_heaviness_12 : decode nc_CM_heaviness 12 = .ok (.iload_n 1, 1) := by decide +kernel
theorem nd_CM_heaviness_13 : decode nc_CM_heaviness 13 = .ok (.iload_n 3, 1) := by decide +kernel
theorem nd_CM_heaviness_14 : decode nc_CM_heaviness 14 = .ok (.ishr, 1) := by decide +kernel
theorem nd_CM_heaviness_15 : decode nc_CM_heaviness 15 = .ok (.iconst 1, 1) := by decide +kernel
theorem nd_CM_heaviness_16 : decode nc_CM_heaviness 16 = .ok (.iand, 1) := by decide +kernel
theorem nd_CM_heaviness_17 : decode nc_CM_heaviness 17 = .ok (.iconst 1, 1) := by decide +kernel
theorem nd_CM_heaviness_18 : decode nc_CM_heaviness 18 = .ok (.if_icmp .ne 14, 3) := by decide +kernel
theorem nd_CM_heaviness_21 : decode nc_CM_heaviness 21 = .ok (.iload_n 2, 1) := by decide +kernel
theorem nd_CM_heaviness_22 : decode nc_CM_heaviness 22 = .ok (.aload_n 0, 1) := by decide +kernel
theorem nd_CM_heaviness_23 : decode nc_CM_heaviness 23 = .ok (.getfield 7, 3) := by decide +kernel
theorem nd_CM_heaviness_26 : decode nc_CM_heaviness 26 = .ok (.iload_n 3, 1) := by decide +kernel
theorem nd_CM_heaviness_27 : decode nc_CM_heaviness 27 = .ok (.iaload, 1) := by decide +kernel
theorem nd_CM_heaviness_28 : decode nc_CM_heaviness 28 = .ok (.iadd, 1) := by decide +kernel
theorem nd_CM_heaviness_29 : decode nc_CM_heaviness 29 = .ok (.goto 4, 3) := by decide +kernel
theorem nd_CM_heaviness_32 : decode nc_CM_heaviness 32 = .ok (.iload_n 2, 1) := by decide +kernel
theorem nd_CM_heaviness_33 : decode nc_CM_heaviness 33 = .ok (.istore_n 2, 1) := by decide +kernel
theorem nd_CM_heaviness_34 : decode nc_CM_heaviness 34 = .ok (.iinc 3 1, 3) := by decide +kernel
theorem nd_CM_heaviness_37 : decode nc_CM_heaviness 37 = .ok (.goto (-33), 3) := by decide +kernel
theorem nd_CM_heaviness_40 : decode nc_CM_heaviness 40 = .ok (.iload_n 2, 1) := by decide +kernel
theorem nd_CM_heaviness_41 : decode nc_CM_heaviness 41 = .ok (.ireturn, 1) := by decide +kernel
set_option maxRecDepth 20000 in
theorem lp_CM_heaviness {p : Program} {l : Launch} {e0 : Env} {R : Room} {s0 : State} {m : MethodId} {args : Array Value} {below : List Frame} {meth : Method} {c : Code} {H : Heap} {locs : List Loc} {cells slots : Nat} {Q : State → Prop} {D : va_G} (cI cG cM : ClassId) (q : Nat → Nat) (n : Nat) (hn : n ≤ 10) (w : Nat → Int32) (s : Nat) (hs : s < 2 ^ 31) (hx : p.tables.exec = Jvm.exec) (hb : c.code = nc_CM_heaviness) (hml : c.maxLocals = 4) (htg : ∀ w ∈ tg_, w.before args s0 = true) (hown : s0.vm.findClass ny_CM_heaviness.cls = some m.cls) (hK : va_K D cl_all (ty_all cI cG cM) s0) (hN : tn_K s0) (hP : va_P D cl_all ([((q 0), .inr (6, [.int (nI (n)), .ref (q 2), .ref (q 3), .ref (q 4), .ref (q 5), .ref (q 6), .ref (q 7), .ref (q 8), .ref (q 9), .ref (q 10), .ref (q 11), .ref (q 12), .ref (q 13), .ref (q 14)])), ((q 2), .inl (cI, 10, .inl w))]) H) (hRf : 0 ≤ R.frames) (hRl : 0 ≤ R.locals) (hCS : cells ≤ R.cells ∧ slots ≤ R.slots) (kx : ∀ (ls : Array Slot), lv_has ls 4 [(2, .int (ms_W w n s))] → W p l e0 R s0 m args below meth c H locs cells slots Q (F0 m 40 ls [])) : ∀ (f : Nat) (i : Nat) (ls : Array Slot), n - i < f → i ≤ n → lv_has ls 4 [(3, .int (nI (i))), (2, .int (ms_W w i s)), (0, .ref (q 0)), (1, .int (nI (s)))] → W p l e0 R s0 m args below meth c H locs cells slots Q (F0 m 4 ls []) := by
  intro f
  induction f with
  | zero => intro i ls hf; omega
  | succ f ih =>
    intro i ls hf hi hl
    refine lv_iload_n hx hb nd_CM_heaviness_4 rfl (lv_at hl 0 rfl) ?_
    refine lv_aload_n hx hb nd_CM_heaviness_5 rfl (lv_at hl 2 rfl) ?_
    refine va_get (D := D) (C := nr_CM) (T := nt_CM) (N := 14) hx hb htg tf_CM hown hK hP 0 rfl rfl 0 (by decide) (htg _ tm_383) (fun _ h => h) rfl nd_CM_heaviness_6 ?_
    refine wi_icmp_ge (tgt := 40) hx hb (by omega) (by omega) nd_CM_heaviness_9 rfl (fun hc9 => ?_) (fun hc9 => ?_)
    · have hl : lv_has ls 4 [(2, .int (ms_W w i s))] := lv_sub hl [1] rfl
      have hin : i = n := by omega
      subst hin
      exact kx ls hl
    · refine lv_iload_n hx hb nd_CM_heaviness_12 rfl (lv_at hl 3 rfl) ?_
      refine lv_iload_n hx hb nd_CM_heaviness_13 rfl (lv_at hl 0 rfl) ?_
      refine wi_ishr hx hb (by omega) (by omega) nd_CM_heaviness_14 ?_
      refine wi_ic hx hb (a := 1) nd_CM_heaviness_15 ?_
      refine wi_bit hx hb nd_CM_heaviness_16 ?_
      have hbt16 := mt_bt_lt s i
      refine wi_ic hx hb (a := 1) nd_CM_heaviness_17 ?_
      refine wi_icmp_ne (tgt := 32) hx hb (by omega) (by omega) nd_CM_heaviness_18 rfl (fun hc18 => ?_) (fun hc18 => ?_)
      · refine lv_iload_n hx hb nd_CM_heaviness_32 rfl (lv_at hl 1 rfl) ?_
        refine lv_istore_n hx hb nd_CM_heaviness_33 rfl hl (by decide) rfl (fun ls hl => ?_)
        have hl : lv_has ls 4 [(2, .int (ms_W w i s)), (3, .int (nI (i))), (0, .ref (q 0)), (1, .int (nI (s)))] := hl
        refine lv_iinc (k := 1) (v := nI (i + 1)) hx hb nd_CM_heaviness_34 hl rfl (wi_inc _ 1) (by decide) rfl (fun ls hl => ?_)
        have hl : lv_has ls 4 [(3, .int (nI (i + 1))), (2, .int (ms_W w i s)), (0, .ref (q 0)), (1, .int (nI (s)))] := hl
        refine lv_goto (tgt := 4) hx hb nd_CM_heaviness_37 rfl ?_
        have hl : lv_has ls 4 [(3, .int (nI (i + 1))), (2, .int (ms_W w i s)), (0, .ref (q 0)), (1, .int (nI (s)))] := lv_sub hl [0, 1, 2, 3] rfl
        exact ih (i + 1) ls (by omega) (by omega) (by rw [ms_Wf (by omega)]; exact hl)
      · refine lv_iload_n hx hb nd_CM_heaviness_21 rfl (lv_at hl 1 rfl) ?_
        refine lv_aload_n hx hb nd_CM_heaviness_22 rfl (lv_at hl 2 rfl) ?_
        refine va_get (D := D) (C := nr_CM) (T := nt_CM) (N := 14) hx hb htg tf_CM hown hK hP 0 rfl rfl 1 (by decide) (htg _ tm_384) (fun _ h => h) rfl nd_CM_heaviness_23 ?_
        refine lv_iload_n hx hb nd_CM_heaviness_26 rfl (lv_at hl 0 rfl) ?_
        refine wi_iald hx hb hK hP 1 0 rfl rfl (by omega) (by omega) nd_CM_heaviness_27 ?_
        refine lv_iadd hx hb nd_CM_heaviness_28 ?_
        refine lv_goto (tgt := 33) hx hb nd_CM_heaviness_29 rfl ?_
        refine lv_istore_n hx hb nd_CM_heaviness_33 rfl hl (by decide) rfl (fun ls hl => ?_)
        have hl : lv_has ls 4 [(2, .int ((ms_W w i s + w i))), (3, .int (nI (i))), (0, .ref (q 0)), (1, .int (nI (s)))] := hl
        refine lv_iinc (k := 1) (v := nI (i + 1)) hx hb nd_CM_heaviness_34 hl rfl (wi_inc _ 1) (by decide) rfl (fun ls hl => ?_)
        have hl : lv_has ls 4 [(3, .int (nI (i + 1))), (2, .int ((ms_W w i s + w i))), (0, .ref (q 0)), (1, .int (nI (s)))] := hl
        refine lv_goto (tgt := 4) hx hb nd_CM_heaviness_37 rfl ?_
        have hl : lv_has ls 4 [(3, .int (nI (i + 1))), (2, .int ((ms_W w i s + w i))), (0, .ref (q 0)), (1, .int (nI (s)))] := lv_sub hl [0, 1, 2, 3] rfl
        exact ih (i + 1) ls (by omega) (by omega) (by rw [ms_Wt (by omega)]; exact hl)
set_option maxRecDepth 20000 in
theorem c_CM_heaviness (l : Launch) (D : va_G) (cI cG cM : ClassId) (q : Nat → Nat) (n : Nat) (hn : n ≤ 10) (w : Nat → Int32) (s : Nat) (hs : s < 2 ^ 31) : wa_M l ny_CM_heaviness nc_CM_heaviness 4 (some .int) ({ frames := 0, cells := 0, slots := 0, locals := 0 }) D (ty_all cI cG cM) ([((q 0), .inr (6, [.int (nI (n)), .ref (q 2), .ref (q 3), .ref (q 4), .ref (q 5), .ref (q 6), .ref (q 7), .ref (q 8), .ref (q 9), .ref (q 10), .ref (q 11), .ref (q 12), .ref (q 13), .ref (q 14)])), ((q 2), .inl (cI, 10, .inl w))]) [.ref (q 0), .int (nI (s))] (ms_W w n s) := by
  refine wa_start (by decide) (Nat.le_of_ble_eq_true rfl) ?_
  intro p e0 s0 m below meth c ls hx hb hr hml htg hown hk hP hK hN hl
  have hl : lv_has ls 4 [(0, .ref (q 0)), (1, .int (nI (s)))] := hl
  have hRf : 0 ≤ ({ frames := 0, cells := 0, slots := 0, locals := 0 } : Room).frames := Nat.le_refl _
  have hRl : 0 ≤ ({ frames := 0, cells := 0, slots := 0, locals := 0 } : Room).locals := Nat.le_refl _
  have hCS : 0 ≤ ({ frames := 0, cells := 0, slots := 0, locals := 0 } : Room).cells ∧ 0 ≤ ({ frames := 0, cells := 0, slots := 0, locals := 0 } : Room).slots := ⟨Nat.zero_le _, Nat.zero_le _⟩
  refine wi_ic hx hb (a := 0) nd_CM_heaviness_0 ?_
  refine lv_istore_n hx hb nd_CM_heaviness_1 rfl hl (by decide) rfl (fun ls hl => ?_)
  have hl : lv_has ls 4 [(2, .int (nI (0))), (0, .ref (q 0)), (1, .int (nI (s)))] := hl
  refine wi_ic hx hb (a := 0) nd_CM_heaviness_2 ?_
  refine lv_istore_n hx hb nd_CM_heaviness_3 rfl hl (by decide) rfl (fun ls hl => ?_)
  have hl : lv_has ls 4 [(3, .int (nI (0))), (2, .int (nI (0))), (0, .ref (q 0)), (1, .int (nI (s)))] := hl
  have hl : lv_has ls 4 [(3, .int (nI (0))), (2, .int (nI (0))), (0, .ref (q 0)), (1, .int (nI (s)))] := lv_sub hl [0, 1, 2, 3] rfl
  refine lp_CM_heaviness cI cG cM q n hn w s hs hx hb hml htg hown hK hN hP hRf hRl hCS (fun ls hl => ?_) (n + 1) 0 ls (by omega) (by omega) hl
  refine lv_iload_n hx hb nd_CM_heaviness_40 rfl (lv_at hl 0 rfl) ?_
  exact wa_iret hx hb hr hk (rfl) nd_CM_heaviness_41
theorem nd_CB_firstInOrder_0 : decode nc_CB_firstInOrder 0 = .ok (.iconst 0, 1) := by decide +kernel
theorem nd_CB_firstInOrder_1 : decode nc_CB_firstInOrder 1 = .ok (.istore_n 2, 1) := by decide +kernel
theorem nd_CB_firstInOrder_2 : decode nc_CB_firstInOrder 2 = .ok (.iconst 1, 1) := by decide +kernel
theorem nd_CB_firstInOrder_3 : decode nc_CB_firstInOrder 3 = .ok (.istore_n 3, 1) := by decide +kernel
theorem nd_CB_firstInOrder_4 : decode nc_CB_firstInOrder 4 = .ok (.iload_n 3, 1) := by decide +kernel
theorem nd_CB_firstInOrder_5 : decode nc_CB_firstInOrder 5 = .ok (.aload_n 0, 1) := by decide +kernel
theorem nd_CB_firstInOrder_6 : decode nc_CB_firstInOrder 6 = .ok (.getfield 9, 3) := by decide +kernel
theorem nd_CB_firstInOrder_9 : decode nc_CB_firstInOrder 9 = .ok (.if_icmp .ge 42, 3) := by decide +kernel
theorem nd_CB_firstInOrder_12 : decode nc_CB_firstInOrder 12 = .ok (.iload_n 1, 1) := by decide +kernel
theorem nd_CB_firstInOrder_13 : decode nc_CB_firstInOrder 13 = .ok (.iload_n 3, 1) := by decide +kernel
theorem nd_CB_firstInOrder_14 : decode nc_CB_firstInOrder 14 = .ok (.invokestatic 80, 3) := by decide +kernel
theorem nd_CB_firstInOrder_17 : decode nc_CB_firstInOrder 17 = .ok (.ifCond .ne 28, 3) := by decide +kernel
theorem nd_CB_firstInOrder_20 : decode nc_CB_firstInOrder 20 = .ok (.iload_n 1, 1) := by decide +kernel
theorem nd_CB_firstInOrder_21 : decode nc_CB_firstInOrder 21 = .ok (.iload_n 2, 1) := by decide +kernel
theorem nd_CB_firstInOrder_22 : decode nc_CB_firstInOrder 22 = .ok (.invokestatic 80, 3) := by decide +kernel
theorem nd_CB_firstInOrder_25 : decode nc_CB_firstInOrder 25 = .ok (.ifCond .ne 18, 3) := by decide +kernel
theorem nd_CB_firstInOrder_28 : decode nc_CB_firstInOrder 28 = .ok (.aload_n 0, 1) := by decide +kernel
theorem nd_CB_firstInOrder_29 : decode nc_CB_firstInOrder 29 = .ok (.getfield 16, 3) := by decide +kernel
theorem nd_CB_firstInOrder_32 : decode nc_CB_firstInOrder 32 = .ok (.iload_n 3, 1) := by decide +kernel
theorem nd_CB_firstInOrder_33 : decode nc_CB_firstInOrder 33 = .ok (.iaload, 1) := by decide +kernel
theorem nd_CB_firstInOrder_34 : decode nc_CB_firstInOrder 34 = .ok (.aload_n 0, 1) := by decide +kernel
theorem nd_CB_firstInOrder_35 : decode nc_CB_firstInOrder 35 = .ok (.getfield 16, 3) := by decide +kernel
theorem nd_CB_firstInOrder_38 : decode nc_CB_firstInOrder 38 = .ok (.iload_n 2, 1) := by decide +kernel
theorem nd_CB_firstInOrder_39 : decode nc_CB_firstInOrder 39 = .ok (.iaload, 1) := by decide +kernel
theorem nd_CB_firstInOrder_40 : decode nc_CB_firstInOrder 40 = .ok (.if_icmp .le 5, 3) := by decide +kernel
theorem nd_CB_firstInOrder_43 : decode nc_CB_firstInOrder 43 = .ok (.iload_n 3, 1) := by decide +kernel
theorem nd_CB_firstInOrder_44 : decode nc_CB_firstInOrder 44 = .ok (.istore_n 2, 1) := by decide +kernel
theorem nd_CB_firstInOrder_45 : decode nc_CB_firstInOrder 45 = .ok (.iinc 3 1, 3) := by decide +kernel
theorem nd_CB_firstInOrder_48 : decode nc_CB_firstInOrder 48 = .ok (.goto (-44), 3) := by decide +kernel
theorem nd_CB_firstInOrder_51 : decode nc_CB_firstInOrder 51 = .ok (.iload_n 2, 1) := by decide +kernel
theorem nd_CB_firstInOrder_52 : decode nc_CB_firstInOrder 52 = .ok (.ireturn, 1) := by decide +kernel
set_option maxRecDepth 20000 in
theorem lp_CB_firstInOrder {p : Program} {l : Launch} {e0 : Env} {R : Room} {s0 : State} {m : MethodId} {args : Array Value} {below : List Frame} {meth : Method} {c : Code} {H : Heap} {locs : List Loc} {cells slots : Nat} {Q : State → Prop} {D : va_G} (cI cG cM : ClassId) (q0 q1 q2 n : Nat) (hn : n ≤ 10) (w : Nat → Int32) (t : Nat) (ht : t < 2 ^ 31) (hx : p.tables.exec = Jvm.exec) (hb : c.code = nc_CB_firstInOrder) (hml : c.maxLocals = 4) (htg : ∀ w ∈ tg_, w.before args s0 = true) (hown : s0.vm.findClass ny_CB_firstInOrder.cls = some m.cls) (hK : va_K D cl_all (ty_all cI cG cM) s0) (hN : tn_K s0) (hP : va_P D cl_all ([(q0, .inr (0, [.int (nI (n)), .int (nI (2 ^ n - 1)), .ref q1, .ref q2])), (q1, .inl (cI, n, .inl w))]) H) (hRf : 1 ≤ R.frames) (hRl : 21 ≤ R.locals) (hCS : cells ≤ R.cells ∧ slots ≤ R.slots) (kx : ∀ (ls : Array Slot), lv_has ls 4 [(2, .int (nI (ms_F w t n)))] → W p l e0 R s0 m args below meth c H locs cells slots Q (F0 m 51 ls [])) : ∀ (f : Nat) (i : Nat) (ls : Array Slot), n - i < f → i ≤ n → 1 ≤ i → lv_has ls 4 [(3, .int (nI (i))), (2, .int (nI (ms_F w t i))), (0, .ref q0), (1, .int (nI (t)))] → W p l e0 R s0 m args below meth c H locs cells slots Q (F0 m 4 ls []) := by
  intro f
  induction f with
  | zero => intro i ls hf; omega
  | succ f ih =>
    intro i ls hf hi hi1 hl
    have hF := ms_F_lt w t i hi1
    refine lv_iload_n hx hb nd_CB_firstInOrder_4 rfl (lv_at hl 0 rfl) ?_
    refine lv_aload_n hx hb nd_CB_firstInOrder_5 rfl (lv_at hl 2 rfl) ?_
    refine va_get (D := D) (C := nr_CB) (T := nt_CB) (N := 4) hx hb htg tf_CB hown hK hP 0 rfl rfl 0 (by decide) (htg _ tm_122) (fun _ h => h) rfl nd_CB_firstInOrder_6 ?_
    refine wi_icmp_ge (tgt := 51) hx hb (by omega) (by omega) nd_CB_firstInOrder_9 rfl (fun hc9 => ?_) (fun hc9 => ?_)
    · have hl : lv_has ls 4 [(2, .int (nI (ms_F w t i)))] := lv_sub hl [1] rfl
      have hin : i = n := by omega
      subst hin
      exact kx ls hl
    · refine lv_iload_n hx hb nd_CB_firstInOrder_12 rfl (lv_at hl 3 rfl) ?_
      refine lv_iload_n hx hb nd_CB_firstInOrder_13 rfl (lv_at hl 0 rfl) ?_
      refine wc_S (n := 2) hx hb hml hown htg (c_CB_has l D _ t i (by omega) (by omega)) tm_272 tm_323 tm_271 tm_1 (by decide +kernel) ⟨⟨Nat.le_trans (by decide) hRf, Nat.le_trans (by decide) hRl⟩, rfl, rfl⟩ (wa_pre wa_nil hK hN) rfl hl.1 rfl (Nat.le_of_ble_eq_true rfl) nd_CB_firstInOrder_14 hCS ?_
      have hbt14 := mt_bt_lt t i
      refine wi_if_ne (tgt := 45) hx hb (by omega) nd_CB_firstInOrder_17 rfl (fun hc17 => ?_) (fun hc17 => ?_)
      · refine lv_iinc (k := 0) (v := nI (i + 1)) hx hb nd_CB_firstInOrder_45 hl rfl (wi_inc _ 1) (by decide) rfl (fun ls hl => ?_)
        have hl : lv_has ls 4 [(3, .int (nI (i + 1))), (2, .int (nI (ms_F w t i))), (0, .ref q0), (1, .int (nI (t)))] := hl
        refine lv_goto (tgt := 4) hx hb nd_CB_firstInOrder_48 rfl ?_
        have hl : lv_has ls 4 [(3, .int (nI (i + 1))), (2, .int (nI (ms_F w t i))), (0, .ref q0), (1, .int (nI (t)))] := lv_sub hl [0, 1, 2, 3] rfl
        exact ih (i + 1) ls (by omega) (by omega) (by omega) (by rw [ms_Fn hi1 (fun z => by omega)]; exact hl)
      · refine lv_iload_n hx hb nd_CB_firstInOrder_20 rfl (lv_at hl 3 rfl) ?_
        refine lv_iload_n hx hb nd_CB_firstInOrder_21 rfl (lv_at hl 1 rfl) ?_
        refine wc_S (n := 2) hx hb hml hown htg (c_CB_has l D _ t (ms_F w t i) (by omega) (by omega)) tm_272 tm_323 tm_271 tm_1 (by decide +kernel) ⟨⟨Nat.le_trans (by decide) hRf, Nat.le_trans (by decide) hRl⟩, rfl, rfl⟩ (wa_pre wa_nil hK hN) rfl hl.1 rfl (Nat.le_of_ble_eq_true rfl) nd_CB_firstInOrder_22 hCS ?_
        have hbt22 := mt_bt_lt t (ms_F w t i)
        refine wi_if_ne (tgt := 43) hx hb (by omega) nd_CB_firstInOrder_25 rfl (fun hc25 => ?_) (fun hc25 => ?_)
        · refine lv_iload_n hx hb nd_CB_firstInOrder_43 rfl (lv_at hl 0 rfl) ?_
          refine lv_istore_n hx hb nd_CB_firstInOrder_44 rfl hl (by decide) rfl (fun ls hl => ?_)
          have hl : lv_has ls 4 [(2, .int (nI (i))), (3, .int (nI (i))), (0, .ref q0), (1, .int (nI (t)))] := hl
          refine lv_iinc (k := 1) (v := nI (i + 1)) hx hb nd_CB_firstInOrder_45 hl rfl (wi_inc _ 1) (by decide) rfl (fun ls hl => ?_)
          have hl : lv_has ls 4 [(3, .int (nI (i + 1))), (2, .int (nI (i))), (0, .ref q0), (1, .int (nI (t)))] := hl
          refine lv_goto (tgt := 4) hx hb nd_CB_firstInOrder_48 rfl ?_
          have hl : lv_has ls 4 [(3, .int (nI (i + 1))), (2, .int (nI (i))), (0, .ref q0), (1, .int (nI (t)))] := lv_sub hl [0, 1, 2, 3] rfl
          exact ih (i + 1) ls (by omega) (by omega) (by omega) (by rw [ms_Fy hi1 (by omega) (Or.inl (by omega))]; exact hl)
        · refine lv_aload_n hx hb nd_CB_firstInOrder_28 rfl (lv_at hl 2 rfl) ?_
          refine va_get (D := D) (C := nr_CB) (T := nt_CB) (N := 4) hx hb htg tf_CB hown hK hP 0 rfl rfl 2 (by decide) (htg _ tm_124) (fun _ h => h) rfl nd_CB_firstInOrder_29 ?_
          refine lv_iload_n hx hb nd_CB_firstInOrder_32 rfl (lv_at hl 0 rfl) ?_
          refine wi_iald hx hb hK hP 1 0 rfl rfl (by omega) (by omega) nd_CB_firstInOrder_33 ?_
          refine lv_aload_n hx hb nd_CB_firstInOrder_34 rfl (lv_at hl 2 rfl) ?_
          refine va_get (D := D) (C := nr_CB) (T := nt_CB) (N := 4) hx hb htg tf_CB hown hK hP 0 rfl rfl 2 (by decide) (htg _ tm_124) (fun _ h => h) rfl nd_CB_firstInOrder_35 ?_
          refine lv_iload_n hx hb nd_CB_firstInOrder_38 rfl (lv_at hl 1 rfl) ?_
          refine wi_iald hx hb hK hP 1 0 rfl rfl (by omega) (by omega) nd_CB_firstInOrder_39 ?_
          refine lv_icmp_le (tgt := 45) hx hb nd_CB_firstInOrder_40 rfl (fun hc40 => ?_) (fun hc40 => ?_)
          · refine lv_iinc (k := 0) (v := nI (i + 1)) hx hb nd_CB_firstInOrder_45 hl rfl (wi_inc _ 1) (by decide) rfl (fun ls hl => ?_)
            have hl : lv_has ls 4 [(3, .int (nI (i + 1))), (2, .int (nI (ms_F w t i))), (0, .ref q0), (1, .int (nI (t)))] := hl
            refine lv_goto (tgt := 4) hx hb nd_CB_firstInOrder_48 rfl ?_
            have hl : lv_has ls 4 [(3, .int (nI (i + 1))), (2, .int (nI (ms_F w t i))), (0, .ref q0), (1, .int (nI (t)))] := lv_sub hl [0, 1, 2, 3] rfl
            exact ih (i + 1) ls (by omega) (by omega) (by omega) (by rw [ms_Fn hi1 (fun z => z.2.elim (fun z => by omega) (fun z => Int32.not_lt.mpr hc40 z))]; exact hl)
          · refine lv_iload_n hx hb nd_CB_firstInOrder_43 rfl (lv_at hl 0 rfl) ?_
            refine lv_istore_n hx hb nd_CB_firstInOrder_44 rfl hl (by decide) rfl (fun ls hl => ?_)
            have hl : lv_has ls 4 [(2, .int (nI (i))), (3, .int (nI (i))), (0, .ref q0), (1, .int (nI (t)))] := hl
            refine lv_iinc (k := 1) (v := nI (i + 1)) hx hb nd_CB_firstInOrder_45 hl rfl (wi_inc _ 1) (by decide) rfl (fun ls hl => ?_)
            have hl : lv_has ls 4 [(3, .int (nI (i + 1))), (2, .int (nI (i))), (0, .ref q0), (1, .int (nI (t)))] := hl
            refine lv_goto (tgt := 4) hx hb nd_CB_firstInOrder_48 rfl ?_
            have hl : lv_has ls 4 [(3, .int (nI (i + 1))), (2, .int (nI (i))), (0, .ref q0), (1, .int (nI (t)))] := lv_sub hl [0, 1, 2, 3] rfl
            exact ih (i + 1) ls (by omega) (by omega) (by omega) (by rw [ms_Fy hi1 (by omega) (Or.inr (Int32.not_le.mp hc40))]; exact hl)
set_option maxRecDepth 20000 in
theorem c_CB_firstInOrder (l : Launch) (D : va_G) (cI cG cM : ClassId) (q0 q1 q2 n : Nat) (hn : n ≤ 10) (w : Nat → Int32) (hn1 : 1 ≤ n) (t : Nat) (ht : t < 2 ^ 31) : wa_M l ny_CB_firstInOrder nc_CB_firstInOrder 4 (some .int) ({ frames := 1, cells := 0, slots := 0, locals := 21 }) D (ty_all cI cG cM) ([(q0, .inr (0, [.int (nI (n)), .int (nI (2 ^ n - 1)), .ref q1, .ref q2])), (q1, .inl (cI, n, .inl w))]) [.ref q0, .int (nI (t))] (nI (ms_F w t n)) := by
  refine wa_start (by decide) (Nat.le_of_ble_eq_true rfl) ?_
  intro p e0 s0 m below meth c ls hx hb hr hml htg hown hk hP hK hN hl
  have hl : lv_has ls 4 [(0, .ref q0), (1, .int (nI (t)))] := hl
  have hRf : 1 ≤ ({ frames := 1, cells := 0, slots := 0, locals := 21 } : Room).frames := Nat.le_refl _
  have hRl : 21 ≤ ({ frames := 1, cells := 0, slots := 0, locals := 21 } : Room).locals := Nat.le_refl _
  have hCS : 0 ≤ ({ frames := 1, cells := 0, slots := 0, locals := 21 } : Room).cells ∧ 0 ≤ ({ frames := 1, cells := 0, slots := 0, locals := 21 } : Room).slots := ⟨Nat.zero_le _, Nat.zero_le _⟩
  refine wi_ic hx hb (a := 0) nd_CB_firstInOrder_0 ?_
  refine lv_istore_n hx hb nd_CB_firstInOrder_1 rfl hl (by decide) rfl (fun ls hl => ?_)
  have hl : lv_has ls 4 [(2, .int (nI (0))), (0, .ref q0), (1, .int (nI (t)))] := hl
  refine wi_ic hx hb (a := 1) nd_CB_firstInOrder_2 ?_
  refine lv_istore_n hx hb nd_CB_firstInOrder_3 rfl hl (by decide) rfl (fun ls hl => ?_)
  have hl : lv_has ls 4 [(3, .int (nI (1))), (2, .int (nI (0))), (0, .ref q0), (1, .int (nI (t)))] := hl
  have hl : lv_has ls 4 [(3, .int (nI (1))), (2, .int (nI (0))), (0, .ref q0), (1, .int (nI (t)))] := lv_sub hl [0, 1, 2, 3] rfl
  refine lp_CB_firstInOrder cI cG cM q0 q1 q2 n hn w t ht hx hb hml htg hown hK hN hP hRf hRl hCS (fun ls hl => ?_) (n + 1) 1 ls (by omega) (by omega) (by omega) hl
  refine lv_iload_n hx hb nd_CB_firstInOrder_51 rfl (lv_at hl 0 rfl) ?_
  exact wa_iret hx hb hr hk (rfl) nd_CB_firstInOrder_52
theorem nd_CM_tableFree_0 : decode nc_CM_tableFree 0 = .ok (.aload_n 0, 1) := by decide +kernel
theorem nd_CM_tableFree_1 : decode nc_CM_tableFree 1 = .ok (.getfield 46, 3) := by decide +kernel
theorem nd_CM_tableFree_4 : decode nc_CM_tableFree 4 = .ok (.sipush 1024, 3) := by decide +kernel
theorem nd_CM_tableFree_7 : decode nc_CM_tableFree 7 = .ok (.iload_n 1, 1) := by decide +kernel
theorem nd_CM_tableFree_8 : decode nc_CM_tableFree 8 = .ok (.imul, 1) := by decide +kernel
theorem nd_CM_tableFree_9 : decode nc_CM_tableFree 9 = .ok (.iload_n 2, 1) := by decide +kernel
theorem nd_CM_tableFree_10 : decode nc_CM_tableFree 10 = .ok (.iadd, 1) := by decide +kernel
theorem nd_CM_tableFree_11 : decode nc_CM_tableFree 11 = .ok (.iaload, 1) := by decide +kernel
theorem nd_CM_tableFree_12 : decode nc_CM_tableFree 12 = .ok (.iload_n 2, 1) := by decide +kernel
theorem nd_CM_tableFree_13 : decode nc_CM_tableFree 13 = .ok (.invokestatic 69, 3) := by decide +kernel
theorem nd_CM_tableFree_16 : decode nc_CM_tableFree 16 = .ok (.if_icmp .ne 7, 3) := by decide +kernel
theorem nd_CM_tableFree_19 : decode nc_CM_tableFree 19 = .ok (.iconst 1, 1) := by decide +kernel
theorem nd_CM_tableFree_20 : decode nc_CM_tableFree 20 = .ok (.goto 4, 3) := by decide +kernel
theorem nd_CM_tableFree_23 : decode nc_CM_tableFree 23 = .ok (.iconst 0, 1) := by decide +kernel
theorem nd_CM_tableFree_24 : decode nc_CM_tableFree 24 = .ok (.ireturn, 1) := by decide +kernel
set_option maxRecDepth 20000 in
theorem c_CM_tableFree (l : Launch) (D : va_G) (cI cG cM : ClassId) (q : Nat → Nat) (n : Nat) (r : Nat → Int32) (w s : Nat) (hw : w < 2) (hs : s < 1024) (b : Int32) (h1 : r (1024 * w + s) = nI (mt_cd 10 s) → b = 1) (h0 : ¬ r (1024 * w + s) = nI (mt_cd 10 s) → b = 0) : wa_M l ny_CM_tableFree nc_CM_tableFree 3 (some .boolean) ({ frames := 1, cells := 0, slots := 0, locals := 22 }) D (ty_all cI cG cM) ([((q 0), .inr (6, [.int (nI (n)), .ref (q 2), .ref (q 3), .ref (q 4), .ref (q 5), .ref (q 6), .ref (q 7), .ref (q 8), .ref (q 9), .ref (q 10), .ref (q 11), .ref (q 12), .ref (q 13), .ref (q 14)])), ((q 14), .inl (cI, 2048, .inl r))]) [.ref (q 0), .int (nI (w)), .int (nI (s))] (b) := by
  refine wa_start (by decide) (Nat.le_of_ble_eq_true rfl) ?_
  intro p e0 s0 m below meth c ls hx hb hr hml htg hown hk hP hK hN hl
  have hl : lv_has ls 3 [(0, .ref (q 0)), (1, .int (nI (w))), (2, .int (nI (s)))] := hl
  have hRf : 1 ≤ ({ frames := 1, cells := 0, slots := 0, locals := 22 } : Room).frames := Nat.le_refl _
  have hRl : 22 ≤ ({ frames := 1, cells := 0, slots := 0, locals := 22 } : Room).locals := Nat.le_refl _
  have hCS : 0 ≤ ({ frames := 1, cells := 0, slots := 0, locals := 22 } : Room).cells ∧ 0 ≤ ({ frames := 1, cells := 0, slots := 0, locals := 22 } : Room).slots := ⟨Nat.zero_le _, Nat.zero_le _⟩
  refine lv_aload_n hx hb nd_CM_tableFree_0 rfl (lv_at hl 0 rfl) ?_
  refine va_get (D := D) (C := nr_CM) (T := nt_CM) (N := 14) hx hb htg tf_CM hown hK hP 0 rfl rfl 13 (by decide) (htg _ tm_396) (fun _ h => h) rfl nd_CM_tableFree_1 ?_
  refine lv_sipush (v := nI 1024) hx hb nd_CM_tableFree_4 (by decide) ?_
  refine lv_iload_n hx hb nd_CM_tableFree_7 rfl (lv_at hl 1 rfl) ?_
  refine wi_imul hx hb nd_CM_tableFree_8 ?_
  refine lv_iload_n hx hb nd_CM_tableFree_9 rfl (lv_at hl 2 rfl) ?_
  refine wi_iadd hx hb nd_CM_tableFree_10 ?_
  refine wi_iald hx hb hK hP 1 0 rfl rfl (by omega) (by omega) nd_CM_tableFree_11 ?_
  refine lv_iload_n hx hb nd_CM_tableFree_12 rfl (lv_at hl 2 rfl) ?_
  refine wc_S (n := 1) hx hb hml hown htg (c_CM_sizeOf l D cI cG cM s (by omega)) tm_489 tm_487 tm_488 tm_9 (by decide +kernel) ⟨⟨Nat.le_trans (by decide) hRf, Nat.le_trans (by decide) hRl⟩, rfl, rfl⟩ (wa_pre wa_nil hK hN) rfl hl.1 rfl (Nat.le_of_ble_eq_true rfl) nd_CM_tableFree_13 hCS ?_
  refine lv_icmp_ne (tgt := 23) hx hb nd_CM_tableFree_16 rfl (fun hc16 => ?_) (fun hc16 => ?_)
  · refine wi_ic hx hb (a := 0) nd_CM_tableFree_23 ?_
    exact wa_zret hx hb hr hk rfl ((h0 hc16).symm) nd_CM_tableFree_24
  · refine wi_ic hx hb (a := 1) nd_CM_tableFree_19 ?_
    refine lv_goto (tgt := 24) hx hb nd_CM_tableFree_20 rfl ?_
    exact wa_zret hx hb hr hk rfl ((h1 hc16).symm) nd_CM_tableFree_24
end
section
/-! Calls of methods that write: the callee has the middle part of the world. -/
section WD
variable {p : Program} {l : Launch} {e : Env} {R : Room} {s : State} {m : MethodId} {args : Array Value} {below : List Frame} {meth : Method} {c : Code} {H : Heap} {locs : List Loc} {cells slots : Nat} {Q : State → Prop}
variable {cc : ByteArray} {pc : Nat} {ls : Array Slot} {rest : List Value} {D : va_G} {tys : List (ClassId × FieldType)} {X Y Z : va_W} {A : Nat → Prop} {y x : MethodName} {bytes : ByteArray} {maxL nL n index : Nat} {ret : Option FieldType} {rm : Room} {own C owner : String} {b : Addr} {As st : List Value} {S : Type} {Y' : S → va_W}
theorem goodIn_appT {big a b : List Cond} (ha : GoodIn big a) (hb : GoodIn big b) : GoodIn big (a ++ b) := fun w h => (List.mem_append.mp h).elim (ha w) (hb w)
theorem wd_gA (hc : Cond.code y bytes maxL ret ∈ tg_) (hl : Cond.methodLink own index x ∈ tg_) (hq2 : Cond.sameMethod x.cls owner x.name x.desc ∈ tg_) (he : Cond.selects C x y ∈ tg_) (hs : Cond.instanceMethod y ∈ tg_) (hi : Cond.initialized y.cls ∈ tg_) : GoodIn tg_ (va_wsU own index C owner x y (Cond.code y bytes maxL ret :: tg_)) := by
  have g : ∀ {w : Cond}, w ∈ tg_ → w ∈ tg_ ∧ ((w.onTables && w.keeps) = true ∨ ∃ ty, w = .arrayClass ty) := fun h => ⟨h, good_of_word (List.mem_filter.mp h).2⟩
  refine goodIn_appT (fun w hw => ?_) (tg_g hc)
  simp only [List.mem_cons, List.not_mem_nil, or_false] at hw
  rcases hw with rfl | rfl | rfl | rfl | rfl
  · exact g hl
  · exact g hq2
  · exact g he
  · exact g hs
  · exact g hi
theorem wd_Sv {post : S → Prop} (hx : p.tables.exec = Jvm.exec) (hb : c.code = cc) (hml : c.maxLocals = nL) (hown : s.vm.findClass own = some m.cls) (htg : ∀ w ∈ tg_, w.before args s = true) (hM : Met l y (Cond.code y bytes maxL ret :: tg_) rm (va_Pc As (wb_P D tys Y H.size)) (va_Qv post (wb_B D Y H.size Y') (va_A Y H.size)) 0 0 (va_A Y H.size)) (hc : Cond.code y bytes maxL ret ∈ tg_) (hl : Cond.methodLink own index y ∈ tg_) (hs : Cond.static y ∈ tg_) (hi : Cond.initialized y.cls ∈ tg_) (hd : y.cls ≠ "java/lang/invoke/MethodHandle" ∧ y.cls ≠ "java/lang/invoke/VarHandle" ∧ (parseMethodDescriptor y.desc).map (fun d => d.parameters.length) = some n) (hR : (rm.frames + 1 ≤ R.frames ∧ 8 + (maxL + 11) + rm.locals ≤ R.locals) ∧ rm.cells = 0 ∧ rm.slots = 0) (hP : va_P D cl_all (X ++ (Y ++ Z)) H) (hD : va_D A (X ++ (Y ++ Z))) (hS : va_S A s.heap H locs) (hA : ∀ q : Nat, s.heap.size ≤ q → A q) (hK : va_K D cl_all tys s) (hN : tn_K s) (hn : As.length = n) (hsz : ls.size = nL) (hst : st = As.reverse ++ rest) (hW : (rest.map fun v => v.category).sum ≤ 8) (hdg : decode cc pc = .ok (.invokestatic index, 3)) (hf : cells ≤ R.cells ∧ slots ≤ R.slots) (kk : ∀ (u : S) (H1 : Heap) (locs1 : List Loc), post u → va_P D cl_all (X ++ (Y' u ++ Z)) H1 → va_D A (X ++ (Y' u ++ Z)) → va_S A s.heap H1 locs1 → W p l e R s m args below meth c H1 locs1 cells slots Q (F0 m (pc + 3) ls rest)) : W p l e R s m args below meth c H locs cells slots Q (F0 m pc ls st) := by
  have pY := (wm_P hP).2.1
  have dY := wm_Dl (wm_Dr hD)
  have hF := wm_free hD hS hA
  refine va_callv (va_runS (Ts := tg_) ⟨hx, hb, hml, hown, htg⟩ hM ⟨callB_of n htg (tg_g hc) rfl hR.2.1 hR.2.2 (htg _ hi) (htg _ hl) hd hR.1, htg _ hs⟩ (wb_pre pY hK hN dY) rfl hn hsz hst (lv_room hW) hdg hf) hS (fun q _ h => hF q h) hF (fun u t H1 locs1 ht hvm hp hB hz1 hk1 hS1 => ?_)
  obtain ⟨hP1, hD1⟩ := hB
  rw [ht] at hP1
  obtain ⟨hP2, hD2⟩ := wm_join hP hD hk1 hF hP1 hD1
  exact kk u H1 locs1 hp hP2 hD2 hS1
theorem wd_Si {post : Int32 → S → Prop} (hx : p.tables.exec = Jvm.exec) (hb : c.code = cc) (hml : c.maxLocals = nL) (hown : s.vm.findClass own = some m.cls) (htg : ∀ w ∈ tg_, w.before args s = true) (hM : Met l y (Cond.code y bytes maxL ret :: tg_) rm (va_Pc As (wb_P D tys Y H.size)) (va_Qi post (wb_B D Y H.size Y') (va_A Y H.size)) 0 0 (va_A Y H.size)) (hc : Cond.code y bytes maxL ret ∈ tg_) (hl : Cond.methodLink own index y ∈ tg_) (hs : Cond.static y ∈ tg_) (hi : Cond.initialized y.cls ∈ tg_) (hd : y.cls ≠ "java/lang/invoke/MethodHandle" ∧ y.cls ≠ "java/lang/invoke/VarHandle" ∧ (parseMethodDescriptor y.desc).map (fun d => d.parameters.length) = some n) (hR : (rm.frames + 1 ≤ R.frames ∧ 8 + (maxL + 11) + rm.locals ≤ R.locals) ∧ rm.cells = 0 ∧ rm.slots = 0) (hP : va_P D cl_all (X ++ (Y ++ Z)) H) (hD : va_D A (X ++ (Y ++ Z))) (hS : va_S A s.heap H locs) (hA : ∀ q : Nat, s.heap.size ≤ q → A q) (hK : va_K D cl_all tys s) (hN : tn_K s) (hn : As.length = n) (hsz : ls.size = nL) (hst : st = As.reverse ++ rest) (hW : (rest.map fun v => v.category).sum ≤ 8) (hdg : decode cc pc = .ok (.invokestatic index, 3)) (hf : cells ≤ R.cells ∧ slots ≤ R.slots) (kk : ∀ (v : Int32) (u : S) (H1 : Heap) (locs1 : List Loc), post v u → va_P D cl_all (X ++ (Y' u ++ Z)) H1 → va_D A (X ++ (Y' u ++ Z)) → va_S A s.heap H1 locs1 → W p l e R s m args below meth c H1 locs1 cells slots Q (F0 m (pc + 3) ls (.int v :: rest))) : W p l e R s m args below meth c H locs cells slots Q (F0 m pc ls st) := by
  have pY := (wm_P hP).2.1
  have dY := wm_Dl (wm_Dr hD)
  have hF := wm_free hD hS hA
  refine va_calli (va_runS (Ts := tg_) ⟨hx, hb, hml, hown, htg⟩ hM ⟨callB_of n htg (tg_g hc) rfl hR.2.1 hR.2.2 (htg _ hi) (htg _ hl) hd hR.1, htg _ hs⟩ (wb_pre pY hK hN dY) rfl hn hsz hst (lv_room hW) hdg hf) hS (fun q _ h => hF q h) hF (fun v u t H1 locs1 ht hvm hp hB hz1 hk1 hS1 => ?_)
  obtain ⟨hP1, hD1⟩ := hB
  rw [ht] at hP1
  obtain ⟨hP2, hD2⟩ := wm_join hP hD hk1 hF hP1 hD1
  exact kk v u H1 locs1 hp hP2 hD2 hS1
theorem wd_Vv {post : S → Prop} (hx : p.tables.exec = Jvm.exec) (hb : c.code = cc) (hml : c.maxLocals = nL) (hown : s.vm.findClass own = some m.cls) (htg : ∀ w ∈ tg_, w.before args s = true) (hM : Met l y (Cond.code y bytes maxL ret :: tg_) rm (va_Pc (.ref b :: As) (wb_P D tys Y H.size)) (va_Qv post (wb_B D Y H.size Y') (va_A Y H.size)) 0 0 (va_A Y H.size)) (hc : Cond.code y bytes maxL ret ∈ tg_) (hl : Cond.methodLink own index y ∈ tg_) (hs : Cond.instanceMethod y ∈ tg_) (he : Cond.selects C y y ∈ tg_) (hi : Cond.initialized y.cls ∈ tg_) (hd : y.cls ≠ "java/lang/invoke/MethodHandle" ∧ y.cls ≠ "java/lang/invoke/VarHandle" ∧ (parseMethodDescriptor y.desc).map (fun d => d.parameters.length) = some n) (hR : (rm.frames + 1 ≤ R.frames ∧ 8 + (maxL + 11) + rm.locals ≤ R.locals) ∧ rm.cells = 0 ∧ rm.slots = 0) (hP : va_P D cl_all (X ++ (Y ++ Z)) H) (hD : va_D A (X ++ (Y ++ Z))) (hS : va_S A s.heap H locs) (hA : ∀ q : Nat, s.heap.size ≤ q → A q) (hK : va_K D cl_all tys s) (hN : tn_K s) (hq : ∃ cellB : Cell, H[b]? = some cellB ∧ cellB.vm.isStatics = false ∧ s.vm.findClass C = some cellB.cls) (hn : As.length = n) (hsz : ls.size = nL) (hst : st = As.reverse ++ .ref b :: rest) (hW : (rest.map fun v => v.category).sum ≤ 8) (hdg : decode cc pc = .ok (.invokevirtual index, 3)) (hf : cells ≤ R.cells ∧ slots ≤ R.slots) (kk : ∀ (u : S) (H1 : Heap) (locs1 : List Loc), post u → va_P D cl_all (X ++ (Y' u ++ Z)) H1 → va_D A (X ++ (Y' u ++ Z)) → va_S A s.heap H1 locs1 → W p l e R s m args below meth c H1 locs1 cells slots Q (F0 m (pc + 3) ls rest)) : W p l e R s m args below meth c H locs cells slots Q (F0 m pc ls st) := by
  have pY := (wm_P hP).2.1
  have dY := wm_Dl (wm_Dr hD)
  have hF := wm_free hD hS hA
  refine va_callv (va_runV (Ts := tg_) ⟨hx, hb, hml, hown, htg⟩ hM ⟨callB_of n htg (tg_g hc) rfl hR.2.1 hR.2.2 (htg _ hi) (htg _ hl) hd hR.1, htg _ hs, htg _ he⟩ ⟨(wb_pre pY hK hN dY).1, hq, (wb_pre pY hK hN dY).2⟩ rfl hn hsz hst (lv_room hW) hdg hf) hS (fun q _ h => hF q h) hF (fun u t H1 locs1 ht hvm hp hB hz1 hk1 hS1 => ?_)
  obtain ⟨hP1, hD1⟩ := hB
  rw [ht] at hP1
  obtain ⟨hP2, hD2⟩ := wm_join hP hD hk1 hF hP1 hD1
  exact kk u H1 locs1 hp hP2 hD2 hS1
theorem wd_Vi {post : Int32 → S → Prop} (hx : p.tables.exec = Jvm.exec) (hb : c.code = cc) (hml : c.maxLocals = nL) (hown : s.vm.findClass own = some m.cls) (htg : ∀ w ∈ tg_, w.before args s = true) (hM : Met l y (Cond.code y bytes maxL ret :: tg_) rm (va_Pc (.ref b :: As) (wb_P D tys Y H.size)) (va_Qi post (wb_B D Y H.size Y') (va_A Y H.size)) 0 0 (va_A Y H.size)) (hc : Cond.code y bytes maxL ret ∈ tg_) (hl : Cond.methodLink own index y ∈ tg_) (hs : Cond.instanceMethod y ∈ tg_) (he : Cond.selects C y y ∈ tg_) (hi : Cond.initialized y.cls ∈ tg_) (hd : y.cls ≠ "java/lang/invoke/MethodHandle" ∧ y.cls ≠ "java/lang/invoke/VarHandle" ∧ (parseMethodDescriptor y.desc).map (fun d => d.parameters.length) = some n) (hR : (rm.frames + 1 ≤ R.frames ∧ 8 + (maxL + 11) + rm.locals ≤ R.locals) ∧ rm.cells = 0 ∧ rm.slots = 0) (hP : va_P D cl_all (X ++ (Y ++ Z)) H) (hD : va_D A (X ++ (Y ++ Z))) (hS : va_S A s.heap H locs) (hA : ∀ q : Nat, s.heap.size ≤ q → A q) (hK : va_K D cl_all tys s) (hN : tn_K s) (hq : ∃ cellB : Cell, H[b]? = some cellB ∧ cellB.vm.isStatics = false ∧ s.vm.findClass C = some cellB.cls) (hn : As.length = n) (hsz : ls.size = nL) (hst : st = As.reverse ++ .ref b :: rest) (hW : (rest.map fun v => v.category).sum ≤ 8) (hdg : decode cc pc = .ok (.invokevirtual index, 3)) (hf : cells ≤ R.cells ∧ slots ≤ R.slots) (kk : ∀ (v : Int32) (u : S) (H1 : Heap) (locs1 : List Loc), post v u → va_P D cl_all (X ++ (Y' u ++ Z)) H1 → va_D A (X ++ (Y' u ++ Z)) → va_S A s.heap H1 locs1 → W p l e R s m args below meth c H1 locs1 cells slots Q (F0 m (pc + 3) ls (.int v :: rest))) : W p l e R s m args below meth c H locs cells slots Q (F0 m pc ls st) := by
  have pY := (wm_P hP).2.1
  have dY := wm_Dl (wm_Dr hD)
  have hF := wm_free hD hS hA
  refine va_calli (va_runV (Ts := tg_) ⟨hx, hb, hml, hown, htg⟩ hM ⟨callB_of n htg (tg_g hc) rfl hR.2.1 hR.2.2 (htg _ hi) (htg _ hl) hd hR.1, htg _ hs, htg _ he⟩ ⟨(wb_pre pY hK hN dY).1, hq, (wb_pre pY hK hN dY).2⟩ rfl hn hsz hst (lv_room hW) hdg hf) hS (fun q _ h => hF q h) hF (fun v u t H1 locs1 ht hvm hp hB hz1 hk1 hS1 => ?_)
  obtain ⟨hP1, hD1⟩ := hB
  rw [ht] at hP1
  obtain ⟨hP2, hD2⟩ := wm_join hP hD hk1 hF hP1 hD1
  exact kk v u H1 locs1 hp hP2 hD2 hS1
theorem wd_Ai {post : Int32 → S → Prop} (hx : p.tables.exec = Jvm.exec) (hb : c.code = cc) (hml : c.maxLocals = nL) (hown : s.vm.findClass own = some m.cls) (htg : ∀ w ∈ tg_, w.before args s = true) (hM : Met l y (Cond.code y bytes maxL ret :: tg_) rm (va_Pc (.ref b :: As) (wb_P D tys Y H.size)) (va_Qi post (wb_B D Y H.size Y') (va_A Y H.size)) 0 0 (va_A Y H.size)) (hc : Cond.code y bytes maxL ret ∈ tg_) (hl : Cond.methodLink own index x ∈ tg_) (hq2 : Cond.sameMethod x.cls owner x.name x.desc ∈ tg_) (hs : Cond.instanceMethod y ∈ tg_) (he : Cond.selects C x y ∈ tg_) (hi : Cond.initialized y.cls ∈ tg_) (hz : va_Nw (.declares ⟨owner, x.name, x.desc⟩) s) (hd : owner ≠ "java/lang/invoke/MethodHandle" ∧ owner ≠ "java/lang/invoke/VarHandle" ∧ (parseMethodDescriptor x.desc).map (fun d => d.parameters.length) = some n) (hR : (rm.frames + 1 ≤ R.frames ∧ 8 + (maxL + 11) + rm.locals ≤ R.locals) ∧ rm.cells = 0 ∧ rm.slots = 0) (hP : va_P D cl_all (X ++ (Y ++ Z)) H) (hD : va_D A (X ++ (Y ++ Z))) (hS : va_S A s.heap H locs) (hA : ∀ q : Nat, s.heap.size ≤ q → A q) (hK : va_K D cl_all tys s) (hN : tn_K s) (hq : ∃ cellB : Cell, H[b]? = some cellB ∧ cellB.vm.isStatics = false ∧ s.vm.findClass C = some cellB.cls) (hn : As.length = n) (hsz : ls.size = nL) (hst : st = As.reverse ++ .ref b :: rest) (hW : (rest.map fun v => v.category).sum ≤ 8) (hdg : decode cc pc = .ok (.invokevirtual index, 3)) (hf : cells ≤ R.cells ∧ slots ≤ R.slots) (kk : ∀ (v : Int32) (u : S) (H1 : Heap) (locs1 : List Loc), post v u → va_P D cl_all (X ++ (Y' u ++ Z)) H1 → va_D A (X ++ (Y' u ++ Z)) → va_S A s.heap H1 locs1 → W p l e R s m args below meth c H1 locs1 cells slots Q (F0 m (pc + 3) ls (.int v :: rest))) : W p l e R s m args below meth c H locs cells slots Q (F0 m pc ls st) := by
  have pY := (wm_P hP).2.1
  have dY := wm_Dl (wm_Dr hD)
  have hF := wm_free hD hS hA
  refine va_calli (va_runU (Ts := tg_) ⟨hx, hb, hml, hown, htg⟩ hM (va_cwA (own := own) (C := C) (owner := owner) (index := index) (x := x) n htg (wd_gA hc hl hq2 he hs hi) rfl hR.2.1 hR.2.2 hz hd hR.1) ⟨(wb_pre pY hK hN dY).1, hq, (wb_pre pY hK hN dY).2⟩ rfl hn hsz hst (lv_room hW) hdg hf) hS (fun q _ h => hF q h) hF (fun v u t H1 locs1 ht hvm hp hB hz1 hk1 hS1 => ?_)
  obtain ⟨hP1, hD1⟩ := hB
  rw [ht] at hP1
  obtain ⟨hP2, hD2⟩ := wm_join hP hD hk1 hF hP1 hD1
  exact kk v u H1 locs1 hp hP2 hD2 hS1
end WD
end
section
/-! Arrays.fill, Math.floorMod. -/
theorem wa_startF {l : Launch} {cc : ByteArray} {D : va_G} {tys : List (ClassId × FieldType)} {Y : va_W} {av : List Value} {y : MethodName} {maxL : Nat} {ret : Option FieldType} {rm : Room} {r : Int32} (hy : plainFor y = true) (hlen : (lg_sl av).length ≤ maxL)
    (body : ∀ (p : Program) (e : Env) (s : State) (m : MethodId) (below : List Frame) (meth : Method) (c : Code) (ls : Array Slot), p.tables.exec = Jvm.exec → c.code = cc → meth.sig.returnType = ret → c.maxLocals = maxL → (∀ w ∈ tg_, w.before av.toArray s = true) → s.vm.findClass y.cls = some m.cls → meth.locks = false → va_P D cl_all Y s.heap → va_K D cl_all tys s → tn_K s → lv_has ls maxL (lv_args 0 av) →
      W p l e rm s m av.toArray below meth c s.heap [] 0 0 (MQ below (QcRead r) av.toArray s 0 0 (fun _ => False)) (F0 m 0 ls [])) : wa_M l y cc maxL ret rm D tys Y av r := by
  refine va_MetF (cc := cc) (maxL := maxL) (ret := ret) hy rfl ?_
  intro p e s m args below meth c s₁ B hml hv
  obtain ⟨rfl, hP, hK, hN⟩ := hv
  have hts := atoms_spec (ws := Cond.code y cc maxL ret :: tg_) B.pre
  have hl := lv_entry av (n := maxL) hlen
  rw [lg_entry_eq]
  exact body p e s m below meth c _ B.exec B.bytes B.returns hml (fun w h => hts w (List.mem_cons_of_mem _ h)) (findClass_of_methodNamed B.named) B.notSynchronized hP hK hN hl
def fm_ (x : Int32) (p : Nat) : Nat := (x.toInt % (p : Int)).toNat
theorem fm_lt (x : Int32) {p : Nat} (hp : 0 < p) : fm_ x p < p := by
  unfold fm_
  have h1 := Int.emod_nonneg x.toInt (b := (p : Int)) (by omega)
  have h2 := Int.emod_lt_of_pos x.toInt (b := (p : Int)) (by omega)
  omega
theorem fm_sg (x : Int32) {p : Nat} (hp : p < 2 ^ 31) : 0 ≤ x ^^^ nI p ↔ 0 ≤ x := by
  have key : ∀ z : Int32, (0 ≤ z ↔ z.toBitVec.msb = false) := fun z => by
    rw [Int32.le_iff_toInt_le, BitVec.msb_eq_toInt, Int32.toInt_zero]
    show 0 ≤ z.toBitVec.toInt ↔ _
    simp
  rw [key, key, Int32.toBitVec_xor, BitVec.msb_xor, (key _).mp (nI_pos' hp)]
  simp
theorem fm_eq {z : Int32} {k : Nat} (hk : k < 2 ^ 31) (h : z.toInt = (k : Int)) : z = nI k := by
  apply Int32.toInt_inj.mp
  rw [h, nI_toInt hk]
theorem fm_core {a : Int} {p : Nat} (hp : p = 2 ∨ p = 3 ∨ p = 5 ∨ p = 7) : (0 ≤ a → a.tmod p = a % (p : Int)) ∧ (a < 0 → a.tmod p = 0 → a % (p : Int) = 0) ∧ (a < 0 → a.tmod p ≠ 0 → a.tmod p + p = a % (p : Int) ∧ a.tmod p < 0) := by
  have e := Int.tmod_add_mul_tdiv a p
  have b := tmod_bounds (a := a) (M := (p : Int)) (by omega)
  have n1 : 0 ≤ a → 0 ≤ a.tmod p := fun h => Int.tmod_nonneg _ h
  have n2 : a < 0 → a.tmod p ≤ 0 := fun h => by
    have := Int.tmod_nonneg (p : Int) (show 0 ≤ -a by omega)
    rw [Int.neg_tmod] at this
    omega
  generalize a.tmod p = t at e b n1 n2 ⊢
  generalize a.tdiv p = d at e
  rcases hp with q | q | q | q <;> subst q <;> refine ⟨fun h => ?_, fun h h0 => ?_, fun h h0 => ⟨?_, ?_⟩⟩ <;> omega
theorem fm_a {x : Int32} {p : Nat} (hp : p = 2 ∨ p = 3 ∨ p = 5 ∨ p = 7) (h : 0 ≤ x) : x - x / nI p * nI p = nI (fm_ x p) := by
  have h0 : 0 ≤ x.toInt := by have := Int32.le_iff_toInt_le.mp h; simpa using this
  have l := fm_lt x (p := p) (by omega)
  apply fm_eq (by omega)
  rw [rem_toInt, nI_toInt (by omega), (fm_core hp).1 h0]
  unfold fm_
  have h1 := Int.emod_nonneg x.toInt (b := (p : Int)) (by omega)
  omega
theorem fm_b {x : Int32} {p : Nat} (hp : p = 2 ∨ p = 3 ∨ p = 5 ∨ p = 7) (h : ¬ 0 ≤ x) (hz : x - x / nI p * nI p = 0) : x - x / nI p * nI p = nI (fm_ x p) := by
  have h0 : x.toInt < 0 := by
    have := Int32.not_le.mp h
    have := Int32.lt_iff_toInt_lt.mp this
    simpa using this
  have t : x.toInt.tmod p = 0 := by
    have := congrArg Int32.toInt hz
    rw [rem_toInt, nI_toInt (by omega)] at this
    simpa using this
  rw [hz]
  have : fm_ x p = 0 := by unfold fm_; rw [(fm_core hp).2.1 h0 t]; rfl
  rw [this]; rfl
theorem fm_c {x : Int32} {p : Nat} (hp : p = 2 ∨ p = 3 ∨ p = 5 ∨ p = 7) (h : ¬ 0 ≤ x) (hz : ¬ x - x / nI p * nI p = 0) : x - x / nI p * nI p + nI p = nI (fm_ x p) := by
  have h0 : x.toInt < 0 := by
    have := Int32.not_le.mp h
    have := Int32.lt_iff_toInt_lt.mp this
    simpa using this
  have e : (x - x / nI p * nI p).toInt = x.toInt.tmod p := by rw [rem_toInt, nI_toInt (by omega)]
  have t : x.toInt.tmod p ≠ 0 := fun q => hz (by
    apply Int32.toInt_inj.mp
    rw [e, q]; rfl)
  obtain ⟨g1, g2⟩ := (fm_core hp).2.2 h0 t
  have b := tmod_bounds (a := x.toInt) (M := (p : Int)) (by omega)
  have l := fm_lt x (p := p) (by omega)
  apply fm_eq (by omega)
  rw [Int32.toInt_add, e, nI_toInt (by omega), g1]
  unfold fm_
  have h1 := Int.emod_nonneg x.toInt (b := (p : Int)) (by omega)
  have h2 := Int.emod_lt_of_pos x.toInt (b := (p : Int)) (by omega)
  generalize x.toInt % (p : Int) = z at h1 h2 ⊢
  rw [Int.bmod_eq_of_le (by omega) (by omega)]
  omega
theorem nd_MT_floorMod_0 : decode nc_MT_floorMod 0 = .ok (.iload_n 0, 1) := by decide +kernel
theorem nd_MT_floorMod_1 : decode nc_MT_floorMod 1 = .ok (.iload_n 1, 1) := by decide +kernel
theorem nd_MT_floorMod_2 : decode nc_MT_floorMod 2 = .ok (.irem, 1) := by decide +kernel
theorem nd_MT_floorMod_3 : decode nc_MT_floorMod 3 = .ok (.istore_n 2, 1) := by decide +kernel
theorem nd_MT_floorMod_4 : decode nc_MT_floorMod 4 = .ok (.iload_n 0, 1) := by decide +kernel
theorem nd_MT_floorMod_5 : decode nc_MT_floorMod 5 = .ok (.iload_n 1, 1) := by decide +kernel
theorem nd_MT_floorMod_6 : decode nc_MT_floorMod 6 = .ok (.ixor, 1) := by decide +kernel
theorem nd_MT_floorMod_7 : decode nc_MT_floorMod 7 = .ok (.ifCond .ge 11, 3) := by decide +kernel
theorem nd_MT_floorMod_10 : decode nc_MT_floorMod 10 = .ok (.iload_n 2, 1) := by decide +kernel
theorem nd_MT_floorMod_11 : decode nc_MT_floorMod 11 = .ok (.ifCond .eq 7, 3) := by decide +kernel
theorem nd_MT_floorMod_14 : decode nc_MT_floorMod 14 = .ok (.iload_n 2, 1) := by decide +kernel
theorem nd_MT_floorMod_15 : decode nc_MT_floorMod 15 = .ok (.iload_n 1, 1) := by decide +kernel
theorem nd_MT_floorMod_16 : decode nc_MT_floorMod 16 = .ok (.iadd, 1) := by decide +kernel
theorem nd_MT_floorMod_17 : decode nc_MT_floorMod 17 = .ok (.ireturn, 1) := by decide +kernel
theorem nd_MT_floorMod_18 : decode nc_MT_floorMod 18 = .ok (.iload_n 2, 1) := by decide +kernel
theorem nd_MT_floorMod_19 : decode nc_MT_floorMod 19 = .ok (.ireturn, 1) := by decide +kernel
set_option maxRecDepth 20000 in
theorem c_MT_floorMod (l : Launch) (D : va_G) (tys : List (ClassId × FieldType)) (x : Int32) (p : Nat) (hp : p = 2 ∨ p = 3 ∨ p = 5 ∨ p = 7) : wa_M l ny_MT_floorMod nc_MT_floorMod 3 (some .int) ({ frames := 0, cells := 0, slots := 0, locals := 0 }) D tys ([]) [.int (x), .int (nI (p))] (nI (fm_ x p)) := by
  refine wa_startF (by decide +kernel) (Nat.le_of_ble_eq_true rfl) ?_
  intro p0 e0 s0 m below meth c ls hx hb hr hml htg hown hk hP hK hN hl
  have hl : lv_has ls 3 [(0, .int (x)), (1, .int (nI (p)))] := hl
  refine lv_iload_n hx hb nd_MT_floorMod_0 rfl (lv_at hl 0 rfl) ?_
  refine lv_iload_n hx hb nd_MT_floorMod_1 rfl (lv_at hl 1 rfl) ?_
  refine lv_irem hx hb nd_MT_floorMod_2 (nI_ne0 (by omega) (by omega)) ?_
  refine lv_topi (fun md emd => ?_)
  refine lv_istore_n hx hb nd_MT_floorMod_3 rfl hl (by decide) rfl (fun ls hl => ?_)
  have hl : lv_has ls 3 [(2, .int (md)), (0, .int (x)), (1, .int (nI (p)))] := hl
  refine lv_iload_n hx hb nd_MT_floorMod_4 rfl (lv_at hl 1 rfl) ?_
  refine lv_iload_n hx hb nd_MT_floorMod_5 rfl (lv_at hl 2 rfl) ?_
  refine lv_ixor hx hb nd_MT_floorMod_6 ?_
  refine lv_if_ge (tgt := 18) hx hb nd_MT_floorMod_7 rfl (fun hc7 => ?_) (fun hc7 => ?_)
  · refine lv_iload_n hx hb nd_MT_floorMod_18 rfl (lv_at hl 0 rfl) ?_
    exact wa_iret hx hb hr hk (emd.trans (fm_a hp ((fm_sg x (by omega)).mp hc7))) nd_MT_floorMod_19
  · refine lv_iload_n hx hb nd_MT_floorMod_10 rfl (lv_at hl 0 rfl) ?_
    refine lv_if_eq (tgt := 18) hx hb nd_MT_floorMod_11 rfl (fun hc11 => ?_) (fun hc11 => ?_)
    · refine lv_iload_n hx hb nd_MT_floorMod_18 rfl (lv_at hl 0 rfl) ?_
      exact wa_iret hx hb hr hk (emd.trans (fm_b hp (fun z => hc7 ((fm_sg x (by omega)).mpr z)) (emd ▸ hc11))) nd_MT_floorMod_19
    · refine lv_iload_n hx hb nd_MT_floorMod_14 rfl (lv_at hl 0 rfl) ?_
      refine lv_iload_n hx hb nd_MT_floorMod_15 rfl (lv_at hl 2 rfl) ?_
      refine lv_iadd hx hb nd_MT_floorMod_16 ?_
      exact wa_iret hx hb hr hk (by rw [emd] at hc11 ⊢; exact fm_c hp (fun z => hc7 ((fm_sg x (by omega)).mpr z)) hc11) nd_MT_floorMod_17
theorem nd_AR_fill_0 : decode nc_AR_fill 0 = .ok (.iconst 0, 1) := by decide +kernel
theorem nd_AR_fill_1 : decode nc_AR_fill 1 = .ok (.istore_n 2, 1) := by decide +kernel
theorem nd_AR_fill_2 : decode nc_AR_fill 2 = .ok (.aload_n 0, 1) := by decide +kernel
theorem nd_AR_fill_3 : decode nc_AR_fill 3 = .ok (.arraylength, 1) := by decide +kernel
theorem nd_AR_fill_4 : decode nc_AR_fill 4 = .ok (.istore_n 3, 1) := by decide +kernel
theorem nd_AR_fill_5 : decode nc_AR_fill 5 = .ok (.iload_n 2, 1) := by decide +kernel
theorem nd_AR_fill_6 : decode nc_AR_fill 6 = .ok (.iload_n 3, 1) := by decide +kernel
theorem nd_AR_fill_7 : decode nc_AR_fill 7 = .ok (.if_icmp .ge 13, 3) := by decide +kernel
theorem nd_AR_fill_10 : decode nc_AR_fill 10 = .ok (.aload_n 0, 1) := by decide +kernel
theorem nd_AR_fill_11 : decode nc_AR_fill 11 = .ok (.iload_n 2, 1) := by decide +kernel
theorem nd_AR_fill_12 : decode nc_AR_fill 12 = .ok (.iload_n 1, 1) := by decide +kernel
theorem nd_AR_fill_13 : decode nc_AR_fill 13 = .ok (.iastore, 1) := by decide +kernel
theorem nd_AR_fill_14 : decode nc_AR_fill 14 = .ok (.iinc 2 1, 3) := by decide +kernel
theorem nd_AR_fill_17 : decode nc_AR_fill 17 = .ok (.goto (-12), 3) := by decide +kernel
theorem nd_AR_fill_20 : decode nc_AR_fill 20 = .ok (.return_, 1) := by decide +kernel
set_option maxRecDepth 20000 in
theorem lp_AR_fill {p : Program} {l : Launch} {e0 : Env} {R : Room} {s0 : State} {m : MethodId} {args : Array Value} {below : List Frame} {meth : Method} {c : Code} {cells slots : Nat} {Q : State → Prop} {D : va_G} {A : Nat → Prop} (cI cG cM : ClassId) (qa n : Nat) (hn : n < 2 ^ 31) (v : Int32)  (hx : p.tables.exec = Jvm.exec) (hb : c.code = nc_AR_fill) (hml : c.maxLocals = 4) (htg : ∀ w ∈ tg_, w.before args s0 = true) (hown : s0.vm.findClass ny_AR_fill.cls = some m.cls) (hK : va_K D cl_all (ty_all cI cG cM) s0) (hN : tn_K s0) (hA : ∀ q : Nat, s0.heap.size ≤ q → A q) (hRf : 0 ≤ R.frames) (hRl : 0 ≤ R.locals) (hCS : cells ≤ R.cells ∧ slots ≤ R.slots) (kx : ∀ (ls : Array Slot) (H : Heap) (locs : List Loc) (g : Nat → Int32), (∀ j, j < n → g j = v) → lv_has ls 4 [(1, .int (v))] → va_P D cl_all ([(qa, .inl (cI, n, .inl g))]) H → va_D A ([(qa, .inl (cI, n, .inl g))]) → va_S A s0.heap H locs → W p l e0 R s0 m args below meth c H locs cells slots Q (F0 m 20 ls [])) : ∀ (f : Nat) (i : Nat) (g : Nat → Int32) (ls : Array Slot) (H : Heap) (locs : List Loc), n - i < f → (i ≤ n) → (∀ j, j < i → g j = v) → lv_has ls 4 [(2, .int (nI (i))), (3, .int (nI (n))), (0, .ref qa), (1, .int (v))] → va_P D cl_all ([(qa, .inl (cI, n, .inl g))]) H → va_D A ([(qa, .inl (cI, n, .inl g))]) → va_S A s0.heap H locs → W p l e0 R s0 m args below meth c H locs cells slots Q (F0 m 5 ls []) := by
  intro f
  induction f with
  | zero => intro i g ls H locs hf; omega
  | succ f ih =>
    intro i g ls H locs hf hi hg hl hP hD hS
    refine lv_iload_n hx hb nd_AR_fill_5 rfl (lv_at hl 0 rfl) ?_
    refine lv_iload_n hx hb nd_AR_fill_6 rfl (lv_at hl 1 rfl) ?_
    refine wi_icmp_ge (tgt := 20) hx hb (by omega) (by omega) nd_AR_fill_7 rfl (fun hc7 => ?_) (fun hc7 => ?_)
    · have hl : lv_has ls 4 [(1, .int (v))] := lv_sub hl [3] rfl
      exact kx ls H locs g (fun j hj => hg j (by omega)) hl hP hD hS
    · refine lv_aload_n hx hb nd_AR_fill_10 rfl (lv_at hl 2 rfl) ?_
      refine lv_iload_n hx hb nd_AR_fill_11 rfl (lv_at hl 0 rfl) ?_
      refine lv_iload_n hx hb nd_AR_fill_12 rfl (lv_at hl 3 rfl) ?_
      refine wi_iast hx hb hK hP hD hS 0 0 rfl rfl (by omega) (by omega) nd_AR_fill_13 (fun H locs hP hD hS => ?_)
      have hP : va_P D cl_all ([(qa, .inl (cI, n, .inl (upd g i v)))]) H := hP
      have hD : va_D A ([(qa, .inl (cI, n, .inl (upd g i v)))]) := hD
      refine lv_iinc (k := 0) (v := nI (i + 1)) hx hb nd_AR_fill_14 hl rfl (wi_inc _ 1) (by decide) rfl (fun ls hl => ?_)
      have hl : lv_has ls 4 [(2, .int (nI (i + 1))), (3, .int (nI (n))), (0, .ref qa), (1, .int (v))] := hl
      refine lv_goto (tgt := 5) hx hb nd_AR_fill_17 rfl ?_
      have hl : lv_has ls 4 [(2, .int (nI (i + 1))), (3, .int (nI (n))), (0, .ref qa), (1, .int (v))] := lv_sub hl [0, 1, 2, 3] rfl
      exact ih (i + 1) (upd g i v) ls H locs (by omega) (by omega) (fun j hj => by by_cases q : j = i <;> simp [upd, q]; exact hg j (by omega)) hl hP hD hS
set_option maxRecDepth 20000 in
theorem c_AR_fill (l : Launch) (D : va_G) (cI cG cM : ClassId)  (qa n : Nat) (hn : n < 2 ^ 31) (f : Nat → Int32) (v : Int32) (sz : Nat) : wb_Mv l ny_AR_fill nc_AR_fill 4 ({ frames := 0, cells := 0, slots := 0, locals := 0 }) D (ty_all cI cG cM) ([(qa, .inl (cI, n, .inl f))]) sz [.ref qa, .int (v)] (fun u : Nat → Int32 => ∀ j, j < n → u j = v) (fun u : Nat → Int32 => [(qa, .inl (cI, n, .inl u))]) := by
  refine wb_start (S := Nat → Int32) (by decide) (Nat.le_of_ble_eq_true rfl) ?_
  intro p e0 s0 m below meth c ls A hx hb hr hml htg hown hk hP hK hN hl hAe hsz hD hA
  have hl : lv_has ls 4 [(0, .ref qa), (1, .int (v))] := hl
  have hS : va_S A s0.heap s0.heap [] := va_S.rf
  have hRf : 0 ≤ ({ frames := 0, cells := 0, slots := 0, locals := 0 } : Room).frames := Nat.le_refl _
  have hRl : 0 ≤ ({ frames := 0, cells := 0, slots := 0, locals := 0 } : Room).locals := Nat.le_refl _
  have hCS : 0 ≤ ({ frames := 0, cells := 0, slots := 0, locals := 0 } : Room).cells ∧ 0 ≤ ({ frames := 0, cells := 0, slots := 0, locals := 0 } : Room).slots := ⟨Nat.zero_le _, Nat.zero_le _⟩
  refine wi_ic hx hb (a := 0) nd_AR_fill_0 ?_
  refine lv_istore_n hx hb nd_AR_fill_1 rfl hl (by decide) rfl (fun ls hl => ?_)
  have hl : lv_has ls 4 [(2, .int (nI (0))), (0, .ref qa), (1, .int (v))] := hl
  refine lv_aload_n hx hb nd_AR_fill_2 rfl (lv_at hl 1 rfl) ?_
  refine va_alen (v := nI (n)) hx hb hK hP 0 0 rfl rfl rfl nd_AR_fill_3 ?_
  refine lv_istore_n hx hb nd_AR_fill_4 rfl hl (by decide) rfl (fun ls hl => ?_)
  have hl : lv_has ls 4 [(3, .int (nI (n))), (2, .int (nI (0))), (0, .ref qa), (1, .int (v))] := hl
  have hl : lv_has ls 4 [(2, .int (nI (0))), (3, .int (nI (n))), (0, .ref qa), (1, .int (v))] := lv_sub hl [1, 0, 2, 3] rfl
  refine lp_AR_fill cI cG cM qa n hn v hx hb hml htg hown hK hN hA hRf hRl hCS (fun ls H locs g hg hl hP hD hS => ?_) (n + 1) 0 f ls s0.heap [] (by omega) (by omega) (fun j hj => by omega) hl hP hD hS
  exact wb_vret (g) hx hb hr hk hAe (hg) hP hD hS nd_AR_fill_20
end
section
/-! Rows of arrays of arrays; what the kinds answer: UNIFORM, GRAPHIC, CLASSES. -/
def rw_R (cA : ClassId) (k : Nat) (re : Nat → Nat) (M : Nat → Nat → Int32) (n : Nat) : va_W := (List.range n).map (fun e => (re e, .inl (cA, k, .inl (M e))))
theorem rw_len (cA : ClassId) (k : Nat) (re : Nat → Nat) (M : Nat → Nat → Int32) (n : Nat) : (rw_R cA k re M n).length = n := by simp [rw_R]
theorem rw_get {cA : ClassId} {k : Nat} {re : Nat → Nat} {M : Nat → Nat → Int32} {n e : Nat} (h : e < n) : (rw_R cA k re M n)[e]? = some (re e, .inl (cA, k, .inl (M e))) := by
  unfold rw_R
  rw [List.getElem?_map, List.getElem?_range h]
  rfl
theorem rw_atL {X Z : va_W} {cA : ClassId} {k : Nat} {re : Nat → Nat} {M : Nat → Nat → Int32} {n e : Nat} (h : e < n) : (X ++ (rw_R cA k re M n ++ Z))[X.length + e]? = some (re e, .inl (cA, k, .inl (M e))) := by
  rw [List.getElem?_append_right (by omega), Nat.add_sub_cancel_left, List.getElem?_append_left (by rw [rw_len]; exact h)]
  exact rw_get h
theorem rw_atR {X Z : va_W} {c1 cA : ClassId} {k1 k : Nat} {r1 re : Nat → Nat} {M1 M : Nat → Nat → Int32} {n1 n e : Nat} (h : e < n) : (X ++ (rw_R c1 k1 r1 M1 n1 ++ (rw_R cA k re M n ++ Z)))[X.length + (n1 + e)]? = some (re e, .inl (cA, k, .inl (M e))) := by
  rw [List.getElem?_append_right (by omega), Nat.add_sub_cancel_left, List.getElem?_append_right (by rw [rw_len]; omega), rw_len, Nat.add_sub_cancel_left, List.getElem?_append_left (by rw [rw_len]; exact h)]
  exact rw_get h
theorem rw_upd {cA : ClassId} {k : Nat} {re : Nat → Nat} {M : Nat → Nat → Int32} {n e : Nat} (r : Nat → Int32) : (rw_R cA k re M n).set e (re e, .inl (cA, k, .inl r)) = rw_R cA k re (va_up M e r) n := by
  apply List.ext_getElem?
  intro i
  by_cases hi : i < n
  · rw [rw_get hi]
    by_cases he : e = i
    · subst he
      rw [List.getElem?_set_self (by rw [rw_len]; exact hi), va_up_self]
    · rw [List.getElem?_set_ne he, rw_get hi, va_up_ne _ _ (fun q => he q.symm)]
  · rw [List.getElem?_eq_none (by rw [List.length_set, rw_len]; omega), List.getElem?_eq_none (by rw [rw_len]; omega)]
theorem rw_setL {X Z : va_W} {cA : ClassId} {k : Nat} {re : Nat → Nat} {M : Nat → Nat → Int32} {n e : Nat} {r : Nat → Int32} (h : e < n) : (X ++ (rw_R cA k re M n ++ Z)).set (X.length + e) (re e, .inl (cA, k, .inl r)) = X ++ (rw_R cA k re (va_up M e r) n ++ Z) := by
  rw [List.set_append_right _ _ (by omega), Nat.add_sub_cancel_left, List.set_append_left _ _ (by rw [rw_len]; exact h), rw_upd]
theorem rw_setR {X Z : va_W} {c1 cA : ClassId} {k1 k : Nat} {r1 re : Nat → Nat} {M1 M : Nat → Nat → Int32} {n1 n e : Nat} {r : Nat → Int32} (h : e < n) : (X ++ (rw_R c1 k1 r1 M1 n1 ++ (rw_R cA k re M n ++ Z))).set (X.length + (n1 + e)) (re e, .inl (cA, k, .inl r)) = X ++ (rw_R c1 k1 r1 M1 n1 ++ (rw_R cA k re (va_up M e r) n ++ Z)) := by
  rw [List.set_append_right _ _ (by omega), Nat.add_sub_cancel_left, List.set_append_right _ _ (by rw [rw_len]; omega), rw_len, Nat.add_sub_cancel_left, List.set_append_left _ _ (by rw [rw_len]; exact h), rw_upd]
theorem wi_min (a b : Nat) (ha : a < 2 ^ 31) (hb : b < 2 ^ 31) : (if nI b < nI a then nI b else nI a) = nI (min a b) := by
  by_cases h : b < a
  · rw [if_pos ((nI_ltI hb ha).mpr h), Nat.min_eq_right (by omega)]
  · rw [if_neg (fun q => h ((nI_ltI hb ha).mp q)), Nat.min_eq_left (by omega)]
theorem nd_UK_findRank_0 : decode nc_UK_findRank 0 = .ok (.aload_n 0, 1) := by decide +kernel
theorem nd_UK_findRank_1 : decode nc_UK_findRank 1 = .ok (.getfield 7, 3) := by decide +kernel
theorem nd_UK_findRank_4 : decode nc_UK_findRank 4 = .ok (.iload_n 1, 1) := by decide +kernel
theorem nd_UK_findRank_5 : decode nc_UK_findRank 5 = .ok (.invokestatic 13, 3) := by decide +kernel
theorem nd_UK_findRank_8 : decode nc_UK_findRank 8 = .ok (.invokestatic 19, 3) := by decide +kernel
theorem nd_UK_findRank_11 : decode nc_UK_findRank 11 = .ok (.ireturn, 1) := by decide +kernel
set_option maxRecDepth 20000 in
theorem c_UK_findRank (l : Launch) (D : va_G) (cI cG cM : ClassId)  (u0 k : Nat) (hk0 : k < 2 ^ 31) (s : Nat) (hs : s < 1024) (sz : Nat) : wb_Mi l ny_UK_findRank nc_UK_findRank 2 (some .int) ({ frames := 1, cells := 0, slots := 0, locals := 21 }) D (ty_all cI cG cM) ([(u0, .inr (2, [.int (nI (k))]))]) sz [.ref u0, .int (nI (s))] (fun (v : Int32) (u : Unit) => v = nI (min k (mt_cd 10 s))) (fun u : Unit => [(u0, .inr (2, [.int (nI (k))]))]) := by
  refine wb_start (S := Unit) (by decide) (Nat.le_of_ble_eq_true rfl) ?_
  intro p e0 s0 m below meth c ls A hx hb hr hml htg hown hk hP hK hN hl hAe hsz hD hA
  have hl : lv_has ls 2 [(0, .ref u0), (1, .int (nI (s)))] := hl
  have hS : va_S A s0.heap s0.heap [] := va_S.rf
  have hRf : 1 ≤ ({ frames := 1, cells := 0, slots := 0, locals := 21 } : Room).frames := Nat.le_refl _
  have hRl : 21 ≤ ({ frames := 1, cells := 0, slots := 0, locals := 21 } : Room).locals := Nat.le_refl _
  have hCS : 0 ≤ ({ frames := 1, cells := 0, slots := 0, locals := 21 } : Room).cells ∧ 0 ≤ ({ frames := 1, cells := 0, slots := 0, locals := 21 } : Room).slots := ⟨Nat.zero_le _, Nat.zero_le _⟩
  refine lv_aload_n hx hb nd_UK_findRank_0 rfl (lv_at hl 0 rfl) ?_
  refine va_get (D := D) (C := nr_UK) (T := nt_UK) (N := 1) hx hb htg tf_UK hown hK hP 0 rfl rfl 0 (by decide) (htg _ tm_37) (fun _ h => h) rfl nd_UK_findRank_1 ?_
  refine lv_iload_n hx hb nd_UK_findRank_4 rfl (lv_at hl 1 rfl) ?_
  refine wc_S (n := 1) hx hb hml hown htg (c_IN_bitCount l D _ s (by omega)) tm_304 tm_302 tm_303 tm_12 (by decide +kernel) ⟨⟨Nat.le_trans (by decide) hRf, Nat.le_trans (by decide) hRl⟩, rfl, rfl⟩ (wa_pre wa_nil hK hN) rfl hl.1 rfl (Nat.le_of_ble_eq_true rfl) nd_UK_findRank_5 hCS ?_
  have hcd5 := mt_cd_le 10 s
  refine va_mmin hx hb (hml.trans hl.1.symm) hown (htg _ tm_308) (htg _ tm_274) (htg _ tm_10) (htg _ tm_275) (Nat.le_trans (by decide) hRf) (Nat.le_trans (Nat.le_of_ble_eq_true rfl) hRl) hCS.1 hCS.2 nd_UK_findRank_8 ?_
  refine wi_top (wi_min k (mt_cd 10 s) (by omega) (by omega)) ?_
  exact wb_iret (()) hx hb hr hk hAe (rfl) hP hD hS nd_UK_findRank_11
theorem nd_GK_joins_0 : decode nc_GK_joins 0 = .ok (.iload_n 1, 1) := by decide +kernel
theorem nd_GK_joins_1 : decode nc_GK_joins 1 = .ok (.iload_n 2, 1) := by decide +kernel
theorem nd_GK_joins_2 : decode nc_GK_joins 2 = .ok (.if_icmp .ne 5, 3) := by decide +kernel
theorem nd_GK_joins_5 : decode nc_GK_joins 5 = .ok (.iconst 0, 1) := by decide +kernel
theorem nd_GK_joins_6 : decode nc_GK_joins 6 = .ok (.ireturn, 1) := by decide +kernel
theorem nd_GK_joins_7 : decode nc_GK_joins 7 = .ok (.iconst 0, 1) := by decide +kernel
theorem nd_GK_joins_8 : decode nc_GK_joins 8 = .ok (.istore_n 3, 1) := by decide +kernel
theorem nd_GK_joins_9 : decode nc_GK_joins 9 = .ok (.iload_n 3, 1) := by decide +kernel
theorem nd_GK_joins_10 : decode nc_GK_joins 10 = .ok (.bipush 8, 2) := by decide +kernel
theorem nd_GK_joins_12 : decode nc_GK_joins 12 = .ok (.if_icmp .ge 26, 3) := by decide +kernel
theorem nd_GK_joins_15 : decode nc_GK_joins 15 = .ok (.aload_n 0, 1) := by decide +kernel
theorem nd_GK_joins_16 : decode nc_GK_joins 16 = .ok (.getfield 9, 3) := by decide +kernel
theorem nd_GK_joins_19 : decode nc_GK_joins 19 = .ok (.iload_n 3, 1) := by decide +kernel
theorem nd_GK_joins_20 : decode nc_GK_joins 20 = .ok (.iaload, 1) := by decide +kernel
theorem nd_GK_joins_21 : decode nc_GK_joins 21 = .ok (.iload_n 2, 1) := by decide +kernel
theorem nd_GK_joins_22 : decode nc_GK_joins 22 = .ok (.if_icmp .ne 10, 3) := by decide +kernel
theorem nd_GK_joins_25 : decode nc_GK_joins 25 = .ok (.aload_n 0, 1) := by decide +kernel
theorem nd_GK_joins_26 : decode nc_GK_joins 26 = .ok (.getfield 9, 3) := by decide +kernel
theorem nd_GK_joins_29 : decode nc_GK_joins 29 = .ok (.iload_n 3, 1) := by decide +kernel
theorem nd_GK_joins_30 : decode nc_GK_joins 30 = .ok (.iload_n 1, 1) := by decide +kernel
theorem nd_GK_joins_31 : decode nc_GK_joins 31 = .ok (.iastore, 1) := by decide +kernel
theorem nd_GK_joins_32 : decode nc_GK_joins 32 = .ok (.iinc 3 1, 3) := by decide +kernel
theorem nd_GK_joins_35 : decode nc_GK_joins 35 = .ok (.goto (-26), 3) := by decide +kernel
theorem nd_GK_joins_38 : decode nc_GK_joins 38 = .ok (.iconst 1, 1) := by decide +kernel
theorem nd_GK_joins_39 : decode nc_GK_joins 39 = .ok (.ireturn, 1) := by decide +kernel
set_option maxRecDepth 20000 in
theorem lp_GK_joins {p : Program} {l : Launch} {e0 : Env} {R : Room} {s0 : State} {m : MethodId} {args : Array Value} {below : List Frame} {meth : Method} {c : Code} {cells slots : Nat} {Q : State → Prop} {D : va_G} {A : Nat → Prop} (cI cG cM : ClassId) (g0 g1 g2 : Nat) (L : Nat → Nat) (hL : ∀ v, v < 8 → L v < 8) (a b : Nat) (ha : a < 8) (hb8 : b < 8)  (hx : p.tables.exec = Jvm.exec) (hb : c.code = nc_GK_joins) (hml : c.maxLocals = 4) (htg : ∀ w ∈ tg_, w.before args s0 = true) (hown : s0.vm.findClass ny_GK_joins.cls = some m.cls) (hK : va_K D cl_all (ty_all cI cG cM) s0) (hN : tn_K s0) (hA : ∀ q : Nat, s0.heap.size ≤ q → A q) (hRf : 0 ≤ R.frames) (hRl : 0 ≤ R.locals) (hCS : cells ≤ R.cells ∧ slots ≤ R.slots) (kx : ∀ (ls : Array Slot) (H : Heap) (locs : List Loc) (g : Nat → Int32), (∀ v, v < 8 → g v = nI (if L v = b then a else L v)) → lv_has ls 4 [(2, .int (nI (b)))] → va_P D cl_all ([(g0, .inr (3, [.ref g2, .ref g1])), (g1, .inl (cI, 8, .inl g))]) H → va_D A ([(g0, .inr (3, [.ref g2, .ref g1])), (g1, .inl (cI, 8, .inl g))]) → va_S A s0.heap H locs → W p l e0 R s0 m args below meth c H locs cells slots Q (F0 m 38 ls [])) : ∀ (f : Nat) (i : Nat) (g : Nat → Int32) (ls : Array Slot) (H : Heap) (locs : List Loc), 8 - i < f → (i ≤ 8) → (∀ v, v < 8 → g v = nI (if v < i ∧ L v = b then a else L v)) → lv_has ls 4 [(3, .int (nI (i))), (0, .ref g0), (1, .int (nI (a))), (2, .int (nI (b)))] → va_P D cl_all ([(g0, .inr (3, [.ref g2, .ref g1])), (g1, .inl (cI, 8, .inl g))]) H → va_D A ([(g0, .inr (3, [.ref g2, .ref g1])), (g1, .inl (cI, 8, .inl g))]) → va_S A s0.heap H locs → W p l e0 R s0 m args below meth c H locs cells slots Q (F0 m 9 ls []) := by
  intro f
  induction f with
  | zero => intro i g ls H locs hf; omega
  | succ f ih =>
    intro i g ls H locs hf hi hg hl hP hD hS
    have hgi : 8 ≤ i ∨ g i = nI (L i) := by
        by_cases q : 8 ≤ i
        · exact Or.inl q
        · right; rw [hg i (by omega)]; simp
    have hLi : 8 ≤ i ∨ L i < 8 := by
        by_cases q : 8 ≤ i
        · exact Or.inl q
        · exact Or.inr (hL i (by omega))
    refine lv_iload_n hx hb nd_GK_joins_9 rfl (lv_at hl 0 rfl) ?_
    refine lv_bipush (v := nI 8) hx hb nd_GK_joins_10 (by decide) ?_
    refine wi_icmp_ge (tgt := 38) hx hb (by omega) (by omega) nd_GK_joins_12 rfl (fun hc12 => ?_) (fun hc12 => ?_)
    · have hl : lv_has ls 4 [(2, .int (nI (b)))] := lv_sub hl [3] rfl
      exact kx ls H locs g (fun v hv => by rw [hg v hv]; simp [show v < i by omega]) hl hP hD hS
    · have hgi := hgi.resolve_left (by omega)
      have hLi := hLi.resolve_left (by omega)
      refine lv_aload_n hx hb nd_GK_joins_15 rfl (lv_at hl 1 rfl) ?_
      refine va_get (D := D) (C := nr_GK) (T := nt_GK) (N := 2) hx hb htg tf_GK hown hK hP 0 rfl rfl 1 (by decide) (htg _ tm_53) (fun _ h => h) rfl nd_GK_joins_16 ?_
      refine lv_iload_n hx hb nd_GK_joins_19 rfl (lv_at hl 0 rfl) ?_
      refine wi_iald hx hb hK hP 1 0 rfl rfl (by omega) (by omega) nd_GK_joins_20 ?_
      refine wi_top (hgi) ?_
      refine lv_iload_n hx hb nd_GK_joins_21 rfl (lv_at hl 3 rfl) ?_
      refine wi_icmp_ne (tgt := 32) hx hb (by omega) (by omega) nd_GK_joins_22 rfl (fun hc22 => ?_) (fun hc22 => ?_)
      · refine lv_iinc (k := 0) (v := nI (i + 1)) hx hb nd_GK_joins_32 hl rfl (wi_inc _ 1) (by decide) rfl (fun ls hl => ?_)
        have hl : lv_has ls 4 [(3, .int (nI (i + 1))), (0, .ref g0), (1, .int (nI (a))), (2, .int (nI (b)))] := hl
        refine lv_goto (tgt := 9) hx hb nd_GK_joins_35 rfl ?_
        have hl : lv_has ls 4 [(3, .int (nI (i + 1))), (0, .ref g0), (1, .int (nI (a))), (2, .int (nI (b)))] := lv_sub hl [0, 1, 2, 3] rfl
        exact ih (i + 1) g ls H locs (by omega) (by omega) (fun v hv => by
        by_cases q : v = i
        · subst q; simp [upd, hc22, show v < v + 1 by omega]; rw [hg v hv]; simp [hc22]
        · have e1 : (v < i + 1) = (v < i) := by apply propext; omega
          simp only [upd, q, if_false, e1]; exact hg v hv) hl hP hD hS
      · refine lv_aload_n hx hb nd_GK_joins_25 rfl (lv_at hl 1 rfl) ?_
        refine va_get (D := D) (C := nr_GK) (T := nt_GK) (N := 2) hx hb htg tf_GK hown hK hP 0 rfl rfl 1 (by decide) (htg _ tm_53) (fun _ h => h) rfl nd_GK_joins_26 ?_
        refine lv_iload_n hx hb nd_GK_joins_29 rfl (lv_at hl 0 rfl) ?_
        refine lv_iload_n hx hb nd_GK_joins_30 rfl (lv_at hl 2 rfl) ?_
        refine wi_iast hx hb hK hP hD hS 1 0 rfl rfl (by omega) (by omega) nd_GK_joins_31 (fun H locs hP hD hS => ?_)
        have hP : va_P D cl_all ([(g0, .inr (3, [.ref g2, .ref g1])), (g1, .inl (cI, 8, .inl (upd g i (nI (a)))))]) H := hP
        have hD : va_D A ([(g0, .inr (3, [.ref g2, .ref g1])), (g1, .inl (cI, 8, .inl (upd g i (nI (a)))))]) := hD
        refine lv_iinc (k := 0) (v := nI (i + 1)) hx hb nd_GK_joins_32 hl rfl (wi_inc _ 1) (by decide) rfl (fun ls hl => ?_)
        have hl : lv_has ls 4 [(3, .int (nI (i + 1))), (0, .ref g0), (1, .int (nI (a))), (2, .int (nI (b)))] := hl
        refine lv_goto (tgt := 9) hx hb nd_GK_joins_35 rfl ?_
        have hl : lv_has ls 4 [(3, .int (nI (i + 1))), (0, .ref g0), (1, .int (nI (a))), (2, .int (nI (b)))] := lv_sub hl [0, 1, 2, 3] rfl
        exact ih (i + 1) (upd g i (nI a)) ls H locs (by omega) (by omega) (fun v hv => by
        by_cases q : v = i
        · subst q; simp [upd, hc22, show v < v + 1 by omega]
        · have e1 : (v < i + 1) = (v < i) := by apply propext; omega
          simp only [upd, q, if_false, e1]; exact hg v hv) hl hP hD hS
set_option maxRecDepth 20000 in
theorem c_GK_joins (l : Launch) (D : va_G) (cI cG cM : ClassId)  (g0 g1 g2 : Nat) (g : Nat → Int32) (L : Nat → Nat) (hL : ∀ v, v < 8 → L v < 8) (hg : ∀ v, v < 8 → g v = nI (L v)) (a b : Nat) (ha : a < 8) (hb8 : b < 8) (sz : Nat) : wb_Mi l ny_GK_joins nc_GK_joins 4 (some .boolean) ({ frames := 0, cells := 0, slots := 0, locals := 0 }) D (ty_all cI cG cM) ([(g0, .inr (3, [.ref g2, .ref g1])), (g1, .inl (cI, 8, .inl g))]) sz [.ref g0, .int (nI (a)), .int (nI (b))] (fun (v : Int32) (u : Nat → Int32) => (a = b → v = nI 0 ∧ ∀ j, j < 8 → u j = nI (L j)) ∧ (¬ a = b → v = nI 1 ∧ ∀ j, j < 8 → u j = nI (if L j = b then a else L j))) (fun u : Nat → Int32 => [(g0, .inr (3, [.ref g2, .ref g1])), (g1, .inl (cI, 8, .inl u))]) := by
  refine wb_start (S := Nat → Int32) (by decide) (Nat.le_of_ble_eq_true rfl) ?_
  intro p e0 s0 m below meth c ls A hx hb hr hml htg hown hk hP hK hN hl hAe hsz hD hA
  have hl : lv_has ls 4 [(0, .ref g0), (1, .int (nI (a))), (2, .int (nI (b)))] := hl
  have hS : va_S A s0.heap s0.heap [] := va_S.rf
  have hRf : 0 ≤ ({ frames := 0, cells := 0, slots := 0, locals := 0 } : Room).frames := Nat.le_refl _
  have hRl : 0 ≤ ({ frames := 0, cells := 0, slots := 0, locals := 0 } : Room).locals := Nat.le_refl _
  have hCS : 0 ≤ ({ frames := 0, cells := 0, slots := 0, locals := 0 } : Room).cells ∧ 0 ≤ ({ frames := 0, cells := 0, slots := 0, locals := 0 } : Room).slots := ⟨Nat.zero_le _, Nat.zero_le _⟩
  refine lv_iload_n hx hb nd_GK_joins_0 rfl (lv_at hl 1 rfl) ?_
  refine lv_iload_n hx hb nd_GK_joins_1 rfl (lv_at hl 2 rfl) ?_
  refine wi_icmp_ne (tgt := 7) hx hb (by omega) (by omega) nd_GK_joins_2 rfl (fun hc2 => ?_) (fun hc2 => ?_)
  · refine wi_ic hx hb (a := 0) nd_GK_joins_7 ?_
    refine lv_istore_n hx hb nd_GK_joins_8 rfl hl (by decide) rfl (fun ls hl => ?_)
    have hl : lv_has ls 4 [(3, .int (nI (0))), (0, .ref g0), (1, .int (nI (a))), (2, .int (nI (b)))] := hl
    have hl : lv_has ls 4 [(3, .int (nI (0))), (0, .ref g0), (1, .int (nI (a))), (2, .int (nI (b)))] := lv_sub hl [0, 1, 2, 3] rfl
    refine lp_GK_joins cI cG cM g0 g1 g2 L hL a b ha hb8 hx hb hml htg hown hK hN hA hRf hRl hCS (fun ls H locs g2 hg2 hl hP hD hS => ?_) 9 0 g ls s0.heap [] (by omega) (by omega) (fun v hv => by rw [hg v hv]; simp) hl hP hD hS
    refine wi_ic hx hb (a := 1) nd_GK_joins_38 ?_
    exact wb_zret (g2) hx hb hr hk rfl hAe (⟨fun q => absurd q hc2, fun _ => ⟨rfl, hg2⟩⟩) hP hD hS nd_GK_joins_39
  · refine wi_ic hx hb (a := 0) nd_GK_joins_5 ?_
    exact wb_zret (g) hx hb hr hk rfl hAe (⟨fun _ => ⟨rfl, hg⟩, fun q => absurd hc2 q⟩) hP hD hS nd_GK_joins_6
end
section
/-! GRAPHIC and CLASSES: their ranks; clearing. -/
theorem mg_s0 {fr to : Nat → Nat} {k s : Nat} (h : mt_bt s k = 0) : mg_gl fr to (k + 1) s = mg_gl fr to k s := by
  simp only [mg_gl]
  rw [if_neg (fun q => by rw [mt_bt_f.mp h] at q; cases q.1)]
theorem mg_s1 {fr to : Nat → Nat} {k s : Nat} (h : (mg_gl fr to k s).1 (fr k) = (mg_gl fr to k s).1 (to k)) : mg_gl fr to (k + 1) s = mg_gl fr to k s := by
  simp only [mg_gl]
  rw [if_neg (fun q => q.2 h)]
theorem mg_s2 {fr to : Nat → Nat} {k s : Nat} (hb : ¬ mt_bt s k = 0) (h : ¬ (mg_gl fr to k s).1 (fr k) = (mg_gl fr to k s).1 (to k)) : mg_gl fr to (k + 1) s = (fun v => if (mg_gl fr to k s).1 v = (mg_gl fr to k s).1 (to k) then (mg_gl fr to k s).1 (fr k) else (mg_gl fr to k s).1 v, (mg_gl fr to k s).2 + 1) := by
  simp only [mg_gl]
  rw [if_pos ⟨mt_bt_n.mp hb, h⟩]
theorem mt_cc_bt (cls : Nat → Nat) (c k s : Nat) : mt_cc cls c (k + 1) s = mt_cc cls c k s + (if mt_bt s k = 1 ∧ cls k = c then 1 else 0) := by
  simp only [mt_cc, mt_bt_t]
def ms_S (a : Nat → Nat) : Nat → Nat
  | 0 => 0
  | k + 1 => ms_S a k + a k
theorem ms_S4 (n : Nat) (cls cap : Nat → Nat) (s : Nat) : ms_S (fun c => min (mt_cc cls c n s) (cap c)) 4 = mt_C n cls cap s := by
  simp only [ms_S, mt_C]
  omega
theorem mt_cc_le (cls : Nat → Nat) (c n s : Nat) : mt_cc cls c n s ≤ n := by
  induction n with
  | zero => exact Nat.le_refl _
  | succ k ih => simp only [mt_cc]; split <;> omega
theorem nd_GK_findRank_0 : decode nc_GK_findRank 0 = .ok (.iconst 0, 1) := by decide +kernel
theorem nd_GK_findRank_1 : decode nc_GK_findRank 1 = .ok (.istore_n 2, 1) := by decide +kernel
theorem nd_GK_findRank_2 : decode nc_GK_findRank 2 = .ok (.iload_n 2, 1) := by decide +kernel
theorem nd_GK_findRank_3 : decode nc_GK_findRank 3 = .ok (.bipush 8, 2) := by decide +kernel
theorem nd_GK_findRank_5 : decode nc_GK_findRank 5 = .ok (.if_icmp .ge 16, 3) := by decide +kernel
theorem nd_GK_findRank_8 : decode nc_GK_findRank 8 = .ok (.aload_n 0, 1) := by decide +kernel
theorem nd_GK_findRank_9 : decode nc_GK_findRank 9 = .ok (.getfield 9, 3) := by decide +kernel
theorem nd_GK_findRank_12 : decode nc_GK_findRank 12 = .ok (.iload_n 2, 1) := by decide +kernel
theorem nd_GK_findRank_13 : decode nc_GK_findRank 13 = .ok (.iload_n 2, 1) := by decide +kernel
theorem nd_GK_findRank_14 : decode nc_GK_findRank 14 = .ok (.iastore, 1) := by decide +kernel
theorem nd_GK_findRank_15 : decode nc_GK_findRank 15 = .ok (.iinc 2 1, 3) := by decide +kernel
theorem nd_GK_findRank_18 : decode nc_GK_findRank 18 = .ok (.goto (-16), 3) := by decide +kernel
theorem nd_GK_findRank_21 : decode nc_GK_findRank 21 = .ok (.iconst 0, 1) := by decide +kernel
theorem nd_GK_findRank_22 : decode nc_GK_findRank 22 = .ok (.istore_n 2, 1) := by decide +kernel
theorem nd_GK_findRank_23 : decode nc_GK_findRank 23 = .ok (.iconst 0, 1) := by decide +kernel
theorem nd_GK_findRank_24 : decode nc_GK_findRank 24 = .ok (.istore_n 3, 1) := by decide +kernel
theorem nd_GK_findRank_25 : decode nc_GK_findRank 25 = .ok (.iload_n 3, 1) := by decide +kernel
theorem nd_GK_findRank_26 : decode nc_GK_findRank 26 = .ok (.aload_n 0, 1) := by decide +kernel
theorem nd_GK_findRank_27 : decode nc_GK_findRank 27 = .ok (.getfield 17, 3) := by decide +kernel
theorem nd_GK_findRank_30 : decode nc_GK_findRank 30 = .ok (.arraylength, 1) := by decide +kernel
theorem nd_GK_findRank_31 : decode nc_GK_findRank 31 = .ok (.if_icmp .ge 53, 3) := by decide +kernel
theorem nd_GK_findRank_34 : decode nc_GK_findRank 34 = .ok (.iload_n 1, 1) := by decide +kernel
theorem nd_GK_findRank_35 : decode nc_GK_findRank 35 = .ok (.iload_n 3, 1) := by decide +kernel
theorem nd_GK_findRank_36 : decode nc_GK_findRank 36 = .ok (.invokestatic 26, 3) := by decide +kernel
theorem nd_GK_findRank_39 : decode nc_GK_findRank 39 = .ok (.ifCond .eq 39, 3) := by decide +kernel
theorem nd_GK_findRank_42 : decode nc_GK_findRank 42 = .ok (.aload_n 0, 1) := by decide +kernel
theorem nd_GK_findRank_43 : decode nc_GK_findRank 43 = .ok (.aload_n 0, 1) := by decide +kernel
theorem nd_GK_findRank_44 : decode nc_GK_findRank 44 = .ok (.getfield 9, 3) := by decide +kernel
theorem nd_GK_findRank_47 : decode nc_GK_findRank 47 = .ok (.aload_n 0, 1) := by decide +kernel
theorem nd_GK_findRank_48 : decode nc_GK_findRank 48 = .ok (.getfield 17, 3) := by decide +kernel
theorem nd_GK_findRank_51 : decode nc_GK_findRank 51 = .ok (.iload_n 3, 1) := by decide +kernel
theorem nd_GK_findRank_52 : decode nc_GK_findRank 52 = .ok (.aaload, 1) := by decide +kernel
theorem nd_GK_findRank_53 : decode nc_GK_findRank 53 = .ok (.iconst 0, 1) := by decide +kernel
theorem nd_GK_findRank_54 : decode nc_GK_findRank 54 = .ok (.iaload, 1) := by decide +kernel
theorem nd_GK_findRank_55 : decode nc_GK_findRank 55 = .ok (.iaload, 1) := by decide +kernel
theorem nd_GK_findRank_56 : decode nc_GK_findRank 56 = .ok (.aload_n 0, 1) := by decide +kernel
theorem nd_GK_findRank_57 : decode nc_GK_findRank 57 = .ok (.getfield 9, 3) := by decide +kernel
theorem nd_GK_findRank_60 : decode nc_GK_findRank 60 = .ok (.aload_n 0, 1) := by decide +kernel
theorem nd_GK_findRank_61 : decode nc_GK_findRank 61 = .ok (.getfield 17, 3) := by decide +kernel
theorem nd_GK_findRank_64 : decode nc_GK_findRank 64 = .ok (.iload_n 3, 1) := by decide +kernel
theorem nd_GK_findRank_65 : decode nc_GK_findRank 65 = .ok (.aaload, 1) := by decide +kernel
theorem nd_GK_findRank_66 : decode nc_GK_findRank 66 = .ok (.iconst 1, 1) := by decide +kernel
theorem nd_GK_findRank_67 : decode nc_GK_findRank 67 = .ok (.iaload, 1) := by decide +kernel
theorem nd_GK_findRank_68 : decode nc_GK_findRank 68 = .ok (.iaload, 1) := by decide +kernel
theorem nd_GK_findRank_69 : decode nc_GK_findRank 69 = .ok (.invokevirtual 30, 3) := by decide +kernel
theorem nd_GK_findRank_72 : decode nc_GK_findRank 72 = .ok (.ifCond .eq 6, 3) := by decide +kernel
theorem nd_GK_findRank_75 : decode nc_GK_findRank 75 = .ok (.iinc 2 1, 3) := by decide +kernel
theorem nd_GK_findRank_78 : decode nc_GK_findRank 78 = .ok (.iinc 3 1, 3) := by decide +kernel
theorem nd_GK_findRank_81 : decode nc_GK_findRank 81 = .ok (.goto (-56), 3) := by decide +kernel
theorem nd_GK_findRank_84 : decode nc_GK_findRank 84 = .ok (.iload_n 2, 1) := by decide +kernel
theorem nd_GK_findRank_85 : decode nc_GK_findRank 85 = .ok (.ireturn, 1) := by decide +kernel
set_option maxRecDepth 20000 in
theorem lp_GK_findRank_2 {p : Program} {l : Launch} {e0 : Env} {R : Room} {s0 : State} {m : MethodId} {args : Array Value} {below : List Frame} {meth : Method} {c : Code} {cells slots : Nat} {Q : State → Prop} {D : va_G} {A : Nat → Prop} (cI cG cM : ClassId) (g0 g1 g2 n : Nat) (hn : n ≤ 10) (re : Nat → Nat) (E : Nat → Nat → Int32) (s : Nat)  (hx : p.tables.exec = Jvm.exec) (hb : c.code = nc_GK_findRank) (hml : c.maxLocals = 4) (htg : ∀ w ∈ tg_, w.before args s0 = true) (hown : s0.vm.findClass ny_GK_findRank.cls = some m.cls) (hK : va_K D cl_all (ty_all cI cG cM) s0) (hN : tn_K s0) (hA : ∀ q : Nat, s0.heap.size ≤ q → A q) (hRf : 1 ≤ R.frames) (hRl : 23 ≤ R.locals) (hCS : cells ≤ R.cells ∧ slots ≤ R.slots) (kx : ∀ (ls : Array Slot) (H : Heap) (locs : List Loc) (g : Nat → Int32), (∀ j, j < 8 → g j = nI j) → lv_has ls 4 [(0, .ref g0), (1, .int (nI (s)))] → va_P D cl_all ([(g0, .inr (3, [.ref g2, .ref g1])), (g1, .inl (cI, 8, .inl g)), (g2, .inl (cG, n, .inr (.inr (.inr (.inr (fun i => if i < n then some (re i) else none))))))] ++ (rw_R cI 2 re E n ++ [])) H → va_D A ([(g0, .inr (3, [.ref g2, .ref g1])), (g1, .inl (cI, 8, .inl g)), (g2, .inl (cG, n, .inr (.inr (.inr (.inr (fun i => if i < n then some (re i) else none))))))] ++ (rw_R cI 2 re E n ++ [])) → va_S A s0.heap H locs → W p l e0 R s0 m args below meth c H locs cells slots Q (F0 m 21 ls [])) : ∀ (f : Nat) (i : Nat) (g : Nat → Int32) (ls : Array Slot) (H : Heap) (locs : List Loc), 8 - i < f → (i ≤ 8) → (∀ j, j < i → g j = nI j) → lv_has ls 4 [(2, .int (nI (i))), (0, .ref g0), (1, .int (nI (s)))] → va_P D cl_all ([(g0, .inr (3, [.ref g2, .ref g1])), (g1, .inl (cI, 8, .inl g)), (g2, .inl (cG, n, .inr (.inr (.inr (.inr (fun i => if i < n then some (re i) else none))))))] ++ (rw_R cI 2 re E n ++ [])) H → va_D A ([(g0, .inr (3, [.ref g2, .ref g1])), (g1, .inl (cI, 8, .inl g)), (g2, .inl (cG, n, .inr (.inr (.inr (.inr (fun i => if i < n then some (re i) else none))))))] ++ (rw_R cI 2 re E n ++ [])) → va_S A s0.heap H locs → W p l e0 R s0 m args below meth c H locs cells slots Q (F0 m 2 ls []) := by
  intro f
  induction f with
  | zero => intro i g ls H locs hfu; omega
  | succ f ih =>
    intro i g ls H locs hfu hi hg hl hP hD hS
    refine lv_iload_n hx hb nd_GK_findRank_2 rfl (lv_at hl 0 rfl) ?_
    refine lv_bipush (v := nI 8) hx hb nd_GK_findRank_3 (by decide) ?_
    refine wi_icmp_ge (tgt := 21) hx hb (by omega) (by omega) nd_GK_findRank_5 rfl (fun hc5 => ?_) (fun hc5 => ?_)
    · have hl : lv_has ls 4 [(0, .ref g0), (1, .int (nI (s)))] := lv_sub hl [1, 2] rfl
      exact kx ls H locs g (fun j hj => hg j (by omega)) hl hP hD hS
    · refine lv_aload_n hx hb nd_GK_findRank_8 rfl (lv_at hl 1 rfl) ?_
      refine va_get (D := D) (C := nr_GK) (T := nt_GK) (N := 2) hx hb htg tf_GK hown hK hP 0 rfl rfl 1 (by decide) (htg _ tm_53) (fun _ h => h) rfl nd_GK_findRank_9 ?_
      refine lv_iload_n hx hb nd_GK_findRank_12 rfl (lv_at hl 0 rfl) ?_
      refine lv_iload_n hx hb nd_GK_findRank_13 rfl (lv_at hl 0 rfl) ?_
      refine wi_iast hx hb hK hP hD hS 1 0 rfl rfl (by omega) (by omega) nd_GK_findRank_14 (fun H locs hP hD hS => ?_)
      have hP : va_P D cl_all ([(g0, .inr (3, [.ref g2, .ref g1])), (g1, .inl (cI, 8, .inl (upd g i (nI (i))))), (g2, .inl (cG, n, .inr (.inr (.inr (.inr (fun i => if i < n then some (re i) else none))))))] ++ (rw_R cI 2 re E n ++ [])) H := hP
      have hD : va_D A ([(g0, .inr (3, [.ref g2, .ref g1])), (g1, .inl (cI, 8, .inl (upd g i (nI (i))))), (g2, .inl (cG, n, .inr (.inr (.inr (.inr (fun i => if i < n then some (re i) else none))))))] ++ (rw_R cI 2 re E n ++ [])) := hD
      refine lv_iinc (k := 0) (v := nI (i + 1)) hx hb nd_GK_findRank_15 hl rfl (wi_inc _ 1) (by decide) rfl (fun ls hl => ?_)
      have hl : lv_has ls 4 [(2, .int (nI (i + 1))), (0, .ref g0), (1, .int (nI (s)))] := hl
      refine lv_goto (tgt := 2) hx hb nd_GK_findRank_18 rfl ?_
      have hl : lv_has ls 4 [(2, .int (nI (i + 1))), (0, .ref g0), (1, .int (nI (s)))] := lv_sub hl [0, 1, 2] rfl
      exact ih (i + 1) (upd g i (nI i)) ls H locs (by omega) (by omega) (fun j hj => by by_cases q : j = i <;> simp [upd, q]; exact hg j (by omega)) hl hP hD hS
set_option maxRecDepth 20000 in
theorem lp_GK_findRank_25 {p : Program} {l : Launch} {e0 : Env} {R : Room} {s0 : State} {m : MethodId} {args : Array Value} {below : List Frame} {meth : Method} {c : Code} {cells slots : Nat} {Q : State → Prop} {D : va_G} {A : Nat → Prop} (cI cG cM : ClassId) (g0 g1 g2 n : Nat) (hn : n ≤ 10) (re : Nat → Nat) (E : Nat → Nat → Int32) (fr to : Nat → Nat) (hE : ∀ e, e < n → E e 0 = nI (fr e) ∧ E e 1 = nI (to e)) (hf : ∀ i, i < n → fr i < 8 ∧ to i < 8) (s : Nat) (hs : s < 1024)  (hx : p.tables.exec = Jvm.exec) (hb : c.code = nc_GK_findRank) (hml : c.maxLocals = 4) (htg : ∀ w ∈ tg_, w.before args s0 = true) (hown : s0.vm.findClass ny_GK_findRank.cls = some m.cls) (hK : va_K D cl_all (ty_all cI cG cM) s0) (hN : tn_K s0) (hA : ∀ q : Nat, s0.heap.size ≤ q → A q) (hRf : 1 ≤ R.frames) (hRl : 23 ≤ R.locals) (hCS : cells ≤ R.cells ∧ slots ≤ R.slots) (kx : ∀ (ls : Array Slot) (H : Heap) (locs : List Loc) (g : Nat → Int32), lv_has ls 4 [(2, .int (nI ((mg_gl fr to n s).2)))] → va_P D cl_all ([(g0, .inr (3, [.ref g2, .ref g1])), (g1, .inl (cI, 8, .inl g)), (g2, .inl (cG, n, .inr (.inr (.inr (.inr (fun i => if i < n then some (re i) else none))))))] ++ (rw_R cI 2 re E n ++ [])) H → va_D A ([(g0, .inr (3, [.ref g2, .ref g1])), (g1, .inl (cI, 8, .inl g)), (g2, .inl (cG, n, .inr (.inr (.inr (.inr (fun i => if i < n then some (re i) else none))))))] ++ (rw_R cI 2 re E n ++ [])) → va_S A s0.heap H locs → W p l e0 R s0 m args below meth c H locs cells slots Q (F0 m 84 ls [])) : ∀ (f : Nat) (e : Nat) (g : Nat → Int32) (ls : Array Slot) (H : Heap) (locs : List Loc), n - e < f → (e ≤ n) → (∀ v, v < 8 → g v = nI ((mg_gl fr to e s).1 v)) → lv_has ls 4 [(3, .int (nI (e))), (2, .int (nI ((mg_gl fr to e s).2))), (0, .ref g0), (1, .int (nI (s)))] → va_P D cl_all ([(g0, .inr (3, [.ref g2, .ref g1])), (g1, .inl (cI, 8, .inl g)), (g2, .inl (cG, n, .inr (.inr (.inr (.inr (fun i => if i < n then some (re i) else none))))))] ++ (rw_R cI 2 re E n ++ [])) H → va_D A ([(g0, .inr (3, [.ref g2, .ref g1])), (g1, .inl (cI, 8, .inl g)), (g2, .inl (cG, n, .inr (.inr (.inr (.inr (fun i => if i < n then some (re i) else none))))))] ++ (rw_R cI 2 re E n ++ [])) → va_S A s0.heap H locs → W p l e0 R s0 m args below meth c H locs cells slots Q (F0 m 25 ls []) := by
  intro f
  induction f with
  | zero => intro e g ls H locs hfu; omega
  | succ f ih =>
    intro e g ls H locs hfu he hg hl hP hD hS
    have hLb := (mg_reps (s := s) hf e (by omega)).1
    refine lv_iload_n hx hb nd_GK_findRank_25 rfl (lv_at hl 0 rfl) ?_
    refine lv_aload_n hx hb nd_GK_findRank_26 rfl (lv_at hl 2 rfl) ?_
    refine va_get (D := D) (C := nr_GK) (T := nt_GK) (N := 2) hx hb htg tf_GK hown hK hP 0 rfl rfl 0 (by decide) (htg _ tm_51) (fun _ h => h) rfl nd_GK_findRank_27 ?_
    refine va_alen (v := nI (n)) hx hb hK hP 2 1 rfl rfl rfl nd_GK_findRank_30 ?_
    refine wi_icmp_ge (tgt := 84) hx hb (by omega) (by omega) nd_GK_findRank_31 rfl (fun hc31 => ?_) (fun hc31 => ?_)
    · have hl : lv_has ls 4 [(2, .int (nI ((mg_gl fr to e s).2)))] := lv_sub hl [1] rfl
      have hin : e = n := by omega
      exact kx ls H locs g (by simpa only [hin] using hl) hP hD hS
    · have hfe := hf e (by omega)
      refine lv_iload_n hx hb nd_GK_findRank_34 rfl (lv_at hl 3 rfl) ?_
      refine lv_iload_n hx hb nd_GK_findRank_35 rfl (lv_at hl 0 rfl) ?_
      refine wc_SN (n := 2) hx hb hml hown htg (c_CB_has l D _ s e (by omega) (by omega)) tm_272 (tn_279 hN) tm_271 tm_1 (by decide +kernel) ⟨⟨Nat.le_trans (by decide) hRf, Nat.le_trans (by decide) hRl⟩, rfl, rfl⟩ (wa_pre wa_nil hK hN) rfl hl.1 rfl (Nat.le_of_ble_eq_true rfl) nd_GK_findRank_36 hCS ?_
      have hbt36 := mt_bt_lt s e
      refine wi_if_eq (tgt := 78) hx hb (by omega) nd_GK_findRank_39 rfl (fun hc39 => ?_) (fun hc39 => ?_)
      · refine lv_iinc (k := 0) (v := nI (e + 1)) hx hb nd_GK_findRank_78 hl rfl (wi_inc _ 1) (by decide) rfl (fun ls hl => ?_)
        have hl : lv_has ls 4 [(3, .int (nI (e + 1))), (2, .int (nI ((mg_gl fr to e s).2))), (0, .ref g0), (1, .int (nI (s)))] := hl
        refine lv_goto (tgt := 25) hx hb nd_GK_findRank_81 rfl ?_
        have hl : lv_has ls 4 [(3, .int (nI (e + 1))), (2, .int (nI ((mg_gl fr to e s).2))), (0, .ref g0), (1, .int (nI (s)))] := lv_sub hl [0, 1, 2, 3] rfl
        exact ih (e + 1) g ls H locs (by omega) (by omega) (by rw [mg_s0 hc39]; exact hg) (by rw [mg_s0 hc39]; exact hl) hP hD hS
      · refine lv_aload_n hx hb nd_GK_findRank_42 rfl (lv_at hl 2 rfl) ?_
        refine lv_aload_n hx hb nd_GK_findRank_43 rfl (lv_at hl 2 rfl) ?_
        refine va_get (D := D) (C := nr_GK) (T := nt_GK) (N := 2) hx hb htg tf_GK hown hK hP 0 rfl rfl 1 (by decide) (htg _ tm_53) (fun _ h => h) rfl nd_GK_findRank_44 ?_
        refine lv_aload_n hx hb nd_GK_findRank_47 rfl (lv_at hl 2 rfl) ?_
        refine va_get (D := D) (C := nr_GK) (T := nt_GK) (N := 2) hx hb htg tf_GK hown hK hP 0 rfl rfl 0 (by decide) (htg _ tm_51) (fun _ h => h) rfl nd_GK_findRank_48 ?_
        refine lv_iload_n hx hb nd_GK_findRank_51 rfl (lv_at hl 0 rfl) ?_
        refine wi_aald (v := (re e)) hx hb hK hP 2 1 rfl rfl rfl (by omega) (by omega) (if_pos (by omega)) nd_GK_findRank_52 ?_
        refine wi_ic hx hb (a := 0) nd_GK_findRank_53 ?_
        refine wi_iald hx hb hK hP _ 0 (rw_atL (by omega)) rfl (by omega) (by omega) nd_GK_findRank_54 ?_
        refine wi_top ((hE e (by omega)).1) ?_
        refine wi_iald hx hb hK hP 1 0 rfl rfl (by omega) (by omega) nd_GK_findRank_55 ?_
        refine wi_top (hg (fr e) (by omega)) ?_
        refine lv_aload_n hx hb nd_GK_findRank_56 rfl (lv_at hl 2 rfl) ?_
        refine va_get (D := D) (C := nr_GK) (T := nt_GK) (N := 2) hx hb htg tf_GK hown hK hP 0 rfl rfl 1 (by decide) (htg _ tm_53) (fun _ h => h) rfl nd_GK_findRank_57 ?_
        refine lv_aload_n hx hb nd_GK_findRank_60 rfl (lv_at hl 2 rfl) ?_
        refine va_get (D := D) (C := nr_GK) (T := nt_GK) (N := 2) hx hb htg tf_GK hown hK hP 0 rfl rfl 0 (by decide) (htg _ tm_51) (fun _ h => h) rfl nd_GK_findRank_61 ?_
        refine lv_iload_n hx hb nd_GK_findRank_64 rfl (lv_at hl 0 rfl) ?_
        refine wi_aald (v := (re e)) hx hb hK hP 2 1 rfl rfl rfl (by omega) (by omega) (if_pos (by omega)) nd_GK_findRank_65 ?_
        refine wi_ic hx hb (a := 1) nd_GK_findRank_66 ?_
        refine wi_iald hx hb hK hP _ 0 (rw_atL (by omega)) rfl (by omega) (by omega) nd_GK_findRank_67 ?_
        refine wi_top ((hE e (by omega)).2) ?_
        refine wi_iald hx hb hK hP 1 0 rfl rfl (by omega) (by omega) nd_GK_findRank_68 ?_
        refine wi_top (hg (to e) (by omega)) ?_
        refine wd_Vi (C := nr_GK) (n := 2) (X := []) (Y := [(g0, .inr (3, [.ref g2, .ref g1])), (g1, .inl (cI, 8, .inl g))]) (Z := [(g2, .inl (cG, n, .inr (.inr (.inr (.inr (fun i => if i < n then some (re i) else none))))))] ++ (rw_R cI 2 re E n ++ [])) hx hb hml hown htg (c_GK_joins l D cI cG cM g0 g1 g2 g (mg_gl fr to e s).1 hLb hg _ _ (hLb _ hfe.1) (hLb _ hfe.2) _) tm_283 tm_280 tm_282 tp_4 tm_5 (by decide +kernel) ⟨⟨Nat.le_trans (by decide) hRf, Nat.le_trans (by decide) hRl⟩, rfl, rfl⟩ hP hD hS hA hK hN (va_recv (q0 := 0) (ci := 3) hK hP rfl rfl) rfl hl.1 rfl (Nat.le_of_ble_eq_true rfl) nd_GK_findRank_69 hCS (fun v69 u69 H locs hp69 hP hD hS => ?_)
        have hP : va_P D cl_all ([(g0, .inr (3, [.ref g2, .ref g1])), (g1, .inl (cI, 8, .inl u69)), (g2, .inl (cG, n, .inr (.inr (.inr (.inr (fun i => if i < n then some (re i) else none))))))] ++ (rw_R cI 2 re E n ++ [])) H := hP
        have hD : va_D A ([(g0, .inr (3, [.ref g2, .ref g1])), (g1, .inl (cI, 8, .inl u69)), (g2, .inl (cG, n, .inr (.inr (.inr (.inr (fun i => if i < n then some (re i) else none))))))] ++ (rw_R cI 2 re E n ++ [])) := hD
        refine lv_if_eq (tgt := 78) hx hb nd_GK_findRank_72 rfl (fun hc72 => ?_) (fun hc72 => ?_)
        · refine lv_iinc (k := 0) (v := nI (e + 1)) hx hb nd_GK_findRank_78 hl rfl (wi_inc _ 1) (by decide) rfl (fun ls hl => ?_)
          have hl : lv_has ls 4 [(3, .int (nI (e + 1))), (2, .int (nI ((mg_gl fr to e s).2))), (0, .ref g0), (1, .int (nI (s)))] := hl
          refine lv_goto (tgt := 25) hx hb nd_GK_findRank_81 rfl ?_
          have hl : lv_has ls 4 [(3, .int (nI (e + 1))), (2, .int (nI ((mg_gl fr to e s).2))), (0, .ref g0), (1, .int (nI (s)))] := lv_sub hl [0, 1, 2, 3] rfl
          have hab : (mg_gl fr to e s).1 (fr e) = (mg_gl fr to e s).1 (to e) := Classical.byContradiction fun q => nI_ne0 (n := 1) (by omega) (by omega) ((hp69.2 q).1.symm.trans hc72)
          exact ih (e + 1) u69 ls H locs (by omega) (by omega) (by rw [mg_s1 hab]; exact (hp69.1 hab).2) (by rw [mg_s1 hab]; exact hl) hP hD hS
        · refine lv_iinc (k := 1) (v := nI ((mg_gl fr to e s).2 + 1)) hx hb nd_GK_findRank_75 hl rfl (wi_inc _ 1) (by decide) rfl (fun ls hl => ?_)
          have hl : lv_has ls 4 [(2, .int (nI ((mg_gl fr to e s).2 + 1))), (3, .int (nI (e))), (0, .ref g0), (1, .int (nI (s)))] := hl
          refine lv_iinc (k := 1) (v := nI (e + 1)) hx hb nd_GK_findRank_78 hl rfl (wi_inc _ 1) (by decide) rfl (fun ls hl => ?_)
          have hl : lv_has ls 4 [(3, .int (nI (e + 1))), (2, .int (nI ((mg_gl fr to e s).2 + 1))), (0, .ref g0), (1, .int (nI (s)))] := hl
          refine lv_goto (tgt := 25) hx hb nd_GK_findRank_81 rfl ?_
          have hl : lv_has ls 4 [(3, .int (nI (e + 1))), (2, .int (nI ((mg_gl fr to e s).2 + 1))), (0, .ref g0), (1, .int (nI (s)))] := lv_sub hl [0, 1, 2, 3] rfl
          have hab : ¬ (mg_gl fr to e s).1 (fr e) = (mg_gl fr to e s).1 (to e) := fun q => hc72 ((hp69.1 q).1.trans nI_0)
          exact ih (e + 1) u69 ls H locs (by omega) (by omega) (by rw [mg_s2 hc39 hab]; exact (hp69.2 hab).2) (by rw [mg_s2 hc39 hab]; exact hl) hP hD hS
set_option maxRecDepth 20000 in
theorem c_GK_findRank (l : Launch) (D : va_G) (cI cG cM : ClassId)  (g0 g1 g2 n : Nat) (hn : n ≤ 10) (re : Nat → Nat) (E : Nat → Nat → Int32) (g : Nat → Int32) (fr to : Nat → Nat) (hE : ∀ e, e < n → E e 0 = nI (fr e) ∧ E e 1 = nI (to e)) (hf : ∀ i, i < n → fr i < 8 ∧ to i < 8) (s : Nat) (hs : s < 1024)  (sz : Nat) : wb_Mi l ny_GK_findRank nc_GK_findRank 4 (some .int) ({ frames := 1, cells := 0, slots := 0, locals := 23 }) D (ty_all cI cG cM) ([(g0, .inr (3, [.ref g2, .ref g1])), (g1, .inl (cI, 8, .inl g)), (g2, .inl (cG, n, .inr (.inr (.inr (.inr (fun i => if i < n then some (re i) else none))))))] ++ (rw_R cI 2 re E n ++ [])) sz [.ref g0, .int (nI (s))] (fun (v : Int32) (u : Nat → Int32) => v = nI (mg_r n fr to s)) (fun u : Nat → Int32 => [(g0, .inr (3, [.ref g2, .ref g1])), (g1, .inl (cI, 8, .inl u)), (g2, .inl (cG, n, .inr (.inr (.inr (.inr (fun i => if i < n then some (re i) else none))))))] ++ (rw_R cI 2 re E n ++ [])) := by
  refine wb_start (S := Nat → Int32) (by decide) (Nat.le_of_ble_eq_true rfl) ?_
  intro p e0 s0 m below meth c ls A hx hb hr hml htg hown hk hP hK hN hl hAe hsz hD hA
  have hl : lv_has ls 4 [(0, .ref g0), (1, .int (nI (s)))] := hl
  have hS : va_S A s0.heap s0.heap [] := va_S.rf
  have hRf : 1 ≤ ({ frames := 1, cells := 0, slots := 0, locals := 23 } : Room).frames := Nat.le_refl _
  have hRl : 23 ≤ ({ frames := 1, cells := 0, slots := 0, locals := 23 } : Room).locals := Nat.le_refl _
  have hCS : 0 ≤ ({ frames := 1, cells := 0, slots := 0, locals := 23 } : Room).cells ∧ 0 ≤ ({ frames := 1, cells := 0, slots := 0, locals := 23 } : Room).slots := ⟨Nat.zero_le _, Nat.zero_le _⟩
  refine wi_ic hx hb (a := 0) nd_GK_findRank_0 ?_
  refine lv_istore_n hx hb nd_GK_findRank_1 rfl hl (by decide) rfl (fun ls hl => ?_)
  have hl : lv_has ls 4 [(2, .int (nI (0))), (0, .ref g0), (1, .int (nI (s)))] := hl
  have hl : lv_has ls 4 [(2, .int (nI (0))), (0, .ref g0), (1, .int (nI (s)))] := lv_sub hl [0, 1, 2] rfl
  refine lp_GK_findRank_2 cI cG cM g0 g1 g2 n hn re E s hx hb hml htg hown hK hN hA hRf hRl hCS (fun ls H locs g hg hl hP hD hS => ?_) 9 0 g ls s0.heap [] (by omega) (by omega) (fun j hj => by omega) hl hP hD hS
  refine wi_ic hx hb (a := 0) nd_GK_findRank_21 ?_
  refine lv_istore_n hx hb nd_GK_findRank_22 rfl hl (by decide) rfl (fun ls hl => ?_)
  have hl : lv_has ls 4 [(2, .int (nI (0))), (0, .ref g0), (1, .int (nI (s)))] := hl
  refine wi_ic hx hb (a := 0) nd_GK_findRank_23 ?_
  refine lv_istore_n hx hb nd_GK_findRank_24 rfl hl (by decide) rfl (fun ls hl => ?_)
  have hl : lv_has ls 4 [(3, .int (nI (0))), (2, .int (nI (0))), (0, .ref g0), (1, .int (nI (s)))] := hl
  have hl : lv_has ls 4 [(3, .int (nI (0))), (2, .int (nI (0))), (0, .ref g0), (1, .int (nI (s)))] := lv_sub hl [0, 1, 2, 3] rfl
  refine lp_GK_findRank_25 cI cG cM g0 g1 g2 n hn re E fr to hE hf s hs  hx hb hml htg hown hK hN hA hRf hRl hCS (fun ls H locs g hl hP hD hS => ?_) (n + 1) 0 g ls H locs (by omega) (by omega) hg hl hP hD hS
  refine lv_iload_n hx hb nd_GK_findRank_84 rfl (lv_at hl 0 rfl) ?_
  exact wb_iret (g) hx hb hr hk hAe (rfl) hP hD hS nd_GK_findRank_85
theorem rw_cut {cA : ClassId} {k : Nat} {re : Nat → Nat} {M : Nat → Nat → Int32} {n e : Nat} (h : e < n) : rw_R cA k re M n = ((List.range n).take e).map (fun e => (re e, .inl (cA, k, .inl (M e)))) ++ ([(re e, .inl (cA, k, .inl (M e)))] ++ ((List.range n).drop (e + 1)).map (fun e => (re e, .inl (cA, k, .inl (M e))))) := by
  have h1 : List.range n = (List.range n).take e ++ (e :: (List.range n).drop (e + 1)) := by
    have h2 := (List.take_append_drop e (List.range n)).symm
    rw [List.drop_eq_getElem_cons (by simpa using h)] at h2
    simpa using h2
  unfold rw_R
  conv => lhs; rw [h1]
  simp
theorem rw_uncut {cA : ClassId} {k : Nat} {re : Nat → Nat} {M : Nat → Nat → Int32} {n e : Nat} (h : e < n) (r : Nat → Int32) : ((List.range n).take e).map (fun e => ((re e, .inl (cA, k, .inl (M e))) : Nat × va_E)) ++ ([(re e, .inl (cA, k, .inl r))] ++ ((List.range n).drop (e + 1)).map (fun e => ((re e, .inl (cA, k, .inl (M e))) : Nat × va_E))) = rw_R cA k re (va_up M e r) n := by
  rw [rw_cut (M := va_up M e r) h, va_up_self]
  congr 1
  · apply List.map_congr_left
    intro a ha
    obtain ⟨i, hi, q⟩ := List.getElem_of_mem ha
    rw [List.getElem_take, List.getElem_range] at q
    rw [va_up_ne]
    rw [List.length_take] at hi
    omega
  · congr 1
    apply List.map_congr_left
    intro a ha
    obtain ⟨i, hi, q⟩ := List.getElem_of_mem ha
    rw [List.getElem_drop, List.getElem_range] at q
    rw [va_up_ne]
    omega
end
section
/-! Clearing; CLASSES. -/
theorem rw_open {X Z : va_W} {cA : ClassId} {k : Nat} {re : Nat → Nat} {M : Nat → Nat → Int32} {n e : Nat} (h : e < n) : X ++ (rw_R cA k re M n ++ Z) = (X ++ ((List.range n).take e).map (fun e => (re e, .inl (cA, k, .inl (M e))))) ++ ([(re e, .inl (cA, k, .inl (M e)))] ++ (((List.range n).drop (e + 1)).map (fun e => (re e, .inl (cA, k, .inl (M e)))) ++ Z)) := by
  rw [rw_cut h]
  simp only [List.append_assoc]
theorem rw_close {X Z : va_W} {cA : ClassId} {k : Nat} {re : Nat → Nat} {M : Nat → Nat → Int32} {n e : Nat} (h : e < n) (r : Nat → Int32) : (X ++ ((List.range n).take e).map (fun e => (re e, .inl (cA, k, .inl (M e))))) ++ ([(re e, .inl (cA, k, .inl r))] ++ (((List.range n).drop (e + 1)).map (fun e => (re e, .inl (cA, k, .inl (M e)))) ++ Z)) = X ++ (rw_R cA k re (va_up M e r) n ++ Z) := by
  rw [← rw_uncut h r]
  simp only [List.append_assoc]
theorem rw_openR {X Z B : va_W} {cA : ClassId} {k : Nat} {re : Nat → Nat} {M : Nat → Nat → Int32} {n e : Nat} (h : e < n) : X ++ (B ++ (rw_R cA k re M n ++ Z)) = (X ++ (B ++ ((List.range n).take e).map (fun e => (re e, .inl (cA, k, .inl (M e)))))) ++ ([(re e, .inl (cA, k, .inl (M e)))] ++ (((List.range n).drop (e + 1)).map (fun e => (re e, .inl (cA, k, .inl (M e)))) ++ Z)) := by
  rw [rw_cut h]
  simp only [List.append_assoc]
theorem rw_closeR {X Z B : va_W} {cA : ClassId} {k : Nat} {re : Nat → Nat} {M : Nat → Nat → Int32} {n e : Nat} (h : e < n) (r : Nat → Int32) : (X ++ (B ++ ((List.range n).take e).map (fun e => (re e, .inl (cA, k, .inl (M e)))))) ++ ([(re e, .inl (cA, k, .inl r))] ++ (((List.range n).drop (e + 1)).map (fun e => (re e, .inl (cA, k, .inl (M e)))) ++ Z)) = X ++ (B ++ (rw_R cA k re (va_up M e r) n ++ Z)) := by
  rw [← rw_uncut h r]
  simp only [List.append_assoc]
theorem nd_GK_clear_0 : decode nc_GK_clear 0 = .ok (.iconst 0, 1) := by decide +kernel
theorem nd_GK_clear_1 : decode nc_GK_clear 1 = .ok (.istore_n 1, 1) := by decide +kernel
theorem nd_GK_clear_2 : decode nc_GK_clear 2 = .ok (.iload_n 1, 1) := by decide +kernel
theorem nd_GK_clear_3 : decode nc_GK_clear 3 = .ok (.aload_n 0, 1) := by decide +kernel
theorem nd_GK_clear_4 : decode nc_GK_clear 4 = .ok (.getfield 17, 3) := by decide +kernel
theorem nd_GK_clear_7 : decode nc_GK_clear 7 = .ok (.arraylength, 1) := by decide +kernel
theorem nd_GK_clear_8 : decode nc_GK_clear 8 = .ok (.if_icmp .ge 19, 3) := by decide +kernel
theorem nd_GK_clear_11 : decode nc_GK_clear 11 = .ok (.aload_n 0, 1) := by decide +kernel
theorem nd_GK_clear_12 : decode nc_GK_clear 12 = .ok (.getfield 17, 3) := by decide +kernel
theorem nd_GK_clear_15 : decode nc_GK_clear 15 = .ok (.iload_n 1, 1) := by decide +kernel
theorem nd_GK_clear_16 : decode nc_GK_clear 16 = .ok (.aaload, 1) := by decide +kernel
theorem nd_GK_clear_17 : decode nc_GK_clear 17 = .ok (.iconst 0, 1) := by decide +kernel
theorem nd_GK_clear_18 : decode nc_GK_clear 18 = .ok (.invokestatic 20, 3) := by decide +kernel
theorem nd_GK_clear_21 : decode nc_GK_clear 21 = .ok (.iinc 1 1, 3) := by decide +kernel
theorem nd_GK_clear_24 : decode nc_GK_clear 24 = .ok (.goto (-22), 3) := by decide +kernel
theorem nd_GK_clear_27 : decode nc_GK_clear 27 = .ok (.return_, 1) := by decide +kernel
set_option maxRecDepth 20000 in
theorem lp_GK_clear {p : Program} {l : Launch} {e0 : Env} {R : Room} {s0 : State} {m : MethodId} {args : Array Value} {below : List Frame} {meth : Method} {c : Code} {cells slots : Nat} {Q : State → Prop} {D : va_G} {A : Nat → Prop} (cI cG cM : ClassId) (g0 g1 g2 n : Nat) (hn : n ≤ 10) (re : Nat → Nat) (g : Nat → Int32)  (hx : p.tables.exec = Jvm.exec) (hb : c.code = nc_GK_clear) (hml : c.maxLocals = 2) (htg : ∀ w ∈ tg_, w.before args s0 = true) (hown : s0.vm.findClass ny_GK_clear.cls = some m.cls) (hK : va_K D cl_all (ty_all cI cG cM) s0) (hN : tn_K s0) (hA : ∀ q : Nat, s0.heap.size ≤ q → A q) (hRf : 1 ≤ R.frames) (hRl : 23 ≤ R.locals) (hCS : cells ≤ R.cells ∧ slots ≤ R.slots) (kx : ∀ (ls : Array Slot) (H : Heap) (locs : List Loc) (M : Nat → Nat → Int32), (∀ e, e < n → ∀ j, j < 2 → M e j = nI 0) → lv_has ls 2 [(0, .ref g0)] → va_P D cl_all ([(g0, .inr (3, [.ref g2, .ref g1])), (g1, .inl (cI, 8, .inl g)), (g2, .inl (cG, n, .inr (.inr (.inr (.inr (fun i => if i < n then some (re i) else none))))))] ++ (rw_R cI 2 re M n ++ [])) H → va_D A ([(g0, .inr (3, [.ref g2, .ref g1])), (g1, .inl (cI, 8, .inl g)), (g2, .inl (cG, n, .inr (.inr (.inr (.inr (fun i => if i < n then some (re i) else none))))))] ++ (rw_R cI 2 re M n ++ [])) → va_S A s0.heap H locs → W p l e0 R s0 m args below meth c H locs cells slots Q (F0 m 27 ls [])) : ∀ (f : Nat) (i : Nat) (M : Nat → Nat → Int32) (ls : Array Slot) (H : Heap) (locs : List Loc), n - i < f → (i ≤ n) → (∀ e, e < i → ∀ j, j < 2 → M e j = nI 0) → lv_has ls 2 [(1, .int (nI (i))), (0, .ref g0)] → va_P D cl_all ([(g0, .inr (3, [.ref g2, .ref g1])), (g1, .inl (cI, 8, .inl g)), (g2, .inl (cG, n, .inr (.inr (.inr (.inr (fun i => if i < n then some (re i) else none))))))] ++ (rw_R cI 2 re M n ++ [])) H → va_D A ([(g0, .inr (3, [.ref g2, .ref g1])), (g1, .inl (cI, 8, .inl g)), (g2, .inl (cG, n, .inr (.inr (.inr (.inr (fun i => if i < n then some (re i) else none))))))] ++ (rw_R cI 2 re M n ++ [])) → va_S A s0.heap H locs → W p l e0 R s0 m args below meth c H locs cells slots Q (F0 m 2 ls []) := by
  intro f
  induction f with
  | zero => intro i M ls H locs hfu; omega
  | succ f ih =>
    intro i M ls H locs hfu hi hM hl hP hD hS
    refine lv_iload_n hx hb nd_GK_clear_2 rfl (lv_at hl 0 rfl) ?_
    refine lv_aload_n hx hb nd_GK_clear_3 rfl (lv_at hl 1 rfl) ?_
    refine va_get (D := D) (C := nr_GK) (T := nt_GK) (N := 2) hx hb htg tf_GK hown hK hP 0 rfl rfl 0 (by decide) (htg _ tm_51) (fun _ h => h) rfl nd_GK_clear_4 ?_
    refine va_alen (v := nI (n)) hx hb hK hP 2 1 rfl rfl rfl nd_GK_clear_7 ?_
    refine wi_icmp_ge (tgt := 27) hx hb (by omega) (by omega) nd_GK_clear_8 rfl (fun hc8 => ?_) (fun hc8 => ?_)
    · have hl : lv_has ls 2 [(0, .ref g0)] := lv_sub hl [1] rfl
      exact kx ls H locs M (fun e he => hM e (by omega)) hl hP hD hS
    · refine lv_aload_n hx hb nd_GK_clear_11 rfl (lv_at hl 1 rfl) ?_
      refine va_get (D := D) (C := nr_GK) (T := nt_GK) (N := 2) hx hb htg tf_GK hown hK hP 0 rfl rfl 0 (by decide) (htg _ tm_51) (fun _ h => h) rfl nd_GK_clear_12 ?_
      refine lv_iload_n hx hb nd_GK_clear_15 rfl (lv_at hl 0 rfl) ?_
      refine wi_aald (v := (re i)) hx hb hK hP 2 1 rfl rfl rfl (by omega) (by omega) (if_pos (by omega)) nd_GK_clear_16 ?_
      refine wi_ic hx hb (a := 0) nd_GK_clear_17 ?_
      rw [rw_open (re := re) (e := i) (by omega)] at hP hD
      refine wd_Sv (n := 2) (Y := [(re i, .inl (cI, 2, .inl (M i)))]) hx hb hml hown htg (c_AR_fill l D cI cG cM (re i) 2 (by omega) (M i) (nI (0)) _) tm_99 tm_169 tm_98 tm_8 (by decide +kernel) ⟨⟨Nat.le_trans (by decide) hRf, Nat.le_trans (by decide) hRl⟩, rfl, rfl⟩ hP hD hS hA hK hN rfl hl.1 rfl (Nat.le_of_ble_eq_true rfl) nd_GK_clear_18 hCS (fun u18 H locs hp18 hP hD hS => ?_)
      rw [rw_close (by omega)] at hP hD
      have hP : va_P D cl_all ([(g0, .inr (3, [.ref g2, .ref g1])), (g1, .inl (cI, 8, .inl g)), (g2, .inl (cG, n, .inr (.inr (.inr (.inr (fun i => if i < n then some (re i) else none))))))] ++ (rw_R cI 2 re (va_up M i u18) n ++ [])) H := hP
      have hD : va_D A ([(g0, .inr (3, [.ref g2, .ref g1])), (g1, .inl (cI, 8, .inl g)), (g2, .inl (cG, n, .inr (.inr (.inr (.inr (fun i => if i < n then some (re i) else none))))))] ++ (rw_R cI 2 re (va_up M i u18) n ++ [])) := hD
      refine lv_iinc (k := 0) (v := nI (i + 1)) hx hb nd_GK_clear_21 hl rfl (wi_inc _ 1) (by decide) rfl (fun ls hl => ?_)
      have hl : lv_has ls 2 [(1, .int (nI (i + 1))), (0, .ref g0)] := hl
      refine lv_goto (tgt := 2) hx hb nd_GK_clear_24 rfl ?_
      have hl : lv_has ls 2 [(1, .int (nI (i + 1))), (0, .ref g0)] := lv_sub hl [0, 1] rfl
      exact ih (i + 1) (va_up M i u18) ls H locs (by omega) (by omega) (fun e he j hj => if q : e = i then by rw [q, va_up_self]; exact hp18 j hj else by rw [va_up_ne _ _ q]; exact hM e (by omega) j hj) hl hP hD hS
set_option maxRecDepth 20000 in
theorem c_GK_clear (l : Launch) (D : va_G) (cI cG cM : ClassId)  (g0 g1 g2 n : Nat) (hn : n ≤ 10) (re : Nat → Nat) (g : Nat → Int32) (M : Nat → Nat → Int32) (sz : Nat) : wb_Mv l ny_GK_clear nc_GK_clear 2 ({ frames := 1, cells := 0, slots := 0, locals := 23 }) D (ty_all cI cG cM) ([(g0, .inr (3, [.ref g2, .ref g1])), (g1, .inl (cI, 8, .inl g)), (g2, .inl (cG, n, .inr (.inr (.inr (.inr (fun i => if i < n then some (re i) else none))))))] ++ (rw_R cI 2 re M n ++ [])) sz [.ref g0] (fun u : Nat → Nat → Int32 => ∀ e, e < n → ∀ j, j < 2 → u e j = nI 0) (fun u : Nat → Nat → Int32 => [(g0, .inr (3, [.ref g2, .ref g1])), (g1, .inl (cI, 8, .inl g)), (g2, .inl (cG, n, .inr (.inr (.inr (.inr (fun i => if i < n then some (re i) else none))))))] ++ (rw_R cI 2 re u n ++ [])) := by
  refine wb_start (S := Nat → Nat → Int32) (by decide) (Nat.le_of_ble_eq_true rfl) ?_
  intro p e0 s0 m below meth c ls A hx hb hr hml htg hown hk hP hK hN hl hAe hsz hD hA
  have hl : lv_has ls 2 [(0, .ref g0)] := hl
  have hS : va_S A s0.heap s0.heap [] := va_S.rf
  have hRf : 1 ≤ ({ frames := 1, cells := 0, slots := 0, locals := 23 } : Room).frames := Nat.le_refl _
  have hRl : 23 ≤ ({ frames := 1, cells := 0, slots := 0, locals := 23 } : Room).locals := Nat.le_refl _
  have hCS : 0 ≤ ({ frames := 1, cells := 0, slots := 0, locals := 23 } : Room).cells ∧ 0 ≤ ({ frames := 1, cells := 0, slots := 0, locals := 23 } : Room).slots := ⟨Nat.zero_le _, Nat.zero_le _⟩
  refine wi_ic hx hb (a := 0) nd_GK_clear_0 ?_
  refine lv_istore_n hx hb nd_GK_clear_1 rfl hl (by decide) rfl (fun ls hl => ?_)
  have hl : lv_has ls 2 [(1, .int (nI (0))), (0, .ref g0)] := hl
  have hl : lv_has ls 2 [(1, .int (nI (0))), (0, .ref g0)] := lv_sub hl [0, 1] rfl
  refine lp_GK_clear cI cG cM g0 g1 g2 n hn re g hx hb hml htg hown hK hN hA hRf hRl hCS (fun ls H locs M hM hl hP hD hS => ?_) (n + 1) 0 M ls s0.heap [] (by omega) (by omega) (fun e he => by omega) hl hP hD hS
  exact wb_vret (M) hx hb hr hk hAe (hM) hP hD hS nd_GK_clear_27
theorem nd_CK_clear_0 : decode nc_CK_clear 0 = .ok (.aload_n 0, 1) := by decide +kernel
theorem nd_CK_clear_1 : decode nc_CK_clear 1 = .ok (.getfield 18, 3) := by decide +kernel
theorem nd_CK_clear_4 : decode nc_CK_clear 4 = .ok (.iconst 0, 1) := by decide +kernel
theorem nd_CK_clear_5 : decode nc_CK_clear 5 = .ok (.invokestatic 21, 3) := by decide +kernel
theorem nd_CK_clear_8 : decode nc_CK_clear 8 = .ok (.aload_n 0, 1) := by decide +kernel
theorem nd_CK_clear_9 : decode nc_CK_clear 9 = .ok (.getfield 9, 3) := by decide +kernel
theorem nd_CK_clear_12 : decode nc_CK_clear 12 = .ok (.iconst 0, 1) := by decide +kernel
theorem nd_CK_clear_13 : decode nc_CK_clear 13 = .ok (.invokestatic 21, 3) := by decide +kernel
theorem nd_CK_clear_16 : decode nc_CK_clear 16 = .ok (.return_, 1) := by decide +kernel
set_option maxRecDepth 20000 in
theorem c_CK_clear (l : Launch) (D : va_G) (cI cG cM : ClassId)  (c0 c1 c2 c3 n : Nat) (hn : n ≤ 10) (cap cnt cls : Nat → Int32) (sz : Nat) : wb_Mv l ny_CK_clear nc_CK_clear 1 ({ frames := 1, cells := 0, slots := 0, locals := 23 }) D (ty_all cI cG cM) ([(c0, .inr (4, [.ref c3, .ref c1, .ref c2])), (c1, .inl (cI, 4, .inl cap)), (c2, .inl (cI, 4, .inl cnt)), (c3, .inl (cI, n, .inl cls))]) sz [.ref c0] (fun u : (Nat → Int32) × (Nat → Int32) => (∀ j, j < n → u.1 j = nI 0) ∧ ∀ j, j < 4 → u.2 j = nI 0) (fun u : (Nat → Int32) × (Nat → Int32) => [(c0, .inr (4, [.ref c3, .ref c1, .ref c2])), (c1, .inl (cI, 4, .inl u.2)), (c2, .inl (cI, 4, .inl cnt)), (c3, .inl (cI, n, .inl u.1))]) := by
  refine wb_start (S := (Nat → Int32) × (Nat → Int32)) (by decide) (Nat.le_of_ble_eq_true rfl) ?_
  intro p e0 s0 m below meth c ls A hx hb hr hml htg hown hk hP hK hN hl hAe hsz hD hA
  have hl : lv_has ls 1 [(0, .ref c0)] := hl
  have hS : va_S A s0.heap s0.heap [] := va_S.rf
  have hRf : 1 ≤ ({ frames := 1, cells := 0, slots := 0, locals := 23 } : Room).frames := Nat.le_refl _
  have hRl : 23 ≤ ({ frames := 1, cells := 0, slots := 0, locals := 23 } : Room).locals := Nat.le_refl _
  have hCS : 0 ≤ ({ frames := 1, cells := 0, slots := 0, locals := 23 } : Room).cells ∧ 0 ≤ ({ frames := 1, cells := 0, slots := 0, locals := 23 } : Room).slots := ⟨Nat.zero_le _, Nat.zero_le _⟩
  refine lv_aload_n hx hb nd_CK_clear_0 rfl (lv_at hl 0 rfl) ?_
  refine va_get (D := D) (C := nr_CK) (T := nt_CK) (N := 3) hx hb htg tf_CK hown hK hP 0 rfl rfl 0 (by decide) (htg _ tm_65) (fun _ h => h) rfl nd_CK_clear_1 ?_
  refine wi_ic hx hb (a := 0) nd_CK_clear_4 ?_
  refine wd_Sv (n := 2) (X := [(c0, .inr (4, [.ref c3, .ref c1, .ref c2])), (c1, .inl (cI, 4, .inl cap)), (c2, .inl (cI, 4, .inl cnt))]) (Y := [(c3, .inl (cI, n, .inl cls))]) (Z := []) hx hb hml hown htg (c_AR_fill l D cI cG cM c3 n (by omega) cls (nI (0)) _) tm_99 tm_194 tm_98 tm_8 (by decide +kernel) ⟨⟨Nat.le_trans (by decide) hRf, Nat.le_trans (by decide) hRl⟩, rfl, rfl⟩ hP hD hS hA hK hN rfl hl.1 rfl (Nat.le_of_ble_eq_true rfl) nd_CK_clear_5 hCS (fun u5 H locs hp5 hP hD hS => ?_)
  have hP : va_P D cl_all ([(c0, .inr (4, [.ref c3, .ref c1, .ref c2])), (c1, .inl (cI, 4, .inl cap)), (c2, .inl (cI, 4, .inl cnt)), (c3, .inl (cI, n, .inl u5))]) H := hP
  have hD : va_D A ([(c0, .inr (4, [.ref c3, .ref c1, .ref c2])), (c1, .inl (cI, 4, .inl cap)), (c2, .inl (cI, 4, .inl cnt)), (c3, .inl (cI, n, .inl u5))]) := hD
  refine lv_aload_n hx hb nd_CK_clear_8 rfl (lv_at hl 0 rfl) ?_
  refine va_get (D := D) (C := nr_CK) (T := nt_CK) (N := 3) hx hb htg tf_CK hown hK hP 0 rfl rfl 1 (by decide) (htg _ tm_67) (fun _ h => h) rfl nd_CK_clear_9 ?_
  refine wi_ic hx hb (a := 0) nd_CK_clear_12 ?_
  refine wd_Sv (n := 2) (X := [(c0, .inr (4, [.ref c3, .ref c1, .ref c2]))]) (Y := [(c1, .inl (cI, 4, .inl cap))]) (Z := [(c2, .inl (cI, 4, .inl cnt)), (c3, .inl (cI, n, .inl u5))]) hx hb hml hown htg (c_AR_fill l D cI cG cM c1 4 (by omega) cap (nI (0)) _) tm_99 tm_194 tm_98 tm_8 (by decide +kernel) ⟨⟨Nat.le_trans (by decide) hRf, Nat.le_trans (by decide) hRl⟩, rfl, rfl⟩ hP hD hS hA hK hN rfl hl.1 rfl (Nat.le_of_ble_eq_true rfl) nd_CK_clear_13 hCS (fun u13 H locs hp13 hP hD hS => ?_)
  have hP : va_P D cl_all ([(c0, .inr (4, [.ref c3, .ref c1, .ref c2])), (c1, .inl (cI, 4, .inl u13)), (c2, .inl (cI, 4, .inl cnt)), (c3, .inl (cI, n, .inl u5))]) H := hP
  have hD : va_D A ([(c0, .inr (4, [.ref c3, .ref c1, .ref c2])), (c1, .inl (cI, 4, .inl u13)), (c2, .inl (cI, 4, .inl cnt)), (c3, .inl (cI, n, .inl u5))]) := hD
  exact wb_vret ((u5, u13)) hx hb hr hk hAe (⟨hp5, hp13⟩) hP hD hS nd_CK_clear_16
theorem nd_CK_findRank_0 : decode nc_CK_findRank 0 = .ok (.aload_n 0, 1) := by decide +kernel
theorem nd_CK_findRank_1 : decode nc_CK_findRank 1 = .ok (.getfield 15, 3) := by decide +kernel
theorem nd_CK_findRank_4 : decode nc_CK_findRank 4 = .ok (.iconst 0, 1) := by decide +kernel
theorem nd_CK_findRank_5 : decode nc_CK_findRank 5 = .ok (.invokestatic 21, 3) := by decide +kernel
theorem nd_CK_findRank_8 : decode nc_CK_findRank 8 = .ok (.iconst 0, 1) := by decide +kernel
theorem nd_CK_findRank_9 : decode nc_CK_findRank 9 = .ok (.istore_n 2, 1) := by decide +kernel
theorem nd_CK_findRank_10 : decode nc_CK_findRank 10 = .ok (.iload_n 2, 1) := by decide +kernel
theorem nd_CK_findRank_11 : decode nc_CK_findRank 11 = .ok (.aload_n 0, 1) := by decide +kernel
theorem nd_CK_findRank_12 : decode nc_CK_findRank 12 = .ok (.getfield 18, 3) := by decide +kernel
theorem nd_CK_findRank_15 : decode nc_CK_findRank 15 = .ok (.arraylength, 1) := by decide +kernel
theorem nd_CK_findRank_16 : decode nc_CK_findRank 16 = .ok (.if_icmp .ge 32, 3) := by decide +kernel
theorem nd_CK_findRank_19 : decode nc_CK_findRank 19 = .ok (.iload_n 1, 1) := by decide +kernel
theorem nd_CK_findRank_20 : decode nc_CK_findRank 20 = .ok (.iload_n 2, 1) := by decide +kernel
theorem nd_CK_findRank_21 : decode nc_CK_findRank 21 = .ok (.invokestatic 27, 3) := by decide +kernel
theorem nd_CK_findRank_24 : decode nc_CK_findRank 24 = .ok (.ifCond .eq 18, 3) := by decide +kernel
theorem nd_CK_findRank_27 : decode nc_CK_findRank 27 = .ok (.aload_n 0, 1) := by decide +kernel
theorem nd_CK_findRank_28 : decode nc_CK_findRank 28 = .ok (.getfield 15, 3) := by decide +kernel
theorem nd_CK_findRank_31 : decode nc_CK_findRank 31 = .ok (.aload_n 0, 1) := by decide +kernel
theorem nd_CK_findRank_32 : decode nc_CK_findRank 32 = .ok (.getfield 18, 3) := by decide +kernel
theorem nd_CK_findRank_35 : decode nc_CK_findRank 35 = .ok (.iload_n 2, 1) := by decide +kernel
theorem nd_CK_findRank_36 : decode nc_CK_findRank 36 = .ok (.iaload, 1) := by decide +kernel
theorem nd_CK_findRank_37 : decode nc_CK_findRank 37 = .ok (.dup2, 1) := by decide +kernel
theorem nd_CK_findRank_38 : decode nc_CK_findRank 38 = .ok (.iaload, 1) := by decide +kernel
theorem nd_CK_findRank_39 : decode nc_CK_findRank 39 = .ok (.iconst 1, 1) := by decide +kernel
theorem nd_CK_findRank_40 : decode nc_CK_findRank 40 = .ok (.iadd, 1) := by decide +kernel
theorem nd_CK_findRank_41 : decode nc_CK_findRank 41 = .ok (.iastore, 1) := by decide +kernel
theorem nd_CK_findRank_42 : decode nc_CK_findRank 42 = .ok (.iinc 2 1, 3) := by decide +kernel
theorem nd_CK_findRank_45 : decode nc_CK_findRank 45 = .ok (.goto (-35), 3) := by decide +kernel
theorem nd_CK_findRank_48 : decode nc_CK_findRank 48 = .ok (.iconst 0, 1) := by decide +kernel
theorem nd_CK_findRank_49 : decode nc_CK_findRank 49 = .ok (.istore_n 2, 1) := by decide +kernel
theorem nd_CK_findRank_50 : decode nc_CK_findRank 50 = .ok (.iconst 0, 1) := by decide +kernel
theorem nd_CK_findRank_51 : decode nc_CK_findRank 51 = .ok (.istore_n 3, 1) := by decide +kernel
theorem nd_CK_findRank_52 : decode nc_CK_findRank 52 = .ok (.iload_n 3, 1) := by decide +kernel
theorem nd_CK_findRank_53 : decode nc_CK_findRank 53 = .ok (.iconst 4, 1) := by decide +kernel
theorem nd_CK_findRank_54 : decode nc_CK_findRank 54 = .ok (.if_icmp .ge 27, 3) := by decide +kernel
theorem nd_CK_findRank_57 : decode nc_CK_findRank 57 = .ok (.iload_n 2, 1) := by decide +kernel
theorem nd_CK_findRank_58 : decode nc_CK_findRank 58 = .ok (.aload_n 0, 1) := by decide +kernel
theorem nd_CK_findRank_59 : decode nc_CK_findRank 59 = .ok (.getfield 15, 3) := by decide +kernel
theorem nd_CK_findRank_62 : decode nc_CK_findRank 62 = .ok (.iload_n 3, 1) := by decide +kernel
theorem nd_CK_findRank_63 : decode nc_CK_findRank 63 = .ok (.iaload, 1) := by decide +kernel
theorem nd_CK_findRank_64 : decode nc_CK_findRank 64 = .ok (.aload_n 0, 1) := by decide +kernel
theorem nd_CK_findRank_65 : decode nc_CK_findRank 65 = .ok (.getfield 9, 3) := by decide +kernel
theorem nd_CK_findRank_68 : decode nc_CK_findRank 68 = .ok (.iload_n 3, 1) := by decide +kernel
theorem nd_CK_findRank_69 : decode nc_CK_findRank 69 = .ok (.iaload, 1) := by decide +kernel
theorem nd_CK_findRank_70 : decode nc_CK_findRank 70 = .ok (.invokestatic 31, 3) := by decide +kernel
theorem nd_CK_findRank_73 : decode nc_CK_findRank 73 = .ok (.iadd, 1) := by decide +kernel
theorem nd_CK_findRank_74 : decode nc_CK_findRank 74 = .ok (.istore_n 2, 1) := by decide +kernel
theorem nd_CK_findRank_75 : decode nc_CK_findRank 75 = .ok (.iinc 3 1, 3) := by decide +kernel
theorem nd_CK_findRank_78 : decode nc_CK_findRank 78 = .ok (.goto (-26), 3) := by decide +kernel
theorem nd_CK_findRank_81 : decode nc_CK_findRank 81 = .ok (.iload_n 2, 1) := by decide +kernel
theorem nd_CK_findRank_82 : decode nc_CK_findRank 82 = .ok (.ireturn, 1) := by decide +kernel
set_option maxRecDepth 20000 in
theorem lp_CK_findRank_10 {p : Program} {l : Launch} {e0 : Env} {R : Room} {s0 : State} {m : MethodId} {args : Array Value} {below : List Frame} {meth : Method} {c : Code} {cells slots : Nat} {Q : State → Prop} {D : va_G} {A : Nat → Prop} (cI cG cM : ClassId) (c0 c1 c2 c3 n : Nat) (hn : n ≤ 10) (cls cap : Nat → Nat) (fc fk : Nat → Int32) (hc : ∀ e, e < n → fc e = nI (cls e)) (hc4 : ∀ e, e < n → cls e < 4) (hk4 : ∀ c, c < 4 → fk c = nI (cap c)) (hkb : ∀ c, c < 4 → cap c ≤ 10) (s : Nat) (hs : s < 1024)  (hx : p.tables.exec = Jvm.exec) (hb : c.code = nc_CK_findRank) (hml : c.maxLocals = 4) (htg : ∀ w ∈ tg_, w.before args s0 = true) (hown : s0.vm.findClass ny_CK_findRank.cls = some m.cls) (hK : va_K D cl_all (ty_all cI cG cM) s0) (hN : tn_K s0) (hA : ∀ q : Nat, s0.heap.size ≤ q → A q) (hRf : 1 ≤ R.frames) (hRl : 23 ≤ R.locals) (hCS : cells ≤ R.cells ∧ slots ≤ R.slots) (kx : ∀ (ls : Array Slot) (H : Heap) (locs : List Loc) (g : Nat → Int32), (∀ c, c < 4 → g c = nI (mt_cc cls c n s)) → lv_has ls 4 [(0, .ref c0), (1, .int (nI (s)))] → va_P D cl_all ([(c0, .inr (4, [.ref c3, .ref c1, .ref c2])), (c1, .inl (cI, 4, .inl fk)), (c2, .inl (cI, 4, .inl g)), (c3, .inl (cI, n, .inl fc))]) H → va_D A ([(c0, .inr (4, [.ref c3, .ref c1, .ref c2])), (c1, .inl (cI, 4, .inl fk)), (c2, .inl (cI, 4, .inl g)), (c3, .inl (cI, n, .inl fc))]) → va_S A s0.heap H locs → W p l e0 R s0 m args below meth c H locs cells slots Q (F0 m 48 ls [])) : ∀ (f : Nat) (e : Nat) (g : Nat → Int32) (ls : Array Slot) (H : Heap) (locs : List Loc), n - e < f → (e ≤ n) → (∀ c, c < 4 → g c = nI (mt_cc cls c e s)) → lv_has ls 4 [(2, .int (nI (e))), (0, .ref c0), (1, .int (nI (s)))] → va_P D cl_all ([(c0, .inr (4, [.ref c3, .ref c1, .ref c2])), (c1, .inl (cI, 4, .inl fk)), (c2, .inl (cI, 4, .inl g)), (c3, .inl (cI, n, .inl fc))]) H → va_D A ([(c0, .inr (4, [.ref c3, .ref c1, .ref c2])), (c1, .inl (cI, 4, .inl fk)), (c2, .inl (cI, 4, .inl g)), (c3, .inl (cI, n, .inl fc))]) → va_S A s0.heap H locs → W p l e0 R s0 m args below meth c H locs cells slots Q (F0 m 10 ls []) := by
  intro f
  induction f with
  | zero => intro e g ls H locs hfu; omega
  | succ f ih =>
    intro e g ls H locs hfu he hn4 hl hP hD hS
    refine lv_iload_n hx hb nd_CK_findRank_10 rfl (lv_at hl 0 rfl) ?_
    refine lv_aload_n hx hb nd_CK_findRank_11 rfl (lv_at hl 1 rfl) ?_
    refine va_get (D := D) (C := nr_CK) (T := nt_CK) (N := 3) hx hb htg tf_CK hown hK hP 0 rfl rfl 0 (by decide) (htg _ tm_65) (fun _ h => h) rfl nd_CK_findRank_12 ?_
    refine va_alen (v := nI (n)) hx hb hK hP 3 0 rfl rfl rfl nd_CK_findRank_15 ?_
    refine wi_icmp_ge (tgt := 48) hx hb (by omega) (by omega) nd_CK_findRank_16 rfl (fun hc16 => ?_) (fun hc16 => ?_)
    · have hl : lv_has ls 4 [(0, .ref c0), (1, .int (nI (s)))] := lv_sub hl [1, 2] rfl
      have hin : e = n := by omega
      exact kx ls H locs g (by simpa only [hin] using hn4) hl hP hD hS
    · have hce := hc4 e (by omega)
      refine lv_iload_n hx hb nd_CK_findRank_19 rfl (lv_at hl 2 rfl) ?_
      refine lv_iload_n hx hb nd_CK_findRank_20 rfl (lv_at hl 0 rfl) ?_
      refine wc_SN (n := 2) hx hb hml hown htg (c_CB_has l D _ s e (by omega) (by omega)) tm_272 (tn_270 hN) tm_271 tm_1 (by decide +kernel) ⟨⟨Nat.le_trans (by decide) hRf, Nat.le_trans (by decide) hRl⟩, rfl, rfl⟩ (wa_pre wa_nil hK hN) rfl hl.1 rfl (Nat.le_of_ble_eq_true rfl) nd_CK_findRank_21 hCS ?_
      have hbt21 := mt_bt_lt s e
      refine wi_if_eq (tgt := 42) hx hb (by omega) nd_CK_findRank_24 rfl (fun hc24 => ?_) (fun hc24 => ?_)
      · refine lv_iinc (k := 0) (v := nI (e + 1)) hx hb nd_CK_findRank_42 hl rfl (wi_inc _ 1) (by decide) rfl (fun ls hl => ?_)
        have hl : lv_has ls 4 [(2, .int (nI (e + 1))), (0, .ref c0), (1, .int (nI (s)))] := hl
        refine lv_goto (tgt := 10) hx hb nd_CK_findRank_45 rfl ?_
        have hl : lv_has ls 4 [(2, .int (nI (e + 1))), (0, .ref c0), (1, .int (nI (s)))] := lv_sub hl [0, 1, 2] rfl
        exact ih (e + 1) g ls H locs (by omega) (by omega) (fun c h4 => by rw [hn4 c h4, mt_cc_bt]; simp [hc24]) hl hP hD hS
      · have hbe : mt_bt s e = 1 := by omega
        refine lv_aload_n hx hb nd_CK_findRank_27 rfl (lv_at hl 1 rfl) ?_
        refine va_get (D := D) (C := nr_CK) (T := nt_CK) (N := 3) hx hb htg tf_CK hown hK hP 0 rfl rfl 2 (by decide) (htg _ tm_69) (fun _ h => h) rfl nd_CK_findRank_28 ?_
        refine lv_aload_n hx hb nd_CK_findRank_31 rfl (lv_at hl 1 rfl) ?_
        refine va_get (D := D) (C := nr_CK) (T := nt_CK) (N := 3) hx hb htg tf_CK hown hK hP 0 rfl rfl 0 (by decide) (htg _ tm_65) (fun _ h => h) rfl nd_CK_findRank_32 ?_
        refine lv_iload_n hx hb nd_CK_findRank_35 rfl (lv_at hl 0 rfl) ?_
        refine wi_iald hx hb hK hP 3 0 rfl rfl (by omega) (by omega) nd_CK_findRank_36 ?_
        refine wi_top (hc e (by omega)) ?_
        refine lv_dup2_11 hx hb nd_CK_findRank_37 rfl rfl ?_
        refine wi_iald hx hb hK hP 2 0 rfl rfl (by omega) (by omega) nd_CK_findRank_38 ?_
        refine wi_top (hn4 (cls e) (by omega)) ?_
        refine wi_ic hx hb (a := 1) nd_CK_findRank_39 ?_
        refine wi_iadd hx hb nd_CK_findRank_40 ?_
        refine wi_iast hx hb hK hP hD hS 2 0 rfl rfl (by omega) (by omega) nd_CK_findRank_41 (fun H locs hP hD hS => ?_)
        have hP : va_P D cl_all ([(c0, .inr (4, [.ref c3, .ref c1, .ref c2])), (c1, .inl (cI, 4, .inl fk)), (c2, .inl (cI, 4, .inl (upd g (cls e) (nI ((mt_cc cls (cls e) e s) + 1))))), (c3, .inl (cI, n, .inl fc))]) H := hP
        have hD : va_D A ([(c0, .inr (4, [.ref c3, .ref c1, .ref c2])), (c1, .inl (cI, 4, .inl fk)), (c2, .inl (cI, 4, .inl (upd g (cls e) (nI ((mt_cc cls (cls e) e s) + 1))))), (c3, .inl (cI, n, .inl fc))]) := hD
        refine lv_iinc (k := 0) (v := nI (e + 1)) hx hb nd_CK_findRank_42 hl rfl (wi_inc _ 1) (by decide) rfl (fun ls hl => ?_)
        have hl : lv_has ls 4 [(2, .int (nI (e + 1))), (0, .ref c0), (1, .int (nI (s)))] := hl
        refine lv_goto (tgt := 10) hx hb nd_CK_findRank_45 rfl ?_
        have hl : lv_has ls 4 [(2, .int (nI (e + 1))), (0, .ref c0), (1, .int (nI (s)))] := lv_sub hl [0, 1, 2] rfl
        exact ih (e + 1) _ ls H locs (by omega) (by omega) (fun c h4 => by rw [mt_cc_bt]; by_cases q : c = cls e <;> simp [upd, q, hbe]; rw [hn4 c h4]; simp [show ¬ cls e = c from fun z => q z.symm]) hl hP hD hS
set_option maxRecDepth 20000 in
theorem lp_CK_findRank_52 {p : Program} {l : Launch} {e0 : Env} {R : Room} {s0 : State} {m : MethodId} {args : Array Value} {below : List Frame} {meth : Method} {c : Code} {H : Heap} {locs : List Loc} {cells slots : Nat} {Q : State → Prop} {D : va_G} (cI cG cM : ClassId) (c0 c1 c2 c3 n : Nat) (hn : n ≤ 10) (cls cap : Nat → Nat) (fc fk : Nat → Int32) (hc : ∀ e, e < n → fc e = nI (cls e)) (hc4 : ∀ e, e < n → cls e < 4) (hk4 : ∀ c, c < 4 → fk c = nI (cap c)) (hkb : ∀ c, c < 4 → cap c ≤ 10) (s : Nat) (hs : s < 1024) (g : Nat → Int32) (hn4 : ∀ c, c < 4 → g c = nI (mt_cc cls c n s))  (hx : p.tables.exec = Jvm.exec) (hb : c.code = nc_CK_findRank) (hml : c.maxLocals = 4) (htg : ∀ w ∈ tg_, w.before args s0 = true) (hown : s0.vm.findClass ny_CK_findRank.cls = some m.cls) (hK : va_K D cl_all (ty_all cI cG cM) s0) (hN : tn_K s0) (hP : va_P D cl_all ([(c0, .inr (4, [.ref c3, .ref c1, .ref c2])), (c1, .inl (cI, 4, .inl fk)), (c2, .inl (cI, 4, .inl g)), (c3, .inl (cI, n, .inl fc))]) H) (hRf : 1 ≤ R.frames) (hRl : 23 ≤ R.locals) (hCS : cells ≤ R.cells ∧ slots ≤ R.slots) (kx : ∀ (ls : Array Slot), lv_has ls 4 [(2, .int (nI (mt_C n cls cap s)))] → W p l e0 R s0 m args below meth c H locs cells slots Q (F0 m 81 ls [])) : ∀ (f : Nat) (i : Nat) (ls : Array Slot), 4 - i < f → (i ≤ 4) → lv_has ls 4 [(3, .int (nI (i))), (2, .int (nI (ms_S (fun c => min (mt_cc cls c n s) (cap c)) i))), (0, .ref c0)] → W p l e0 R s0 m args below meth c H locs cells slots Q (F0 m 52 ls []) := by
  intro f
  induction f with
  | zero => intro i ls hfu; omega
  | succ f ih =>
    intro i ls hfu hi hl
    refine lv_iload_n hx hb nd_CK_findRank_52 rfl (lv_at hl 0 rfl) ?_
    refine wi_ic hx hb (a := 4) nd_CK_findRank_53 ?_
    refine wi_icmp_ge (tgt := 81) hx hb (by omega) (by omega) nd_CK_findRank_54 rfl (fun hc54 => ?_) (fun hc54 => ?_)
    · have hl : lv_has ls 4 [(2, .int (nI (ms_S (fun c => min (mt_cc cls c n s) (cap c)) i)))] := lv_sub hl [1] rfl
      have hin : i = 4 := by omega
      exact kx ls (by rw [← ms_S4]; simpa only [hin] using hl)
    · have hkb2 := hkb i (by omega)
      have hcb2 := mt_cc_le cls i n s
      refine lv_iload_n hx hb nd_CK_findRank_57 rfl (lv_at hl 1 rfl) ?_
      refine lv_aload_n hx hb nd_CK_findRank_58 rfl (lv_at hl 2 rfl) ?_
      refine va_get (D := D) (C := nr_CK) (T := nt_CK) (N := 3) hx hb htg tf_CK hown hK hP 0 rfl rfl 2 (by decide) (htg _ tm_69) (fun _ h => h) rfl nd_CK_findRank_59 ?_
      refine lv_iload_n hx hb nd_CK_findRank_62 rfl (lv_at hl 0 rfl) ?_
      refine wi_iald hx hb hK hP 2 0 rfl rfl (by omega) (by omega) nd_CK_findRank_63 ?_
      refine wi_top (hn4 i (by omega)) ?_
      refine lv_aload_n hx hb nd_CK_findRank_64 rfl (lv_at hl 2 rfl) ?_
      refine va_get (D := D) (C := nr_CK) (T := nt_CK) (N := 3) hx hb htg tf_CK hown hK hP 0 rfl rfl 1 (by decide) (htg _ tm_67) (fun _ h => h) rfl nd_CK_findRank_65 ?_
      refine lv_iload_n hx hb nd_CK_findRank_68 rfl (lv_at hl 0 rfl) ?_
      refine wi_iald hx hb hK hP 1 0 rfl rfl (by omega) (by omega) nd_CK_findRank_69 ?_
      refine wi_top (hk4 i (by omega)) ?_
      refine va_mmin hx hb (hml.trans hl.1.symm) hown (htg _ tm_273) (htg _ tm_274) (htg _ tm_10) (htg _ tm_275) (Nat.le_trans (by decide) hRf) (Nat.le_trans (Nat.le_of_ble_eq_true rfl) hRl) hCS.1 hCS.2 nd_CK_findRank_70 ?_
      refine wi_top (wi_min (mt_cc cls i n s) (cap i) (by omega) (by omega)) ?_
      refine wi_iadd hx hb nd_CK_findRank_73 ?_
      refine lv_istore_n hx hb nd_CK_findRank_74 rfl hl (by decide) rfl (fun ls hl => ?_)
      have hl : lv_has ls 4 [(2, .int (nI ((ms_S (fun c => min (mt_cc cls c n s) (cap c)) i) + (min (mt_cc cls i n s) (cap i))))), (3, .int (nI (i))), (0, .ref c0)] := hl
      refine lv_iinc (k := 1) (v := nI (i + 1)) hx hb nd_CK_findRank_75 hl rfl (wi_inc _ 1) (by decide) rfl (fun ls hl => ?_)
      have hl : lv_has ls 4 [(3, .int (nI (i + 1))), (2, .int (nI ((ms_S (fun c => min (mt_cc cls c n s) (cap c)) i) + (min (mt_cc cls i n s) (cap i))))), (0, .ref c0)] := hl
      refine lv_goto (tgt := 52) hx hb nd_CK_findRank_78 rfl ?_
      have hl : lv_has ls 4 [(3, .int (nI (i + 1))), (2, .int (nI ((ms_S (fun c => min (mt_cc cls c n s) (cap c)) i) + (min (mt_cc cls i n s) (cap i))))), (0, .ref c0)] := lv_sub hl [0, 1, 2] rfl
      exact ih _ ls (by omega) (by omega) hl
set_option maxRecDepth 20000 in
theorem c_CK_findRank (l : Launch) (D : va_G) (cI cG cM : ClassId)  (c0 c1 c2 c3 n : Nat) (hn : n ≤ 10) (cnt : Nat → Int32) (cls cap : Nat → Nat) (fc fk : Nat → Int32) (hc : ∀ e, e < n → fc e = nI (cls e)) (hc4 : ∀ e, e < n → cls e < 4) (hk4 : ∀ c, c < 4 → fk c = nI (cap c)) (hkb : ∀ c, c < 4 → cap c ≤ 10) (s : Nat) (hs : s < 1024)  (sz : Nat) : wb_Mi l ny_CK_findRank nc_CK_findRank 4 (some .int) ({ frames := 1, cells := 0, slots := 0, locals := 23 }) D (ty_all cI cG cM) ([(c0, .inr (4, [.ref c3, .ref c1, .ref c2])), (c1, .inl (cI, 4, .inl fk)), (c2, .inl (cI, 4, .inl cnt)), (c3, .inl (cI, n, .inl fc))]) sz [.ref c0, .int (nI (s))] (fun (v : Int32) (u : Nat → Int32) => v = nI (mt_C n cls cap s)) (fun u : Nat → Int32 => [(c0, .inr (4, [.ref c3, .ref c1, .ref c2])), (c1, .inl (cI, 4, .inl fk)), (c2, .inl (cI, 4, .inl u)), (c3, .inl (cI, n, .inl fc))]) := by
  refine wb_start (S := Nat → Int32) (by decide) (Nat.le_of_ble_eq_true rfl) ?_
  intro p e0 s0 m below meth c ls A hx hb hr hml htg hown hk hP hK hN hl hAe hsz hD hA
  have hl : lv_has ls 4 [(0, .ref c0), (1, .int (nI (s)))] := hl
  have hS : va_S A s0.heap s0.heap [] := va_S.rf
  have hRf : 1 ≤ ({ frames := 1, cells := 0, slots := 0, locals := 23 } : Room).frames := Nat.le_refl _
  have hRl : 23 ≤ ({ frames := 1, cells := 0, slots := 0, locals := 23 } : Room).locals := Nat.le_refl _
  have hCS : 0 ≤ ({ frames := 1, cells := 0, slots := 0, locals := 23 } : Room).cells ∧ 0 ≤ ({ frames := 1, cells := 0, slots := 0, locals := 23 } : Room).slots := ⟨Nat.zero_le _, Nat.zero_le _⟩
  refine lv_aload_n hx hb nd_CK_findRank_0 rfl (lv_at hl 0 rfl) ?_
  refine va_get (D := D) (C := nr_CK) (T := nt_CK) (N := 3) hx hb htg tf_CK hown hK hP 0 rfl rfl 2 (by decide) (htg _ tm_69) (fun _ h => h) rfl nd_CK_findRank_1 ?_
  refine wi_ic hx hb (a := 0) nd_CK_findRank_4 ?_
  refine wd_Sv (n := 2) (X := [(c0, .inr (4, [.ref c3, .ref c1, .ref c2])), (c1, .inl (cI, 4, .inl fk))]) (Y := [(c2, .inl (cI, 4, .inl cnt))]) (Z := [(c3, .inl (cI, n, .inl fc))]) hx hb hml hown htg (c_AR_fill l D cI cG cM c2 4 (by omega) cnt (nI (0)) _) tm_99 tm_194 tm_98 tm_8 (by decide +kernel) ⟨⟨Nat.le_trans (by decide) hRf, Nat.le_trans (by decide) hRl⟩, rfl, rfl⟩ hP hD hS hA hK hN rfl hl.1 rfl (Nat.le_of_ble_eq_true rfl) nd_CK_findRank_5 hCS (fun u5 H locs hp5 hP hD hS => ?_)
  have hP : va_P D cl_all ([(c0, .inr (4, [.ref c3, .ref c1, .ref c2])), (c1, .inl (cI, 4, .inl fk)), (c2, .inl (cI, 4, .inl u5)), (c3, .inl (cI, n, .inl fc))]) H := hP
  have hD : va_D A ([(c0, .inr (4, [.ref c3, .ref c1, .ref c2])), (c1, .inl (cI, 4, .inl fk)), (c2, .inl (cI, 4, .inl u5)), (c3, .inl (cI, n, .inl fc))]) := hD
  refine wi_ic hx hb (a := 0) nd_CK_findRank_8 ?_
  refine lv_istore_n hx hb nd_CK_findRank_9 rfl hl (by decide) rfl (fun ls hl => ?_)
  have hl : lv_has ls 4 [(2, .int (nI (0))), (0, .ref c0), (1, .int (nI (s)))] := hl
  have hl : lv_has ls 4 [(2, .int (nI (0))), (0, .ref c0), (1, .int (nI (s)))] := lv_sub hl [0, 1, 2] rfl
  refine lp_CK_findRank_10 cI cG cM c0 c1 c2 c3 n hn cls cap fc fk hc hc4 hk4 hkb s hs hx hb hml htg hown hK hN hA hRf hRl hCS (fun ls H locs g hn4 hl hP hD hS => ?_) (n + 1) 0 u5 ls H locs (by omega) (by omega) (fun c h4 => hp5 c h4) hl hP hD hS
  refine wi_ic hx hb (a := 0) nd_CK_findRank_48 ?_
  refine lv_istore_n hx hb nd_CK_findRank_49 rfl hl (by decide) rfl (fun ls hl => ?_)
  have hl : lv_has ls 4 [(2, .int (nI (0))), (0, .ref c0), (1, .int (nI (s)))] := hl
  refine wi_ic hx hb (a := 0) nd_CK_findRank_50 ?_
  refine lv_istore_n hx hb nd_CK_findRank_51 rfl hl (by decide) rfl (fun ls hl => ?_)
  have hl : lv_has ls 4 [(3, .int (nI (0))), (2, .int (nI (0))), (0, .ref c0), (1, .int (nI (s)))] := hl
  have hl : lv_has ls 4 [(3, .int (nI (0))), (2, .int (nI (0))), (0, .ref c0)] := lv_sub hl [0, 1, 2] rfl
  refine lp_CK_findRank_52 cI cG cM c0 c1 c2 c3 n hn cls cap fc fk hc hc4 hk4 hkb s hs g hn4 hx hb hml htg hown hK hN hP hRf hRl hCS (fun ls hl => ?_) 5 0 ls (by omega) (by omega) hl
  refine lv_iload_n hx hb nd_CK_findRank_81 rfl (lv_at hl 0 rfl) ?_
  exact wb_iret (g) hx hb hr hk hAe (rfl) hP hD hS nd_CK_findRank_82
end
section
/-! LINEAR. -/
theorem li_nat {z : Int32} (h : 0 ≤ z.toInt) : z = nI z.toInt.toNat := by
  apply Int32.toInt_inj.mp
  have h2 := Int32.toInt_lt z
  rw [nI_toInt (by omega)]
  omega
theorem li_z {z : Int32} : z = 0 ↔ z.toInt = 0 := by
  constructor
  · intro h; rw [h]; rfl
  · intro h; apply Int32.toInt_inj.mp; rw [h]; rfl
theorem li_fm {p : Nat} (hp : p = 2 ∨ p = 3 ∨ p = 5 ∨ p = 7) {a b c d : Nat} (ha : a < p) (hb : b < p) (hc : c < p) (hd : d < p) : (nI (fm_ (nI (a * b) - nI (c * d)) p)).toInt = ((a : Int) * b - (c : Int) * d) % (p : Int) := by
  have h1 : a * b < 49 := by
    have : a * b ≤ 6 * 6 := Nat.mul_le_mul (by omega) (by omega)
    omega
  have h2 : c * d < 49 := by
    have : c * d ≤ 6 * 6 := Nat.mul_le_mul (by omega) (by omega)
    omega
  have l := fm_lt (nI (a * b) - nI (c * d)) (p := p) (by omega)
  rw [nI_toInt (by omega)]
  unfold fm_
  rw [pk_sub_toInt (by omega) (by omega)]
  have g := Int.emod_nonneg (((a * b : Nat) : Int) - ((c * d : Nat) : Int)) (b := (p : Int)) (by omega)
  rw [Int.toNat_of_nonneg g]
  simp only [Int.natCast_mul]
theorem nd_LK_cancel_0 : decode nc_LK_cancel 0 = .ok (.aload_n 0, 1) := by decide +kernel
theorem nd_LK_cancel_1 : decode nc_LK_cancel 1 = .ok (.getfield 11, 3) := by decide +kernel
theorem nd_LK_cancel_4 : decode nc_LK_cancel 4 = .ok (.iload_n 1, 1) := by decide +kernel
theorem nd_LK_cancel_5 : decode nc_LK_cancel 5 = .ok (.aaload, 1) := by decide +kernel
theorem nd_LK_cancel_6 : decode nc_LK_cancel 6 = .ok (.iload_n 1, 1) := by decide +kernel
theorem nd_LK_cancel_7 : decode nc_LK_cancel 7 = .ok (.iaload, 1) := by decide +kernel
theorem nd_LK_cancel_8 : decode nc_LK_cancel 8 = .ok (.istore_n 2, 1) := by decide +kernel
theorem nd_LK_cancel_9 : decode nc_LK_cancel 9 = .ok (.aload_n 0, 1) := by decide +kernel
theorem nd_LK_cancel_10 : decode nc_LK_cancel 10 = .ok (.getfield 16, 3) := by decide +kernel
theorem nd_LK_cancel_13 : decode nc_LK_cancel 13 = .ok (.iload_n 1, 1) := by decide +kernel
theorem nd_LK_cancel_14 : decode nc_LK_cancel 14 = .ok (.iaload, 1) := by decide +kernel
theorem nd_LK_cancel_15 : decode nc_LK_cancel 15 = .ok (.istore_n 3, 1) := by decide +kernel
theorem nd_LK_cancel_16 : decode nc_LK_cancel 16 = .ok (.iload_n 1, 1) := by decide +kernel
theorem nd_LK_cancel_17 : decode nc_LK_cancel 17 = .ok (.istore 4, 2) := by decide +kernel
theorem nd_LK_cancel_19 : decode nc_LK_cancel 19 = .ok (.iload 4, 2) := by decide +kernel
theorem nd_LK_cancel_21 : decode nc_LK_cancel 21 = .ok (.iconst 4, 1) := by decide +kernel
theorem nd_LK_cancel_22 : decode nc_LK_cancel 22 = .ok (.if_icmp .ge 44, 3) := by decide +kernel
theorem nd_LK_cancel_25 : decode nc_LK_cancel 25 = .ok (.aload_n 0, 1) := by decide +kernel
theorem nd_LK_cancel_26 : decode nc_LK_cancel 26 = .ok (.getfield 16, 3) := by decide +kernel
theorem nd_LK_cancel_29 : decode nc_LK_cancel 29 = .ok (.iload 4, 2) := by decide +kernel
theorem nd_LK_cancel_31 : decode nc_LK_cancel 31 = .ok (.aload_n 0, 1) := by decide +kernel
theorem nd_LK_cancel_32 : decode nc_LK_cancel 32 = .ok (.getfield 16, 3) := by decide +kernel
theorem nd_LK_cancel_35 : decode nc_LK_cancel 35 = .ok (.iload 4, 2) := by decide +kernel
theorem nd_LK_cancel_37 : decode nc_LK_cancel 37 = .ok (.iaload, 1) := by decide +kernel
theorem nd_LK_cancel_38 : decode nc_LK_cancel 38 = .ok (.iload_n 2, 1) := by decide +kernel
theorem nd_LK_cancel_39 : decode nc_LK_cancel 39 = .ok (.imul, 1) := by decide +kernel
theorem nd_LK_cancel_40 : decode nc_LK_cancel 40 = .ok (.aload_n 0, 1) := by decide +kernel
theorem nd_LK_cancel_41 : decode nc_LK_cancel 41 = .ok (.getfield 11, 3) := by decide +kernel
theorem nd_LK_cancel_44 : decode nc_LK_cancel 44 = .ok (.iload_n 1, 1) := by decide +kernel
theorem nd_LK_cancel_45 : decode nc_LK_cancel 45 = .ok (.aaload, 1) := by decide +kernel
theorem nd_LK_cancel_46 : decode nc_LK_cancel 46 = .ok (.iload 4, 2) := by decide +kernel
theorem nd_LK_cancel_48 : decode nc_LK_cancel 48 = .ok (.iaload, 1) := by decide +kernel
theorem nd_LK_cancel_49 : decode nc_LK_cancel 49 = .ok (.iload_n 3, 1) := by decide +kernel
theorem nd_LK_cancel_50 : decode nc_LK_cancel 50 = .ok (.imul, 1) := by decide +kernel
theorem nd_LK_cancel_51 : decode nc_LK_cancel 51 = .ok (.isub, 1) := by decide +kernel
theorem nd_LK_cancel_52 : decode nc_LK_cancel 52 = .ok (.aload_n 0, 1) := by decide +kernel
theorem nd_LK_cancel_53 : decode nc_LK_cancel 53 = .ok (.getfield 20, 3) := by decide +kernel
theorem nd_LK_cancel_56 : decode nc_LK_cancel 56 = .ok (.invokestatic 33, 3) := by decide +kernel
theorem nd_LK_cancel_59 : decode nc_LK_cancel 59 = .ok (.iastore, 1) := by decide +kernel
theorem nd_LK_cancel_60 : decode nc_LK_cancel 60 = .ok (.iinc 4 1, 3) := by decide +kernel
theorem nd_LK_cancel_63 : decode nc_LK_cancel 63 = .ok (.goto (-44), 3) := by decide +kernel
theorem nd_LK_cancel_66 : decode nc_LK_cancel 66 = .ok (.return_, 1) := by decide +kernel
set_option maxRecDepth 20000 in
theorem lp_LK_cancel {p0 : Program} {l : Launch} {e0 : Env} {R : Room} {s0 : State} {m : MethodId} {args : Array Value} {below : List Frame} {meth : Method} {c : Code} {cells slots : Nat} {Q : State → Prop} {D : va_G} {A : Nat → Prop} (cI cG cM : ClassId) (l0 l1 l2 l3 n : Nat) (hn : n ≤ 10) (rp rc : Nat → Nat) (C : Nat → Nat → Int32) (p : Nat) (hp : p = 2 ∨ p = 3 ∨ p = 5 ∨ p = 7) (P : Nat → Nat → Int32) (row : Nat) (hrow : row < 4) (pi rho : Nat → Nat) (hPr : ∀ i, i < 4 → P row i = nI (pi i))  (hx : p0.tables.exec = Jvm.exec) (hb : c.code = nc_LK_cancel) (hml : c.maxLocals = 5) (htg : ∀ w ∈ tg_, w.before args s0 = true) (hown : s0.vm.findClass ny_LK_cancel.cls = some m.cls) (hK : va_K D cl_all (ty_all cI cG cM) s0) (hN : tn_K s0) (hA : ∀ q : Nat, s0.heap.size ≤ q → A q) (hRf : 1 ≤ R.frames) (hRl : 22 ≤ R.locals) (hCS : cells ≤ R.cells ∧ slots ≤ R.slots) (kx : ∀ (ls : Array Slot) (H : Heap) (locs : List Loc) (g : Nat → Int32), (∀ j, j < 4 → g j = nI (if row ≤ j then fm_ (nI (rho j * pi row) - nI (pi j * rho row)) p else rho j)) → lv_has ls 5 [(0, .ref l0)] → va_P D cl_all ([(l0, .inr (5, [.ref l3, .ref l1, .ref l2, .int (nI (p))])), (l1, .inl (cG, 4, .inr (.inr (.inr (.inr (fun i => if i < 4 then some (rp i) else none)))))), (l2, .inl (cI, 4, .inl g)), (l3, .inl (cG, n, .inr (.inr (.inr (.inr (fun i => if i < n then some (rc i) else none))))))] ++ (rw_R cI 4 rp P 4 ++ (rw_R cI 4 rc C n ++ []))) H → va_D A ([(l0, .inr (5, [.ref l3, .ref l1, .ref l2, .int (nI (p))])), (l1, .inl (cG, 4, .inr (.inr (.inr (.inr (fun i => if i < 4 then some (rp i) else none)))))), (l2, .inl (cI, 4, .inl g)), (l3, .inl (cG, n, .inr (.inr (.inr (.inr (fun i => if i < n then some (rc i) else none))))))] ++ (rw_R cI 4 rp P 4 ++ (rw_R cI 4 rc C n ++ []))) → va_S A s0.heap H locs → W p0 l e0 R s0 m args below meth c H locs cells slots Q (F0 m 66 ls [])) : ∀ (f : Nat) (i : Nat) (g : Nat → Int32) (ls : Array Slot) (H : Heap) (locs : List Loc), 4 - i < f → (i ≤ 4) → (row ≤ i) → (∀ j, j < 4 → g j = nI (if row ≤ j ∧ j < i then fm_ (nI (rho j * pi row) - nI (pi j * rho row)) p else rho j)) → lv_has ls 5 [(4, .int (nI (i))), (3, .int (nI (rho row))), (2, .int (nI (pi row))), (0, .ref l0), (1, .int (nI (row)))] → va_P D cl_all ([(l0, .inr (5, [.ref l3, .ref l1, .ref l2, .int (nI (p))])), (l1, .inl (cG, 4, .inr (.inr (.inr (.inr (fun i => if i < 4 then some (rp i) else none)))))), (l2, .inl (cI, 4, .inl g)), (l3, .inl (cG, n, .inr (.inr (.inr (.inr (fun i => if i < n then some (rc i) else none))))))] ++ (rw_R cI 4 rp P 4 ++ (rw_R cI 4 rc C n ++ []))) H → va_D A ([(l0, .inr (5, [.ref l3, .ref l1, .ref l2, .int (nI (p))])), (l1, .inl (cG, 4, .inr (.inr (.inr (.inr (fun i => if i < 4 then some (rp i) else none)))))), (l2, .inl (cI, 4, .inl g)), (l3, .inl (cG, n, .inr (.inr (.inr (.inr (fun i => if i < n then some (rc i) else none))))))] ++ (rw_R cI 4 rp P 4 ++ (rw_R cI 4 rc C n ++ []))) → va_S A s0.heap H locs → W p0 l e0 R s0 m args below meth c H locs cells slots Q (F0 m 19 ls []) := by
  intro f
  induction f with
  | zero => intro i g ls H locs hfu; omega
  | succ f ih =>
    intro i g ls H locs hfu hi hri hg hl hP hD hS
    refine lv_iload hx hb nd_LK_cancel_19 (lv_at hl 0 rfl) ?_
    refine wi_ic hx hb (a := 4) nd_LK_cancel_21 ?_
    refine wi_icmp_ge (tgt := 66) hx hb (by omega) (by omega) nd_LK_cancel_22 rfl (fun hc22 => ?_) (fun hc22 => ?_)
    · have hl : lv_has ls 5 [(0, .ref l0)] := lv_sub hl [3] rfl
      exact kx ls H locs g (fun j hj => by rw [hg j hj]; simp [show j < i by omega]) hl hP hD hS
    · have hgi : g i = nI (rho i) := by rw [hg i (by omega)]; simp
      refine lv_aload_n hx hb nd_LK_cancel_25 rfl (lv_at hl 3 rfl) ?_
      refine va_get (D := D) (C := nr_LK) (T := nt_LK) (N := 4) hx hb htg tf_LK hown hK hP 0 rfl rfl 2 (by decide) (htg _ tm_86) (fun _ h => h) rfl nd_LK_cancel_26 ?_
      refine lv_iload hx hb nd_LK_cancel_29 (lv_at hl 0 rfl) ?_
      refine lv_aload_n hx hb nd_LK_cancel_31 rfl (lv_at hl 3 rfl) ?_
      refine va_get (D := D) (C := nr_LK) (T := nt_LK) (N := 4) hx hb htg tf_LK hown hK hP 0 rfl rfl 2 (by decide) (htg _ tm_86) (fun _ h => h) rfl nd_LK_cancel_32 ?_
      refine lv_iload hx hb nd_LK_cancel_35 (lv_at hl 0 rfl) ?_
      refine wi_iald hx hb hK hP 2 0 rfl rfl (by omega) (by omega) nd_LK_cancel_37 ?_
      refine wi_top (hgi) ?_
      refine lv_iload_n hx hb nd_LK_cancel_38 rfl (lv_at hl 2 rfl) ?_
      refine wi_imul hx hb nd_LK_cancel_39 ?_
      refine lv_aload_n hx hb nd_LK_cancel_40 rfl (lv_at hl 3 rfl) ?_
      refine va_get (D := D) (C := nr_LK) (T := nt_LK) (N := 4) hx hb htg tf_LK hown hK hP 0 rfl rfl 1 (by decide) (htg _ tm_85) (fun _ h => h) rfl nd_LK_cancel_41 ?_
      refine lv_iload_n hx hb nd_LK_cancel_44 rfl (lv_at hl 4 rfl) ?_
      refine wi_aald (v := (rp row)) hx hb hK hP 1 1 rfl rfl rfl (by omega) (by omega) (if_pos (by omega)) nd_LK_cancel_45 ?_
      refine lv_iload hx hb nd_LK_cancel_46 (lv_at hl 0 rfl) ?_
      refine wi_iald hx hb hK hP _ 0 (rw_atL (by omega)) rfl (by omega) (by omega) nd_LK_cancel_48 ?_
      refine wi_top (hPr i (by omega)) ?_
      refine lv_iload_n hx hb nd_LK_cancel_49 rfl (lv_at hl 1 rfl) ?_
      refine wi_imul hx hb nd_LK_cancel_50 ?_
      refine lv_isub hx hb nd_LK_cancel_51 ?_
      refine lv_aload_n hx hb nd_LK_cancel_52 rfl (lv_at hl 3 rfl) ?_
      refine va_get (D := D) (C := nr_LK) (T := nt_LK) (N := 4) hx hb htg tf_LK hown hK hP 0 rfl rfl 3 (by decide) (htg _ tm_87) (fun _ h => h) rfl nd_LK_cancel_53 ?_
      refine wc_S (n := 2) hx hb hml hown htg (c_MT_floorMod l D _ ((nI ((rho i) * (pi row)) - nI ((pi i) * (rho row)))) p hp) tm_241 tm_239 tm_240 tm_10 (by decide +kernel) ⟨⟨Nat.le_trans (by decide) hRf, Nat.le_trans (by decide) hRl⟩, rfl, rfl⟩ (wa_pre wa_nil hK hN) rfl hl.1 rfl (Nat.le_of_ble_eq_true rfl) nd_LK_cancel_56 hCS ?_
      refine wi_iast hx hb hK hP hD hS 2 0 rfl rfl (by omega) (by omega) nd_LK_cancel_59 (fun H locs hP hD hS => ?_)
      have hP : va_P D cl_all ([(l0, .inr (5, [.ref l3, .ref l1, .ref l2, .int (nI (p))])), (l1, .inl (cG, 4, .inr (.inr (.inr (.inr (fun i => if i < 4 then some (rp i) else none)))))), (l2, .inl (cI, 4, .inl (upd g i (nI (fm_ ((nI ((rho i) * (pi row)) - nI ((pi i) * (rho row)))) p))))), (l3, .inl (cG, n, .inr (.inr (.inr (.inr (fun i => if i < n then some (rc i) else none))))))] ++ (rw_R cI 4 rp P 4 ++ (rw_R cI 4 rc C n ++ []))) H := hP
      have hD : va_D A ([(l0, .inr (5, [.ref l3, .ref l1, .ref l2, .int (nI (p))])), (l1, .inl (cG, 4, .inr (.inr (.inr (.inr (fun i => if i < 4 then some (rp i) else none)))))), (l2, .inl (cI, 4, .inl (upd g i (nI (fm_ ((nI ((rho i) * (pi row)) - nI ((pi i) * (rho row)))) p))))), (l3, .inl (cG, n, .inr (.inr (.inr (.inr (fun i => if i < n then some (rc i) else none))))))] ++ (rw_R cI 4 rp P 4 ++ (rw_R cI 4 rc C n ++ []))) := hD
      refine lv_iinc (k := 0) (v := nI (i + 1)) hx hb nd_LK_cancel_60 hl rfl (wi_inc _ 1) (by decide) rfl (fun ls hl => ?_)
      have hl : lv_has ls 5 [(4, .int (nI (i + 1))), (3, .int (nI (rho row))), (2, .int (nI (pi row))), (0, .ref l0), (1, .int (nI (row)))] := hl
      refine lv_goto (tgt := 19) hx hb nd_LK_cancel_63 rfl ?_
      have hl : lv_has ls 5 [(4, .int (nI (i + 1))), (3, .int (nI (rho row))), (2, .int (nI (pi row))), (0, .ref l0), (1, .int (nI (row)))] := lv_sub hl [0, 1, 2, 3, 4] rfl
      exact ih (i + 1) _ ls H locs (by omega) (by omega) (by omega) (fun j hj => if q : j = i then by subst q; simp [upd, hri] else by simp only [upd, q, if_false]; rw [hg j hj]; simp only [show (j < i + 1) = (j < i) from propext ⟨fun _ => by omega, fun _ => by omega⟩]) hl hP hD hS
set_option maxRecDepth 20000 in
theorem c_LK_cancel (l : Launch) (D : va_G) (cI cG cM : ClassId)  (l0 l1 l2 l3 n : Nat) (hn : n ≤ 10) (rp rc : Nat → Nat) (C : Nat → Nat → Int32) (p : Nat) (hp : p = 2 ∨ p = 3 ∨ p = 5 ∨ p = 7) (P : Nat → Nat → Int32) (row : Nat) (hrow : row < 4) (pi rho : Nat → Nat) (hPr : ∀ i, i < 4 → P row i = nI (pi i)) (rr : Nat → Int32) (hrr : ∀ i, i < 4 → rr i = nI (rho i)) (sz : Nat) : wb_Mv l ny_LK_cancel nc_LK_cancel 5 ({ frames := 1, cells := 0, slots := 0, locals := 22 }) D (ty_all cI cG cM) ([(l0, .inr (5, [.ref l3, .ref l1, .ref l2, .int (nI (p))])), (l1, .inl (cG, 4, .inr (.inr (.inr (.inr (fun i => if i < 4 then some (rp i) else none)))))), (l2, .inl (cI, 4, .inl rr)), (l3, .inl (cG, n, .inr (.inr (.inr (.inr (fun i => if i < n then some (rc i) else none))))))] ++ (rw_R cI 4 rp P 4 ++ (rw_R cI 4 rc C n ++ []))) sz [.ref l0, .int (nI (row))] (fun u : Nat → Int32 => ∀ j, j < 4 → u j = nI (if row ≤ j then fm_ (nI (rho j * pi row) - nI (pi j * rho row)) p else rho j)) (fun u : Nat → Int32 => [(l0, .inr (5, [.ref l3, .ref l1, .ref l2, .int (nI (p))])), (l1, .inl (cG, 4, .inr (.inr (.inr (.inr (fun i => if i < 4 then some (rp i) else none)))))), (l2, .inl (cI, 4, .inl u)), (l3, .inl (cG, n, .inr (.inr (.inr (.inr (fun i => if i < n then some (rc i) else none))))))] ++ (rw_R cI 4 rp P 4 ++ (rw_R cI 4 rc C n ++ []))) := by
  refine wb_start (S := Nat → Int32) (by decide) (Nat.le_of_ble_eq_true rfl) ?_
  intro p0 e0 s0 m below meth c ls A hx hb hr hml htg hown hk hP hK hN hl hAe hsz hD hA
  have hl : lv_has ls 5 [(0, .ref l0), (1, .int (nI (row)))] := hl
  have hS : va_S A s0.heap s0.heap [] := va_S.rf
  have hRf : 1 ≤ ({ frames := 1, cells := 0, slots := 0, locals := 22 } : Room).frames := Nat.le_refl _
  have hRl : 22 ≤ ({ frames := 1, cells := 0, slots := 0, locals := 22 } : Room).locals := Nat.le_refl _
  have hCS : 0 ≤ ({ frames := 1, cells := 0, slots := 0, locals := 22 } : Room).cells ∧ 0 ≤ ({ frames := 1, cells := 0, slots := 0, locals := 22 } : Room).slots := ⟨Nat.zero_le _, Nat.zero_le _⟩
  refine lv_aload_n hx hb nd_LK_cancel_0 rfl (lv_at hl 0 rfl) ?_
  refine va_get (D := D) (C := nr_LK) (T := nt_LK) (N := 4) hx hb htg tf_LK hown hK hP 0 rfl rfl 1 (by decide) (htg _ tm_85) (fun _ h => h) rfl nd_LK_cancel_1 ?_
  refine lv_iload_n hx hb nd_LK_cancel_4 rfl (lv_at hl 1 rfl) ?_
  refine wi_aald (v := (rp row)) hx hb hK hP 1 1 rfl rfl rfl (by omega) (by omega) (if_pos (by omega)) nd_LK_cancel_5 ?_
  refine lv_iload_n hx hb nd_LK_cancel_6 rfl (lv_at hl 1 rfl) ?_
  refine wi_iald hx hb hK hP _ 0 (rw_atL (by omega)) rfl (by omega) (by omega) nd_LK_cancel_7 ?_
  refine wi_top (hPr row (by omega)) ?_
  refine lv_istore_n hx hb nd_LK_cancel_8 rfl hl (by decide) rfl (fun ls hl => ?_)
  have hl : lv_has ls 5 [(2, .int (nI (pi row))), (0, .ref l0), (1, .int (nI (row)))] := hl
  refine lv_aload_n hx hb nd_LK_cancel_9 rfl (lv_at hl 1 rfl) ?_
  refine va_get (D := D) (C := nr_LK) (T := nt_LK) (N := 4) hx hb htg tf_LK hown hK hP 0 rfl rfl 2 (by decide) (htg _ tm_86) (fun _ h => h) rfl nd_LK_cancel_10 ?_
  refine lv_iload_n hx hb nd_LK_cancel_13 rfl (lv_at hl 2 rfl) ?_
  refine wi_iald hx hb hK hP 2 0 rfl rfl (by omega) (by omega) nd_LK_cancel_14 ?_
  refine wi_top (hrr row (by omega)) ?_
  refine lv_istore_n hx hb nd_LK_cancel_15 rfl hl (by decide) rfl (fun ls hl => ?_)
  have hl : lv_has ls 5 [(3, .int (nI (rho row))), (2, .int (nI (pi row))), (0, .ref l0), (1, .int (nI (row)))] := hl
  refine lv_iload_n hx hb nd_LK_cancel_16 rfl (lv_at hl 3 rfl) ?_
  refine lv_istore hx hb nd_LK_cancel_17 hl (by decide) rfl (fun ls hl => ?_)
  have hl : lv_has ls 5 [(4, .int (nI (row))), (3, .int (nI (rho row))), (2, .int (nI (pi row))), (0, .ref l0), (1, .int (nI (row)))] := hl
  have hl : lv_has ls 5 [(4, .int (nI (row))), (3, .int (nI (rho row))), (2, .int (nI (pi row))), (0, .ref l0), (1, .int (nI (row)))] := lv_sub hl [0, 1, 2, 3, 4] rfl
  refine lp_LK_cancel cI cG cM l0 l1 l2 l3 n hn rp rc C p hp P row hrow pi rho hPr hx hb hml htg hown hK hN hA hRf hRl hCS (fun ls H locs g hg hl hP hD hS => ?_) 5 row rr ls s0.heap [] (by omega) (by omega) (by omega) (fun j hj => by rw [hrr j hj]; simp [show ¬ (row ≤ j ∧ j < row) by omega]) hl hP hD hS
  exact wb_vret (g) hx hb hr hk hAe (hg) hP hD hS nd_LK_cancel_66
theorem nd_LK_setNumber_0 : decode nc_LK_setNumber 0 = .ok (.aload_n 0, 1) := by decide +kernel
theorem nd_LK_setNumber_1 : decode nc_LK_setNumber 1 = .ok (.getfield 24, 3) := by decide +kernel
theorem nd_LK_setNumber_4 : decode nc_LK_setNumber 4 = .ok (.iload_n 1, 1) := by decide +kernel
theorem nd_LK_setNumber_5 : decode nc_LK_setNumber 5 = .ok (.aaload, 1) := by decide +kernel
theorem nd_LK_setNumber_6 : decode nc_LK_setNumber 6 = .ok (.iload_n 2, 1) := by decide +kernel
theorem nd_LK_setNumber_7 : decode nc_LK_setNumber 7 = .ok (.iload_n 3, 1) := by decide +kernel
theorem nd_LK_setNumber_8 : decode nc_LK_setNumber 8 = .ok (.aload_n 0, 1) := by decide +kernel
theorem nd_LK_setNumber_9 : decode nc_LK_setNumber 9 = .ok (.getfield 20, 3) := by decide +kernel
theorem nd_LK_setNumber_12 : decode nc_LK_setNumber 12 = .ok (.invokestatic 33, 3) := by decide +kernel
theorem nd_LK_setNumber_15 : decode nc_LK_setNumber 15 = .ok (.iastore, 1) := by decide +kernel
theorem nd_LK_setNumber_16 : decode nc_LK_setNumber 16 = .ok (.return_, 1) := by decide +kernel
set_option maxRecDepth 20000 in
theorem c_LK_setNumber (l : Launch) (D : va_G) (cI cG cM : ClassId)  (l0 l1 l2 l3 n : Nat) (hn : n ≤ 10) (rp rc : Nat → Nat) (C : Nat → Nat → Int32) (p : Nat) (hp : p = 2 ∨ p = 3 ∨ p = 5 ∨ p = 7) (P : Nat → Nat → Int32) (rr : Nat → Int32) (el row : Nat) (hel : el < n) (hrow : row < 4) (v0 : Int32) (sz : Nat) : wb_Mv l ny_LK_setNumber nc_LK_setNumber 4 ({ frames := 1, cells := 0, slots := 0, locals := 22 }) D (ty_all cI cG cM) ([(l0, .inr (5, [.ref l3, .ref l1, .ref l2, .int (nI (p))])), (l1, .inl (cG, 4, .inr (.inr (.inr (.inr (fun i => if i < 4 then some (rp i) else none)))))), (l2, .inl (cI, 4, .inl rr)), (l3, .inl (cG, n, .inr (.inr (.inr (.inr (fun i => if i < n then some (rc i) else none))))))] ++ (rw_R cI 4 rp P 4 ++ (rw_R cI 4 rc C n ++ []))) sz [.ref l0, .int (nI (el)), .int (nI (row)), .int (v0)] (fun u : Unit => True) (fun u : Unit => [(l0, .inr (5, [.ref l3, .ref l1, .ref l2, .int (nI (p))])), (l1, .inl (cG, 4, .inr (.inr (.inr (.inr (fun i => if i < 4 then some (rp i) else none)))))), (l2, .inl (cI, 4, .inl rr)), (l3, .inl (cG, n, .inr (.inr (.inr (.inr (fun i => if i < n then some (rc i) else none))))))] ++ (rw_R cI 4 rp P 4 ++ (rw_R cI 4 rc (va_up C el (upd (C el) row (nI (fm_ v0 p)))) n ++ []))) := by
  refine wb_start (S := Unit) (by decide) (Nat.le_of_ble_eq_true rfl) ?_
  intro p0 e0 s0 m below meth c ls A hx hb hr hml htg hown hk hP hK hN hl hAe hsz hD hA
  have hl : lv_has ls 4 [(0, .ref l0), (1, .int (nI (el))), (2, .int (nI (row))), (3, .int (v0))] := hl
  have hS : va_S A s0.heap s0.heap [] := va_S.rf
  have hRf : 1 ≤ ({ frames := 1, cells := 0, slots := 0, locals := 22 } : Room).frames := Nat.le_refl _
  have hRl : 22 ≤ ({ frames := 1, cells := 0, slots := 0, locals := 22 } : Room).locals := Nat.le_refl _
  have hCS : 0 ≤ ({ frames := 1, cells := 0, slots := 0, locals := 22 } : Room).cells ∧ 0 ≤ ({ frames := 1, cells := 0, slots := 0, locals := 22 } : Room).slots := ⟨Nat.zero_le _, Nat.zero_le _⟩
  refine lv_aload_n hx hb nd_LK_setNumber_0 rfl (lv_at hl 0 rfl) ?_
  refine va_get (D := D) (C := nr_LK) (T := nt_LK) (N := 4) hx hb htg tf_LK hown hK hP 0 rfl rfl 0 (by decide) (htg _ tm_84) (fun _ h => h) rfl nd_LK_setNumber_1 ?_
  refine lv_iload_n hx hb nd_LK_setNumber_4 rfl (lv_at hl 1 rfl) ?_
  refine wi_aald (v := (rc el)) hx hb hK hP 3 1 rfl rfl rfl (by omega) (by omega) (if_pos (by omega)) nd_LK_setNumber_5 ?_
  refine lv_iload_n hx hb nd_LK_setNumber_6 rfl (lv_at hl 2 rfl) ?_
  refine lv_iload_n hx hb nd_LK_setNumber_7 rfl (lv_at hl 3 rfl) ?_
  refine lv_aload_n hx hb nd_LK_setNumber_8 rfl (lv_at hl 0 rfl) ?_
  refine va_get (D := D) (C := nr_LK) (T := nt_LK) (N := 4) hx hb htg tf_LK hown hK hP 0 rfl rfl 3 (by decide) (htg _ tm_87) (fun _ h => h) rfl nd_LK_setNumber_9 ?_
  refine wc_S (n := 2) hx hb hml hown htg (c_MT_floorMod l D _ (v0) p hp) tm_241 tm_239 tm_240 tm_10 (by decide +kernel) ⟨⟨Nat.le_trans (by decide) hRf, Nat.le_trans (by decide) hRl⟩, rfl, rfl⟩ (wa_pre wa_nil hK hN) rfl hl.1 rfl (Nat.le_of_ble_eq_true rfl) nd_LK_setNumber_12 hCS ?_
  refine wi_iast hx hb hK hP hD hS _ 0 (rw_atR (by omega)) rfl (by omega) (by omega) nd_LK_setNumber_15 (fun H locs hP hD hS => ?_)
  rw [rw_setR (by omega)] at hP hD
  have hP : va_P D cl_all ([(l0, .inr (5, [.ref l3, .ref l1, .ref l2, .int (nI (p))])), (l1, .inl (cG, 4, .inr (.inr (.inr (.inr (fun i => if i < 4 then some (rp i) else none)))))), (l2, .inl (cI, 4, .inl rr)), (l3, .inl (cG, n, .inr (.inr (.inr (.inr (fun i => if i < n then some (rc i) else none))))))] ++ (rw_R cI 4 rp P 4 ++ (rw_R cI 4 rc (va_up C el (upd (C el) row (nI (fm_ (v0) p)))) n ++ []))) H := hP
  have hD : va_D A ([(l0, .inr (5, [.ref l3, .ref l1, .ref l2, .int (nI (p))])), (l1, .inl (cG, 4, .inr (.inr (.inr (.inr (fun i => if i < 4 then some (rp i) else none)))))), (l2, .inl (cI, 4, .inl rr)), (l3, .inl (cG, n, .inr (.inr (.inr (.inr (fun i => if i < n then some (rc i) else none))))))] ++ (rw_R cI 4 rp P 4 ++ (rw_R cI 4 rc (va_up C el (upd (C el) row (nI (fm_ (v0) p)))) n ++ []))) := hD
  exact wb_vret (()) hx hb hr hk hAe (trivial) hP hD hS nd_LK_setNumber_16
theorem nd_LK_clear_0 : decode nc_LK_clear 0 = .ok (.aload_n 0, 1) := by decide +kernel
theorem nd_LK_clear_1 : decode nc_LK_clear 1 = .ok (.iload_n 1, 1) := by decide +kernel
theorem nd_LK_clear_2 : decode nc_LK_clear 2 = .ok (.putfield 20, 3) := by decide +kernel
theorem nd_LK_clear_5 : decode nc_LK_clear 5 = .ok (.iconst 0, 1) := by decide +kernel
theorem nd_LK_clear_6 : decode nc_LK_clear 6 = .ok (.istore_n 2, 1) := by decide +kernel
theorem nd_LK_clear_7 : decode nc_LK_clear 7 = .ok (.iload_n 2, 1) := by decide +kernel
theorem nd_LK_clear_8 : decode nc_LK_clear 8 = .ok (.aload_n 0, 1) := by decide +kernel
theorem nd_LK_clear_9 : decode nc_LK_clear 9 = .ok (.getfield 24, 3) := by decide +kernel
theorem nd_LK_clear_12 : decode nc_LK_clear 12 = .ok (.arraylength, 1) := by decide +kernel
theorem nd_LK_clear_13 : decode nc_LK_clear 13 = .ok (.if_icmp .ge 19, 3) := by decide +kernel
theorem nd_LK_clear_16 : decode nc_LK_clear 16 = .ok (.aload_n 0, 1) := by decide +kernel
theorem nd_LK_clear_17 : decode nc_LK_clear 17 = .ok (.getfield 24, 3) := by decide +kernel
theorem nd_LK_clear_20 : decode nc_LK_clear 20 = .ok (.iload_n 2, 1) := by decide +kernel
theorem nd_LK_clear_21 : decode nc_LK_clear 21 = .ok (.aaload, 1) := by decide +kernel
theorem nd_LK_clear_22 : decode nc_LK_clear 22 = .ok (.iconst 0, 1) := by decide +kernel
theorem nd_LK_clear_23 : decode nc_LK_clear 23 = .ok (.invokestatic 27, 3) := by decide +kernel
theorem nd_LK_clear_26 : decode nc_LK_clear 26 = .ok (.iinc 2 1, 3) := by decide +kernel
theorem nd_LK_clear_29 : decode nc_LK_clear 29 = .ok (.goto (-22), 3) := by decide +kernel
theorem nd_LK_clear_32 : decode nc_LK_clear 32 = .ok (.return_, 1) := by decide +kernel
set_option maxRecDepth 20000 in
theorem lp_LK_clear {p0 : Program} {l : Launch} {e0 : Env} {R : Room} {s0 : State} {m : MethodId} {args : Array Value} {below : List Frame} {meth : Method} {c : Code} {cells slots : Nat} {Q : State → Prop} {D : va_G} {A : Nat → Prop} (cI cG cM : ClassId) (l0 l1 l2 l3 n : Nat) (hn : n ≤ 10) (rp rc : Nat → Nat) (p : Nat) (P : Nat → Nat → Int32) (rr : Nat → Int32)  (hx : p0.tables.exec = Jvm.exec) (hb : c.code = nc_LK_clear) (hml : c.maxLocals = 3) (htg : ∀ w ∈ tg_, w.before args s0 = true) (hown : s0.vm.findClass ny_LK_clear.cls = some m.cls) (hK : va_K D cl_all (ty_all cI cG cM) s0) (hN : tn_K s0) (hA : ∀ q : Nat, s0.heap.size ≤ q → A q) (hRf : 1 ≤ R.frames) (hRl : 23 ≤ R.locals) (hCS : cells ≤ R.cells ∧ slots ≤ R.slots) (kx : ∀ (ls : Array Slot) (H : Heap) (locs : List Loc) (M : Nat → Nat → Int32), (∀ e, e < n → ∀ j, j < 4 → M e j = nI 0) → lv_has ls 3 [(0, .ref l0)] → va_P D cl_all ([(l0, .inr (5, [.ref l3, .ref l1, .ref l2, .int (nI (p))])), (l1, .inl (cG, 4, .inr (.inr (.inr (.inr (fun i => if i < 4 then some (rp i) else none)))))), (l2, .inl (cI, 4, .inl rr)), (l3, .inl (cG, n, .inr (.inr (.inr (.inr (fun i => if i < n then some (rc i) else none))))))] ++ (rw_R cI 4 rp P 4 ++ (rw_R cI 4 rc M n ++ []))) H → va_D A ([(l0, .inr (5, [.ref l3, .ref l1, .ref l2, .int (nI (p))])), (l1, .inl (cG, 4, .inr (.inr (.inr (.inr (fun i => if i < 4 then some (rp i) else none)))))), (l2, .inl (cI, 4, .inl rr)), (l3, .inl (cG, n, .inr (.inr (.inr (.inr (fun i => if i < n then some (rc i) else none))))))] ++ (rw_R cI 4 rp P 4 ++ (rw_R cI 4 rc M n ++ []))) → va_S A s0.heap H locs → W p0 l e0 R s0 m args below meth c H locs cells slots Q (F0 m 32 ls [])) : ∀ (f : Nat) (i : Nat) (M : Nat → Nat → Int32) (ls : Array Slot) (H : Heap) (locs : List Loc), n - i < f → (i ≤ n) → (∀ e, e < i → ∀ j, j < 4 → M e j = nI 0) → lv_has ls 3 [(2, .int (nI (i))), (0, .ref l0)] → va_P D cl_all ([(l0, .inr (5, [.ref l3, .ref l1, .ref l2, .int (nI (p))])), (l1, .inl (cG, 4, .inr (.inr (.inr (.inr (fun i => if i < 4 then some (rp i) else none)))))), (l2, .inl (cI, 4, .inl rr)), (l3, .inl (cG, n, .inr (.inr (.inr (.inr (fun i => if i < n then some (rc i) else none))))))] ++ (rw_R cI 4 rp P 4 ++ (rw_R cI 4 rc M n ++ []))) H → va_D A ([(l0, .inr (5, [.ref l3, .ref l1, .ref l2, .int (nI (p))])), (l1, .inl (cG, 4, .inr (.inr (.inr (.inr (fun i => if i < 4 then some (rp i) else none)))))), (l2, .inl (cI, 4, .inl rr)), (l3, .inl (cG, n, .inr (.inr (.inr (.inr (fun i => if i < n then some (rc i) else none))))))] ++ (rw_R cI 4 rp P 4 ++ (rw_R cI 4 rc M n ++ []))) → va_S A s0.heap H locs → W p0 l e0 R s0 m args below meth c H locs cells slots Q (F0 m 7 ls []) := by
  intro f
  induction f with
  | zero => intro i M ls H locs hfu; omega
  | succ f ih =>
    intro i M ls H locs hfu hi hM hl hP hD hS
    refine lv_iload_n hx hb nd_LK_clear_7 rfl (lv_at hl 0 rfl) ?_
    refine lv_aload_n hx hb nd_LK_clear_8 rfl (lv_at hl 1 rfl) ?_
    refine va_get (D := D) (C := nr_LK) (T := nt_LK) (N := 4) hx hb htg tf_LK hown hK hP 0 rfl rfl 0 (by decide) (htg _ tm_84) (fun _ h => h) rfl nd_LK_clear_9 ?_
    refine va_alen (v := nI (n)) hx hb hK hP 3 1 rfl rfl rfl nd_LK_clear_12 ?_
    refine wi_icmp_ge (tgt := 32) hx hb (by omega) (by omega) nd_LK_clear_13 rfl (fun hc13 => ?_) (fun hc13 => ?_)
    · have hl : lv_has ls 3 [(0, .ref l0)] := lv_sub hl [1] rfl
      exact kx ls H locs M (fun e he => hM e (by omega)) hl hP hD hS
    · refine lv_aload_n hx hb nd_LK_clear_16 rfl (lv_at hl 1 rfl) ?_
      refine va_get (D := D) (C := nr_LK) (T := nt_LK) (N := 4) hx hb htg tf_LK hown hK hP 0 rfl rfl 0 (by decide) (htg _ tm_84) (fun _ h => h) rfl nd_LK_clear_17 ?_
      refine lv_iload_n hx hb nd_LK_clear_20 rfl (lv_at hl 0 rfl) ?_
      refine wi_aald (v := (rc i)) hx hb hK hP 3 1 rfl rfl rfl (by omega) (by omega) (if_pos (by omega)) nd_LK_clear_21 ?_
      refine wi_ic hx hb (a := 0) nd_LK_clear_22 ?_
      rw [rw_openR (re := rc) (e := i) (by omega)] at hP hD
      refine wd_Sv (n := 2) (Y := [(rc i, .inl (cI, 4, .inl (M i)))]) hx hb hml hown htg (c_AR_fill l D cI cG cM (rc i) 4 (by omega) (M i) (nI (0)) _) tm_99 tm_226 tm_98 tm_8 (by decide +kernel) ⟨⟨Nat.le_trans (by decide) hRf, Nat.le_trans (by decide) hRl⟩, rfl, rfl⟩ hP hD hS hA hK hN rfl hl.1 rfl (Nat.le_of_ble_eq_true rfl) nd_LK_clear_23 hCS (fun u23 H locs hp23 hP hD hS => ?_)
      rw [rw_closeR (by omega)] at hP hD
      have hP : va_P D cl_all ([(l0, .inr (5, [.ref l3, .ref l1, .ref l2, .int (nI (p))])), (l1, .inl (cG, 4, .inr (.inr (.inr (.inr (fun i => if i < 4 then some (rp i) else none)))))), (l2, .inl (cI, 4, .inl rr)), (l3, .inl (cG, n, .inr (.inr (.inr (.inr (fun i => if i < n then some (rc i) else none))))))] ++ (rw_R cI 4 rp P 4 ++ (rw_R cI 4 rc (va_up M i u23) n ++ []))) H := hP
      have hD : va_D A ([(l0, .inr (5, [.ref l3, .ref l1, .ref l2, .int (nI (p))])), (l1, .inl (cG, 4, .inr (.inr (.inr (.inr (fun i => if i < 4 then some (rp i) else none)))))), (l2, .inl (cI, 4, .inl rr)), (l3, .inl (cG, n, .inr (.inr (.inr (.inr (fun i => if i < n then some (rc i) else none))))))] ++ (rw_R cI 4 rp P 4 ++ (rw_R cI 4 rc (va_up M i u23) n ++ []))) := hD
      refine lv_iinc (k := 0) (v := nI (i + 1)) hx hb nd_LK_clear_26 hl rfl (wi_inc _ 1) (by decide) rfl (fun ls hl => ?_)
      have hl : lv_has ls 3 [(2, .int (nI (i + 1))), (0, .ref l0)] := hl
      refine lv_goto (tgt := 7) hx hb nd_LK_clear_29 rfl ?_
      have hl : lv_has ls 3 [(2, .int (nI (i + 1))), (0, .ref l0)] := lv_sub hl [0, 1] rfl
      exact ih (i + 1) (va_up M i u23) ls H locs (by omega) (by omega) (fun e he j hj => if q : e = i then by rw [q, va_up_self]; exact hp23 j hj else by rw [va_up_ne _ _ q]; exact hM e (by omega) j hj) hl hP hD hS
set_option maxRecDepth 20000 in
theorem c_LK_clear (l : Launch) (D : va_G) (cI cG cM : ClassId)  (l0 l1 l2 l3 n : Nat) (hn : n ≤ 10) (rp rc : Nat → Nat) (p : Nat) (P : Nat → Nat → Int32) (rr : Nat → Int32) (md : Int32) (M : Nat → Nat → Int32) (sz : Nat) : wb_Mv l ny_LK_clear nc_LK_clear 3 ({ frames := 1, cells := 0, slots := 0, locals := 23 }) D (ty_all cI cG cM) ([(l0, .inr (5, [.ref l3, .ref l1, .ref l2, .int (md)])), (l1, .inl (cG, 4, .inr (.inr (.inr (.inr (fun i => if i < 4 then some (rp i) else none)))))), (l2, .inl (cI, 4, .inl rr)), (l3, .inl (cG, n, .inr (.inr (.inr (.inr (fun i => if i < n then some (rc i) else none))))))] ++ (rw_R cI 4 rp P 4 ++ (rw_R cI 4 rc M n ++ []))) sz [.ref l0, .int (nI (p))] (fun u : Nat → Nat → Int32 => ∀ e, e < n → ∀ j, j < 4 → u e j = nI 0) (fun u : Nat → Nat → Int32 => [(l0, .inr (5, [.ref l3, .ref l1, .ref l2, .int (nI (p))])), (l1, .inl (cG, 4, .inr (.inr (.inr (.inr (fun i => if i < 4 then some (rp i) else none)))))), (l2, .inl (cI, 4, .inl rr)), (l3, .inl (cG, n, .inr (.inr (.inr (.inr (fun i => if i < n then some (rc i) else none))))))] ++ (rw_R cI 4 rp P 4 ++ (rw_R cI 4 rc u n ++ []))) := by
  refine wb_start (S := Nat → Nat → Int32) (by decide) (Nat.le_of_ble_eq_true rfl) ?_
  intro p0 e0 s0 m below meth c ls A hx hb hr hml htg hown hk hP hK hN hl hAe hsz hD hA
  have hl : lv_has ls 3 [(0, .ref l0), (1, .int (nI (p)))] := hl
  have hS : va_S A s0.heap s0.heap [] := va_S.rf
  have hRf : 1 ≤ ({ frames := 1, cells := 0, slots := 0, locals := 23 } : Room).frames := Nat.le_refl _
  have hRl : 23 ≤ ({ frames := 1, cells := 0, slots := 0, locals := 23 } : Room).locals := Nat.le_refl _
  have hCS : 0 ≤ ({ frames := 1, cells := 0, slots := 0, locals := 23 } : Room).cells ∧ 0 ≤ ({ frames := 1, cells := 0, slots := 0, locals := 23 } : Room).slots := ⟨Nat.zero_le _, Nat.zero_le _⟩
  refine lv_aload_n hx hb nd_LK_clear_0 rfl (lv_at hl 0 rfl) ?_
  refine lv_iload_n hx hb nd_LK_clear_1 rfl (lv_at hl 1 rfl) ?_
  refine va_put (D := D) (C := nr_LK) (T := nt_LK) (N := 4) hx hb htg tf_LK nu_LK no_LK nn_LK hown hK hP hD hS 0 rfl rfl 3 (by decide) (htg _ tm_87) (fun _ h => h) rfl rfl rfl rfl (Nat.le_of_ble_eq_true rfl) nd_LK_clear_2 (fun H locs hP hD hS => ?_)
  have hP : va_P D cl_all ([(l0, .inr (5, [.ref l3, .ref l1, .ref l2, .int (nI (p))])), (l1, .inl (cG, 4, .inr (.inr (.inr (.inr (fun i => if i < 4 then some (rp i) else none)))))), (l2, .inl (cI, 4, .inl rr)), (l3, .inl (cG, n, .inr (.inr (.inr (.inr (fun i => if i < n then some (rc i) else none))))))] ++ (rw_R cI 4 rp P 4 ++ (rw_R cI 4 rc M n ++ []))) H := hP
  have hD : va_D A ([(l0, .inr (5, [.ref l3, .ref l1, .ref l2, .int (nI (p))])), (l1, .inl (cG, 4, .inr (.inr (.inr (.inr (fun i => if i < 4 then some (rp i) else none)))))), (l2, .inl (cI, 4, .inl rr)), (l3, .inl (cG, n, .inr (.inr (.inr (.inr (fun i => if i < n then some (rc i) else none))))))] ++ (rw_R cI 4 rp P 4 ++ (rw_R cI 4 rc M n ++ []))) := hD
  refine wi_ic hx hb (a := 0) nd_LK_clear_5 ?_
  refine lv_istore_n hx hb nd_LK_clear_6 rfl hl (by decide) rfl (fun ls hl => ?_)
  have hl : lv_has ls 3 [(2, .int (nI (0))), (0, .ref l0), (1, .int (nI (p)))] := hl
  have hl : lv_has ls 3 [(2, .int (nI (0))), (0, .ref l0)] := lv_sub hl [0, 1] rfl
  refine lp_LK_clear cI cG cM l0 l1 l2 l3 n hn rp rc p P rr hx hb hml htg hown hK hN hA hRf hRl hCS (fun ls H locs M hM hl hP hD hS => ?_) (n + 1) 0 M ls H locs (by omega) (by omega) (fun e he => by omega) hl hP hD hS
  exact wb_vret (M) hx hb hr hk hAe (hM) hP hD hS nd_LK_clear_32
end
section
/-! LINEAR: the next column; the rank. -/
section WF
variable {p : Program} {l : Launch} {e : Env} {R : Room} {s : State} {m : MethodId} {args : Array Value} {below : List Frame} {meth : Method} {c : Code} {H : Heap} {locs : List Loc} {cells slots : Nat} {Q : State → Prop}
variable {cc : ByteArray} {pc : Nat} {ls : Array Slot} {rest : List Value} {D : va_G} {tys : List (ClassId × FieldType)} {X Y Z : va_W} {A : Nat → Prop} {y x : MethodName} {bytes : ByteArray} {maxL nL n index : Nat} {ret : Option FieldType} {rm : Room} {own C owner : String} {b : Addr} {As st : List Value} {S : Type} {Y' : S → va_W}
theorem wd_Vv0 {post : S → Prop} (hx : p.tables.exec = Jvm.exec) (hb : c.code = cc) (hml : c.maxLocals = nL) (hown : s.vm.findClass own = some m.cls) (htg : ∀ w ∈ tg_, w.before args s = true) (hM : Met l y (Cond.code y bytes maxL ret :: tg_) rm (va_Pc (.ref b :: As) (wb_P D tys Y H.size)) (va_Qv post (wb_B D Y H.size Y') (va_A Y H.size)) 0 0 (va_A Y H.size)) (hc : Cond.code y bytes maxL ret ∈ tg_) (hl : Cond.methodLink own index y ∈ tg_) (hs : Cond.instanceMethod y ∈ tg_) (he : Cond.selects C y y ∈ tg_) (hi : Cond.initialized y.cls ∈ tg_) (hd : y.cls ≠ "java/lang/invoke/MethodHandle" ∧ y.cls ≠ "java/lang/invoke/VarHandle" ∧ (parseMethodDescriptor y.desc).map (fun d => d.parameters.length) = some n) (hR : (rm.frames + 1 ≤ R.frames ∧ 8 + (maxL + 11) + rm.locals ≤ R.locals) ∧ rm.cells = 0 ∧ rm.slots = 0) (hP : va_P D cl_all (Y) H) (hD : va_D A (Y)) (hS : va_S A s.heap H locs) (hA : ∀ q : Nat, s.heap.size ≤ q → A q) (hK : va_K D cl_all tys s) (hN : tn_K s) (hq : ∃ cellB : Cell, H[b]? = some cellB ∧ cellB.vm.isStatics = false ∧ s.vm.findClass C = some cellB.cls) (hn : As.length = n) (hsz : ls.size = nL) (hst : st = As.reverse ++ .ref b :: rest) (hW : (rest.map fun v => v.category).sum ≤ 8) (hdg : decode cc pc = .ok (.invokevirtual index, 3)) (hf : cells ≤ R.cells ∧ slots ≤ R.slots) (kk : ∀ (u : S) (H1 : Heap) (locs1 : List Loc), post u → va_P D cl_all (Y' u) H1 → va_D A (Y' u) → va_S A s.heap H1 locs1 → W p l e R s m args below meth c H1 locs1 cells slots Q (F0 m (pc + 3) ls rest)) : W p l e R s m args below meth c H locs cells slots Q (F0 m pc ls st) := by
  refine wd_Vv (X := []) (Z := []) hx hb hml hown htg hM hc hl hs he hi hd hR (by simpa using hP) (by simpa using hD) hS hA hK hN hq hn hsz hst hW hdg hf ?_
  intro u H1 locs1 hp h1 h2 h3
  exact kk u H1 locs1 hp (by simpa using h1) (by simpa using h2) h3
theorem wd_Vi0 {post : Int32 → S → Prop} (hx : p.tables.exec = Jvm.exec) (hb : c.code = cc) (hml : c.maxLocals = nL) (hown : s.vm.findClass own = some m.cls) (htg : ∀ w ∈ tg_, w.before args s = true) (hM : Met l y (Cond.code y bytes maxL ret :: tg_) rm (va_Pc (.ref b :: As) (wb_P D tys Y H.size)) (va_Qi post (wb_B D Y H.size Y') (va_A Y H.size)) 0 0 (va_A Y H.size)) (hc : Cond.code y bytes maxL ret ∈ tg_) (hl : Cond.methodLink own index y ∈ tg_) (hs : Cond.instanceMethod y ∈ tg_) (he : Cond.selects C y y ∈ tg_) (hi : Cond.initialized y.cls ∈ tg_) (hd : y.cls ≠ "java/lang/invoke/MethodHandle" ∧ y.cls ≠ "java/lang/invoke/VarHandle" ∧ (parseMethodDescriptor y.desc).map (fun d => d.parameters.length) = some n) (hR : (rm.frames + 1 ≤ R.frames ∧ 8 + (maxL + 11) + rm.locals ≤ R.locals) ∧ rm.cells = 0 ∧ rm.slots = 0) (hP : va_P D cl_all (Y) H) (hD : va_D A (Y)) (hS : va_S A s.heap H locs) (hA : ∀ q : Nat, s.heap.size ≤ q → A q) (hK : va_K D cl_all tys s) (hN : tn_K s) (hq : ∃ cellB : Cell, H[b]? = some cellB ∧ cellB.vm.isStatics = false ∧ s.vm.findClass C = some cellB.cls) (hn : As.length = n) (hsz : ls.size = nL) (hst : st = As.reverse ++ .ref b :: rest) (hW : (rest.map fun v => v.category).sum ≤ 8) (hdg : decode cc pc = .ok (.invokevirtual index, 3)) (hf : cells ≤ R.cells ∧ slots ≤ R.slots) (kk : ∀ (v : Int32) (u : S) (H1 : Heap) (locs1 : List Loc), post v u → va_P D cl_all (Y' u) H1 → va_D A (Y' u) → va_S A s.heap H1 locs1 → W p l e R s m args below meth c H1 locs1 cells slots Q (F0 m (pc + 3) ls (.int v :: rest))) : W p l e R s m args below meth c H locs cells slots Q (F0 m pc ls st) := by
  refine wd_Vi (X := []) (Z := []) hx hb hml hown htg hM hc hl hs he hi hd hR (by simpa using hP) (by simpa using hD) hS hA hK hN hq hn hsz hst hW hdg hf ?_
  intro v u H1 locs1 hp h1 h2 h3
  exact kk v u H1 locs1 hp (by simpa using h1) (by simpa using h2) h3
end WF
theorem li_step {p : Nat} (hp : p = 2 ∨ p = 3 ∨ p = 5 ∨ p = 7) {P : Nat → Nat → Int32} {x : Nat → Int} {g u : Nat → Int32} {k : Nat} (hk : k < 4) (hL : ml_L (p : Int) (fun l i => (P l i).toInt) x k (fun i => (g i).toInt)) (hd : (P k k).toInt ≠ 0) (hpe : ∀ i, i < 4 → 0 ≤ (P k i).toInt ∧ (P k i).toInt < (p : Int)) (hz : ∀ i, i < k → (P k i).toInt = 0)
    (hu : ∀ j, j < 4 → u j = nI (if k ≤ j then fm_ (nI ((g j).toInt.toNat * (P k k).toInt.toNat) - nI ((P k j).toInt.toNat * (g k).toInt.toNat)) p else (g j).toInt.toNat)) : ml_L (p : Int) (fun l i => (P l i).toInt) x (k + 1) (fun i => (u i).toInt) := by
  refine ml_L_c (ml_pr_4 hp) (by omega) hk hL hd (hpe k hk) hz (fun i hi => ?_)
  have hg : ∀ i, i < 4 → 0 ≤ (g i).toInt ∧ (g i).toInt < (p : Int) := hL.1
  have g1 := hg i hi
  have g2 := hg k hk
  have p1 := hpe i hi
  have p2 := hpe k hk
  show (u i).toInt = if k ≤ i then ((g i).toInt * (P k k).toInt - (P k i).toInt * (g k).toInt) % (p : Int) else (g i).toInt
  rw [hu i hi]
  by_cases q : k ≤ i
  · rw [if_pos q, if_pos q, li_fm hp (by omega) (by omega) (by omega) (by omega), Int.toNat_of_nonneg g1.1, Int.toNat_of_nonneg g2.1, Int.toNat_of_nonneg p1.1, Int.toNat_of_nonneg p2.1]
  · rw [if_neg q, if_neg q, ← li_nat g1.1]
theorem nd_LK_addsPivot_0 : decode nc_LK_addsPivot 0 = .ok (.aload_n 0, 1) := by decide +kernel
theorem nd_LK_addsPivot_1 : decode nc_LK_addsPivot 1 = .ok (.getfield 24, 3) := by decide +kernel
theorem nd_LK_addsPivot_4 : decode nc_LK_addsPivot 4 = .ok (.iload_n 1, 1) := by decide +kernel
theorem nd_LK_addsPivot_5 : decode nc_LK_addsPivot 5 = .ok (.aaload, 1) := by decide +kernel
theorem nd_LK_addsPivot_6 : decode nc_LK_addsPivot 6 = .ok (.iconst 0, 1) := by decide +kernel
theorem nd_LK_addsPivot_7 : decode nc_LK_addsPivot 7 = .ok (.aload_n 0, 1) := by decide +kernel
theorem nd_LK_addsPivot_8 : decode nc_LK_addsPivot 8 = .ok (.getfield 16, 3) := by decide +kernel
theorem nd_LK_addsPivot_11 : decode nc_LK_addsPivot 11 = .ok (.iconst 0, 1) := by decide +kernel
theorem nd_LK_addsPivot_12 : decode nc_LK_addsPivot 12 = .ok (.iconst 4, 1) := by decide +kernel
theorem nd_LK_addsPivot_13 : decode nc_LK_addsPivot 13 = .ok (.invokestatic 47, 3) := by decide +kernel
theorem nd_LK_addsPivot_16 : decode nc_LK_addsPivot 16 = .ok (.iconst 0, 1) := by decide +kernel
theorem nd_LK_addsPivot_17 : decode nc_LK_addsPivot 17 = .ok (.istore_n 2, 1) := by decide +kernel
theorem nd_LK_addsPivot_18 : decode nc_LK_addsPivot 18 = .ok (.iload_n 2, 1) := by decide +kernel
theorem nd_LK_addsPivot_19 : decode nc_LK_addsPivot 19 = .ok (.iconst 4, 1) := by decide +kernel
theorem nd_LK_addsPivot_20 : decode nc_LK_addsPivot 20 = .ok (.if_icmp .ge 52, 3) := by decide +kernel
theorem nd_LK_addsPivot_23 : decode nc_LK_addsPivot 23 = .ok (.aload_n 0, 1) := by decide +kernel
theorem nd_LK_addsPivot_24 : decode nc_LK_addsPivot 24 = .ok (.getfield 16, 3) := by decide +kernel
theorem nd_LK_addsPivot_27 : decode nc_LK_addsPivot 27 = .ok (.iload_n 2, 1) := by decide +kernel
theorem nd_LK_addsPivot_28 : decode nc_LK_addsPivot 28 = .ok (.iaload, 1) := by decide +kernel
theorem nd_LK_addsPivot_29 : decode nc_LK_addsPivot 29 = .ok (.ifCond .eq 37, 3) := by decide +kernel
theorem nd_LK_addsPivot_32 : decode nc_LK_addsPivot 32 = .ok (.aload_n 0, 1) := by decide +kernel
theorem nd_LK_addsPivot_33 : decode nc_LK_addsPivot 33 = .ok (.getfield 11, 3) := by decide +kernel
theorem nd_LK_addsPivot_36 : decode nc_LK_addsPivot 36 = .ok (.iload_n 2, 1) := by decide +kernel
theorem nd_LK_addsPivot_37 : decode nc_LK_addsPivot 37 = .ok (.aaload, 1) := by decide +kernel
theorem nd_LK_addsPivot_38 : decode nc_LK_addsPivot 38 = .ok (.iload_n 2, 1) := by decide +kernel
theorem nd_LK_addsPivot_39 : decode nc_LK_addsPivot 39 = .ok (.iaload, 1) := by decide +kernel
theorem nd_LK_addsPivot_40 : decode nc_LK_addsPivot 40 = .ok (.ifCond .ne 21, 3) := by decide +kernel
theorem nd_LK_addsPivot_43 : decode nc_LK_addsPivot 43 = .ok (.aload_n 0, 1) := by decide +kernel
theorem nd_LK_addsPivot_44 : decode nc_LK_addsPivot 44 = .ok (.getfield 16, 3) := by decide +kernel
theorem nd_LK_addsPivot_47 : decode nc_LK_addsPivot 47 = .ok (.iconst 0, 1) := by decide +kernel
theorem nd_LK_addsPivot_48 : decode nc_LK_addsPivot 48 = .ok (.aload_n 0, 1) := by decide +kernel
theorem nd_LK_addsPivot_49 : decode nc_LK_addsPivot 49 = .ok (.getfield 11, 3) := by decide +kernel
theorem nd_LK_addsPivot_52 : decode nc_LK_addsPivot 52 = .ok (.iload_n 2, 1) := by decide +kernel
theorem nd_LK_addsPivot_53 : decode nc_LK_addsPivot 53 = .ok (.aaload, 1) := by decide +kernel
theorem nd_LK_addsPivot_54 : decode nc_LK_addsPivot 54 = .ok (.iconst 0, 1) := by decide +kernel
theorem nd_LK_addsPivot_55 : decode nc_LK_addsPivot 55 = .ok (.iconst 4, 1) := by decide +kernel
theorem nd_LK_addsPivot_56 : decode nc_LK_addsPivot 56 = .ok (.invokestatic 47, 3) := by decide +kernel
theorem nd_LK_addsPivot_59 : decode nc_LK_addsPivot 59 = .ok (.iconst 1, 1) := by decide +kernel
theorem nd_LK_addsPivot_60 : decode nc_LK_addsPivot 60 = .ok (.ireturn, 1) := by decide +kernel
theorem nd_LK_addsPivot_61 : decode nc_LK_addsPivot 61 = .ok (.aload_n 0, 1) := by decide +kernel
theorem nd_LK_addsPivot_62 : decode nc_LK_addsPivot 62 = .ok (.iload_n 2, 1) := by decide +kernel
theorem nd_LK_addsPivot_63 : decode nc_LK_addsPivot 63 = .ok (.invokevirtual 53, 3) := by decide +kernel
theorem nd_LK_addsPivot_66 : decode nc_LK_addsPivot 66 = .ok (.iinc 2 1, 3) := by decide +kernel
theorem nd_LK_addsPivot_69 : decode nc_LK_addsPivot 69 = .ok (.goto (-51), 3) := by decide +kernel
theorem nd_LK_addsPivot_72 : decode nc_LK_addsPivot 72 = .ok (.iconst 0, 1) := by decide +kernel
theorem nd_LK_addsPivot_73 : decode nc_LK_addsPivot 73 = .ok (.ireturn, 1) := by decide +kernel
set_option maxRecDepth 20000 in
theorem lp_LK_addsPivot {p0 : Program} {l : Launch} {e0 : Env} {R : Room} {s0 : State} {m : MethodId} {args : Array Value} {below : List Frame} {meth : Method} {c : Code} {cells slots : Nat} {Q : State → Prop} {D : va_G} {A : Nat → Prop} (cI cG cM : ClassId) (l0 l1 l2 l3 n : Nat) (hn : n ≤ 10) (rp rc : Nat → Nat) (C : Nat → Nat → Int32) (p : Nat) (hp : p = 2 ∨ p = 3 ∨ p = 5 ∨ p = 7) (el : Nat) (hel : el < n) (P : Nat → Nat → Int32) (he : ∀ l, l < 4 → (P l l).toInt ≠ 0 → (∀ i, i < l → (P l i).toInt = 0) ∧ ∀ i, i < 4 → 0 ≤ (P l i).toInt ∧ (P l i).toInt < (p : Int))  (hx : p0.tables.exec = Jvm.exec) (hb : c.code = nc_LK_addsPivot) (hml : c.maxLocals = 3) (htg : ∀ w ∈ tg_, w.before args s0 = true) (hown : s0.vm.findClass ny_LK_addsPivot.cls = some m.cls) (hK : va_K D cl_all (ty_all cI cG cM) s0) (hN : tn_K s0) (hA : ∀ q : Nat, s0.heap.size ≤ q → A q) (hRf : 2 ≤ R.frames) (hRl : 46 ≤ R.locals) (hCS : cells ≤ R.cells ∧ slots ≤ R.slots) (kx : ∀ (ls : Array Slot) (H : Heap) (locs : List Loc) (g : Nat → Int32), (ml_L (p : Int) (fun l i => (P l i).toInt) (fun i => (C el i).toInt) 4 (fun i => (g i).toInt)) → lv_has ls 3 [(0, .ref l0)] → va_P D cl_all ([(l0, .inr (5, [.ref l3, .ref l1, .ref l2, .int (nI (p))])), (l1, .inl (cG, 4, .inr (.inr (.inr (.inr (fun i => if i < 4 then some (rp i) else none)))))), (l2, .inl (cI, 4, .inl g)), (l3, .inl (cG, n, .inr (.inr (.inr (.inr (fun i => if i < n then some (rc i) else none))))))] ++ (rw_R cI 4 rp P 4 ++ (rw_R cI 4 rc C n ++ []))) H → va_D A ([(l0, .inr (5, [.ref l3, .ref l1, .ref l2, .int (nI (p))])), (l1, .inl (cG, 4, .inr (.inr (.inr (.inr (fun i => if i < 4 then some (rp i) else none)))))), (l2, .inl (cI, 4, .inl g)), (l3, .inl (cG, n, .inr (.inr (.inr (.inr (fun i => if i < n then some (rc i) else none))))))] ++ (rw_R cI 4 rp P 4 ++ (rw_R cI 4 rc C n ++ []))) → va_S A s0.heap H locs → W p0 l e0 R s0 m args below meth c H locs cells slots Q (F0 m 72 ls [])) (ky : ∀ (ls : Array Slot) (H : Heap) (locs : List Loc) (k : Nat) (g : Nat → Int32), (k < 4) → (ml_L (p : Int) (fun l i => (P l i).toInt) (fun i => (C el i).toInt) k (fun i => (g i).toInt)) → (¬ g k = 0) → (P k k = 0) → lv_has ls 3 [(2, .int (nI (k))), (0, .ref l0), (1, .int (nI (el)))] → va_P D cl_all ([(l0, .inr (5, [.ref l3, .ref l1, .ref l2, .int (nI (p))])), (l1, .inl (cG, 4, .inr (.inr (.inr (.inr (fun i => if i < 4 then some (rp i) else none)))))), (l2, .inl (cI, 4, .inl g)), (l3, .inl (cG, n, .inr (.inr (.inr (.inr (fun i => if i < n then some (rc i) else none))))))] ++ (rw_R cI 4 rp P 4 ++ (rw_R cI 4 rc C n ++ []))) H → va_D A ([(l0, .inr (5, [.ref l3, .ref l1, .ref l2, .int (nI (p))])), (l1, .inl (cG, 4, .inr (.inr (.inr (.inr (fun i => if i < 4 then some (rp i) else none)))))), (l2, .inl (cI, 4, .inl g)), (l3, .inl (cG, n, .inr (.inr (.inr (.inr (fun i => if i < n then some (rc i) else none))))))] ++ (rw_R cI 4 rp P 4 ++ (rw_R cI 4 rc C n ++ []))) → va_S A s0.heap H locs → W p0 l e0 R s0 m args below meth c H locs cells slots Q (F0 m 43 ls [])) : ∀ (f : Nat) (k : Nat) (g : Nat → Int32) (ls : Array Slot) (H : Heap) (locs : List Loc), 4 - k < f → (k ≤ 4) → (ml_L (p : Int) (fun l i => (P l i).toInt) (fun i => (C el i).toInt) k (fun i => (g i).toInt)) → lv_has ls 3 [(2, .int (nI (k))), (0, .ref l0), (1, .int (nI (el)))] → va_P D cl_all ([(l0, .inr (5, [.ref l3, .ref l1, .ref l2, .int (nI (p))])), (l1, .inl (cG, 4, .inr (.inr (.inr (.inr (fun i => if i < 4 then some (rp i) else none)))))), (l2, .inl (cI, 4, .inl g)), (l3, .inl (cG, n, .inr (.inr (.inr (.inr (fun i => if i < n then some (rc i) else none))))))] ++ (rw_R cI 4 rp P 4 ++ (rw_R cI 4 rc C n ++ []))) H → va_D A ([(l0, .inr (5, [.ref l3, .ref l1, .ref l2, .int (nI (p))])), (l1, .inl (cG, 4, .inr (.inr (.inr (.inr (fun i => if i < 4 then some (rp i) else none)))))), (l2, .inl (cI, 4, .inl g)), (l3, .inl (cG, n, .inr (.inr (.inr (.inr (fun i => if i < n then some (rc i) else none))))))] ++ (rw_R cI 4 rp P 4 ++ (rw_R cI 4 rc C n ++ []))) → va_S A s0.heap H locs → W p0 l e0 R s0 m args below meth c H locs cells slots Q (F0 m 18 ls []) := by
  intro f
  induction f with
  | zero => intro k g ls H locs hfu; omega
  | succ f ih =>
    intro k g ls H locs hfu hk4 hL hl hP hD hS
    refine lv_iload_n hx hb nd_LK_addsPivot_18 rfl (lv_at hl 0 rfl) ?_
    refine wi_ic hx hb (a := 4) nd_LK_addsPivot_19 ?_
    refine wi_icmp_ge (tgt := 72) hx hb (by omega) (by omega) nd_LK_addsPivot_20 rfl (fun hc20 => ?_) (fun hc20 => ?_)
    · have hl : lv_has ls 3 [(0, .ref l0)] := lv_sub hl [1] rfl
      have hk : k = 4 := by omega
      exact kx ls H locs g (by simpa only [hk] using hL) hl hP hD hS
    · refine lv_aload_n hx hb nd_LK_addsPivot_23 rfl (lv_at hl 1 rfl) ?_
      refine va_get (D := D) (C := nr_LK) (T := nt_LK) (N := 4) hx hb htg tf_LK hown hK hP 0 rfl rfl 2 (by decide) (htg _ tm_86) (fun _ h => h) rfl nd_LK_addsPivot_24 ?_
      refine lv_iload_n hx hb nd_LK_addsPivot_27 rfl (lv_at hl 0 rfl) ?_
      refine wi_iald hx hb hK hP 2 0 rfl rfl (by omega) (by omega) nd_LK_addsPivot_28 ?_
      refine lv_if_eq (tgt := 66) hx hb nd_LK_addsPivot_29 rfl (fun hc29 => ?_) (fun hc29 => ?_)
      · refine lv_iinc (k := 0) (v := nI (k + 1)) hx hb nd_LK_addsPivot_66 hl rfl (wi_inc _ 1) (by decide) rfl (fun ls hl => ?_)
        have hl : lv_has ls 3 [(2, .int (nI (k + 1))), (0, .ref l0), (1, .int (nI (el)))] := hl
        refine lv_goto (tgt := 18) hx hb nd_LK_addsPivot_69 rfl ?_
        have hl : lv_has ls 3 [(2, .int (nI (k + 1))), (0, .ref l0), (1, .int (nI (el)))] := lv_sub hl [0, 1, 2] rfl
        exact ih (k + 1) g ls H locs (by omega) (by omega) (ml_L_z hL (li_z.mp hc29)) hl hP hD hS
      · refine lv_aload_n hx hb nd_LK_addsPivot_32 rfl (lv_at hl 1 rfl) ?_
        refine va_get (D := D) (C := nr_LK) (T := nt_LK) (N := 4) hx hb htg tf_LK hown hK hP 0 rfl rfl 1 (by decide) (htg _ tm_85) (fun _ h => h) rfl nd_LK_addsPivot_33 ?_
        refine lv_iload_n hx hb nd_LK_addsPivot_36 rfl (lv_at hl 0 rfl) ?_
        refine wi_aald (v := (rp k)) hx hb hK hP 1 1 rfl rfl rfl (by omega) (by omega) (if_pos (by omega)) nd_LK_addsPivot_37 ?_
        refine lv_iload_n hx hb nd_LK_addsPivot_38 rfl (lv_at hl 0 rfl) ?_
        refine wi_iald hx hb hK hP _ 0 (rw_atL (by omega)) rfl (by omega) (by omega) nd_LK_addsPivot_39 ?_
        refine lv_if_ne (tgt := 61) hx hb nd_LK_addsPivot_40 rfl (fun hc40 => ?_) (fun hc40 => ?_)
        · have hkk : (P k k).toInt ≠ 0 := fun q => hc40 (li_z.mpr q)
          have hek := he k (by omega) hkk
          refine lv_aload_n hx hb nd_LK_addsPivot_61 rfl (lv_at hl 1 rfl) ?_
          refine lv_iload_n hx hb nd_LK_addsPivot_62 rfl (lv_at hl 0 rfl) ?_
          refine wd_Vv0 (C := nr_LK) (n := 1) (Y := [(l0, .inr (5, [.ref l3, .ref l1, .ref l2, .int (nI (p))])), (l1, .inl (cG, 4, .inr (.inr (.inr (.inr (fun i => if i < 4 then some (rp i) else none)))))), (l2, .inl (cI, 4, .inl g)), (l3, .inl (cG, n, .inr (.inr (.inr (.inr (fun i => if i < n then some (rc i) else none))))))] ++ (rw_R cI 4 rp P 4 ++ (rw_R cI 4 rc C n ++ []))) hx hb hml hown htg (c_LK_cancel l D cI cG cM l0 l1 l2 l3 n hn rp rc C p hp P k (by omega) (fun i => (P k i).toInt.toNat) (fun i => (g i).toInt.toNat) (fun i hi => li_nat ((hek.2 i hi).1)) g (fun i hi => li_nat ((hL.1 i hi).1)) _) tm_298 tm_295 tm_297 tp_6 tm_7 (by decide +kernel) ⟨⟨Nat.le_trans (by decide) hRf, Nat.le_trans (by decide) hRl⟩, rfl, rfl⟩ hP hD hS hA hK hN (va_recv (q0 := 0) (ci := 5) hK hP rfl rfl) rfl hl.1 rfl (Nat.le_of_ble_eq_true rfl) nd_LK_addsPivot_63 hCS (fun u63 H locs hp63 hP hD hS => ?_)
          have hP : va_P D cl_all ([(l0, .inr (5, [.ref l3, .ref l1, .ref l2, .int (nI (p))])), (l1, .inl (cG, 4, .inr (.inr (.inr (.inr (fun i => if i < 4 then some (rp i) else none)))))), (l2, .inl (cI, 4, .inl u63)), (l3, .inl (cG, n, .inr (.inr (.inr (.inr (fun i => if i < n then some (rc i) else none))))))] ++ (rw_R cI 4 rp P 4 ++ (rw_R cI 4 rc C n ++ []))) H := hP
          have hD : va_D A ([(l0, .inr (5, [.ref l3, .ref l1, .ref l2, .int (nI (p))])), (l1, .inl (cG, 4, .inr (.inr (.inr (.inr (fun i => if i < 4 then some (rp i) else none)))))), (l2, .inl (cI, 4, .inl u63)), (l3, .inl (cG, n, .inr (.inr (.inr (.inr (fun i => if i < n then some (rc i) else none))))))] ++ (rw_R cI 4 rp P 4 ++ (rw_R cI 4 rc C n ++ []))) := hD
          refine lv_iinc (k := 0) (v := nI (k + 1)) hx hb nd_LK_addsPivot_66 hl rfl (wi_inc _ 1) (by decide) rfl (fun ls hl => ?_)
          have hl : lv_has ls 3 [(2, .int (nI (k + 1))), (0, .ref l0), (1, .int (nI (el)))] := hl
          refine lv_goto (tgt := 18) hx hb nd_LK_addsPivot_69 rfl ?_
          have hl : lv_has ls 3 [(2, .int (nI (k + 1))), (0, .ref l0), (1, .int (nI (el)))] := lv_sub hl [0, 1, 2] rfl
          exact ih (k + 1) u63 ls H locs (by omega) (by omega) (li_step hp (by omega) hL hkk hek.2 hek.1 hp63) hl hP hD hS
        · have hl : lv_has ls 3 [(2, .int (nI (k))), (0, .ref l0), (1, .int (nI (el)))] := lv_sub hl [0, 1, 2] rfl
          exact ky ls H locs k g (by omega) hL hc29 hc40 hl hP hD hS
set_option maxRecDepth 20000 in
theorem c_LK_addsPivot (l : Launch) (D : va_G) (cI cG cM : ClassId)  (l0 l1 l2 l3 n : Nat) (hn : n ≤ 10) (rp rc : Nat → Nat) (C : Nat → Nat → Int32) (p : Nat) (hp : p = 2 ∨ p = 3 ∨ p = 5 ∨ p = 7) (el : Nat) (hel : el < n) (P : Nat → Nat → Int32) (he : ∀ l, l < 4 → (P l l).toInt ≠ 0 → (∀ i, i < l → (P l i).toInt = 0) ∧ ∀ i, i < 4 → 0 ≤ (P l i).toInt ∧ (P l i).toInt < (p : Int)) (rr : Nat → Int32) (hxr : ∀ i, i < 4 → 0 ≤ (C el i).toInt ∧ (C el i).toInt < (p : Int)) (sz : Nat) : wb_Mi l ny_LK_addsPivot nc_LK_addsPivot 3 (some .boolean) ({ frames := 2, cells := 0, slots := 0, locals := 46 }) D (ty_all cI cG cM) ([(l0, .inr (5, [.ref l3, .ref l1, .ref l2, .int (nI (p))])), (l1, .inl (cG, 4, .inr (.inr (.inr (.inr (fun i => if i < 4 then some (rp i) else none)))))), (l2, .inl (cI, 4, .inl rr)), (l3, .inl (cG, n, .inr (.inr (.inr (.inr (fun i => if i < n then some (rc i) else none))))))] ++ (rw_R cI 4 rp P 4 ++ (rw_R cI 4 rc C n ++ []))) sz [.ref l0, .int (nI (el))] (fun (v : Int32) (u : (Nat → Nat → Int32) × (Nat → Int32)) => (v = nI 0 ∧ u.1 = P ∧ ∀ f : Nat → Int, (∀ l, l < 4 → (P l l).toInt ≠ 0 → (p : Int) ∣ ml_dt f (fun i => (P l i).toInt)) → (p : Int) ∣ ml_dt f (fun i => (C el i).toInt)) ∨ (v = nI 1 ∧ ∃ (l : Nat) (rest : Nat → Int), l < 4 ∧ ml_L (p : Int) (fun l i => (P l i).toInt) (fun i => (C el i).toInt) l rest ∧ rest l ≠ 0 ∧ (P l l).toInt = 0 ∧ (∀ i, i < 4 → (u.1 l i).toInt = rest i) ∧ ∀ j, j < 4 → j ≠ l → ∀ i, i < 4 → u.1 j i = P j i)) (fun u : (Nat → Nat → Int32) × (Nat → Int32) => [(l0, .inr (5, [.ref l3, .ref l1, .ref l2, .int (nI (p))])), (l1, .inl (cG, 4, .inr (.inr (.inr (.inr (fun i => if i < 4 then some (rp i) else none)))))), (l2, .inl (cI, 4, .inl u.2)), (l3, .inl (cG, n, .inr (.inr (.inr (.inr (fun i => if i < n then some (rc i) else none))))))] ++ (rw_R cI 4 rp u.1 4 ++ (rw_R cI 4 rc C n ++ []))) := by
  refine wb_start (S := (Nat → Nat → Int32) × (Nat → Int32)) (by decide) (Nat.le_of_ble_eq_true rfl) ?_
  intro p0 e0 s0 m below meth c ls A hx hb hr hml htg hown hk hP hK hN hl hAe hsz hD hA
  have hl : lv_has ls 3 [(0, .ref l0), (1, .int (nI (el)))] := hl
  have hS : va_S A s0.heap s0.heap [] := va_S.rf
  have hRf : 2 ≤ ({ frames := 2, cells := 0, slots := 0, locals := 46 } : Room).frames := Nat.le_refl _
  have hRl : 46 ≤ ({ frames := 2, cells := 0, slots := 0, locals := 46 } : Room).locals := Nat.le_refl _
  have hCS : 0 ≤ ({ frames := 2, cells := 0, slots := 0, locals := 46 } : Room).cells ∧ 0 ≤ ({ frames := 2, cells := 0, slots := 0, locals := 46 } : Room).slots := ⟨Nat.zero_le _, Nat.zero_le _⟩
  refine lv_aload_n hx hb nd_LK_addsPivot_0 rfl (lv_at hl 0 rfl) ?_
  refine va_get (D := D) (C := nr_LK) (T := nt_LK) (N := 4) hx hb htg tf_LK hown hK hP 0 rfl rfl 0 (by decide) (htg _ tm_84) (fun _ h => h) rfl nd_LK_addsPivot_1 ?_
  refine lv_iload_n hx hb nd_LK_addsPivot_4 rfl (lv_at hl 1 rfl) ?_
  refine wi_aald (v := (rc el)) hx hb hK hP 3 1 rfl rfl rfl (by omega) (by omega) (if_pos (by omega)) nd_LK_addsPivot_5 ?_
  refine wi_ic hx hb (a := 0) nd_LK_addsPivot_6 ?_
  refine lv_aload_n hx hb nd_LK_addsPivot_7 rfl (lv_at hl 0 rfl) ?_
  refine va_get (D := D) (C := nr_LK) (T := nt_LK) (N := 4) hx hb htg tf_LK hown hK hP 0 rfl rfl 2 (by decide) (htg _ tm_86) (fun _ h => h) rfl nd_LK_addsPivot_8 ?_
  refine wi_ic hx hb (a := 0) nd_LK_addsPivot_11 ?_
  refine wi_ic hx hb (a := 4) nd_LK_addsPivot_12 ?_
  refine va_copyi hx hb (hml.trans hl.1.symm) hown (htg _ tm_292) (htg _ tm_294) (htg _ tm_293) (htg _ tm_11) hK hP hD hS _ 2 0 0 (rw_atR (by omega)) rfl rfl rfl rfl (by decide) (by decide) (by decide) (by decide) (by decide) (fun _ _ => rfl) (Nat.le_trans (by decide) hRf) (Nat.le_trans (by decide) hRl) nd_LK_addsPivot_13 (fun H locs hP hD hS => ?_)
  have hP : va_P D cl_all ([(l0, .inr (5, [.ref l3, .ref l1, .ref l2, .int (nI (p))])), (l1, .inl (cG, 4, .inr (.inr (.inr (.inr (fun i => if i < 4 then some (rp i) else none)))))), (l2, .inl (cI, 4, .inl (va_cpy (C el) rr 0 0 4))), (l3, .inl (cG, n, .inr (.inr (.inr (.inr (fun i => if i < n then some (rc i) else none))))))] ++ (rw_R cI 4 rp P 4 ++ (rw_R cI 4 rc C n ++ []))) H := hP
  have hD : va_D A ([(l0, .inr (5, [.ref l3, .ref l1, .ref l2, .int (nI (p))])), (l1, .inl (cG, 4, .inr (.inr (.inr (.inr (fun i => if i < 4 then some (rp i) else none)))))), (l2, .inl (cI, 4, .inl (va_cpy (C el) rr 0 0 4))), (l3, .inl (cG, n, .inr (.inr (.inr (.inr (fun i => if i < n then some (rc i) else none))))))] ++ (rw_R cI 4 rp P 4 ++ (rw_R cI 4 rc C n ++ []))) := hD
  refine wi_ic hx hb (a := 0) nd_LK_addsPivot_16 ?_
  refine lv_istore_n hx hb nd_LK_addsPivot_17 rfl hl (by decide) rfl (fun ls hl => ?_)
  have hl : lv_has ls 3 [(2, .int (nI (0))), (0, .ref l0), (1, .int (nI (el)))] := hl
  have hl : lv_has ls 3 [(2, .int (nI (0))), (0, .ref l0), (1, .int (nI (el)))] := lv_sub hl [0, 1, 2] rfl
  refine lp_LK_addsPivot cI cG cM l0 l1 l2 l3 n hn rp rc C p hp el hel P he hx hb hml htg hown hK hN hA hRf hRl hCS (fun ls H locs g hL hl hP hD hS => ?_) (fun ls H locs k g a1 a2 a3 a4 hl hP hD hS => ?_) 5 0 _ ls H locs (by omega) (by omega) (ml_L_0 (ml_pr_4 hp) hxr (fun i hi => by show (va_cpy (C el) rr 0 0 4 i).toInt = _; rw [pk_cpy_in (by omega) (by omega)]; simp)) hl hP hD hS
  · refine wi_ic hx hb (a := 0) nd_LK_addsPivot_72 ?_
    exact wb_zret ((P, g)) hx hb hr hk rfl hAe (Or.inl ⟨rfl, rfl, fun f hf => ml_L_4 (ml_pr_4 hp) hL f hf⟩) hP hD hS nd_LK_addsPivot_73
  · refine lv_aload_n hx hb nd_LK_addsPivot_43 rfl (lv_at hl 1 rfl) ?_
    refine va_get (D := D) (C := nr_LK) (T := nt_LK) (N := 4) hx hb htg tf_LK hown hK hP 0 rfl rfl 2 (by decide) (htg _ tm_86) (fun _ h => h) rfl nd_LK_addsPivot_44 ?_
    refine wi_ic hx hb (a := 0) nd_LK_addsPivot_47 ?_
    refine lv_aload_n hx hb nd_LK_addsPivot_48 rfl (lv_at hl 1 rfl) ?_
    refine va_get (D := D) (C := nr_LK) (T := nt_LK) (N := 4) hx hb htg tf_LK hown hK hP 0 rfl rfl 1 (by decide) (htg _ tm_85) (fun _ h => h) rfl nd_LK_addsPivot_49 ?_
    refine lv_iload_n hx hb nd_LK_addsPivot_52 rfl (lv_at hl 0 rfl) ?_
    refine wi_aald (v := (rp k)) hx hb hK hP 1 1 rfl rfl rfl (by omega) (by omega) (if_pos (by omega)) nd_LK_addsPivot_53 ?_
    refine wi_ic hx hb (a := 0) nd_LK_addsPivot_54 ?_
    refine wi_ic hx hb (a := 4) nd_LK_addsPivot_55 ?_
    refine va_copyi hx hb (hml.trans hl.1.symm) hown (htg _ tm_292) (htg _ tm_294) (htg _ tm_293) (htg _ tm_11) hK hP hD hS 2 _ 0 0 rfl (rw_atL (by omega)) rfl rfl rfl (by decide) (by decide) (by decide) (by decide) (by decide) (fun _ _ => rfl) (Nat.le_trans (by decide) hRf) (Nat.le_trans (by decide) hRl) nd_LK_addsPivot_56 (fun H locs hP hD hS => ?_)
    rw [rw_setL (by omega)] at hP hD
    have hP : va_P D cl_all ([(l0, .inr (5, [.ref l3, .ref l1, .ref l2, .int (nI (p))])), (l1, .inl (cG, 4, .inr (.inr (.inr (.inr (fun i => if i < 4 then some (rp i) else none)))))), (l2, .inl (cI, 4, .inl g)), (l3, .inl (cG, n, .inr (.inr (.inr (.inr (fun i => if i < n then some (rc i) else none))))))] ++ (rw_R cI 4 rp (va_up P k (va_cpy g (P k) 0 0 4)) 4 ++ (rw_R cI 4 rc C n ++ []))) H := hP
    have hD : va_D A ([(l0, .inr (5, [.ref l3, .ref l1, .ref l2, .int (nI (p))])), (l1, .inl (cG, 4, .inr (.inr (.inr (.inr (fun i => if i < 4 then some (rp i) else none)))))), (l2, .inl (cI, 4, .inl g)), (l3, .inl (cG, n, .inr (.inr (.inr (.inr (fun i => if i < n then some (rc i) else none))))))] ++ (rw_R cI 4 rp (va_up P k (va_cpy g (P k) 0 0 4)) 4 ++ (rw_R cI 4 rc C n ++ []))) := hD
    refine wi_ic hx hb (a := 1) nd_LK_addsPivot_59 ?_
    exact wb_zret ((va_up P k (va_cpy g (P k) 0 0 4), g)) hx hb hr hk rfl hAe (Or.inr ⟨rfl, k, fun i => (g i).toInt, a1, a2, fun q => a3 (li_z.mpr q), li_z.mp a4, fun i hi => by show ((va_up P k (va_cpy g (P k) 0 0 4)) k i).toInt = _; rw [va_up_self, pk_cpy_in (by omega) (by omega)]; simp, fun j hj hjk i hi => by show (va_up P k (va_cpy g (P k) 0 0 4)) j i = _; rw [va_up_ne _ _ hjk]⟩) hP hD hS nd_LK_addsPivot_60
theorem nd_LK_findRank_0 : decode nc_LK_findRank 0 = .ok (.iconst 0, 1) := by decide +kernel
theorem nd_LK_findRank_1 : decode nc_LK_findRank 1 = .ok (.istore_n 2, 1) := by decide +kernel
theorem nd_LK_findRank_2 : decode nc_LK_findRank 2 = .ok (.iload_n 2, 1) := by decide +kernel
theorem nd_LK_findRank_3 : decode nc_LK_findRank 3 = .ok (.iconst 4, 1) := by decide +kernel
theorem nd_LK_findRank_4 : decode nc_LK_findRank 4 = .ok (.if_icmp .ge 18, 3) := by decide +kernel
theorem nd_LK_findRank_7 : decode nc_LK_findRank 7 = .ok (.aload_n 0, 1) := by decide +kernel
theorem nd_LK_findRank_8 : decode nc_LK_findRank 8 = .ok (.getfield 11, 3) := by decide +kernel
theorem nd_LK_findRank_11 : decode nc_LK_findRank 11 = .ok (.iload_n 2, 1) := by decide +kernel
theorem nd_LK_findRank_12 : decode nc_LK_findRank 12 = .ok (.aaload, 1) := by decide +kernel
theorem nd_LK_findRank_13 : decode nc_LK_findRank 13 = .ok (.iload_n 2, 1) := by decide +kernel
theorem nd_LK_findRank_14 : decode nc_LK_findRank 14 = .ok (.iconst 0, 1) := by decide +kernel
theorem nd_LK_findRank_15 : decode nc_LK_findRank 15 = .ok (.iastore, 1) := by decide +kernel
theorem nd_LK_findRank_16 : decode nc_LK_findRank 16 = .ok (.iinc 2 1, 3) := by decide +kernel
theorem nd_LK_findRank_19 : decode nc_LK_findRank 19 = .ok (.goto (-17), 3) := by decide +kernel
theorem nd_LK_findRank_22 : decode nc_LK_findRank 22 = .ok (.iconst 0, 1) := by decide +kernel
theorem nd_LK_findRank_23 : decode nc_LK_findRank 23 = .ok (.istore_n 2, 1) := by decide +kernel
theorem nd_LK_findRank_24 : decode nc_LK_findRank 24 = .ok (.iconst 0, 1) := by decide +kernel
theorem nd_LK_findRank_25 : decode nc_LK_findRank 25 = .ok (.istore_n 3, 1) := by decide +kernel
theorem nd_LK_findRank_26 : decode nc_LK_findRank 26 = .ok (.iload_n 3, 1) := by decide +kernel
theorem nd_LK_findRank_27 : decode nc_LK_findRank 27 = .ok (.aload_n 0, 1) := by decide +kernel
theorem nd_LK_findRank_28 : decode nc_LK_findRank 28 = .ok (.getfield 24, 3) := by decide +kernel
theorem nd_LK_findRank_31 : decode nc_LK_findRank 31 = .ok (.arraylength, 1) := by decide +kernel
theorem nd_LK_findRank_32 : decode nc_LK_findRank 32 = .ok (.if_icmp .ge 33, 3) := by decide +kernel
theorem nd_LK_findRank_35 : decode nc_LK_findRank 35 = .ok (.iload_n 2, 1) := by decide +kernel
theorem nd_LK_findRank_36 : decode nc_LK_findRank 36 = .ok (.iconst 4, 1) := by decide +kernel
theorem nd_LK_findRank_37 : decode nc_LK_findRank 37 = .ok (.if_icmp .ge 28, 3) := by decide +kernel
theorem nd_LK_findRank_40 : decode nc_LK_findRank 40 = .ok (.iload_n 1, 1) := by decide +kernel
theorem nd_LK_findRank_41 : decode nc_LK_findRank 41 = .ok (.iload_n 3, 1) := by decide +kernel
theorem nd_LK_findRank_42 : decode nc_LK_findRank 42 = .ok (.invokestatic 39, 3) := by decide +kernel
theorem nd_LK_findRank_45 : decode nc_LK_findRank 45 = .ok (.ifCond .eq 14, 3) := by decide +kernel
theorem nd_LK_findRank_48 : decode nc_LK_findRank 48 = .ok (.aload_n 0, 1) := by decide +kernel
theorem nd_LK_findRank_49 : decode nc_LK_findRank 49 = .ok (.iload_n 3, 1) := by decide +kernel
theorem nd_LK_findRank_50 : decode nc_LK_findRank 50 = .ok (.invokevirtual 43, 3) := by decide +kernel
theorem nd_LK_findRank_53 : decode nc_LK_findRank 53 = .ok (.ifCond .eq 6, 3) := by decide +kernel
theorem nd_LK_findRank_56 : decode nc_LK_findRank 56 = .ok (.iinc 2 1, 3) := by decide +kernel
theorem nd_LK_findRank_59 : decode nc_LK_findRank 59 = .ok (.iinc 3 1, 3) := by decide +kernel
theorem nd_LK_findRank_62 : decode nc_LK_findRank 62 = .ok (.goto (-36), 3) := by decide +kernel
theorem nd_LK_findRank_65 : decode nc_LK_findRank 65 = .ok (.iload_n 2, 1) := by decide +kernel
theorem nd_LK_findRank_66 : decode nc_LK_findRank 66 = .ok (.ireturn, 1) := by decide +kernel
set_option maxRecDepth 20000 in
theorem lp_LK_findRank_2 {p0 : Program} {l : Launch} {e0 : Env} {R : Room} {s0 : State} {m : MethodId} {args : Array Value} {below : List Frame} {meth : Method} {c : Code} {cells slots : Nat} {Q : State → Prop} {D : va_G} {A : Nat → Prop} (cI cG cM : ClassId) (l0 l1 l2 l3 n : Nat) (hn : n ≤ 10) (rp rc : Nat → Nat) (C : Nat → Nat → Int32) (p : Nat) (rr : Nat → Int32) (s : Nat)  (hx : p0.tables.exec = Jvm.exec) (hb : c.code = nc_LK_findRank) (hml : c.maxLocals = 4) (htg : ∀ w ∈ tg_, w.before args s0 = true) (hown : s0.vm.findClass ny_LK_findRank.cls = some m.cls) (hK : va_K D cl_all (ty_all cI cG cM) s0) (hN : tn_K s0) (hA : ∀ q : Nat, s0.heap.size ≤ q → A q) (hRf : 3 ≤ R.frames) (hRl : 68 ≤ R.locals) (hCS : cells ≤ R.cells ∧ slots ≤ R.slots) (kx : ∀ (ls : Array Slot) (H : Heap) (locs : List Loc) (P : Nat → Nat → Int32), (∀ l, l < 4 → P l l = nI 0) → lv_has ls 4 [(0, .ref l0), (1, .int (nI (s)))] → va_P D cl_all ([(l0, .inr (5, [.ref l3, .ref l1, .ref l2, .int (nI (p))])), (l1, .inl (cG, 4, .inr (.inr (.inr (.inr (fun i => if i < 4 then some (rp i) else none)))))), (l2, .inl (cI, 4, .inl rr)), (l3, .inl (cG, n, .inr (.inr (.inr (.inr (fun i => if i < n then some (rc i) else none))))))] ++ (rw_R cI 4 rp P 4 ++ (rw_R cI 4 rc C n ++ []))) H → va_D A ([(l0, .inr (5, [.ref l3, .ref l1, .ref l2, .int (nI (p))])), (l1, .inl (cG, 4, .inr (.inr (.inr (.inr (fun i => if i < 4 then some (rp i) else none)))))), (l2, .inl (cI, 4, .inl rr)), (l3, .inl (cG, n, .inr (.inr (.inr (.inr (fun i => if i < n then some (rc i) else none))))))] ++ (rw_R cI 4 rp P 4 ++ (rw_R cI 4 rc C n ++ []))) → va_S A s0.heap H locs → W p0 l e0 R s0 m args below meth c H locs cells slots Q (F0 m 22 ls [])) : ∀ (f : Nat) (i : Nat) (P : Nat → Nat → Int32) (ls : Array Slot) (H : Heap) (locs : List Loc), 4 - i < f → (i ≤ 4) → (∀ l, l < i → P l l = nI 0) → lv_has ls 4 [(2, .int (nI (i))), (0, .ref l0), (1, .int (nI (s)))] → va_P D cl_all ([(l0, .inr (5, [.ref l3, .ref l1, .ref l2, .int (nI (p))])), (l1, .inl (cG, 4, .inr (.inr (.inr (.inr (fun i => if i < 4 then some (rp i) else none)))))), (l2, .inl (cI, 4, .inl rr)), (l3, .inl (cG, n, .inr (.inr (.inr (.inr (fun i => if i < n then some (rc i) else none))))))] ++ (rw_R cI 4 rp P 4 ++ (rw_R cI 4 rc C n ++ []))) H → va_D A ([(l0, .inr (5, [.ref l3, .ref l1, .ref l2, .int (nI (p))])), (l1, .inl (cG, 4, .inr (.inr (.inr (.inr (fun i => if i < 4 then some (rp i) else none)))))), (l2, .inl (cI, 4, .inl rr)), (l3, .inl (cG, n, .inr (.inr (.inr (.inr (fun i => if i < n then some (rc i) else none))))))] ++ (rw_R cI 4 rp P 4 ++ (rw_R cI 4 rc C n ++ []))) → va_S A s0.heap H locs → W p0 l e0 R s0 m args below meth c H locs cells slots Q (F0 m 2 ls []) := by
  intro f
  induction f with
  | zero => intro i P ls H locs hfu; omega
  | succ f ih =>
    intro i P ls H locs hfu hi hz hl hP hD hS
    refine lv_iload_n hx hb nd_LK_findRank_2 rfl (lv_at hl 0 rfl) ?_
    refine wi_ic hx hb (a := 4) nd_LK_findRank_3 ?_
    refine wi_icmp_ge (tgt := 22) hx hb (by omega) (by omega) nd_LK_findRank_4 rfl (fun hc4 => ?_) (fun hc4 => ?_)
    · have hl : lv_has ls 4 [(0, .ref l0), (1, .int (nI (s)))] := lv_sub hl [1, 2] rfl
      exact kx ls H locs P (fun l hl4 => hz l (by omega)) hl hP hD hS
    · refine lv_aload_n hx hb nd_LK_findRank_7 rfl (lv_at hl 1 rfl) ?_
      refine va_get (D := D) (C := nr_LK) (T := nt_LK) (N := 4) hx hb htg tf_LK hown hK hP 0 rfl rfl 1 (by decide) (htg _ tm_85) (fun _ h => h) rfl nd_LK_findRank_8 ?_
      refine lv_iload_n hx hb nd_LK_findRank_11 rfl (lv_at hl 0 rfl) ?_
      refine wi_aald (v := (rp i)) hx hb hK hP 1 1 rfl rfl rfl (by omega) (by omega) (if_pos (by omega)) nd_LK_findRank_12 ?_
      refine lv_iload_n hx hb nd_LK_findRank_13 rfl (lv_at hl 0 rfl) ?_
      refine wi_ic hx hb (a := 0) nd_LK_findRank_14 ?_
      refine wi_iast hx hb hK hP hD hS _ 0 (rw_atL (by omega)) rfl (by omega) (by omega) nd_LK_findRank_15 (fun H locs hP hD hS => ?_)
      rw [rw_setL (by omega)] at hP hD
      have hP : va_P D cl_all ([(l0, .inr (5, [.ref l3, .ref l1, .ref l2, .int (nI (p))])), (l1, .inl (cG, 4, .inr (.inr (.inr (.inr (fun i => if i < 4 then some (rp i) else none)))))), (l2, .inl (cI, 4, .inl rr)), (l3, .inl (cG, n, .inr (.inr (.inr (.inr (fun i => if i < n then some (rc i) else none))))))] ++ (rw_R cI 4 rp (va_up P i (upd (P i) i (nI (0)))) 4 ++ (rw_R cI 4 rc C n ++ []))) H := hP
      have hD : va_D A ([(l0, .inr (5, [.ref l3, .ref l1, .ref l2, .int (nI (p))])), (l1, .inl (cG, 4, .inr (.inr (.inr (.inr (fun i => if i < 4 then some (rp i) else none)))))), (l2, .inl (cI, 4, .inl rr)), (l3, .inl (cG, n, .inr (.inr (.inr (.inr (fun i => if i < n then some (rc i) else none))))))] ++ (rw_R cI 4 rp (va_up P i (upd (P i) i (nI (0)))) 4 ++ (rw_R cI 4 rc C n ++ []))) := hD
      refine lv_iinc (k := 0) (v := nI (i + 1)) hx hb nd_LK_findRank_16 hl rfl (wi_inc _ 1) (by decide) rfl (fun ls hl => ?_)
      have hl : lv_has ls 4 [(2, .int (nI (i + 1))), (0, .ref l0), (1, .int (nI (s)))] := hl
      refine lv_goto (tgt := 2) hx hb nd_LK_findRank_19 rfl ?_
      have hl : lv_has ls 4 [(2, .int (nI (i + 1))), (0, .ref l0), (1, .int (nI (s)))] := lv_sub hl [0, 1, 2] rfl
      exact ih (i + 1) _ ls H locs (by omega) (by omega) (fun l hl4 => if q : l = i then by subst q; rw [va_up_self]; simp [upd] else by rw [va_up_ne _ _ q]; exact hz l (by omega)) hl hP hD hS
set_option maxRecDepth 20000 in
theorem lp_LK_findRank_26 {p0 : Program} {l : Launch} {e0 : Env} {R : Room} {s0 : State} {m : MethodId} {args : Array Value} {below : List Frame} {meth : Method} {c : Code} {cells slots : Nat} {Q : State → Prop} {D : va_G} {A : Nat → Prop} (cI cG cM : ClassId) (l0 l1 l2 l3 n : Nat) (hn : n ≤ 10) (rp rc : Nat → Nat) (C : Nat → Nat → Int32) (p : Nat) (hp : p = 2 ∨ p = 3 ∨ p = 5 ∨ p = 7) (s : Nat) (hs : s < 1024) (hcol : ∀ e, e < n → ∀ i, i < 4 → 0 ≤ (C e i).toInt ∧ (C e i).toInt < (p : Int))  (hx : p0.tables.exec = Jvm.exec) (hb : c.code = nc_LK_findRank) (hml : c.maxLocals = 4) (htg : ∀ w ∈ tg_, w.before args s0 = true) (hown : s0.vm.findClass ny_LK_findRank.cls = some m.cls) (hK : va_K D cl_all (ty_all cI cG cM) s0) (hN : tn_K s0) (hA : ∀ q : Nat, s0.heap.size ≤ q → A q) (hRf : 3 ≤ R.frames) (hRl : 68 ≤ R.locals) (hCS : cells ≤ R.cells ∧ slots ≤ R.slots) (kx : ∀ (ls : Array Slot) (H : Heap) (locs : List Loc) (P : Nat → Nat → Int32) (g : Nat → Int32), lv_has ls 4 [(2, .int (nI (ml_r n (p : Int) (fun e i => (C e i).toInt) s)))] → va_P D cl_all ([(l0, .inr (5, [.ref l3, .ref l1, .ref l2, .int (nI (p))])), (l1, .inl (cG, 4, .inr (.inr (.inr (.inr (fun i => if i < 4 then some (rp i) else none)))))), (l2, .inl (cI, 4, .inl g)), (l3, .inl (cG, n, .inr (.inr (.inr (.inr (fun i => if i < n then some (rc i) else none))))))] ++ (rw_R cI 4 rp P 4 ++ (rw_R cI 4 rc C n ++ []))) H → va_D A ([(l0, .inr (5, [.ref l3, .ref l1, .ref l2, .int (nI (p))])), (l1, .inl (cG, 4, .inr (.inr (.inr (.inr (fun i => if i < 4 then some (rp i) else none)))))), (l2, .inl (cI, 4, .inl g)), (l3, .inl (cG, n, .inr (.inr (.inr (.inr (fun i => if i < n then some (rc i) else none))))))] ++ (rw_R cI 4 rp P 4 ++ (rw_R cI 4 rc C n ++ []))) → va_S A s0.heap H locs → W p0 l e0 R s0 m args below meth c H locs cells slots Q (F0 m 65 ls [])) : ∀ (f : Nat) (e : Nat) (fo : Nat) (P : Nat → Nat → Int32) (g : Nat → Int32) (ls : Array Slot) (H : Heap) (locs : List Loc), n - e < f → (e ≤ n) → (fo ≤ 4) → (ml_G n (p : Int) (fun e i => (C e i).toInt) s e (fun l i => (P l i).toInt) fo) → lv_has ls 4 [(3, .int (nI (e))), (2, .int (nI (fo))), (0, .ref l0), (1, .int (nI (s)))] → va_P D cl_all ([(l0, .inr (5, [.ref l3, .ref l1, .ref l2, .int (nI (p))])), (l1, .inl (cG, 4, .inr (.inr (.inr (.inr (fun i => if i < 4 then some (rp i) else none)))))), (l2, .inl (cI, 4, .inl g)), (l3, .inl (cG, n, .inr (.inr (.inr (.inr (fun i => if i < n then some (rc i) else none))))))] ++ (rw_R cI 4 rp P 4 ++ (rw_R cI 4 rc C n ++ []))) H → va_D A ([(l0, .inr (5, [.ref l3, .ref l1, .ref l2, .int (nI (p))])), (l1, .inl (cG, 4, .inr (.inr (.inr (.inr (fun i => if i < 4 then some (rp i) else none)))))), (l2, .inl (cI, 4, .inl g)), (l3, .inl (cG, n, .inr (.inr (.inr (.inr (fun i => if i < n then some (rc i) else none))))))] ++ (rw_R cI 4 rp P 4 ++ (rw_R cI 4 rc C n ++ []))) → va_S A s0.heap H locs → W p0 l e0 R s0 m args below meth c H locs cells slots Q (F0 m 26 ls []) := by
  intro f
  induction f with
  | zero => intro e fo P g ls H locs hfu; omega
  | succ f ih =>
    intro e fo P g ls H locs hfu he2 hfo4 hG hl hP hD hS
    refine lv_iload_n hx hb nd_LK_findRank_26 rfl (lv_at hl 0 rfl) ?_
    refine lv_aload_n hx hb nd_LK_findRank_27 rfl (lv_at hl 2 rfl) ?_
    refine va_get (D := D) (C := nr_LK) (T := nt_LK) (N := 4) hx hb htg tf_LK hown hK hP 0 rfl rfl 0 (by decide) (htg _ tm_84) (fun _ h => h) rfl nd_LK_findRank_28 ?_
    refine va_alen (v := nI (n)) hx hb hK hP 3 1 rfl rfl rfl nd_LK_findRank_31 ?_
    refine wi_icmp_ge (tgt := 65) hx hb (by omega) (by omega) nd_LK_findRank_32 rfl (fun hc32 => ?_) (fun hc32 => ?_)
    · have hl : lv_has ls 4 [(2, .int (nI (fo)))] := lv_sub hl [1] rfl
      have hen : e = n := by omega
      have hfo : fo = ml_r n (p : Int) (fun e i => (C e i).toInt) s := by obtain ⟨m0, P0, b1, b2, b3, -⟩ := hG; rw [← b3, hen]; rfl
      exact kx ls H locs P g (by rw [← hfo]; exact hl) hP hD hS
    · refine lv_iload_n hx hb nd_LK_findRank_35 rfl (lv_at hl 1 rfl) ?_
      refine wi_ic hx hb (a := 4) nd_LK_findRank_36 ?_
      refine wi_icmp_ge (tgt := 65) hx hb (by omega) (by omega) nd_LK_findRank_37 rfl (fun hc37 => ?_) (fun hc37 => ?_)
      · have hl : lv_has ls 4 [(2, .int (nI (fo)))] := lv_sub hl [1] rfl
        have hf4 : fo = 4 := by omega
        have hfo : fo = ml_r n (p : Int) (fun e i => (C e i).toInt) s := by have hG4 := ml_G_full (ml_pr_4 hp) (by omega) hcol (n - e) e (by omega) (hf4 ▸ hG); rw [show e + (n - e) = n by omega] at hG4; obtain ⟨m0, P0, b1, b2, b3, -⟩ := hG4; rw [hf4, ← b3]; rfl
        exact kx ls H locs P g (by rw [← hfo]; exact hl) hP hD hS
      · refine lv_iload_n hx hb nd_LK_findRank_40 rfl (lv_at hl 3 rfl) ?_
        refine lv_iload_n hx hb nd_LK_findRank_41 rfl (lv_at hl 0 rfl) ?_
        refine wc_SN (n := 2) hx hb hml hown htg (c_CB_has l D _ s e (by omega) (by omega)) tm_272 (tn_287 hN) tm_271 tm_1 (by decide +kernel) ⟨⟨Nat.le_trans (by decide) hRf, Nat.le_trans (by decide) hRl⟩, rfl, rfl⟩ (wa_pre wa_nil hK hN) rfl hl.1 rfl (Nat.le_of_ble_eq_true rfl) nd_LK_findRank_42 hCS ?_
        have hbt42 := mt_bt_lt s e
        refine wi_if_eq (tgt := 59) hx hb (by omega) nd_LK_findRank_45 rfl (fun hc45 => ?_) (fun hc45 => ?_)
        · refine lv_iinc (k := 0) (v := nI (e + 1)) hx hb nd_LK_findRank_59 hl rfl (wi_inc _ 1) (by decide) rfl (fun ls hl => ?_)
          have hl : lv_has ls 4 [(3, .int (nI (e + 1))), (2, .int (nI (fo))), (0, .ref l0), (1, .int (nI (s)))] := hl
          refine lv_goto (tgt := 26) hx hb nd_LK_findRank_62 rfl ?_
          have hl : lv_has ls 4 [(3, .int (nI (e + 1))), (2, .int (nI (fo))), (0, .ref l0), (1, .int (nI (s)))] := lv_sub hl [0, 1, 2, 3] rfl
          exact ih (e + 1) fo P g ls H locs (by omega) (by omega) (by omega) (ml_G_f hG (mt_bt_f.mp hc45)) hl hP hD hS
        · refine lv_aload_n hx hb nd_LK_findRank_48 rfl (lv_at hl 2 rfl) ?_
          refine lv_iload_n hx hb nd_LK_findRank_49 rfl (lv_at hl 0 rfl) ?_
          refine wd_Vi0 (C := nr_LK) (n := 1) (Y := [(l0, .inr (5, [.ref l3, .ref l1, .ref l2, .int (nI (p))])), (l1, .inl (cG, 4, .inr (.inr (.inr (.inr (fun i => if i < 4 then some (rp i) else none)))))), (l2, .inl (cI, 4, .inl g)), (l3, .inl (cG, n, .inr (.inr (.inr (.inr (fun i => if i < n then some (rc i) else none))))))] ++ (rw_R cI 4 rp P 4 ++ (rw_R cI 4 rc C n ++ []))) hx hb hml hown htg (c_LK_addsPivot l D cI cG cM l0 l1 l2 l3 n hn rp rc C p hp e (by omega) P (ml_G_he hG) g (hcol e (by omega)) _) tm_291 tm_288 tm_290 tp_5 tm_7 (by decide +kernel) ⟨⟨Nat.le_trans (by decide) hRf, Nat.le_trans (by decide) hRl⟩, rfl, rfl⟩ hP hD hS hA hK hN (va_recv (q0 := 0) (ci := 5) hK hP rfl rfl) rfl hl.1 rfl (Nat.le_of_ble_eq_true rfl) nd_LK_findRank_50 hCS (fun v50 u50 H locs hp50 hP hD hS => ?_)
          have hP : va_P D cl_all ([(l0, .inr (5, [.ref l3, .ref l1, .ref l2, .int (nI (p))])), (l1, .inl (cG, 4, .inr (.inr (.inr (.inr (fun i => if i < 4 then some (rp i) else none)))))), (l2, .inl (cI, 4, .inl u50.2)), (l3, .inl (cG, n, .inr (.inr (.inr (.inr (fun i => if i < n then some (rc i) else none))))))] ++ (rw_R cI 4 rp u50.1 4 ++ (rw_R cI 4 rc C n ++ []))) H := hP
          have hD : va_D A ([(l0, .inr (5, [.ref l3, .ref l1, .ref l2, .int (nI (p))])), (l1, .inl (cG, 4, .inr (.inr (.inr (.inr (fun i => if i < 4 then some (rp i) else none)))))), (l2, .inl (cI, 4, .inl u50.2)), (l3, .inl (cG, n, .inr (.inr (.inr (.inr (fun i => if i < n then some (rc i) else none))))))] ++ (rw_R cI 4 rp u50.1 4 ++ (rw_R cI 4 rc C n ++ []))) := hD
          refine lv_if_eq (tgt := 59) hx hb nd_LK_findRank_53 rfl (fun hc53 => ?_) (fun hc53 => ?_)
          · refine lv_iinc (k := 0) (v := nI (e + 1)) hx hb nd_LK_findRank_59 hl rfl (wi_inc _ 1) (by decide) rfl (fun ls hl => ?_)
            have hl : lv_has ls 4 [(3, .int (nI (e + 1))), (2, .int (nI (fo))), (0, .ref l0), (1, .int (nI (s)))] := hl
            refine lv_goto (tgt := 26) hx hb nd_LK_findRank_62 rfl ?_
            have hl : lv_has ls 4 [(3, .int (nI (e + 1))), (2, .int (nI (fo))), (0, .ref l0), (1, .int (nI (s)))] := lv_sub hl [0, 1, 2, 3] rfl
            rcases hp50 with ⟨w1, w2, w3⟩ | ⟨w1, w2⟩
            · exact ih (e + 1) fo u50.1 u50.2 ls H locs (by omega) (by omega) (by omega) (by rw [w2]; exact ml_G_y (ml_pr_4 hp) (by omega) hG (mt_bt_n.mp hc45) w3) hl hP hD hS
            · exact absurd (w1.symm.trans hc53) (nI_ne0 (by omega) (by omega))
          · refine lv_iinc (k := 1) (v := nI (fo + 1)) hx hb nd_LK_findRank_56 hl rfl (wi_inc _ 1) (by decide) rfl (fun ls hl => ?_)
            have hl : lv_has ls 4 [(2, .int (nI (fo + 1))), (3, .int (nI (e))), (0, .ref l0), (1, .int (nI (s)))] := hl
            refine lv_iinc (k := 1) (v := nI (e + 1)) hx hb nd_LK_findRank_59 hl rfl (wi_inc _ 1) (by decide) rfl (fun ls hl => ?_)
            have hl : lv_has ls 4 [(3, .int (nI (e + 1))), (2, .int (nI (fo + 1))), (0, .ref l0), (1, .int (nI (s)))] := hl
            refine lv_goto (tgt := 26) hx hb nd_LK_findRank_62 rfl ?_
            have hl : lv_has ls 4 [(3, .int (nI (e + 1))), (2, .int (nI (fo + 1))), (0, .ref l0), (1, .int (nI (s)))] := lv_sub hl [0, 1, 2, 3] rfl
            rcases hp50 with ⟨w1, w2, w3⟩ | ⟨w1, l2, rest, w2, w3, w4, w5, w6, w7⟩
            · exact absurd (w1.trans nI_0) hc53
            · exact ih (e + 1) (fo + 1) u50.1 u50.2 ls H locs (by omega) (by omega) (by omega) (ml_G_n (ml_pr_4 hp) (by omega) hG (mt_bt_n.mp hc45) w2 w3 w4 w5 w6 (fun j hj hjl i hi => by rw [w7 j hj hjl i hi])) hl hP hD hS
set_option maxRecDepth 20000 in
theorem c_LK_findRank (l : Launch) (D : va_G) (cI cG cM : ClassId)  (l0 l1 l2 l3 n : Nat) (hn : n ≤ 10) (rp rc : Nat → Nat) (C : Nat → Nat → Int32) (p : Nat) (hp : p = 2 ∨ p = 3 ∨ p = 5 ∨ p = 7) (P : Nat → Nat → Int32) (rr : Nat → Int32) (s : Nat) (hs : s < 1024) (hcol : ∀ e, e < n → ∀ i, i < 4 → 0 ≤ (C e i).toInt ∧ (C e i).toInt < (p : Int))  (sz : Nat) : wb_Mi l ny_LK_findRank nc_LK_findRank 4 (some .int) ({ frames := 3, cells := 0, slots := 0, locals := 68 }) D (ty_all cI cG cM) ([(l0, .inr (5, [.ref l3, .ref l1, .ref l2, .int (nI (p))])), (l1, .inl (cG, 4, .inr (.inr (.inr (.inr (fun i => if i < 4 then some (rp i) else none)))))), (l2, .inl (cI, 4, .inl rr)), (l3, .inl (cG, n, .inr (.inr (.inr (.inr (fun i => if i < n then some (rc i) else none))))))] ++ (rw_R cI 4 rp P 4 ++ (rw_R cI 4 rc C n ++ []))) sz [.ref l0, .int (nI (s))] (fun (v : Int32) (u : (Nat → Nat → Int32) × (Nat → Int32)) => v = nI (ml_r n (p : Int) (fun e i => (C e i).toInt) s)) (fun u : (Nat → Nat → Int32) × (Nat → Int32) => [(l0, .inr (5, [.ref l3, .ref l1, .ref l2, .int (nI (p))])), (l1, .inl (cG, 4, .inr (.inr (.inr (.inr (fun i => if i < 4 then some (rp i) else none)))))), (l2, .inl (cI, 4, .inl u.2)), (l3, .inl (cG, n, .inr (.inr (.inr (.inr (fun i => if i < n then some (rc i) else none))))))] ++ (rw_R cI 4 rp u.1 4 ++ (rw_R cI 4 rc C n ++ []))) := by
  refine wb_start (S := (Nat → Nat → Int32) × (Nat → Int32)) (by decide) (Nat.le_of_ble_eq_true rfl) ?_
  intro p0 e0 s0 m below meth c ls A hx hb hr hml htg hown hk hP hK hN hl hAe hsz hD hA
  have hl : lv_has ls 4 [(0, .ref l0), (1, .int (nI (s)))] := hl
  have hS : va_S A s0.heap s0.heap [] := va_S.rf
  have hRf : 3 ≤ ({ frames := 3, cells := 0, slots := 0, locals := 68 } : Room).frames := Nat.le_refl _
  have hRl : 68 ≤ ({ frames := 3, cells := 0, slots := 0, locals := 68 } : Room).locals := Nat.le_refl _
  have hCS : 0 ≤ ({ frames := 3, cells := 0, slots := 0, locals := 68 } : Room).cells ∧ 0 ≤ ({ frames := 3, cells := 0, slots := 0, locals := 68 } : Room).slots := ⟨Nat.zero_le _, Nat.zero_le _⟩
  refine wi_ic hx hb (a := 0) nd_LK_findRank_0 ?_
  refine lv_istore_n hx hb nd_LK_findRank_1 rfl hl (by decide) rfl (fun ls hl => ?_)
  have hl : lv_has ls 4 [(2, .int (nI (0))), (0, .ref l0), (1, .int (nI (s)))] := hl
  have hl : lv_has ls 4 [(2, .int (nI (0))), (0, .ref l0), (1, .int (nI (s)))] := lv_sub hl [0, 1, 2] rfl
  refine lp_LK_findRank_2 cI cG cM l0 l1 l2 l3 n hn rp rc C p rr s hx hb hml htg hown hK hN hA hRf hRl hCS (fun ls H locs P hz hl hP hD hS => ?_) 5 0 P ls s0.heap [] (by omega) (by omega) (fun l hl4 => by omega) hl hP hD hS
  refine wi_ic hx hb (a := 0) nd_LK_findRank_22 ?_
  refine lv_istore_n hx hb nd_LK_findRank_23 rfl hl (by decide) rfl (fun ls hl => ?_)
  have hl : lv_has ls 4 [(2, .int (nI (0))), (0, .ref l0), (1, .int (nI (s)))] := hl
  refine wi_ic hx hb (a := 0) nd_LK_findRank_24 ?_
  refine lv_istore_n hx hb nd_LK_findRank_25 rfl hl (by decide) rfl (fun ls hl => ?_)
  have hl : lv_has ls 4 [(3, .int (nI (0))), (2, .int (nI (0))), (0, .ref l0), (1, .int (nI (s)))] := hl
  have hl : lv_has ls 4 [(3, .int (nI (0))), (2, .int (nI (0))), (0, .ref l0), (1, .int (nI (s)))] := lv_sub hl [0, 1, 2, 3] rfl
  refine lp_LK_findRank_26 cI cG cM l0 l1 l2 l3 n hn rp rc C p hp s hs hcol hx hb hml htg hown hK hN hA hRf hRl hCS (fun ls H locs P g hl hP hD hS => ?_) (n + 1) 0 0 P rr ls H locs (by omega) (by omega) (by omega) (ml_G_0 (ml_pr_4 hp) _ s (fun l hl4 => by show (P l l).toInt = 0; rw [hz l hl4]; rfl)) hl hP hD hS
  refine lv_iload_n hx hb nd_LK_findRank_65 rfl (lv_at hl 0 rfl) ?_
  exact wb_iret ((P, g)) hx hb hr hk hAe (rfl) hP hD hS nd_LK_findRank_66
end
section
/-! A matroid: its world, what it stands for, its kept ranks. -/
abbrev ma_A : Type := (Nat → Nat) × (Nat → Nat) × (Nat → Nat) × (Nat → Nat)
abbrev ma_S : Type := Nat × (Nat → Int32) × (Nat → Nat → Int32) × (Nat → Nat → Int32) × (Nat → Nat → Int32) × (Nat → Nat → Int32)
abbrev ma_T : Type := Nat × Nat × (Nat → Nat) × (Nat → Nat) × (Nat → Nat) × (Nat → Nat) × Nat × (Nat → Nat → Nat)
def mw_G (cI cG : ClassId) (a : ma_A) (n : Nat) (t : ma_S) : va_W := [(a.1 7, .inr (3, [.ref (a.1 9), .ref (a.1 8)])), (a.1 8, .inl (cI, 8, .inl (t.2.2.1 4))), (a.1 9, .inl (cG, n, .inr (.inr (.inr (.inr (fun i => if i < n then some (a.2.1 i) else none))))))] ++ (rw_R cI 2 a.2.1 t.2.2.2.1 n ++ [])
def mw_L (cI cG : ClassId) (a : ma_A) (n : Nat) (t : ma_S) : va_W := [(a.1 10, .inr (5, [.ref (a.1 13), .ref (a.1 11), .ref (a.1 12), .int (t.2.1 2)])), (a.1 11, .inl (cG, 4, .inr (.inr (.inr (.inr (fun i => if i < 4 then some (a.2.2.1 i) else none)))))), (a.1 12, .inl (cI, 4, .inl (t.2.2.1 5))), (a.1 13, .inl (cG, n, .inr (.inr (.inr (.inr (fun i => if i < n then some (a.2.2.2 i) else none))))))] ++ (rw_R cI 4 a.2.2.1 t.2.2.2.2.1 4 ++ (rw_R cI 4 a.2.2.2 t.2.2.2.2.2 n ++ []))
def mw_ (cI cG : ClassId) (a : ma_A) (n : Nat) (t : ma_S) : va_W := [(a.1 0, .inr (1, [.ref (a.1 2), .ref (a.1 7), .ref (a.1 3), .ref (a.1 10), .ref (a.1 1), .int (t.2.1 0), .ref (a.1 t.1)])), (a.1 1, .inl (cI, 2 ^ n, .inl (t.2.2.1 0))), (a.1 2, .inr (2, [.int (t.2.1 1)])), (a.1 3, .inr (4, [.ref (a.1 6), .ref (a.1 4), .ref (a.1 5)])), (a.1 4, .inl (cI, 4, .inl (t.2.2.1 1))), (a.1 5, .inl (cI, 4, .inl (t.2.2.1 2))), (a.1 6, .inl (cI, n, .inl (t.2.2.1 3)))] ++ (mw_G cI cG a n t ++ mw_L cI cG a n t)
/-- the numbers of a matroid: 0 UNIFORM (k), 1 GRAPHIC (from, to), 2 CLASSES (class, cap), 3 LINEAR (p, columns) -/
def ma_v (n : Nat) (x : ma_T) : Prop := (x.1 = 0 ∧ x.2.1 ≤ 10) ∨ (x.1 = 1 ∧ ∀ i, i < n → x.2.2.1 i < 8 ∧ x.2.2.2.1 i < 8) ∨ (x.1 = 2 ∧ (∀ i, i < n → x.2.2.2.2.1 i < 4) ∧ ∀ c, c < 4 → x.2.2.2.2.2.1 c ≤ 10) ∨ (x.1 = 3 ∧ (x.2.2.2.2.2.2.1 = 2 ∨ x.2.2.2.2.2.2.1 = 3 ∨ x.2.2.2.2.2.2.1 = 5 ∨ x.2.2.2.2.2.2.1 = 7) ∧ ∀ e, e < n → ∀ i, i < 4 → x.2.2.2.2.2.2.2 e i < x.2.2.2.2.2.2.1)
noncomputable def ma_r (n : Nat) (x : ma_T) : Nat → Nat := if x.1 = 0 then mt_U n x.2.1 else if x.1 = 1 then mg_r n x.2.2.1 x.2.2.2.1 else if x.1 = 2 then mt_C n x.2.2.2.2.1 x.2.2.2.2.2.1 else ml_r n (x.2.2.2.2.2.2.1 : Int) (fun e i => (x.2.2.2.2.2.2.2 e i : Int))
def ma_ok (n : Nat) (x : ma_T) (t : ma_S) : Prop := (x.1 = 0 ∧ t.1 = 2 ∧ t.2.1 1 = nI x.2.1) ∨ (x.1 = 1 ∧ t.1 = 7 ∧ ∀ e, e < n → t.2.2.2.1 e 0 = nI (x.2.2.1 e) ∧ t.2.2.2.1 e 1 = nI (x.2.2.2.1 e)) ∨ (x.1 = 2 ∧ t.1 = 3 ∧ (∀ e, e < n → t.2.2.1 3 e = nI (x.2.2.2.2.1 e)) ∧ ∀ c, c < 4 → t.2.2.1 1 c = nI (x.2.2.2.2.2.1 c)) ∨ (x.1 = 3 ∧ t.1 = 10 ∧ t.2.1 2 = nI x.2.2.2.2.2.2.1 ∧ ∀ e, e < n → ∀ i, i < 4 → t.2.2.2.2.2 e i = nI (x.2.2.2.2.2.2.2 e i))
def ma_R (n : Nat) (r : Nat → Nat) (t : ma_S) : Prop := (∀ s, s < 2 ^ n → t.2.2.1 0 s = -1 ∨ t.2.2.1 0 s = nI (r s)) ∧ (t.2.1 0 = 0 → ∀ s, s < 2 ^ n → t.2.2.1 0 s = -1)
def ma_I (n : Nat) (x : ma_T) (t : ma_S) : Prop := ma_v n x ∧ ma_ok n x t ∧ ma_R n (ma_r n x) t
theorem ml_cl_ext {n : Nat} {p : Int} {c1 c2 : Nat → Nat → Int} (h : ∀ e, e < n → ∀ i, i < 4 → c1 e i = c2 e i) {s e : Nat} (he : e < n) : ml_cl n p c1 s e ↔ ml_cl n p c2 s e := by
  have d : ∀ (f : Nat → Int) (e : Nat), e < n → ml_dt f (c1 e) = ml_dt f (c2 e) := fun f e he => by
    unfold ml_dt
    rw [h e he 0 (by omega), h e he 1 (by omega), h e he 2 (by omega), h e he 3 (by omega)]
  constructor
  · intro hc f hf
    rw [← d f e he]
    exact hc f (fun i hi hb => by rw [d f i hi]; exact hf i hi hb)
  · intro hc f hf
    rw [d f e he]
    exact hc f (fun i hi hb => by rw [← d f i hi]; exact hf i hi hb)
theorem ml_r_ext {n : Nat} {p : Int} {c1 c2 : Nat → Nat → Int} (h : ∀ e, e < n → ∀ i, i < 4 → c1 e i = c2 e i) (s : Nat) : ml_r n p c1 s = ml_r n p c2 s := by
  have key : ∀ k, k ≤ n → ml_gk (ml_cl n p c1) k s = ml_gk (ml_cl n p c2) k s := by
    intro k
    induction k with
    | zero => intro _; rfl
    | succ k ih =>
      intro hk
      have h1 := ih (by omega)
      have h2 := ml_cl_ext (p := p) h (s := s % 2 ^ k) (show k < n by omega)
      cases hb : s.testBit k with
      | false => rw [ml_gk_f hb, ml_gk_f hb, h1]
      | true =>
        by_cases q : ml_cl n p c1 (s % 2 ^ k) k
        · rw [ml_gk_y q, ml_gk_y (h2.mp q), h1]
        · rw [ml_gk_n hb q, ml_gk_n hb (fun z => q (h2.mpr z)), h1]
  exact key n (Nat.le_refl n)
theorem ma_M {n : Nat} {x : ma_T} (h : ma_v n x) : mt_M n (ma_r n x) := by
  unfold ma_r
  rcases h with ⟨q, -⟩ | ⟨q, -⟩ | ⟨q, h, -⟩ | ⟨q, h, -⟩
  · simp only [q, if_true]; exact mt_U_M n _
  · simp only [q]; exact mg_r_M n _ _
  · simp only [q]; exact mt_C_M h
  · simp only [q]; exact ml_r_M (ml_pr_4 h) _
theorem nd_MA_forgetRanks_0 : decode nc_MA_forgetRanks 0 = .ok (.aload_n 0, 1) := by decide +kernel
theorem nd_MA_forgetRanks_1 : decode nc_MA_forgetRanks 1 = .ok (.getfield 100, 3) := by decide +kernel
theorem nd_MA_forgetRanks_4 : decode nc_MA_forgetRanks 4 = .ok (.ifCond .eq 16, 3) := by decide +kernel
theorem nd_MA_forgetRanks_7 : decode nc_MA_forgetRanks 7 = .ok (.aload_n 0, 1) := by decide +kernel
theorem nd_MA_forgetRanks_8 : decode nc_MA_forgetRanks 8 = .ok (.getfield 41, 3) := by decide +kernel
theorem nd_MA_forgetRanks_11 : decode nc_MA_forgetRanks 11 = .ok (.iconst (-1), 1) := by decide +kernel
theorem nd_MA_forgetRanks_12 : decode nc_MA_forgetRanks 12 = .ok (.invokestatic 45, 3) := by decide +kernel
theorem nd_MA_forgetRanks_15 : decode nc_MA_forgetRanks 15 = .ok (.aload_n 0, 1) := by decide +kernel
theorem nd_MA_forgetRanks_16 : decode nc_MA_forgetRanks 16 = .ok (.iconst 0, 1) := by decide +kernel
theorem nd_MA_forgetRanks_17 : decode nc_MA_forgetRanks 17 = .ok (.putfield 100, 3) := by decide +kernel
theorem nd_MA_forgetRanks_20 : decode nc_MA_forgetRanks 20 = .ok (.return_, 1) := by decide +kernel
set_option maxRecDepth 20000 in
theorem c_MA_forgetRanks (l : Launch) (D : va_G) (cI cG cM : ClassId)  (a : ma_A) (n : Nat) (hn : n ≤ 10) (kd : Nat) (kept : Int32) (rk : Nat → Int32) (hr0 : kept = 0 → ∀ s, s < 2 ^ n → rk s = -1) (sz : Nat) : wb_Mv l ny_MA_forgetRanks nc_MA_forgetRanks 1 ({ frames := 1, cells := 0, slots := 0, locals := 23 }) D (ty_all cI cG cM) ([((a.1 0), .inr (1, [.ref (a.1 2), .ref (a.1 7), .ref (a.1 3), .ref (a.1 10), .ref (a.1 1), .int (kept), .ref (a.1 kd)])), ((a.1 1), .inl (cI, 2 ^ n, .inl rk))]) sz [.ref (a.1 0)] (fun u : Int32 × (Nat → Int32) => u.1 = 0 ∧ ∀ s, s < 2 ^ n → u.2 s = -1) (fun u : Int32 × (Nat → Int32) => [((a.1 0), .inr (1, [.ref (a.1 2), .ref (a.1 7), .ref (a.1 3), .ref (a.1 10), .ref (a.1 1), .int (u.1), .ref (a.1 kd)])), ((a.1 1), .inl (cI, 2 ^ n, .inl u.2))]) := by
  refine wb_start (S := Int32 × (Nat → Int32)) (by decide) (Nat.le_of_ble_eq_true rfl) ?_
  intro p e0 s0 m below meth c ls A hx hb hr hml htg hown hk hP hK hN hl hAe hsz hD hA
  have hl : lv_has ls 1 [(0, .ref (a.1 0))] := hl
  have hS : va_S A s0.heap s0.heap [] := va_S.rf
  have hRf : 1 ≤ ({ frames := 1, cells := 0, slots := 0, locals := 23 } : Room).frames := Nat.le_refl _
  have hRl : 23 ≤ ({ frames := 1, cells := 0, slots := 0, locals := 23 } : Room).locals := Nat.le_refl _
  have hCS : 0 ≤ ({ frames := 1, cells := 0, slots := 0, locals := 23 } : Room).cells ∧ 0 ≤ ({ frames := 1, cells := 0, slots := 0, locals := 23 } : Room).slots := ⟨Nat.zero_le _, Nat.zero_le _⟩
  have h2n : 2 ^ n ≤ 1024 := Nat.pow_le_pow_right (by omega) hn
  refine lv_aload_n hx hb nd_MA_forgetRanks_0 rfl (lv_at hl 0 rfl) ?_
  refine va_get (D := D) (C := nr_MA) (T := nt_MA) (N := 7) hx hb htg tf_MA hown hK hP 0 rfl rfl 5 (by decide) (htg _ tm_105) (fun _ h => h) rfl nd_MA_forgetRanks_1 ?_
  refine lv_if_eq (tgt := 20) hx hb nd_MA_forgetRanks_4 rfl (fun hc4 => ?_) (fun hc4 => ?_)
  · exact wb_vret ((kept, rk)) hx hb hr hk hAe (⟨hc4, hr0 hc4⟩) hP hD hS nd_MA_forgetRanks_20
  · refine lv_aload_n hx hb nd_MA_forgetRanks_7 rfl (lv_at hl 0 rfl) ?_
    refine va_get (D := D) (C := nr_MA) (T := nt_MA) (N := 7) hx hb htg tf_MA hown hK hP 0 rfl rfl 4 (by decide) (htg _ tm_104) (fun _ h => h) rfl nd_MA_forgetRanks_8 ?_
    refine lv_iconst (v := -1) hx hb nd_MA_forgetRanks_11 (by decide) ?_
    refine wd_Sv (n := 2) (X := [((a.1 0), .inr (1, [.ref (a.1 2), .ref (a.1 7), .ref (a.1 3), .ref (a.1 10), .ref (a.1 1), .int (kept), .ref (a.1 kd)]))]) (Y := [((a.1 1), .inl (cI, 2 ^ n, .inl rk))]) (Z := []) hx hb hml hown htg (c_AR_fill l D cI cG cM (a.1 1) (2 ^ n) (by omega) rk ((-1)) _) tm_99 tm_97 tm_98 tm_8 (by decide +kernel) ⟨⟨Nat.le_trans (by decide) hRf, Nat.le_trans (by decide) hRl⟩, rfl, rfl⟩ hP hD hS hA hK hN rfl hl.1 rfl (Nat.le_of_ble_eq_true rfl) nd_MA_forgetRanks_12 hCS (fun u12 H locs hp12 hP hD hS => ?_)
    have hP : va_P D cl_all ([((a.1 0), .inr (1, [.ref (a.1 2), .ref (a.1 7), .ref (a.1 3), .ref (a.1 10), .ref (a.1 1), .int (kept), .ref (a.1 kd)])), ((a.1 1), .inl (cI, 2 ^ n, .inl u12))]) H := hP
    have hD : va_D A ([((a.1 0), .inr (1, [.ref (a.1 2), .ref (a.1 7), .ref (a.1 3), .ref (a.1 10), .ref (a.1 1), .int (kept), .ref (a.1 kd)])), ((a.1 1), .inl (cI, 2 ^ n, .inl u12))]) := hD
    refine lv_aload_n hx hb nd_MA_forgetRanks_15 rfl (lv_at hl 0 rfl) ?_
    refine wi_ic hx hb (a := 0) nd_MA_forgetRanks_16 ?_
    refine va_put (D := D) (C := nr_MA) (T := nt_MA) (N := 7) hx hb htg tf_MA nu_MA no_MA nn_MA hown hK hP hD hS 0 rfl rfl 5 (by decide) (htg _ tm_105) (fun _ h => h) rfl rfl rfl rfl (Nat.le_of_ble_eq_true rfl) nd_MA_forgetRanks_17 (fun H locs hP hD hS => ?_)
    have hP : va_P D cl_all ([((a.1 0), .inr (1, [.ref (a.1 2), .ref (a.1 7), .ref (a.1 3), .ref (a.1 10), .ref (a.1 1), .int (nI (0)), .ref (a.1 kd)])), ((a.1 1), .inl (cI, 2 ^ n, .inl u12))]) H := hP
    have hD : va_D A ([((a.1 0), .inr (1, [.ref (a.1 2), .ref (a.1 7), .ref (a.1 3), .ref (a.1 10), .ref (a.1 1), .int (nI (0)), .ref (a.1 kd)])), ((a.1 1), .inl (cI, 2 ^ n, .inl u12))]) := hD
    exact wb_vret ((nI 0, u12)) hx hb hr hk hAe (⟨nI_0, hp12⟩) hP hD hS nd_MA_forgetRanks_20
theorem nd_MA_become_0 : decode nc_MA_become 0 = .ok (.aload_n 0, 1) := by decide +kernel
theorem nd_MA_become_1 : decode nc_MA_become 1 = .ok (.aload_n 1, 1) := by decide +kernel
theorem nd_MA_become_2 : decode nc_MA_become 2 = .ok (.putfield 51, 3) := by decide +kernel
theorem nd_MA_become_5 : decode nc_MA_become 5 = .ok (.aload_n 0, 1) := by decide +kernel
theorem nd_MA_become_6 : decode nc_MA_become 6 = .ok (.invokevirtual 73, 3) := by decide +kernel
theorem nd_MA_become_9 : decode nc_MA_become 9 = .ok (.return_, 1) := by decide +kernel
set_option maxRecDepth 20000 in
theorem c_MA_become (l : Launch) (D : va_G) (cI cG cM : ClassId)  (a : ma_A) (n : Nat) (hn : n ≤ 10) (kd kd2 : Nat) (kept : Int32) (rk : Nat → Int32) (hr0 : kept = 0 → ∀ s, s < 2 ^ n → rk s = -1) (sz : Nat) : wb_Mv l ny_MA_become nc_MA_become 2 ({ frames := 2, cells := 0, slots := 0, locals := 43 }) D (ty_all cI cG cM) ([((a.1 0), .inr (1, [.ref (a.1 2), .ref (a.1 7), .ref (a.1 3), .ref (a.1 10), .ref (a.1 1), .int (kept), .ref (a.1 kd)])), ((a.1 1), .inl (cI, 2 ^ n, .inl rk))]) sz [.ref (a.1 0), .ref (a.1 kd2)] (fun u : Int32 × (Nat → Int32) => u.1 = 0 ∧ ∀ s, s < 2 ^ n → u.2 s = -1) (fun u : Int32 × (Nat → Int32) => [((a.1 0), .inr (1, [.ref (a.1 2), .ref (a.1 7), .ref (a.1 3), .ref (a.1 10), .ref (a.1 1), .int (u.1), .ref (a.1 kd2)])), ((a.1 1), .inl (cI, 2 ^ n, .inl u.2))]) := by
  refine wb_start (S := Int32 × (Nat → Int32)) (by decide) (Nat.le_of_ble_eq_true rfl) ?_
  intro p e0 s0 m below meth c ls A hx hb hr hml htg hown hk hP hK hN hl hAe hsz hD hA
  have hl : lv_has ls 2 [(0, .ref (a.1 0)), (1, .ref (a.1 kd2))] := hl
  have hS : va_S A s0.heap s0.heap [] := va_S.rf
  have hRf : 2 ≤ ({ frames := 2, cells := 0, slots := 0, locals := 43 } : Room).frames := Nat.le_refl _
  have hRl : 43 ≤ ({ frames := 2, cells := 0, slots := 0, locals := 43 } : Room).locals := Nat.le_refl _
  have hCS : 0 ≤ ({ frames := 2, cells := 0, slots := 0, locals := 43 } : Room).cells ∧ 0 ≤ ({ frames := 2, cells := 0, slots := 0, locals := 43 } : Room).slots := ⟨Nat.zero_le _, Nat.zero_le _⟩
  have h2n : 2 ^ n ≤ 1024 := Nat.pow_le_pow_right (by omega) hn
  refine lv_aload_n hx hb nd_MA_become_0 rfl (lv_at hl 0 rfl) ?_
  refine lv_aload_n hx hb nd_MA_become_1 rfl (lv_at hl 1 rfl) ?_
  refine va_put (D := D) (C := nr_MA) (T := nt_MA) (N := 7) hx hb htg tf_MA nu_MA no_MA nn_MA hown hK hP hD hS 0 rfl rfl 6 (by decide) (htg _ tm_106) (fun _ h => h) rfl rfl rfl rfl (Nat.le_of_ble_eq_true rfl) nd_MA_become_2 (fun H locs hP hD hS => ?_)
  have hP : va_P D cl_all ([((a.1 0), .inr (1, [.ref (a.1 2), .ref (a.1 7), .ref (a.1 3), .ref (a.1 10), .ref (a.1 1), .int (kept), .ref (a.1 kd2)])), ((a.1 1), .inl (cI, 2 ^ n, .inl rk))]) H := hP
  have hD : va_D A ([((a.1 0), .inr (1, [.ref (a.1 2), .ref (a.1 7), .ref (a.1 3), .ref (a.1 10), .ref (a.1 1), .int (kept), .ref (a.1 kd2)])), ((a.1 1), .inl (cI, 2 ^ n, .inl rk))]) := hD
  refine lv_aload_n hx hb nd_MA_become_5 rfl (lv_at hl 0 rfl) ?_
  refine wd_Vv (C := nr_MA) (n := 0) (X := []) (Y := [((a.1 0), .inr (1, [.ref (a.1 2), .ref (a.1 7), .ref (a.1 3), .ref (a.1 10), .ref (a.1 1), .int (kept), .ref (a.1 kd2)])), ((a.1 1), .inl (cI, 2 ^ n, .inl rk))]) (Z := []) hx hb hml hown htg (c_MA_forgetRanks l D cI cG cM a n hn kd2 kept rk hr0 _) tm_156 tm_153 tm_155 tp_1 tm_2 (by decide +kernel) ⟨⟨Nat.le_trans (by decide) hRf, Nat.le_trans (by decide) hRl⟩, rfl, rfl⟩ hP hD hS hA hK hN (va_recv (q0 := 0) (ci := 1) hK hP rfl rfl) rfl hl.1 rfl (Nat.le_of_ble_eq_true rfl) nd_MA_become_6 hCS (fun u6 H locs hp6 hP hD hS => ?_)
  have hP : va_P D cl_all ([((a.1 0), .inr (1, [.ref (a.1 2), .ref (a.1 7), .ref (a.1 3), .ref (a.1 10), .ref (a.1 1), .int (u6.1), .ref (a.1 kd2)])), ((a.1 1), .inl (cI, 2 ^ n, .inl u6.2))]) H := hP
  have hD : va_D A ([((a.1 0), .inr (1, [.ref (a.1 2), .ref (a.1 7), .ref (a.1 3), .ref (a.1 10), .ref (a.1 1), .int (u6.1), .ref (a.1 kd2)])), ((a.1 1), .inl (cI, 2 ^ n, .inl u6.2))]) := hD
  exact wb_vret (u6) hx hb hr hk hAe (hp6) hP hD hS nd_MA_become_9
end
section
/-! A matroid: rankOf, isIndependent. -/
theorem ma_r0 {n : Nat} {x : ma_T} (h : x.1 = 0) : ma_r n x = mt_U n x.2.1 := by unfold ma_r; rw [if_pos h]
theorem ma_r1 {n : Nat} {x : ma_T} (h : x.1 = 1) : ma_r n x = mg_r n x.2.2.1 x.2.2.2.1 := by unfold ma_r; rw [if_neg (by omega), if_pos h]
theorem ma_r2 {n : Nat} {x : ma_T} (h : x.1 = 2) : ma_r n x = mt_C n x.2.2.2.2.1 x.2.2.2.2.2.1 := by unfold ma_r; rw [if_neg (by omega), if_neg (by omega), if_pos h]
theorem ma_r3 {n : Nat} {x : ma_T} (h : x.1 = 3) : ma_r n x = ml_r n (x.2.2.2.2.2.2.1 : Int) (fun e i => (x.2.2.2.2.2.2.2 e i : Int)) := by unfold ma_r; rw [if_neg (by omega), if_neg (by omega), if_neg (by omega)]
theorem ma_put {n : Nat} {r : Nat → Nat} {f : Nat → Int32} {s : Nat} (h : ∀ s, s < 2 ^ n → f s = -1 ∨ f s = nI (r s)) : ∀ s', s' < 2 ^ n → upd f s (nI (r s)) s' = -1 ∨ upd f s (nI (r s)) s' = nI (r s') := fun s' hs' => by
  by_cases q : s' = s
  · subst q; right; simp [upd]
  · simp only [upd, q, if_false]; exact h s' hs'
theorem mw_rot (F G L : va_W) : F ++ (G ++ L) = (F ++ G) ++ (L ++ []) := by simp
theorem mw_Lp {cI cG : ClassId} {a : ma_A} {n : Nat} {kd : Nat} {sc : Nat → Int32} {f E P C : Nat → Nat → Int32} {md : Int32} (e : sc 2 = md) : mw_L cI cG a n (kd, sc, f, E, P, C) = [(a.1 10, .inr (5, [.ref (a.1 13), .ref (a.1 11), .ref (a.1 12), .int md])), (a.1 11, .inl (cG, 4, .inr (.inr (.inr (.inr (fun i => if i < 4 then some (a.2.2.1 i) else none)))))), (a.1 12, .inl (cI, 4, .inl (f 5))), (a.1 13, .inl (cG, n, .inr (.inr (.inr (.inr (fun i => if i < n then some (a.2.2.2 i) else none))))))] ++ (rw_R cI 4 a.2.2.1 P 4 ++ (rw_R cI 4 a.2.2.2 C n ++ [])) := by
  rw [← e]; rfl
theorem nd_MA_rankOf_0 : decode nc_MA_rankOf 0 = .ok (.aload_n 0, 1) := by decide +kernel
theorem nd_MA_rankOf_1 : decode nc_MA_rankOf 1 = .ok (.getfield 41, 3) := by decide +kernel
theorem nd_MA_rankOf_4 : decode nc_MA_rankOf 4 = .ok (.iload_n 1, 1) := by decide +kernel
theorem nd_MA_rankOf_5 : decode nc_MA_rankOf 5 = .ok (.iaload, 1) := by decide +kernel
theorem nd_MA_rankOf_6 : decode nc_MA_rankOf 6 = .ok (.iconst (-1), 1) := by decide +kernel
theorem nd_MA_rankOf_7 : decode nc_MA_rankOf 7 = .ok (.if_icmp .ne 22, 3) := by decide +kernel
theorem nd_MA_rankOf_10 : decode nc_MA_rankOf 10 = .ok (.aload_n 0, 1) := by decide +kernel
theorem nd_MA_rankOf_11 : decode nc_MA_rankOf 11 = .ok (.getfield 41, 3) := by decide +kernel
theorem nd_MA_rankOf_14 : decode nc_MA_rankOf 14 = .ok (.iload_n 1, 1) := by decide +kernel
theorem nd_MA_rankOf_15 : decode nc_MA_rankOf 15 = .ok (.aload_n 0, 1) := by decide +kernel
theorem nd_MA_rankOf_16 : decode nc_MA_rankOf 16 = .ok (.getfield 51, 3) := by decide +kernel
theorem nd_MA_rankOf_19 : decode nc_MA_rankOf 19 = .ok (.iload_n 1, 1) := by decide +kernel
theorem nd_MA_rankOf_20 : decode nc_MA_rankOf 20 = .ok (.invokevirtual 95, 3) := by decide +kernel
theorem nd_MA_rankOf_23 : decode nc_MA_rankOf 23 = .ok (.iastore, 1) := by decide +kernel
theorem nd_MA_rankOf_24 : decode nc_MA_rankOf 24 = .ok (.aload_n 0, 1) := by decide +kernel
theorem nd_MA_rankOf_25 : decode nc_MA_rankOf 25 = .ok (.iconst 1, 1) := by decide +kernel
theorem nd_MA_rankOf_26 : decode nc_MA_rankOf 26 = .ok (.putfield 100, 3) := by decide +kernel
theorem nd_MA_rankOf_29 : decode nc_MA_rankOf 29 = .ok (.aload_n 0, 1) := by decide +kernel
theorem nd_MA_rankOf_30 : decode nc_MA_rankOf 30 = .ok (.getfield 41, 3) := by decide +kernel
theorem nd_MA_rankOf_33 : decode nc_MA_rankOf 33 = .ok (.iload_n 1, 1) := by decide +kernel
theorem nd_MA_rankOf_34 : decode nc_MA_rankOf 34 = .ok (.iaload, 1) := by decide +kernel
theorem nd_MA_rankOf_35 : decode nc_MA_rankOf 35 = .ok (.ireturn, 1) := by decide +kernel
set_option maxRecDepth 20000 in
theorem c_MA_rankOf (l : Launch) (D : va_G) (cI cG cM : ClassId)  (a : ma_A) (n : Nat) (hn : n ≤ 10) (kd : Nat) (sc : Nat → Int32) (f E P C : Nat → Nat → Int32) (x : ma_T) (hI : ma_I n x (kd, sc, f, E, P, C)) (s : Nat) (hs : s < 2 ^ n) (sz : Nat) : wb_Mi l ny_MA_rankOf nc_MA_rankOf 2 (some .int) ({ frames := 4, cells := 0, slots := 0, locals := 91 }) D (ty_all cI cG cM) (mw_ cI cG a n (kd, sc, f, E, P, C)) sz [.ref (a.1 0), .int (nI (s))] (fun (v : Int32) (u : ma_S) => v = nI (ma_r n x s) ∧ ma_I n x u) (fun u : ma_S => mw_ cI cG a n u) := by
  refine wb_start (S := ma_S) (by decide) (Nat.le_of_ble_eq_true rfl) ?_
  intro p e0 s0 m below meth c ls A hx hb hr hml htg hown hk hP hK hN hl hAe hsz hD hA
  have hl : lv_has ls 2 [(0, .ref (a.1 0)), (1, .int (nI (s)))] := hl
  have hP : va_P D cl_all ([((a.1 0), .inr (1, [.ref (a.1 2), .ref (a.1 7), .ref (a.1 3), .ref (a.1 10), .ref (a.1 1), .int (sc 0), .ref (a.1 kd)])), ((a.1 1), .inl (cI, 2 ^ n, .inl (f 0))), ((a.1 2), .inr (2, [.int (sc 1)])), ((a.1 3), .inr (4, [.ref (a.1 6), .ref (a.1 4), .ref (a.1 5)])), ((a.1 4), .inl (cI, 4, .inl (f 1))), ((a.1 5), .inl (cI, 4, .inl (f 2))), ((a.1 6), .inl (cI, n, .inl (f 3)))] ++ (mw_G cI cG a n (kd, sc, f, E, P, C) ++ mw_L cI cG a n (kd, sc, f, E, P, C))) s0.heap := hP
  have hD : va_D A ([((a.1 0), .inr (1, [.ref (a.1 2), .ref (a.1 7), .ref (a.1 3), .ref (a.1 10), .ref (a.1 1), .int (sc 0), .ref (a.1 kd)])), ((a.1 1), .inl (cI, 2 ^ n, .inl (f 0))), ((a.1 2), .inr (2, [.int (sc 1)])), ((a.1 3), .inr (4, [.ref (a.1 6), .ref (a.1 4), .ref (a.1 5)])), ((a.1 4), .inl (cI, 4, .inl (f 1))), ((a.1 5), .inl (cI, 4, .inl (f 2))), ((a.1 6), .inl (cI, n, .inl (f 3)))] ++ (mw_G cI cG a n (kd, sc, f, E, P, C) ++ mw_L cI cG a n (kd, sc, f, E, P, C))) := hD
  have hS : va_S A s0.heap s0.heap [] := va_S.rf
  have hRf : 4 ≤ ({ frames := 4, cells := 0, slots := 0, locals := 91 } : Room).frames := Nat.le_refl _
  have hRl : 91 ≤ ({ frames := 4, cells := 0, slots := 0, locals := 91 } : Room).locals := Nat.le_refl _
  have hCS : 0 ≤ ({ frames := 4, cells := 0, slots := 0, locals := 91 } : Room).cells ∧ 0 ≤ ({ frames := 4, cells := 0, slots := 0, locals := 91 } : Room).slots := ⟨Nat.zero_le _, Nat.zero_le _⟩
  have h2n : 2 ^ n ≤ 1024 := Nat.pow_le_pow_right (by omega) hn
  refine lv_aload_n hx hb nd_MA_rankOf_0 rfl (lv_at hl 0 rfl) ?_
  refine va_get (D := D) (C := nr_MA) (T := nt_MA) (N := 7) hx hb htg tf_MA hown hK hP 0 rfl rfl 4 (by decide) (htg _ tm_104) (fun _ h => h) rfl nd_MA_rankOf_1 ?_
  refine lv_iload_n hx hb nd_MA_rankOf_4 rfl (lv_at hl 1 rfl) ?_
  refine wi_iald hx hb hK hP 1 0 rfl rfl (by omega) (by omega) nd_MA_rankOf_5 ?_
  refine lv_iconst (v := -1) hx hb nd_MA_rankOf_6 (by decide) ?_
  refine lv_icmp_ne (tgt := 29) hx hb nd_MA_rankOf_7 rfl (fun hc7 => ?_) (fun hc7 => ?_)
  · refine lv_aload_n hx hb nd_MA_rankOf_29 rfl (lv_at hl 0 rfl) ?_
    refine va_get (D := D) (C := nr_MA) (T := nt_MA) (N := 7) hx hb htg tf_MA hown hK hP 0 rfl rfl 4 (by decide) (htg _ tm_104) (fun _ h => h) rfl nd_MA_rankOf_30 ?_
    refine lv_iload_n hx hb nd_MA_rankOf_33 rfl (lv_at hl 1 rfl) ?_
    refine wi_iald hx hb hK hP 1 0 rfl rfl (by omega) (by omega) nd_MA_rankOf_34 ?_
    exact wb_iret ((kd, sc, f, E, P, C)) hx hb hr hk hAe (⟨((hI.2.2.1 s hs).resolve_left hc7), hI⟩) hP hD hS nd_MA_rankOf_35
  · refine lv_aload_n hx hb nd_MA_rankOf_10 rfl (lv_at hl 0 rfl) ?_
    refine va_get (D := D) (C := nr_MA) (T := nt_MA) (N := 7) hx hb htg tf_MA hown hK hP 0 rfl rfl 4 (by decide) (htg _ tm_104) (fun _ h => h) rfl nd_MA_rankOf_11 ?_
    refine lv_iload_n hx hb nd_MA_rankOf_14 rfl (lv_at hl 1 rfl) ?_
    refine lv_aload_n hx hb nd_MA_rankOf_15 rfl (lv_at hl 0 rfl) ?_
    refine va_get (D := D) (C := nr_MA) (T := nt_MA) (N := 7) hx hb htg tf_MA hown hK hP 0 rfl rfl 6 (by decide) (htg _ tm_106) (fun _ h => h) rfl nd_MA_rankOf_16 ?_
    refine lv_iload_n hx hb nd_MA_rankOf_19 rfl (lv_at hl 1 rfl) ?_
    rcases hI.2.1 with ⟨hq, hkd, ho⟩ | ⟨hq, hkd, ho⟩ | ⟨hq, hkd, ho, ho2⟩ | ⟨hq, hkd, ho, ho2⟩
    · have hkd : kd = 2 := hkd
      subst hkd
      have ho : sc 1 = nI x.2.1 := ho
      have hv : x.2.1 ≤ 10 := by rcases hI.1 with ⟨q, q2⟩ | ⟨q, -⟩ | ⟨q, -⟩ | ⟨q, -⟩ <;> first | exact q2 | omega
      rw [ho] at hP hD
      refine wd_Ai (C := nr_UK) (owner := nr_KI) (x := ny_KI_findRank) (n := 1) (X := [((a.1 0), .inr (1, [.ref (a.1 2), .ref (a.1 7), .ref (a.1 3), .ref (a.1 10), .ref (a.1 1), .int (sc 0), .ref (a.1 2)])), ((a.1 1), .inl (cI, 2 ^ n, .inl (f 0)))]) (Y := [((a.1 2), .inr (2, [.int (nI (x.2.1))]))]) (Z := [((a.1 3), .inr (4, [.ref (a.1 6), .ref (a.1 4), .ref (a.1 5)])), ((a.1 4), .inl (cI, 4, .inl (f 1))), ((a.1 5), .inl (cI, 4, .inl (f 2))), ((a.1 6), .inl (cI, n, .inl (f 3)))] ++ (mw_G cI cG a n (2, sc, f, E, P, C) ++ mw_L cI cG a n (2, sc, f, E, P, C))) hx hb hml hown htg (c_UK_findRank l D cI cG cM (a.1 2) x.2.1 (by omega) s (by omega) _) tm_301 tm_264 tm_266 tm_300 tm_299 tm_4 (tn_265 hN) (by decide +kernel) ⟨⟨Nat.le_trans (by decide) hRf, Nat.le_trans (by decide) hRl⟩, rfl, rfl⟩ hP hD hS hA hK hN (va_recv (q0 := 2) (ci := 2) hK hP rfl rfl) rfl hl.1 rfl (Nat.le_of_ble_eq_true rfl) nd_MA_rankOf_20 hCS (fun v20 u20 H locs hp20 hP hD hS => ?_)
      have hrv : v20 = nI (ma_r n x s) := by rw [hp20, ma_r0 hq, bs_cd10 hn hs]; rfl
      rw [← ho] at hP hD
      have hP : va_P D cl_all ([((a.1 0), .inr (1, [.ref (a.1 2), .ref (a.1 7), .ref (a.1 3), .ref (a.1 10), .ref (a.1 1), .int (sc 0), .ref (a.1 2)])), ((a.1 1), .inl (cI, 2 ^ n, .inl (f 0))), ((a.1 2), .inr (2, [.int (sc 1)])), ((a.1 3), .inr (4, [.ref (a.1 6), .ref (a.1 4), .ref (a.1 5)])), ((a.1 4), .inl (cI, 4, .inl (f 1))), ((a.1 5), .inl (cI, 4, .inl (f 2))), ((a.1 6), .inl (cI, n, .inl (f 3)))] ++ (mw_G cI cG a n (2, sc, f, E, P, C) ++ mw_L cI cG a n (2, sc, f, E, P, C))) H := hP
      have hD : va_D A ([((a.1 0), .inr (1, [.ref (a.1 2), .ref (a.1 7), .ref (a.1 3), .ref (a.1 10), .ref (a.1 1), .int (sc 0), .ref (a.1 2)])), ((a.1 1), .inl (cI, 2 ^ n, .inl (f 0))), ((a.1 2), .inr (2, [.int (sc 1)])), ((a.1 3), .inr (4, [.ref (a.1 6), .ref (a.1 4), .ref (a.1 5)])), ((a.1 4), .inl (cI, 4, .inl (f 1))), ((a.1 5), .inl (cI, 4, .inl (f 2))), ((a.1 6), .inl (cI, n, .inl (f 3)))] ++ (mw_G cI cG a n (2, sc, f, E, P, C) ++ mw_L cI cG a n (2, sc, f, E, P, C))) := hD
      refine wi_top hrv ?_
      refine wi_iast hx hb hK hP hD hS 1 0 rfl rfl (by omega) (by omega) nd_MA_rankOf_23 (fun H locs hP hD hS => ?_)
      have hP : va_P D cl_all ([((a.1 0), .inr (1, [.ref (a.1 2), .ref (a.1 7), .ref (a.1 3), .ref (a.1 10), .ref (a.1 1), .int (sc 0), .ref (a.1 2)])), ((a.1 1), .inl (cI, 2 ^ n, .inl (upd (f 0) s (nI (ma_r n x s))))), ((a.1 2), .inr (2, [.int (sc 1)])), ((a.1 3), .inr (4, [.ref (a.1 6), .ref (a.1 4), .ref (a.1 5)])), ((a.1 4), .inl (cI, 4, .inl (f 1))), ((a.1 5), .inl (cI, 4, .inl (f 2))), ((a.1 6), .inl (cI, n, .inl (f 3)))] ++ (mw_G cI cG a n (2, sc, f, E, P, C) ++ mw_L cI cG a n (2, sc, f, E, P, C))) H := hP
      have hD : va_D A ([((a.1 0), .inr (1, [.ref (a.1 2), .ref (a.1 7), .ref (a.1 3), .ref (a.1 10), .ref (a.1 1), .int (sc 0), .ref (a.1 2)])), ((a.1 1), .inl (cI, 2 ^ n, .inl (upd (f 0) s (nI (ma_r n x s))))), ((a.1 2), .inr (2, [.int (sc 1)])), ((a.1 3), .inr (4, [.ref (a.1 6), .ref (a.1 4), .ref (a.1 5)])), ((a.1 4), .inl (cI, 4, .inl (f 1))), ((a.1 5), .inl (cI, 4, .inl (f 2))), ((a.1 6), .inl (cI, n, .inl (f 3)))] ++ (mw_G cI cG a n (2, sc, f, E, P, C) ++ mw_L cI cG a n (2, sc, f, E, P, C))) := hD
      refine lv_aload_n hx hb nd_MA_rankOf_24 rfl (lv_at hl 0 rfl) ?_
      refine wi_ic hx hb (a := 1) nd_MA_rankOf_25 ?_
      refine va_put (D := D) (C := nr_MA) (T := nt_MA) (N := 7) hx hb htg tf_MA nu_MA no_MA nn_MA hown hK hP hD hS 0 rfl rfl 5 (by decide) (htg _ tm_105) (fun _ h => h) rfl rfl rfl rfl (Nat.le_of_ble_eq_true rfl) nd_MA_rankOf_26 (fun H locs hP hD hS => ?_)
      have hP : va_P D cl_all ([((a.1 0), .inr (1, [.ref (a.1 2), .ref (a.1 7), .ref (a.1 3), .ref (a.1 10), .ref (a.1 1), .int (nI (1)), .ref (a.1 2)])), ((a.1 1), .inl (cI, 2 ^ n, .inl (upd (f 0) s (nI (ma_r n x s))))), ((a.1 2), .inr (2, [.int (sc 1)])), ((a.1 3), .inr (4, [.ref (a.1 6), .ref (a.1 4), .ref (a.1 5)])), ((a.1 4), .inl (cI, 4, .inl (f 1))), ((a.1 5), .inl (cI, 4, .inl (f 2))), ((a.1 6), .inl (cI, n, .inl (f 3)))] ++ (mw_G cI cG a n (2, sc, f, E, P, C) ++ mw_L cI cG a n (2, sc, f, E, P, C))) H := hP
      have hD : va_D A ([((a.1 0), .inr (1, [.ref (a.1 2), .ref (a.1 7), .ref (a.1 3), .ref (a.1 10), .ref (a.1 1), .int (nI (1)), .ref (a.1 2)])), ((a.1 1), .inl (cI, 2 ^ n, .inl (upd (f 0) s (nI (ma_r n x s))))), ((a.1 2), .inr (2, [.int (sc 1)])), ((a.1 3), .inr (4, [.ref (a.1 6), .ref (a.1 4), .ref (a.1 5)])), ((a.1 4), .inl (cI, 4, .inl (f 1))), ((a.1 5), .inl (cI, 4, .inl (f 2))), ((a.1 6), .inl (cI, n, .inl (f 3)))] ++ (mw_G cI cG a n (2, sc, f, E, P, C) ++ mw_L cI cG a n (2, sc, f, E, P, C))) := hD
      refine lv_aload_n hx hb nd_MA_rankOf_29 rfl (lv_at hl 0 rfl) ?_
      refine va_get (D := D) (C := nr_MA) (T := nt_MA) (N := 7) hx hb htg tf_MA hown hK hP 0 rfl rfl 4 (by decide) (htg _ tm_104) (fun _ h => h) rfl nd_MA_rankOf_30 ?_
      refine lv_iload_n hx hb nd_MA_rankOf_33 rfl (lv_at hl 1 rfl) ?_
      refine wi_iald hx hb hK hP 1 0 rfl rfl (by omega) (by omega) nd_MA_rankOf_34 ?_
      exact wb_iret ((2, va_up sc 0 (nI 1), va_up f 0 (upd (f 0) s (nI (ma_r n x s))), E, P, C)) hx hb hr hk hAe (⟨by simp [upd], hI.1, hI.2.1, ma_put hI.2.2.1, fun q => absurd q (nI_ne0 (n := 1) (by omega) (by omega))⟩) hP hD hS nd_MA_rankOf_35
    · have hkd : kd = 7 := hkd
      subst hkd
      have hv : ∀ i, i < n → x.2.2.1 i < 8 ∧ x.2.2.2.1 i < 8 := by rcases hI.1 with ⟨q, -⟩ | ⟨q, q2⟩ | ⟨q, -⟩ | ⟨q, -⟩ <;> first | exact q2 | omega
      refine wd_Ai (C := nr_GK) (owner := nr_KI) (x := ny_KI_findRank) (n := 1) (X := [((a.1 0), .inr (1, [.ref (a.1 2), .ref (a.1 7), .ref (a.1 3), .ref (a.1 10), .ref (a.1 1), .int (sc 0), .ref (a.1 7)])), ((a.1 1), .inl (cI, 2 ^ n, .inl (f 0))), ((a.1 2), .inr (2, [.int (sc 1)])), ((a.1 3), .inr (4, [.ref (a.1 6), .ref (a.1 4), .ref (a.1 5)])), ((a.1 4), .inl (cI, 4, .inl (f 1))), ((a.1 5), .inl (cI, 4, .inl (f 2))), ((a.1 6), .inl (cI, n, .inl (f 3)))]) (Y := mw_G cI cG a n (7, sc, f, E, P, C)) (Z := mw_L cI cG a n (7, sc, f, E, P, C)) hx hb hml hown htg (c_GK_findRank l D cI cG cM (a.1 7) (a.1 8) (a.1 9) n hn a.2.1 E (f 4) x.2.2.1 x.2.2.2.1 ho hv s (by omega) _) tm_278 tm_264 tm_266 tm_277 tm_276 tm_5 (tn_265 hN) (by decide +kernel) ⟨⟨Nat.le_trans (by decide) hRf, Nat.le_trans (by decide) hRl⟩, rfl, rfl⟩ hP hD hS hA hK hN (va_recv (q0 := 0) (ci := 3) hK (wm_P (X := [((a.1 0), .inr (1, [.ref (a.1 2), .ref (a.1 7), .ref (a.1 3), .ref (a.1 10), .ref (a.1 1), .int (sc 0), .ref (a.1 7)])), ((a.1 1), .inl (cI, 2 ^ n, .inl (f 0))), ((a.1 2), .inr (2, [.int (sc 1)])), ((a.1 3), .inr (4, [.ref (a.1 6), .ref (a.1 4), .ref (a.1 5)])), ((a.1 4), .inl (cI, 4, .inl (f 1))), ((a.1 5), .inl (cI, 4, .inl (f 2))), ((a.1 6), .inl (cI, n, .inl (f 3)))]) (Y := mw_G cI cG a n (7, sc, f, E, P, C)) (Z := mw_L cI cG a n (7, sc, f, E, P, C)) hP).2.1 rfl rfl) rfl hl.1 rfl (Nat.le_of_ble_eq_true rfl) nd_MA_rankOf_20 hCS (fun v20 u20 H locs hp20 hP hD hS => ?_)
      have hrv : v20 = nI (ma_r n x s) := by rw [hp20, ma_r1 hq]
      have hP : va_P D cl_all ([((a.1 0), .inr (1, [.ref (a.1 2), .ref (a.1 7), .ref (a.1 3), .ref (a.1 10), .ref (a.1 1), .int (sc 0), .ref (a.1 7)])), ((a.1 1), .inl (cI, 2 ^ n, .inl (f 0))), ((a.1 2), .inr (2, [.int (sc 1)])), ((a.1 3), .inr (4, [.ref (a.1 6), .ref (a.1 4), .ref (a.1 5)])), ((a.1 4), .inl (cI, 4, .inl (f 1))), ((a.1 5), .inl (cI, 4, .inl (f 2))), ((a.1 6), .inl (cI, n, .inl (f 3)))] ++ (mw_G cI cG a n (7, sc, va_up f 4 u20, E, P, C) ++ mw_L cI cG a n (7, sc, f, E, P, C))) H := hP
      have hD : va_D A ([((a.1 0), .inr (1, [.ref (a.1 2), .ref (a.1 7), .ref (a.1 3), .ref (a.1 10), .ref (a.1 1), .int (sc 0), .ref (a.1 7)])), ((a.1 1), .inl (cI, 2 ^ n, .inl (f 0))), ((a.1 2), .inr (2, [.int (sc 1)])), ((a.1 3), .inr (4, [.ref (a.1 6), .ref (a.1 4), .ref (a.1 5)])), ((a.1 4), .inl (cI, 4, .inl (f 1))), ((a.1 5), .inl (cI, 4, .inl (f 2))), ((a.1 6), .inl (cI, n, .inl (f 3)))] ++ (mw_G cI cG a n (7, sc, va_up f 4 u20, E, P, C) ++ mw_L cI cG a n (7, sc, f, E, P, C))) := hD
      refine wi_top hrv ?_
      refine wi_iast hx hb hK hP hD hS 1 0 rfl rfl (by omega) (by omega) nd_MA_rankOf_23 (fun H locs hP hD hS => ?_)
      have hP : va_P D cl_all ([((a.1 0), .inr (1, [.ref (a.1 2), .ref (a.1 7), .ref (a.1 3), .ref (a.1 10), .ref (a.1 1), .int (sc 0), .ref (a.1 7)])), ((a.1 1), .inl (cI, 2 ^ n, .inl (upd (f 0) s (nI (ma_r n x s))))), ((a.1 2), .inr (2, [.int (sc 1)])), ((a.1 3), .inr (4, [.ref (a.1 6), .ref (a.1 4), .ref (a.1 5)])), ((a.1 4), .inl (cI, 4, .inl (f 1))), ((a.1 5), .inl (cI, 4, .inl (f 2))), ((a.1 6), .inl (cI, n, .inl (f 3)))] ++ (mw_G cI cG a n (7, sc, va_up f 4 u20, E, P, C) ++ mw_L cI cG a n (7, sc, f, E, P, C))) H := hP
      have hD : va_D A ([((a.1 0), .inr (1, [.ref (a.1 2), .ref (a.1 7), .ref (a.1 3), .ref (a.1 10), .ref (a.1 1), .int (sc 0), .ref (a.1 7)])), ((a.1 1), .inl (cI, 2 ^ n, .inl (upd (f 0) s (nI (ma_r n x s))))), ((a.1 2), .inr (2, [.int (sc 1)])), ((a.1 3), .inr (4, [.ref (a.1 6), .ref (a.1 4), .ref (a.1 5)])), ((a.1 4), .inl (cI, 4, .inl (f 1))), ((a.1 5), .inl (cI, 4, .inl (f 2))), ((a.1 6), .inl (cI, n, .inl (f 3)))] ++ (mw_G cI cG a n (7, sc, va_up f 4 u20, E, P, C) ++ mw_L cI cG a n (7, sc, f, E, P, C))) := hD
      refine lv_aload_n hx hb nd_MA_rankOf_24 rfl (lv_at hl 0 rfl) ?_
      refine wi_ic hx hb (a := 1) nd_MA_rankOf_25 ?_
      refine va_put (D := D) (C := nr_MA) (T := nt_MA) (N := 7) hx hb htg tf_MA nu_MA no_MA nn_MA hown hK hP hD hS 0 rfl rfl 5 (by decide) (htg _ tm_105) (fun _ h => h) rfl rfl rfl rfl (Nat.le_of_ble_eq_true rfl) nd_MA_rankOf_26 (fun H locs hP hD hS => ?_)
      have hP : va_P D cl_all ([((a.1 0), .inr (1, [.ref (a.1 2), .ref (a.1 7), .ref (a.1 3), .ref (a.1 10), .ref (a.1 1), .int (nI (1)), .ref (a.1 7)])), ((a.1 1), .inl (cI, 2 ^ n, .inl (upd (f 0) s (nI (ma_r n x s))))), ((a.1 2), .inr (2, [.int (sc 1)])), ((a.1 3), .inr (4, [.ref (a.1 6), .ref (a.1 4), .ref (a.1 5)])), ((a.1 4), .inl (cI, 4, .inl (f 1))), ((a.1 5), .inl (cI, 4, .inl (f 2))), ((a.1 6), .inl (cI, n, .inl (f 3)))] ++ (mw_G cI cG a n (7, sc, va_up f 4 u20, E, P, C) ++ mw_L cI cG a n (7, sc, f, E, P, C))) H := hP
      have hD : va_D A ([((a.1 0), .inr (1, [.ref (a.1 2), .ref (a.1 7), .ref (a.1 3), .ref (a.1 10), .ref (a.1 1), .int (nI (1)), .ref (a.1 7)])), ((a.1 1), .inl (cI, 2 ^ n, .inl (upd (f 0) s (nI (ma_r n x s))))), ((a.1 2), .inr (2, [.int (sc 1)])), ((a.1 3), .inr (4, [.ref (a.1 6), .ref (a.1 4), .ref (a.1 5)])), ((a.1 4), .inl (cI, 4, .inl (f 1))), ((a.1 5), .inl (cI, 4, .inl (f 2))), ((a.1 6), .inl (cI, n, .inl (f 3)))] ++ (mw_G cI cG a n (7, sc, va_up f 4 u20, E, P, C) ++ mw_L cI cG a n (7, sc, f, E, P, C))) := hD
      refine lv_aload_n hx hb nd_MA_rankOf_29 rfl (lv_at hl 0 rfl) ?_
      refine va_get (D := D) (C := nr_MA) (T := nt_MA) (N := 7) hx hb htg tf_MA hown hK hP 0 rfl rfl 4 (by decide) (htg _ tm_104) (fun _ h => h) rfl nd_MA_rankOf_30 ?_
      refine lv_iload_n hx hb nd_MA_rankOf_33 rfl (lv_at hl 1 rfl) ?_
      refine wi_iald hx hb hK hP 1 0 rfl rfl (by omega) (by omega) nd_MA_rankOf_34 ?_
      exact wb_iret ((7, va_up sc 0 (nI 1), va_up (va_up f 4 u20) 0 (upd (f 0) s (nI (ma_r n x s))), E, P, C)) hx hb hr hk hAe (⟨by simp [upd], hI.1, hI.2.1, ma_put hI.2.2.1, fun q => absurd q (nI_ne0 (n := 1) (by omega) (by omega))⟩) hP hD hS nd_MA_rankOf_35
    · have hkd : kd = 3 := hkd
      subst hkd
      have hv : (∀ i, i < n → x.2.2.2.2.1 i < 4) ∧ ∀ c, c < 4 → x.2.2.2.2.2.1 c ≤ 10 := by rcases hI.1 with ⟨q, -⟩ | ⟨q, -⟩ | ⟨q, q2⟩ | ⟨q, -⟩ <;> first | exact q2 | omega
      refine wd_Ai (C := nr_CK) (owner := nr_KI) (x := ny_KI_findRank) (n := 1) (X := [((a.1 0), .inr (1, [.ref (a.1 2), .ref (a.1 7), .ref (a.1 3), .ref (a.1 10), .ref (a.1 1), .int (sc 0), .ref (a.1 3)])), ((a.1 1), .inl (cI, 2 ^ n, .inl (f 0))), ((a.1 2), .inr (2, [.int (sc 1)]))]) (Y := [((a.1 3), .inr (4, [.ref (a.1 6), .ref (a.1 4), .ref (a.1 5)])), ((a.1 4), .inl (cI, 4, .inl (f 1))), ((a.1 5), .inl (cI, 4, .inl (f 2))), ((a.1 6), .inl (cI, n, .inl (f 3)))]) (Z := (mw_G cI cG a n (3, sc, f, E, P, C) ++ mw_L cI cG a n (3, sc, f, E, P, C))) hx hb hml hown htg (c_CK_findRank l D cI cG cM (a.1 3) (a.1 4) (a.1 5) (a.1 6) n hn (f 2) x.2.2.2.2.1 x.2.2.2.2.2.1 (f 3) (f 1) ho hv.1 ho2 hv.2 s (by omega) _) tm_269 tm_264 tm_266 tm_268 tm_267 tm_6 (tn_265 hN) (by decide +kernel) ⟨⟨Nat.le_trans (by decide) hRf, Nat.le_trans (by decide) hRl⟩, rfl, rfl⟩ hP hD hS hA hK hN (va_recv (q0 := 3) (ci := 4) hK hP rfl rfl) rfl hl.1 rfl (Nat.le_of_ble_eq_true rfl) nd_MA_rankOf_20 hCS (fun v20 u20 H locs hp20 hP hD hS => ?_)
      have hrv : v20 = nI (ma_r n x s) := by rw [hp20, ma_r2 hq]
      have hP : va_P D cl_all ([((a.1 0), .inr (1, [.ref (a.1 2), .ref (a.1 7), .ref (a.1 3), .ref (a.1 10), .ref (a.1 1), .int (sc 0), .ref (a.1 3)])), ((a.1 1), .inl (cI, 2 ^ n, .inl (f 0))), ((a.1 2), .inr (2, [.int (sc 1)])), ((a.1 3), .inr (4, [.ref (a.1 6), .ref (a.1 4), .ref (a.1 5)])), ((a.1 4), .inl (cI, 4, .inl (f 1))), ((a.1 5), .inl (cI, 4, .inl u20)), ((a.1 6), .inl (cI, n, .inl (f 3)))] ++ (mw_G cI cG a n (3, sc, f, E, P, C) ++ mw_L cI cG a n (3, sc, f, E, P, C))) H := hP
      have hD : va_D A ([((a.1 0), .inr (1, [.ref (a.1 2), .ref (a.1 7), .ref (a.1 3), .ref (a.1 10), .ref (a.1 1), .int (sc 0), .ref (a.1 3)])), ((a.1 1), .inl (cI, 2 ^ n, .inl (f 0))), ((a.1 2), .inr (2, [.int (sc 1)])), ((a.1 3), .inr (4, [.ref (a.1 6), .ref (a.1 4), .ref (a.1 5)])), ((a.1 4), .inl (cI, 4, .inl (f 1))), ((a.1 5), .inl (cI, 4, .inl u20)), ((a.1 6), .inl (cI, n, .inl (f 3)))] ++ (mw_G cI cG a n (3, sc, f, E, P, C) ++ mw_L cI cG a n (3, sc, f, E, P, C))) := hD
      refine wi_top hrv ?_
      refine wi_iast hx hb hK hP hD hS 1 0 rfl rfl (by omega) (by omega) nd_MA_rankOf_23 (fun H locs hP hD hS => ?_)
      have hP : va_P D cl_all ([((a.1 0), .inr (1, [.ref (a.1 2), .ref (a.1 7), .ref (a.1 3), .ref (a.1 10), .ref (a.1 1), .int (sc 0), .ref (a.1 3)])), ((a.1 1), .inl (cI, 2 ^ n, .inl (upd (f 0) s (nI (ma_r n x s))))), ((a.1 2), .inr (2, [.int (sc 1)])), ((a.1 3), .inr (4, [.ref (a.1 6), .ref (a.1 4), .ref (a.1 5)])), ((a.1 4), .inl (cI, 4, .inl (f 1))), ((a.1 5), .inl (cI, 4, .inl u20)), ((a.1 6), .inl (cI, n, .inl (f 3)))] ++ (mw_G cI cG a n (3, sc, f, E, P, C) ++ mw_L cI cG a n (3, sc, f, E, P, C))) H := hP
      have hD : va_D A ([((a.1 0), .inr (1, [.ref (a.1 2), .ref (a.1 7), .ref (a.1 3), .ref (a.1 10), .ref (a.1 1), .int (sc 0), .ref (a.1 3)])), ((a.1 1), .inl (cI, 2 ^ n, .inl (upd (f 0) s (nI (ma_r n x s))))), ((a.1 2), .inr (2, [.int (sc 1)])), ((a.1 3), .inr (4, [.ref (a.1 6), .ref (a.1 4), .ref (a.1 5)])), ((a.1 4), .inl (cI, 4, .inl (f 1))), ((a.1 5), .inl (cI, 4, .inl u20)), ((a.1 6), .inl (cI, n, .inl (f 3)))] ++ (mw_G cI cG a n (3, sc, f, E, P, C) ++ mw_L cI cG a n (3, sc, f, E, P, C))) := hD
      refine lv_aload_n hx hb nd_MA_rankOf_24 rfl (lv_at hl 0 rfl) ?_
      refine wi_ic hx hb (a := 1) nd_MA_rankOf_25 ?_
      refine va_put (D := D) (C := nr_MA) (T := nt_MA) (N := 7) hx hb htg tf_MA nu_MA no_MA nn_MA hown hK hP hD hS 0 rfl rfl 5 (by decide) (htg _ tm_105) (fun _ h => h) rfl rfl rfl rfl (Nat.le_of_ble_eq_true rfl) nd_MA_rankOf_26 (fun H locs hP hD hS => ?_)
      have hP : va_P D cl_all ([((a.1 0), .inr (1, [.ref (a.1 2), .ref (a.1 7), .ref (a.1 3), .ref (a.1 10), .ref (a.1 1), .int (nI (1)), .ref (a.1 3)])), ((a.1 1), .inl (cI, 2 ^ n, .inl (upd (f 0) s (nI (ma_r n x s))))), ((a.1 2), .inr (2, [.int (sc 1)])), ((a.1 3), .inr (4, [.ref (a.1 6), .ref (a.1 4), .ref (a.1 5)])), ((a.1 4), .inl (cI, 4, .inl (f 1))), ((a.1 5), .inl (cI, 4, .inl u20)), ((a.1 6), .inl (cI, n, .inl (f 3)))] ++ (mw_G cI cG a n (3, sc, f, E, P, C) ++ mw_L cI cG a n (3, sc, f, E, P, C))) H := hP
      have hD : va_D A ([((a.1 0), .inr (1, [.ref (a.1 2), .ref (a.1 7), .ref (a.1 3), .ref (a.1 10), .ref (a.1 1), .int (nI (1)), .ref (a.1 3)])), ((a.1 1), .inl (cI, 2 ^ n, .inl (upd (f 0) s (nI (ma_r n x s))))), ((a.1 2), .inr (2, [.int (sc 1)])), ((a.1 3), .inr (4, [.ref (a.1 6), .ref (a.1 4), .ref (a.1 5)])), ((a.1 4), .inl (cI, 4, .inl (f 1))), ((a.1 5), .inl (cI, 4, .inl u20)), ((a.1 6), .inl (cI, n, .inl (f 3)))] ++ (mw_G cI cG a n (3, sc, f, E, P, C) ++ mw_L cI cG a n (3, sc, f, E, P, C))) := hD
      refine lv_aload_n hx hb nd_MA_rankOf_29 rfl (lv_at hl 0 rfl) ?_
      refine va_get (D := D) (C := nr_MA) (T := nt_MA) (N := 7) hx hb htg tf_MA hown hK hP 0 rfl rfl 4 (by decide) (htg _ tm_104) (fun _ h => h) rfl nd_MA_rankOf_30 ?_
      refine lv_iload_n hx hb nd_MA_rankOf_33 rfl (lv_at hl 1 rfl) ?_
      refine wi_iald hx hb hK hP 1 0 rfl rfl (by omega) (by omega) nd_MA_rankOf_34 ?_
      exact wb_iret ((3, va_up sc 0 (nI 1), va_up (va_up f 2 u20) 0 (upd (f 0) s (nI (ma_r n x s))), E, P, C)) hx hb hr hk hAe (⟨by simp [upd], hI.1, hI.2.1, ma_put hI.2.2.1, fun q => absurd q (nI_ne0 (n := 1) (by omega) (by omega))⟩) hP hD hS nd_MA_rankOf_35
    · have hkd : kd = 10 := hkd
      subst hkd
      have ho : sc 2 = nI x.2.2.2.2.2.2.1 := ho
      have hv : (x.2.2.2.2.2.2.1 = 2 ∨ x.2.2.2.2.2.2.1 = 3 ∨ x.2.2.2.2.2.2.1 = 5 ∨ x.2.2.2.2.2.2.1 = 7) ∧ ∀ e, e < n → ∀ i, i < 4 → x.2.2.2.2.2.2.2 e i < x.2.2.2.2.2.2.1 := by rcases hI.1 with ⟨q, -⟩ | ⟨q, -⟩ | ⟨q, -⟩ | ⟨q, q2⟩ <;> first | exact q2 | omega
      have ho2 : ∀ e, e < n → ∀ i, i < 4 → C e i = nI (x.2.2.2.2.2.2.2 e i) := ho2
      have hcv : ∀ e, e < n → ∀ i, i < 4 → (C e i).toInt = (x.2.2.2.2.2.2.2 e i : Int) := fun e he i hi => by have := hv.2 e he i hi; rw [ho2 e he i hi, nI_toInt (by omega)]
      rw [mw_Lp ho, mw_rot] at hP hD
      refine wd_Ai (C := nr_LK) (owner := nr_KI) (x := ny_KI_findRank) (n := 1) (X := _) (Y := ([(a.1 10, .inr (5, [.ref (a.1 13), .ref (a.1 11), .ref (a.1 12), .int (nI x.2.2.2.2.2.2.1)])), (a.1 11, .inl (cG, 4, .inr (.inr (.inr (.inr (fun i => if i < 4 then some (a.2.2.1 i) else none)))))), (a.1 12, .inl (cI, 4, .inl (f 5))), (a.1 13, .inl (cG, n, .inr (.inr (.inr (.inr (fun i => if i < n then some (a.2.2.2 i) else none))))))] ++ (rw_R cI 4 a.2.2.1 P 4 ++ (rw_R cI 4 a.2.2.2 C n ++ [])))) (Z := []) hx hb hml hown htg (c_LK_findRank l D cI cG cM (a.1 10) (a.1 11) (a.1 12) (a.1 13) n hn a.2.2.1 a.2.2.2 C x.2.2.2.2.2.2.1 hv.1 P (f 5) s (by omega) (fun e he i hi => by have := hv.2 e he i hi; rw [hcv e he i hi]; omega) _) tm_286 tm_264 tm_266 tm_285 tm_284 tm_7 (tn_265 hN) (by decide +kernel) ⟨⟨Nat.le_trans (by decide) hRf, Nat.le_trans (by decide) hRl⟩, rfl, rfl⟩ hP hD hS hA hK hN (va_recv (q0 := 0) (ci := 5) hK (wm_P (Y := ([(a.1 10, .inr (5, [.ref (a.1 13), .ref (a.1 11), .ref (a.1 12), .int (nI x.2.2.2.2.2.2.1)])), (a.1 11, .inl (cG, 4, .inr (.inr (.inr (.inr (fun i => if i < 4 then some (a.2.2.1 i) else none)))))), (a.1 12, .inl (cI, 4, .inl (f 5))), (a.1 13, .inl (cG, n, .inr (.inr (.inr (.inr (fun i => if i < n then some (a.2.2.2 i) else none))))))] ++ (rw_R cI 4 a.2.2.1 P 4 ++ (rw_R cI 4 a.2.2.2 C n ++ [])))) (Z := []) hP).2.1 rfl rfl) rfl hl.1 rfl (Nat.le_of_ble_eq_true rfl) nd_MA_rankOf_20 hCS (fun v20 u20 H locs hp20 hP hD hS => ?_)
      have hrv : v20 = nI (ma_r n x s) := by rw [hp20, ma_r3 hq]; exact congrArg nI (ml_r_ext (fun e he i hi => hcv e he i hi) s)
      rw [← mw_rot] at hP hD
      have hP : va_P D cl_all ([((a.1 0), .inr (1, [.ref (a.1 2), .ref (a.1 7), .ref (a.1 3), .ref (a.1 10), .ref (a.1 1), .int (sc 0), .ref (a.1 10)])), ((a.1 1), .inl (cI, 2 ^ n, .inl (f 0))), ((a.1 2), .inr (2, [.int (sc 1)])), ((a.1 3), .inr (4, [.ref (a.1 6), .ref (a.1 4), .ref (a.1 5)])), ((a.1 4), .inl (cI, 4, .inl (f 1))), ((a.1 5), .inl (cI, 4, .inl (f 2))), ((a.1 6), .inl (cI, n, .inl (f 3)))] ++ (mw_G cI cG a n (10, sc, f, E, P, C) ++ mw_L cI cG a n (10, sc, va_up f 5 u20.2, E, u20.1, C))) H := by rw [mw_Lp (sc := sc) (f := va_up f 5 u20.2) ho]; exact hP
      have hD : va_D A ([((a.1 0), .inr (1, [.ref (a.1 2), .ref (a.1 7), .ref (a.1 3), .ref (a.1 10), .ref (a.1 1), .int (sc 0), .ref (a.1 10)])), ((a.1 1), .inl (cI, 2 ^ n, .inl (f 0))), ((a.1 2), .inr (2, [.int (sc 1)])), ((a.1 3), .inr (4, [.ref (a.1 6), .ref (a.1 4), .ref (a.1 5)])), ((a.1 4), .inl (cI, 4, .inl (f 1))), ((a.1 5), .inl (cI, 4, .inl (f 2))), ((a.1 6), .inl (cI, n, .inl (f 3)))] ++ (mw_G cI cG a n (10, sc, f, E, P, C) ++ mw_L cI cG a n (10, sc, va_up f 5 u20.2, E, u20.1, C))) := by rw [mw_Lp (sc := sc) (f := va_up f 5 u20.2) ho]; exact hD
      refine wi_top hrv ?_
      refine wi_iast hx hb hK hP hD hS 1 0 rfl rfl (by omega) (by omega) nd_MA_rankOf_23 (fun H locs hP hD hS => ?_)
      have hP : va_P D cl_all ([((a.1 0), .inr (1, [.ref (a.1 2), .ref (a.1 7), .ref (a.1 3), .ref (a.1 10), .ref (a.1 1), .int (sc 0), .ref (a.1 10)])), ((a.1 1), .inl (cI, 2 ^ n, .inl (upd (f 0) s (nI (ma_r n x s))))), ((a.1 2), .inr (2, [.int (sc 1)])), ((a.1 3), .inr (4, [.ref (a.1 6), .ref (a.1 4), .ref (a.1 5)])), ((a.1 4), .inl (cI, 4, .inl (f 1))), ((a.1 5), .inl (cI, 4, .inl (f 2))), ((a.1 6), .inl (cI, n, .inl (f 3)))] ++ (mw_G cI cG a n (10, sc, f, E, P, C) ++ mw_L cI cG a n (10, sc, va_up f 5 u20.2, E, u20.1, C))) H := hP
      have hD : va_D A ([((a.1 0), .inr (1, [.ref (a.1 2), .ref (a.1 7), .ref (a.1 3), .ref (a.1 10), .ref (a.1 1), .int (sc 0), .ref (a.1 10)])), ((a.1 1), .inl (cI, 2 ^ n, .inl (upd (f 0) s (nI (ma_r n x s))))), ((a.1 2), .inr (2, [.int (sc 1)])), ((a.1 3), .inr (4, [.ref (a.1 6), .ref (a.1 4), .ref (a.1 5)])), ((a.1 4), .inl (cI, 4, .inl (f 1))), ((a.1 5), .inl (cI, 4, .inl (f 2))), ((a.1 6), .inl (cI, n, .inl (f 3)))] ++ (mw_G cI cG a n (10, sc, f, E, P, C) ++ mw_L cI cG a n (10, sc, va_up f 5 u20.2, E, u20.1, C))) := hD
      refine lv_aload_n hx hb nd_MA_rankOf_24 rfl (lv_at hl 0 rfl) ?_
      refine wi_ic hx hb (a := 1) nd_MA_rankOf_25 ?_
      refine va_put (D := D) (C := nr_MA) (T := nt_MA) (N := 7) hx hb htg tf_MA nu_MA no_MA nn_MA hown hK hP hD hS 0 rfl rfl 5 (by decide) (htg _ tm_105) (fun _ h => h) rfl rfl rfl rfl (Nat.le_of_ble_eq_true rfl) nd_MA_rankOf_26 (fun H locs hP hD hS => ?_)
      have hP : va_P D cl_all ([((a.1 0), .inr (1, [.ref (a.1 2), .ref (a.1 7), .ref (a.1 3), .ref (a.1 10), .ref (a.1 1), .int (nI (1)), .ref (a.1 10)])), ((a.1 1), .inl (cI, 2 ^ n, .inl (upd (f 0) s (nI (ma_r n x s))))), ((a.1 2), .inr (2, [.int (sc 1)])), ((a.1 3), .inr (4, [.ref (a.1 6), .ref (a.1 4), .ref (a.1 5)])), ((a.1 4), .inl (cI, 4, .inl (f 1))), ((a.1 5), .inl (cI, 4, .inl (f 2))), ((a.1 6), .inl (cI, n, .inl (f 3)))] ++ (mw_G cI cG a n (10, sc, f, E, P, C) ++ mw_L cI cG a n (10, sc, va_up f 5 u20.2, E, u20.1, C))) H := hP
      have hD : va_D A ([((a.1 0), .inr (1, [.ref (a.1 2), .ref (a.1 7), .ref (a.1 3), .ref (a.1 10), .ref (a.1 1), .int (nI (1)), .ref (a.1 10)])), ((a.1 1), .inl (cI, 2 ^ n, .inl (upd (f 0) s (nI (ma_r n x s))))), ((a.1 2), .inr (2, [.int (sc 1)])), ((a.1 3), .inr (4, [.ref (a.1 6), .ref (a.1 4), .ref (a.1 5)])), ((a.1 4), .inl (cI, 4, .inl (f 1))), ((a.1 5), .inl (cI, 4, .inl (f 2))), ((a.1 6), .inl (cI, n, .inl (f 3)))] ++ (mw_G cI cG a n (10, sc, f, E, P, C) ++ mw_L cI cG a n (10, sc, va_up f 5 u20.2, E, u20.1, C))) := hD
      refine lv_aload_n hx hb nd_MA_rankOf_29 rfl (lv_at hl 0 rfl) ?_
      refine va_get (D := D) (C := nr_MA) (T := nt_MA) (N := 7) hx hb htg tf_MA hown hK hP 0 rfl rfl 4 (by decide) (htg _ tm_104) (fun _ h => h) rfl nd_MA_rankOf_30 ?_
      refine lv_iload_n hx hb nd_MA_rankOf_33 rfl (lv_at hl 1 rfl) ?_
      refine wi_iald hx hb hK hP 1 0 rfl rfl (by omega) (by omega) nd_MA_rankOf_34 ?_
      exact wb_iret ((10, va_up sc 0 (nI 1), va_up (va_up f 5 u20.2) 0 (upd (f 0) s (nI (ma_r n x s))), E, u20.1, C)) hx hb hr hk hAe (⟨by simp [upd], hI.1, hI.2.1, ma_put hI.2.2.1, fun q => absurd q (nI_ne0 (n := 1) (by omega) (by omega))⟩) hP hD hS nd_MA_rankOf_35
theorem nd_MA_isIndependent_0 : decode nc_MA_isIndependent 0 = .ok (.aload_n 0, 1) := by decide +kernel
theorem nd_MA_isIndependent_1 : decode nc_MA_isIndependent 1 = .ok (.iload_n 1, 1) := by decide +kernel
theorem nd_MA_isIndependent_2 : decode nc_MA_isIndependent 2 = .ok (.invokevirtual 86, 3) := by decide +kernel
theorem nd_MA_isIndependent_5 : decode nc_MA_isIndependent 5 = .ok (.iload_n 1, 1) := by decide +kernel
theorem nd_MA_isIndependent_6 : decode nc_MA_isIndependent 6 = .ok (.invokestatic 90, 3) := by decide +kernel
theorem nd_MA_isIndependent_9 : decode nc_MA_isIndependent 9 = .ok (.if_icmp .ne 7, 3) := by decide +kernel
theorem nd_MA_isIndependent_12 : decode nc_MA_isIndependent 12 = .ok (.iconst 1, 1) := by decide +kernel
theorem nd_MA_isIndependent_13 : decode nc_MA_isIndependent 13 = .ok (.goto 4, 3) := by decide +kernel
theorem nd_MA_isIndependent_16 : decode nc_MA_isIndependent 16 = .ok (.iconst 0, 1) := by decide +kernel
theorem nd_MA_isIndependent_17 : decode nc_MA_isIndependent 17 = .ok (.ireturn, 1) := by decide +kernel
set_option maxRecDepth 20000 in
theorem c_MA_isIndependent (l : Launch) (D : va_G) (cI cG cM : ClassId)  (a : ma_A) (n : Nat) (hn : n ≤ 10) (kd : Nat) (sc : Nat → Int32) (f E P C : Nat → Nat → Int32) (x : ma_T) (hI : ma_I n x (kd, sc, f, E, P, C)) (s : Nat) (hs : s < 2 ^ n) (sz : Nat) : wb_Mi l ny_MA_isIndependent nc_MA_isIndependent 2 (some .boolean) ({ frames := 5, cells := 0, slots := 0, locals := 112 }) D (ty_all cI cG cM) (mw_ cI cG a n (kd, sc, f, E, P, C)) sz [.ref (a.1 0), .int (nI (s))] (fun (v : Int32) (u : ma_S) => (ma_r n x s = mt_cd n s → v = nI 1) ∧ (¬ ma_r n x s = mt_cd n s → v = nI 0) ∧ ma_I n x u) (fun u : ma_S => mw_ cI cG a n u) := by
  refine wb_start (S := ma_S) (by decide) (Nat.le_of_ble_eq_true rfl) ?_
  intro p e0 s0 m below meth c ls A hx hb hr hml htg hown hk hP hK hN hl hAe hsz hD hA
  have hl : lv_has ls 2 [(0, .ref (a.1 0)), (1, .int (nI (s)))] := hl
  have hP : va_P D cl_all ([((a.1 0), .inr (1, [.ref (a.1 2), .ref (a.1 7), .ref (a.1 3), .ref (a.1 10), .ref (a.1 1), .int (sc 0), .ref (a.1 kd)])), ((a.1 1), .inl (cI, 2 ^ n, .inl (f 0))), ((a.1 2), .inr (2, [.int (sc 1)])), ((a.1 3), .inr (4, [.ref (a.1 6), .ref (a.1 4), .ref (a.1 5)])), ((a.1 4), .inl (cI, 4, .inl (f 1))), ((a.1 5), .inl (cI, 4, .inl (f 2))), ((a.1 6), .inl (cI, n, .inl (f 3)))] ++ (mw_G cI cG a n (kd, sc, f, E, P, C) ++ mw_L cI cG a n (kd, sc, f, E, P, C))) s0.heap := hP
  have hD : va_D A ([((a.1 0), .inr (1, [.ref (a.1 2), .ref (a.1 7), .ref (a.1 3), .ref (a.1 10), .ref (a.1 1), .int (sc 0), .ref (a.1 kd)])), ((a.1 1), .inl (cI, 2 ^ n, .inl (f 0))), ((a.1 2), .inr (2, [.int (sc 1)])), ((a.1 3), .inr (4, [.ref (a.1 6), .ref (a.1 4), .ref (a.1 5)])), ((a.1 4), .inl (cI, 4, .inl (f 1))), ((a.1 5), .inl (cI, 4, .inl (f 2))), ((a.1 6), .inl (cI, n, .inl (f 3)))] ++ (mw_G cI cG a n (kd, sc, f, E, P, C) ++ mw_L cI cG a n (kd, sc, f, E, P, C))) := hD
  have hS : va_S A s0.heap s0.heap [] := va_S.rf
  have hRf : 5 ≤ ({ frames := 5, cells := 0, slots := 0, locals := 112 } : Room).frames := Nat.le_refl _
  have hRl : 112 ≤ ({ frames := 5, cells := 0, slots := 0, locals := 112 } : Room).locals := Nat.le_refl _
  have hCS : 0 ≤ ({ frames := 5, cells := 0, slots := 0, locals := 112 } : Room).cells ∧ 0 ≤ ({ frames := 5, cells := 0, slots := 0, locals := 112 } : Room).slots := ⟨Nat.zero_le _, Nat.zero_le _⟩
  have h2n : 2 ^ n ≤ 1024 := Nat.pow_le_pow_right (by omega) hn
  refine lv_aload_n hx hb nd_MA_isIndependent_0 rfl (lv_at hl 0 rfl) ?_
  refine lv_iload_n hx hb nd_MA_isIndependent_1 rfl (lv_at hl 1 rfl) ?_
  refine wd_Vi0 (C := nr_MA) (n := 1) (Y := mw_ cI cG a n (kd, sc, f, E, P, C)) hx hb hml hown htg (c_MA_rankOf l D cI cG cM a n hn kd sc f E P C x hI s hs _) tm_263 tm_260 tm_261 tm_262 tm_2 (by decide +kernel) ⟨⟨Nat.le_trans (by decide) hRf, Nat.le_trans (by decide) hRl⟩, rfl, rfl⟩ hP hD hS hA hK hN (va_recv (q0 := 0) (ci := 1) hK hP rfl rfl) rfl hl.1 rfl (Nat.le_of_ble_eq_true rfl) nd_MA_isIndependent_2 hCS (fun v2 u2 H locs hp2 hP hD hS => ?_)
  refine wi_top hp2.1 ?_
  have hrl := mt_le_cd (ma_M hI.1) hs
  have hcl := mt_cd_le n s
  refine lv_iload_n hx hb nd_MA_isIndependent_5 rfl (lv_at hl 1 rfl) ?_
  refine wc_S (n := 1) hx hb hml hown htg (c_IN_bitCount l D _ s (by omega)) tm_304 tm_309 tm_303 tm_12 (by decide +kernel) ⟨⟨Nat.le_trans (by decide) hRf, Nat.le_trans (by decide) hRl⟩, rfl, rfl⟩ (wa_pre wa_nil hK hN) rfl hl.1 rfl (Nat.le_of_ble_eq_true rfl) nd_MA_isIndependent_6 hCS ?_
  have hcd6 := mt_cd_le 10 s
  refine wi_icmp_ne (tgt := 16) hx hb (by omega) (by omega) nd_MA_isIndependent_9 rfl (fun hc9 => ?_) (fun hc9 => ?_)
  · refine wi_ic hx hb (a := 0) nd_MA_isIndependent_16 ?_
    exact wb_zret u2 hx hb hr hk rfl hAe (⟨fun q => absurd (q.trans (bs_cd10 hn hs).symm) hc9, fun _ => rfl, hp2.2⟩) hP hD hS nd_MA_isIndependent_17
  · refine wi_ic hx hb (a := 1) nd_MA_isIndependent_12 ?_
    refine lv_goto (tgt := 17) hx hb nd_MA_isIndependent_13 rfl ?_
    exact wb_zret u2 hx hb hr hk rfl hAe (⟨fun _ => rfl, fun q => absurd ((bs_cd10 hn hs) ▸ hc9) q, hp2.2⟩) hP hD hS nd_MA_isIndependent_17
end
section
/-! A matroid: becoming another kind; changing a number. -/
theorem mw_gr (F G R L : va_W) : F ++ ((G ++ (R ++ [])) ++ L) = (F ++ G) ++ (R ++ L) := by simp
theorem mw_grP {D : va_G} {cl : List vw_C} {H : Heap} {F G R L : va_W} (hP : va_P D cl (F ++ ((G ++ (R ++ [])) ++ L)) H) : va_P D cl ((F ++ G) ++ (R ++ L)) H := by rw [← mw_gr]; exact hP
theorem mw_grD {A : Nat → Prop} {F G R L : va_W} (hP : va_D A (F ++ ((G ++ (R ++ [])) ++ L))) : va_D A ((F ++ G) ++ (R ++ L)) := by rw [← mw_gr]; exact hP
theorem ma_Rf {n : Nat} {r : Nat → Nat} {t : ma_S} (h : ∀ s, s < 2 ^ n → t.2.2.1 0 s = -1) : ma_R n r t := ⟨fun s hs => Or.inl (h s hs), fun _ => h⟩
theorem nd_MA_becomeUniform_0 : decode nc_MA_becomeUniform 0 = .ok (.aload_n 0, 1) := by decide +kernel
theorem nd_MA_becomeUniform_1 : decode nc_MA_becomeUniform 1 = .ok (.getfield 12, 3) := by decide +kernel
theorem nd_MA_becomeUniform_4 : decode nc_MA_becomeUniform 4 = .ok (.iload_n 1, 1) := by decide +kernel
theorem nd_MA_becomeUniform_5 : decode nc_MA_becomeUniform 5 = .ok (.putfield 55, 3) := by decide +kernel
theorem nd_MA_becomeUniform_8 : decode nc_MA_becomeUniform 8 = .ok (.aload_n 0, 1) := by decide +kernel
theorem nd_MA_becomeUniform_9 : decode nc_MA_becomeUniform 9 = .ok (.aload_n 0, 1) := by decide +kernel
theorem nd_MA_becomeUniform_10 : decode nc_MA_becomeUniform 10 = .ok (.getfield 12, 3) := by decide +kernel
theorem nd_MA_becomeUniform_13 : decode nc_MA_becomeUniform 13 = .ok (.invokevirtual 59, 3) := by decide +kernel
theorem nd_MA_becomeUniform_16 : decode nc_MA_becomeUniform 16 = .ok (.return_, 1) := by decide +kernel
set_option maxRecDepth 20000 in
theorem c_MA_becomeUniform (l : Launch) (D : va_G) (cI cG cM : ClassId)  (a : ma_A) (n : Nat) (hn : n ≤ 10) (kd : Nat) (sc : Nat → Int32) (f E P C : Nat → Nat → Int32) (x : ma_T) (hI : ma_I n x (kd, sc, f, E, P, C)) (k : Nat) (hk10 : k ≤ 10) (sz : Nat) : wb_Mv l ny_MA_becomeUniform nc_MA_becomeUniform 2 ({ frames := 3, cells := 0, slots := 0, locals := 64 }) D (ty_all cI cG cM) (mw_ cI cG a n (kd, sc, f, E, P, C)) sz [.ref (a.1 0), .int (nI (k))] (fun u : ma_S => ma_I n (0, k, x.2.2) u) (fun u : ma_S => mw_ cI cG a n u) := by
  refine wb_start (S := ma_S) (by decide) (Nat.le_of_ble_eq_true rfl) ?_
  intro p e0 s0 m below meth c ls A hx hb hr hml htg hown hk hP hK hN hl hAe hsz hD hA
  have hl : lv_has ls 2 [(0, .ref (a.1 0)), (1, .int (nI (k)))] := hl
  have hP : va_P D cl_all ([((a.1 0), .inr (1, [.ref (a.1 2), .ref (a.1 7), .ref (a.1 3), .ref (a.1 10), .ref (a.1 1), .int (sc 0), .ref (a.1 kd)])), ((a.1 1), .inl (cI, 2 ^ n, .inl (f 0))), ((a.1 2), .inr (2, [.int (sc 1)])), ((a.1 3), .inr (4, [.ref (a.1 6), .ref (a.1 4), .ref (a.1 5)])), ((a.1 4), .inl (cI, 4, .inl (f 1))), ((a.1 5), .inl (cI, 4, .inl (f 2))), ((a.1 6), .inl (cI, n, .inl (f 3)))] ++ (mw_G cI cG a n (kd, sc, f, E, P, C) ++ mw_L cI cG a n (kd, sc, f, E, P, C))) s0.heap := hP
  have hD : va_D A ([((a.1 0), .inr (1, [.ref (a.1 2), .ref (a.1 7), .ref (a.1 3), .ref (a.1 10), .ref (a.1 1), .int (sc 0), .ref (a.1 kd)])), ((a.1 1), .inl (cI, 2 ^ n, .inl (f 0))), ((a.1 2), .inr (2, [.int (sc 1)])), ((a.1 3), .inr (4, [.ref (a.1 6), .ref (a.1 4), .ref (a.1 5)])), ((a.1 4), .inl (cI, 4, .inl (f 1))), ((a.1 5), .inl (cI, 4, .inl (f 2))), ((a.1 6), .inl (cI, n, .inl (f 3)))] ++ (mw_G cI cG a n (kd, sc, f, E, P, C) ++ mw_L cI cG a n (kd, sc, f, E, P, C))) := hD
  have hS : va_S A s0.heap s0.heap [] := va_S.rf
  have hRf : 3 ≤ ({ frames := 3, cells := 0, slots := 0, locals := 64 } : Room).frames := Nat.le_refl _
  have hRl : 64 ≤ ({ frames := 3, cells := 0, slots := 0, locals := 64 } : Room).locals := Nat.le_refl _
  have hCS : 0 ≤ ({ frames := 3, cells := 0, slots := 0, locals := 64 } : Room).cells ∧ 0 ≤ ({ frames := 3, cells := 0, slots := 0, locals := 64 } : Room).slots := ⟨Nat.zero_le _, Nat.zero_le _⟩
  have h2n : 2 ^ n ≤ 1024 := Nat.pow_le_pow_right (by omega) hn
  refine lv_aload_n hx hb nd_MA_becomeUniform_0 rfl (lv_at hl 0 rfl) ?_
  refine va_get (D := D) (C := nr_MA) (T := nt_MA) (N := 7) hx hb htg tf_MA hown hK hP 0 rfl rfl 0 (by decide) (htg _ tm_100) (fun _ h => h) rfl nd_MA_becomeUniform_1 ?_
  refine lv_iload_n hx hb nd_MA_becomeUniform_4 rfl (lv_at hl 1 rfl) ?_
  refine va_putN (D := D) (C := nr_UK) (T := nt_UK) (N := 1) hx hb htg tf_UK nu_UK no_UK nn_UK hown hK hP hD hS 2 rfl rfl 0 (by decide) (va_Nw.use rfl (tn_38 hN)) (fun _ h => h) rfl rfl rfl rfl (Nat.le_of_ble_eq_true rfl) nd_MA_becomeUniform_5 (fun H locs hP hD hS => ?_)
  have hP : va_P D cl_all ([((a.1 0), .inr (1, [.ref (a.1 2), .ref (a.1 7), .ref (a.1 3), .ref (a.1 10), .ref (a.1 1), .int (sc 0), .ref (a.1 kd)])), ((a.1 1), .inl (cI, 2 ^ n, .inl (f 0))), ((a.1 2), .inr (2, [.int (nI (k))])), ((a.1 3), .inr (4, [.ref (a.1 6), .ref (a.1 4), .ref (a.1 5)])), ((a.1 4), .inl (cI, 4, .inl (f 1))), ((a.1 5), .inl (cI, 4, .inl (f 2))), ((a.1 6), .inl (cI, n, .inl (f 3)))] ++ (mw_G cI cG a n (kd, sc, f, E, P, C) ++ mw_L cI cG a n (kd, sc, f, E, P, C))) H := hP
  have hD : va_D A ([((a.1 0), .inr (1, [.ref (a.1 2), .ref (a.1 7), .ref (a.1 3), .ref (a.1 10), .ref (a.1 1), .int (sc 0), .ref (a.1 kd)])), ((a.1 1), .inl (cI, 2 ^ n, .inl (f 0))), ((a.1 2), .inr (2, [.int (nI (k))])), ((a.1 3), .inr (4, [.ref (a.1 6), .ref (a.1 4), .ref (a.1 5)])), ((a.1 4), .inl (cI, 4, .inl (f 1))), ((a.1 5), .inl (cI, 4, .inl (f 2))), ((a.1 6), .inl (cI, n, .inl (f 3)))] ++ (mw_G cI cG a n (kd, sc, f, E, P, C) ++ mw_L cI cG a n (kd, sc, f, E, P, C))) := hD
  refine lv_aload_n hx hb nd_MA_becomeUniform_8 rfl (lv_at hl 0 rfl) ?_
  refine lv_aload_n hx hb nd_MA_becomeUniform_9 rfl (lv_at hl 0 rfl) ?_
  refine va_get (D := D) (C := nr_MA) (T := nt_MA) (N := 7) hx hb htg tf_MA hown hK hP 0 rfl rfl 0 (by decide) (htg _ tm_100) (fun _ h => h) rfl nd_MA_becomeUniform_10 ?_
  refine wd_Vv (C := nr_MA) (n := 1) (X := []) (Y := [((a.1 0), .inr (1, [.ref (a.1 2), .ref (a.1 7), .ref (a.1 3), .ref (a.1 10), .ref (a.1 1), .int (sc 0), .ref (a.1 kd)])), ((a.1 1), .inl (cI, 2 ^ n, .inl (f 0)))]) (Z := [((a.1 2), .inr (2, [.int (nI (k))])), ((a.1 3), .inr (4, [.ref (a.1 6), .ref (a.1 4), .ref (a.1 5)])), ((a.1 4), .inl (cI, 4, .inl (f 1))), ((a.1 5), .inl (cI, 4, .inl (f 2))), ((a.1 6), .inl (cI, n, .inl (f 3)))] ++ (mw_G cI cG a n (kd, sc, f, E, P, C) ++ mw_L cI cG a n (kd, sc, f, E, P, C))) hx hb hml hown htg (c_MA_become l D cI cG cM a n hn kd 2 (sc 0) (f 0) (fun q => hI.2.2.2 q) _) tm_152 tm_149 tm_151 tp_0 tm_2 (by decide +kernel) ⟨⟨Nat.le_trans (by decide) hRf, Nat.le_trans (by decide) hRl⟩, rfl, rfl⟩ hP hD hS hA hK hN (va_recv (q0 := 0) (ci := 1) hK hP rfl rfl) rfl hl.1 rfl (Nat.le_of_ble_eq_true rfl) nd_MA_becomeUniform_13 hCS (fun u13 H locs hp13 hP hD hS => ?_)
  have hP : va_P D cl_all ([((a.1 0), .inr (1, [.ref (a.1 2), .ref (a.1 7), .ref (a.1 3), .ref (a.1 10), .ref (a.1 1), .int (u13.1), .ref (a.1 2)])), ((a.1 1), .inl (cI, 2 ^ n, .inl u13.2)), ((a.1 2), .inr (2, [.int (nI (k))])), ((a.1 3), .inr (4, [.ref (a.1 6), .ref (a.1 4), .ref (a.1 5)])), ((a.1 4), .inl (cI, 4, .inl (f 1))), ((a.1 5), .inl (cI, 4, .inl (f 2))), ((a.1 6), .inl (cI, n, .inl (f 3)))] ++ (mw_G cI cG a n (kd, sc, f, E, P, C) ++ mw_L cI cG a n (kd, sc, f, E, P, C))) H := hP
  have hD : va_D A ([((a.1 0), .inr (1, [.ref (a.1 2), .ref (a.1 7), .ref (a.1 3), .ref (a.1 10), .ref (a.1 1), .int (u13.1), .ref (a.1 2)])), ((a.1 1), .inl (cI, 2 ^ n, .inl u13.2)), ((a.1 2), .inr (2, [.int (nI (k))])), ((a.1 3), .inr (4, [.ref (a.1 6), .ref (a.1 4), .ref (a.1 5)])), ((a.1 4), .inl (cI, 4, .inl (f 1))), ((a.1 5), .inl (cI, 4, .inl (f 2))), ((a.1 6), .inl (cI, n, .inl (f 3)))] ++ (mw_G cI cG a n (kd, sc, f, E, P, C) ++ mw_L cI cG a n (kd, sc, f, E, P, C))) := hD
  exact wb_vret ((2, va_up (va_up sc 1 (nI k)) 0 u13.1, va_up f 0 u13.2, E, P, C)) hx hb hr hk hAe (⟨Or.inl ⟨rfl, hk10⟩, Or.inl ⟨rfl, rfl, rfl⟩, ma_Rf (fun s hs => hp13.2 s hs)⟩) hP hD hS nd_MA_becomeUniform_16
theorem nd_MA_becomeGraphic_0 : decode nc_MA_becomeGraphic 0 = .ok (.aload_n 0, 1) := by decide +kernel
theorem nd_MA_becomeGraphic_1 : decode nc_MA_becomeGraphic 1 = .ok (.getfield 23, 3) := by decide +kernel
theorem nd_MA_becomeGraphic_4 : decode nc_MA_becomeGraphic 4 = .ok (.invokevirtual 63, 3) := by decide +kernel
theorem nd_MA_becomeGraphic_7 : decode nc_MA_becomeGraphic 7 = .ok (.aload_n 0, 1) := by decide +kernel
theorem nd_MA_becomeGraphic_8 : decode nc_MA_becomeGraphic 8 = .ok (.aload_n 0, 1) := by decide +kernel
theorem nd_MA_becomeGraphic_9 : decode nc_MA_becomeGraphic 9 = .ok (.getfield 23, 3) := by decide +kernel
theorem nd_MA_becomeGraphic_12 : decode nc_MA_becomeGraphic 12 = .ok (.invokevirtual 59, 3) := by decide +kernel
theorem nd_MA_becomeGraphic_15 : decode nc_MA_becomeGraphic 15 = .ok (.return_, 1) := by decide +kernel
set_option maxRecDepth 20000 in
theorem c_MA_becomeGraphic (l : Launch) (D : va_G) (cI cG cM : ClassId)  (a : ma_A) (n : Nat) (hn : n ≤ 10) (kd : Nat) (sc : Nat → Int32) (f E P C : Nat → Nat → Int32) (x : ma_T) (hI : ma_I n x (kd, sc, f, E, P, C))  (sz : Nat) : wb_Mv l ny_MA_becomeGraphic nc_MA_becomeGraphic 1 ({ frames := 3, cells := 0, slots := 0, locals := 64 }) D (ty_all cI cG cM) (mw_ cI cG a n (kd, sc, f, E, P, C)) sz [.ref (a.1 0)] (fun u : ma_S => ma_I n (1, x.2.1, (fun _ => 0), (fun _ => 0), x.2.2.2.2) u) (fun u : ma_S => mw_ cI cG a n u) := by
  refine wb_start (S := ma_S) (by decide) (Nat.le_of_ble_eq_true rfl) ?_
  intro p e0 s0 m below meth c ls A hx hb hr hml htg hown hk hP hK hN hl hAe hsz hD hA
  have hl : lv_has ls 1 [(0, .ref (a.1 0))] := hl
  have hP : va_P D cl_all ([((a.1 0), .inr (1, [.ref (a.1 2), .ref (a.1 7), .ref (a.1 3), .ref (a.1 10), .ref (a.1 1), .int (sc 0), .ref (a.1 kd)])), ((a.1 1), .inl (cI, 2 ^ n, .inl (f 0))), ((a.1 2), .inr (2, [.int (sc 1)])), ((a.1 3), .inr (4, [.ref (a.1 6), .ref (a.1 4), .ref (a.1 5)])), ((a.1 4), .inl (cI, 4, .inl (f 1))), ((a.1 5), .inl (cI, 4, .inl (f 2))), ((a.1 6), .inl (cI, n, .inl (f 3)))] ++ (mw_G cI cG a n (kd, sc, f, E, P, C) ++ mw_L cI cG a n (kd, sc, f, E, P, C))) s0.heap := hP
  have hD : va_D A ([((a.1 0), .inr (1, [.ref (a.1 2), .ref (a.1 7), .ref (a.1 3), .ref (a.1 10), .ref (a.1 1), .int (sc 0), .ref (a.1 kd)])), ((a.1 1), .inl (cI, 2 ^ n, .inl (f 0))), ((a.1 2), .inr (2, [.int (sc 1)])), ((a.1 3), .inr (4, [.ref (a.1 6), .ref (a.1 4), .ref (a.1 5)])), ((a.1 4), .inl (cI, 4, .inl (f 1))), ((a.1 5), .inl (cI, 4, .inl (f 2))), ((a.1 6), .inl (cI, n, .inl (f 3)))] ++ (mw_G cI cG a n (kd, sc, f, E, P, C) ++ mw_L cI cG a n (kd, sc, f, E, P, C))) := hD
  have hS : va_S A s0.heap s0.heap [] := va_S.rf
  have hRf : 3 ≤ ({ frames := 3, cells := 0, slots := 0, locals := 64 } : Room).frames := Nat.le_refl _
  have hRl : 64 ≤ ({ frames := 3, cells := 0, slots := 0, locals := 64 } : Room).locals := Nat.le_refl _
  have hCS : 0 ≤ ({ frames := 3, cells := 0, slots := 0, locals := 64 } : Room).cells ∧ 0 ≤ ({ frames := 3, cells := 0, slots := 0, locals := 64 } : Room).slots := ⟨Nat.zero_le _, Nat.zero_le _⟩
  have h2n : 2 ^ n ≤ 1024 := Nat.pow_le_pow_right (by omega) hn
  refine lv_aload_n hx hb nd_MA_becomeGraphic_0 rfl (lv_at hl 0 rfl) ?_
  refine va_get (D := D) (C := nr_MA) (T := nt_MA) (N := 7) hx hb htg tf_MA hown hK hP 0 rfl rfl 1 (by decide) (htg _ tm_101) (fun _ h => h) rfl nd_MA_becomeGraphic_1 ?_
  refine wd_Vv (C := nr_GK) (n := 0) (X := [((a.1 0), .inr (1, [.ref (a.1 2), .ref (a.1 7), .ref (a.1 3), .ref (a.1 10), .ref (a.1 1), .int (sc 0), .ref (a.1 kd)])), ((a.1 1), .inl (cI, 2 ^ n, .inl (f 0))), ((a.1 2), .inr (2, [.int (sc 1)])), ((a.1 3), .inr (4, [.ref (a.1 6), .ref (a.1 4), .ref (a.1 5)])), ((a.1 4), .inl (cI, 4, .inl (f 1))), ((a.1 5), .inl (cI, 4, .inl (f 2))), ((a.1 6), .inl (cI, n, .inl (f 3)))]) (Y := mw_G cI cG a n (kd, sc, f, E, P, C)) (Z := mw_L cI cG a n (kd, sc, f, E, P, C)) hx hb hml hown htg (c_GK_clear l D cI cG cM (a.1 7) (a.1 8) (a.1 9) n hn a.2.1 (f 4) E _) tm_168 tm_165 tm_166 tm_167 tm_5 (by decide +kernel) ⟨⟨Nat.le_trans (by decide) hRf, Nat.le_trans (by decide) hRl⟩, rfl, rfl⟩ hP hD hS hA hK hN (va_recv (q0 := 0) (ci := 3) hK (wm_P (X := [((a.1 0), .inr (1, [.ref (a.1 2), .ref (a.1 7), .ref (a.1 3), .ref (a.1 10), .ref (a.1 1), .int (sc 0), .ref (a.1 kd)])), ((a.1 1), .inl (cI, 2 ^ n, .inl (f 0))), ((a.1 2), .inr (2, [.int (sc 1)])), ((a.1 3), .inr (4, [.ref (a.1 6), .ref (a.1 4), .ref (a.1 5)])), ((a.1 4), .inl (cI, 4, .inl (f 1))), ((a.1 5), .inl (cI, 4, .inl (f 2))), ((a.1 6), .inl (cI, n, .inl (f 3)))]) (Y := mw_G cI cG a n (kd, sc, f, E, P, C)) (Z := mw_L cI cG a n (kd, sc, f, E, P, C)) hP).2.1 rfl rfl) rfl hl.1 rfl (Nat.le_of_ble_eq_true rfl) nd_MA_becomeGraphic_4 hCS (fun u4 H locs hp4 hP hD hS => ?_)
  have hP : va_P D cl_all ([((a.1 0), .inr (1, [.ref (a.1 2), .ref (a.1 7), .ref (a.1 3), .ref (a.1 10), .ref (a.1 1), .int (sc 0), .ref (a.1 kd)])), ((a.1 1), .inl (cI, 2 ^ n, .inl (f 0))), ((a.1 2), .inr (2, [.int (sc 1)])), ((a.1 3), .inr (4, [.ref (a.1 6), .ref (a.1 4), .ref (a.1 5)])), ((a.1 4), .inl (cI, 4, .inl (f 1))), ((a.1 5), .inl (cI, 4, .inl (f 2))), ((a.1 6), .inl (cI, n, .inl (f 3)))] ++ (mw_G cI cG a n (kd, sc, f, u4, P, C) ++ mw_L cI cG a n (kd, sc, f, u4, P, C))) H := hP
  have hD : va_D A ([((a.1 0), .inr (1, [.ref (a.1 2), .ref (a.1 7), .ref (a.1 3), .ref (a.1 10), .ref (a.1 1), .int (sc 0), .ref (a.1 kd)])), ((a.1 1), .inl (cI, 2 ^ n, .inl (f 0))), ((a.1 2), .inr (2, [.int (sc 1)])), ((a.1 3), .inr (4, [.ref (a.1 6), .ref (a.1 4), .ref (a.1 5)])), ((a.1 4), .inl (cI, 4, .inl (f 1))), ((a.1 5), .inl (cI, 4, .inl (f 2))), ((a.1 6), .inl (cI, n, .inl (f 3)))] ++ (mw_G cI cG a n (kd, sc, f, u4, P, C) ++ mw_L cI cG a n (kd, sc, f, u4, P, C))) := hD
  refine lv_aload_n hx hb nd_MA_becomeGraphic_7 rfl (lv_at hl 0 rfl) ?_
  refine lv_aload_n hx hb nd_MA_becomeGraphic_8 rfl (lv_at hl 0 rfl) ?_
  refine va_get (D := D) (C := nr_MA) (T := nt_MA) (N := 7) hx hb htg tf_MA hown hK hP 0 rfl rfl 1 (by decide) (htg _ tm_101) (fun _ h => h) rfl nd_MA_becomeGraphic_9 ?_
  refine wd_Vv (C := nr_MA) (n := 1) (X := []) (Y := [((a.1 0), .inr (1, [.ref (a.1 2), .ref (a.1 7), .ref (a.1 3), .ref (a.1 10), .ref (a.1 1), .int (sc 0), .ref (a.1 kd)])), ((a.1 1), .inl (cI, 2 ^ n, .inl (f 0)))]) (Z := [((a.1 2), .inr (2, [.int (sc 1)])), ((a.1 3), .inr (4, [.ref (a.1 6), .ref (a.1 4), .ref (a.1 5)])), ((a.1 4), .inl (cI, 4, .inl (f 1))), ((a.1 5), .inl (cI, 4, .inl (f 2))), ((a.1 6), .inl (cI, n, .inl (f 3)))] ++ (mw_G cI cG a n (kd, sc, f, u4, P, C) ++ mw_L cI cG a n (kd, sc, f, u4, P, C))) hx hb hml hown htg (c_MA_become l D cI cG cM a n hn kd 7 (sc 0) (f 0) (fun q => hI.2.2.2 q) _) tm_152 tm_149 tm_151 tp_0 tm_2 (by decide +kernel) ⟨⟨Nat.le_trans (by decide) hRf, Nat.le_trans (by decide) hRl⟩, rfl, rfl⟩ hP hD hS hA hK hN (va_recv (q0 := 0) (ci := 1) hK hP rfl rfl) rfl hl.1 rfl (Nat.le_of_ble_eq_true rfl) nd_MA_becomeGraphic_12 hCS (fun u12 H locs hp12 hP hD hS => ?_)
  have hP : va_P D cl_all ([((a.1 0), .inr (1, [.ref (a.1 2), .ref (a.1 7), .ref (a.1 3), .ref (a.1 10), .ref (a.1 1), .int (u12.1), .ref (a.1 7)])), ((a.1 1), .inl (cI, 2 ^ n, .inl u12.2)), ((a.1 2), .inr (2, [.int (sc 1)])), ((a.1 3), .inr (4, [.ref (a.1 6), .ref (a.1 4), .ref (a.1 5)])), ((a.1 4), .inl (cI, 4, .inl (f 1))), ((a.1 5), .inl (cI, 4, .inl (f 2))), ((a.1 6), .inl (cI, n, .inl (f 3)))] ++ (mw_G cI cG a n (kd, sc, f, u4, P, C) ++ mw_L cI cG a n (kd, sc, f, u4, P, C))) H := hP
  have hD : va_D A ([((a.1 0), .inr (1, [.ref (a.1 2), .ref (a.1 7), .ref (a.1 3), .ref (a.1 10), .ref (a.1 1), .int (u12.1), .ref (a.1 7)])), ((a.1 1), .inl (cI, 2 ^ n, .inl u12.2)), ((a.1 2), .inr (2, [.int (sc 1)])), ((a.1 3), .inr (4, [.ref (a.1 6), .ref (a.1 4), .ref (a.1 5)])), ((a.1 4), .inl (cI, 4, .inl (f 1))), ((a.1 5), .inl (cI, 4, .inl (f 2))), ((a.1 6), .inl (cI, n, .inl (f 3)))] ++ (mw_G cI cG a n (kd, sc, f, u4, P, C) ++ mw_L cI cG a n (kd, sc, f, u4, P, C))) := hD
  exact wb_vret ((7, va_up sc 0 u12.1, va_up f 0 u12.2, u4, P, C)) hx hb hr hk hAe (⟨Or.inr (Or.inl ⟨rfl, fun _ _ => ⟨show 0 < 8 from by decide, show 0 < 8 from by decide⟩⟩), Or.inr (Or.inl ⟨rfl, rfl, fun e he => ⟨hp4 e he 0 (by omega), hp4 e he 1 (by omega)⟩⟩), ma_Rf (fun s hs => hp12.2 s hs)⟩) hP hD hS nd_MA_becomeGraphic_15
theorem nd_MA_becomeClasses_0 : decode nc_MA_becomeClasses 0 = .ok (.aload_n 0, 1) := by decide +kernel
theorem nd_MA_becomeClasses_1 : decode nc_MA_becomeClasses 1 = .ok (.getfield 30, 3) := by decide +kernel
theorem nd_MA_becomeClasses_4 : decode nc_MA_becomeClasses 4 = .ok (.invokevirtual 66, 3) := by decide +kernel
theorem nd_MA_becomeClasses_7 : decode nc_MA_becomeClasses 7 = .ok (.aload_n 0, 1) := by decide +kernel
theorem nd_MA_becomeClasses_8 : decode nc_MA_becomeClasses 8 = .ok (.aload_n 0, 1) := by decide +kernel
theorem nd_MA_becomeClasses_9 : decode nc_MA_becomeClasses 9 = .ok (.getfield 30, 3) := by decide +kernel
theorem nd_MA_becomeClasses_12 : decode nc_MA_becomeClasses 12 = .ok (.invokevirtual 59, 3) := by decide +kernel
theorem nd_MA_becomeClasses_15 : decode nc_MA_becomeClasses 15 = .ok (.return_, 1) := by decide +kernel
set_option maxRecDepth 20000 in
theorem c_MA_becomeClasses (l : Launch) (D : va_G) (cI cG cM : ClassId)  (a : ma_A) (n : Nat) (hn : n ≤ 10) (kd : Nat) (sc : Nat → Int32) (f E P C : Nat → Nat → Int32) (x : ma_T) (hI : ma_I n x (kd, sc, f, E, P, C))  (sz : Nat) : wb_Mv l ny_MA_becomeClasses nc_MA_becomeClasses 1 ({ frames := 3, cells := 0, slots := 0, locals := 64 }) D (ty_all cI cG cM) (mw_ cI cG a n (kd, sc, f, E, P, C)) sz [.ref (a.1 0)] (fun u : ma_S => ma_I n (2, x.2.1, x.2.2.1, x.2.2.2.1, (fun _ => 0), (fun _ => 0), x.2.2.2.2.2.2) u) (fun u : ma_S => mw_ cI cG a n u) := by
  refine wb_start (S := ma_S) (by decide) (Nat.le_of_ble_eq_true rfl) ?_
  intro p e0 s0 m below meth c ls A hx hb hr hml htg hown hk hP hK hN hl hAe hsz hD hA
  have hl : lv_has ls 1 [(0, .ref (a.1 0))] := hl
  have hP : va_P D cl_all ([((a.1 0), .inr (1, [.ref (a.1 2), .ref (a.1 7), .ref (a.1 3), .ref (a.1 10), .ref (a.1 1), .int (sc 0), .ref (a.1 kd)])), ((a.1 1), .inl (cI, 2 ^ n, .inl (f 0))), ((a.1 2), .inr (2, [.int (sc 1)])), ((a.1 3), .inr (4, [.ref (a.1 6), .ref (a.1 4), .ref (a.1 5)])), ((a.1 4), .inl (cI, 4, .inl (f 1))), ((a.1 5), .inl (cI, 4, .inl (f 2))), ((a.1 6), .inl (cI, n, .inl (f 3)))] ++ (mw_G cI cG a n (kd, sc, f, E, P, C) ++ mw_L cI cG a n (kd, sc, f, E, P, C))) s0.heap := hP
  have hD : va_D A ([((a.1 0), .inr (1, [.ref (a.1 2), .ref (a.1 7), .ref (a.1 3), .ref (a.1 10), .ref (a.1 1), .int (sc 0), .ref (a.1 kd)])), ((a.1 1), .inl (cI, 2 ^ n, .inl (f 0))), ((a.1 2), .inr (2, [.int (sc 1)])), ((a.1 3), .inr (4, [.ref (a.1 6), .ref (a.1 4), .ref (a.1 5)])), ((a.1 4), .inl (cI, 4, .inl (f 1))), ((a.1 5), .inl (cI, 4, .inl (f 2))), ((a.1 6), .inl (cI, n, .inl (f 3)))] ++ (mw_G cI cG a n (kd, sc, f, E, P, C) ++ mw_L cI cG a n (kd, sc, f, E, P, C))) := hD
  have hS : va_S A s0.heap s0.heap [] := va_S.rf
  have hRf : 3 ≤ ({ frames := 3, cells := 0, slots := 0, locals := 64 } : Room).frames := Nat.le_refl _
  have hRl : 64 ≤ ({ frames := 3, cells := 0, slots := 0, locals := 64 } : Room).locals := Nat.le_refl _
  have hCS : 0 ≤ ({ frames := 3, cells := 0, slots := 0, locals := 64 } : Room).cells ∧ 0 ≤ ({ frames := 3, cells := 0, slots := 0, locals := 64 } : Room).slots := ⟨Nat.zero_le _, Nat.zero_le _⟩
  have h2n : 2 ^ n ≤ 1024 := Nat.pow_le_pow_right (by omega) hn
  refine lv_aload_n hx hb nd_MA_becomeClasses_0 rfl (lv_at hl 0 rfl) ?_
  refine va_get (D := D) (C := nr_MA) (T := nt_MA) (N := 7) hx hb htg tf_MA hown hK hP 0 rfl rfl 2 (by decide) (htg _ tm_102) (fun _ h => h) rfl nd_MA_becomeClasses_1 ?_
  refine wd_Vv (C := nr_CK) (n := 0) (X := [((a.1 0), .inr (1, [.ref (a.1 2), .ref (a.1 7), .ref (a.1 3), .ref (a.1 10), .ref (a.1 1), .int (sc 0), .ref (a.1 kd)])), ((a.1 1), .inl (cI, 2 ^ n, .inl (f 0))), ((a.1 2), .inr (2, [.int (sc 1)]))]) (Y := [((a.1 3), .inr (4, [.ref (a.1 6), .ref (a.1 4), .ref (a.1 5)])), ((a.1 4), .inl (cI, 4, .inl (f 1))), ((a.1 5), .inl (cI, 4, .inl (f 2))), ((a.1 6), .inl (cI, n, .inl (f 3)))]) (Z := (mw_G cI cG a n (kd, sc, f, E, P, C) ++ mw_L cI cG a n (kd, sc, f, E, P, C))) hx hb hml hown htg (c_CK_clear l D cI cG cM (a.1 3) (a.1 4) (a.1 5) (a.1 6) n hn (f 1) (f 2) (f 3) _) tm_193 tm_190 tm_191 tm_192 tm_6 (by decide +kernel) ⟨⟨Nat.le_trans (by decide) hRf, Nat.le_trans (by decide) hRl⟩, rfl, rfl⟩ hP hD hS hA hK hN (va_recv (q0 := 3) (ci := 4) hK hP rfl rfl) rfl hl.1 rfl (Nat.le_of_ble_eq_true rfl) nd_MA_becomeClasses_4 hCS (fun u4 H locs hp4 hP hD hS => ?_)
  have hP : va_P D cl_all ([((a.1 0), .inr (1, [.ref (a.1 2), .ref (a.1 7), .ref (a.1 3), .ref (a.1 10), .ref (a.1 1), .int (sc 0), .ref (a.1 kd)])), ((a.1 1), .inl (cI, 2 ^ n, .inl (f 0))), ((a.1 2), .inr (2, [.int (sc 1)])), ((a.1 3), .inr (4, [.ref (a.1 6), .ref (a.1 4), .ref (a.1 5)])), ((a.1 4), .inl (cI, 4, .inl u4.2)), ((a.1 5), .inl (cI, 4, .inl (f 2))), ((a.1 6), .inl (cI, n, .inl u4.1))] ++ (mw_G cI cG a n (kd, sc, f, E, P, C) ++ mw_L cI cG a n (kd, sc, f, E, P, C))) H := hP
  have hD : va_D A ([((a.1 0), .inr (1, [.ref (a.1 2), .ref (a.1 7), .ref (a.1 3), .ref (a.1 10), .ref (a.1 1), .int (sc 0), .ref (a.1 kd)])), ((a.1 1), .inl (cI, 2 ^ n, .inl (f 0))), ((a.1 2), .inr (2, [.int (sc 1)])), ((a.1 3), .inr (4, [.ref (a.1 6), .ref (a.1 4), .ref (a.1 5)])), ((a.1 4), .inl (cI, 4, .inl u4.2)), ((a.1 5), .inl (cI, 4, .inl (f 2))), ((a.1 6), .inl (cI, n, .inl u4.1))] ++ (mw_G cI cG a n (kd, sc, f, E, P, C) ++ mw_L cI cG a n (kd, sc, f, E, P, C))) := hD
  refine lv_aload_n hx hb nd_MA_becomeClasses_7 rfl (lv_at hl 0 rfl) ?_
  refine lv_aload_n hx hb nd_MA_becomeClasses_8 rfl (lv_at hl 0 rfl) ?_
  refine va_get (D := D) (C := nr_MA) (T := nt_MA) (N := 7) hx hb htg tf_MA hown hK hP 0 rfl rfl 2 (by decide) (htg _ tm_102) (fun _ h => h) rfl nd_MA_becomeClasses_9 ?_
  refine wd_Vv (C := nr_MA) (n := 1) (X := []) (Y := [((a.1 0), .inr (1, [.ref (a.1 2), .ref (a.1 7), .ref (a.1 3), .ref (a.1 10), .ref (a.1 1), .int (sc 0), .ref (a.1 kd)])), ((a.1 1), .inl (cI, 2 ^ n, .inl (f 0)))]) (Z := [((a.1 2), .inr (2, [.int (sc 1)])), ((a.1 3), .inr (4, [.ref (a.1 6), .ref (a.1 4), .ref (a.1 5)])), ((a.1 4), .inl (cI, 4, .inl u4.2)), ((a.1 5), .inl (cI, 4, .inl (f 2))), ((a.1 6), .inl (cI, n, .inl u4.1))] ++ (mw_G cI cG a n (kd, sc, f, E, P, C) ++ mw_L cI cG a n (kd, sc, f, E, P, C))) hx hb hml hown htg (c_MA_become l D cI cG cM a n hn kd 3 (sc 0) (f 0) (fun q => hI.2.2.2 q) _) tm_152 tm_149 tm_151 tp_0 tm_2 (by decide +kernel) ⟨⟨Nat.le_trans (by decide) hRf, Nat.le_trans (by decide) hRl⟩, rfl, rfl⟩ hP hD hS hA hK hN (va_recv (q0 := 0) (ci := 1) hK hP rfl rfl) rfl hl.1 rfl (Nat.le_of_ble_eq_true rfl) nd_MA_becomeClasses_12 hCS (fun u12 H locs hp12 hP hD hS => ?_)
  have hP : va_P D cl_all ([((a.1 0), .inr (1, [.ref (a.1 2), .ref (a.1 7), .ref (a.1 3), .ref (a.1 10), .ref (a.1 1), .int (u12.1), .ref (a.1 3)])), ((a.1 1), .inl (cI, 2 ^ n, .inl u12.2)), ((a.1 2), .inr (2, [.int (sc 1)])), ((a.1 3), .inr (4, [.ref (a.1 6), .ref (a.1 4), .ref (a.1 5)])), ((a.1 4), .inl (cI, 4, .inl u4.2)), ((a.1 5), .inl (cI, 4, .inl (f 2))), ((a.1 6), .inl (cI, n, .inl u4.1))] ++ (mw_G cI cG a n (kd, sc, f, E, P, C) ++ mw_L cI cG a n (kd, sc, f, E, P, C))) H := hP
  have hD : va_D A ([((a.1 0), .inr (1, [.ref (a.1 2), .ref (a.1 7), .ref (a.1 3), .ref (a.1 10), .ref (a.1 1), .int (u12.1), .ref (a.1 3)])), ((a.1 1), .inl (cI, 2 ^ n, .inl u12.2)), ((a.1 2), .inr (2, [.int (sc 1)])), ((a.1 3), .inr (4, [.ref (a.1 6), .ref (a.1 4), .ref (a.1 5)])), ((a.1 4), .inl (cI, 4, .inl u4.2)), ((a.1 5), .inl (cI, 4, .inl (f 2))), ((a.1 6), .inl (cI, n, .inl u4.1))] ++ (mw_G cI cG a n (kd, sc, f, E, P, C) ++ mw_L cI cG a n (kd, sc, f, E, P, C))) := hD
  exact wb_vret ((3, va_up sc 0 u12.1, va_up (va_up (va_up f 3 u4.1) 1 u4.2) 0 u12.2, E, P, C)) hx hb hr hk hAe (⟨Or.inr (Or.inr (Or.inl ⟨rfl, fun _ _ => show 0 < 4 from by decide, fun _ _ => show 0 ≤ 10 from by decide⟩)), Or.inr (Or.inr (Or.inl ⟨rfl, rfl, hp4.1, hp4.2⟩)), ma_Rf (fun s hs => hp12.2 s hs)⟩) hP hD hS nd_MA_becomeClasses_15
theorem nd_MA_becomeLinear_0 : decode nc_MA_becomeLinear 0 = .ok (.aload_n 0, 1) := by decide +kernel
theorem nd_MA_becomeLinear_1 : decode nc_MA_becomeLinear 1 = .ok (.getfield 37, 3) := by decide +kernel
theorem nd_MA_becomeLinear_4 : decode nc_MA_becomeLinear 4 = .ok (.iload_n 1, 1) := by decide +kernel
theorem nd_MA_becomeLinear_5 : decode nc_MA_becomeLinear 5 = .ok (.invokevirtual 67, 3) := by decide +kernel
theorem nd_MA_becomeLinear_8 : decode nc_MA_becomeLinear 8 = .ok (.aload_n 0, 1) := by decide +kernel
theorem nd_MA_becomeLinear_9 : decode nc_MA_becomeLinear 9 = .ok (.aload_n 0, 1) := by decide +kernel
theorem nd_MA_becomeLinear_10 : decode nc_MA_becomeLinear 10 = .ok (.getfield 37, 3) := by decide +kernel
theorem nd_MA_becomeLinear_13 : decode nc_MA_becomeLinear 13 = .ok (.invokevirtual 59, 3) := by decide +kernel
theorem nd_MA_becomeLinear_16 : decode nc_MA_becomeLinear 16 = .ok (.return_, 1) := by decide +kernel
set_option maxRecDepth 20000 in
theorem c_MA_becomeLinear (l : Launch) (D : va_G) (cI cG cM : ClassId)  (a : ma_A) (n : Nat) (hn : n ≤ 10) (kd : Nat) (sc : Nat → Int32) (f E P C : Nat → Nat → Int32) (x : ma_T) (hI : ma_I n x (kd, sc, f, E, P, C)) (p : Nat) (hp : p = 2 ∨ p = 3 ∨ p = 5 ∨ p = 7) (sz : Nat) : wb_Mv l ny_MA_becomeLinear nc_MA_becomeLinear 2 ({ frames := 3, cells := 0, slots := 0, locals := 64 }) D (ty_all cI cG cM) (mw_ cI cG a n (kd, sc, f, E, P, C)) sz [.ref (a.1 0), .int (nI (p))] (fun u : ma_S => ma_I n (3, x.2.1, x.2.2.1, x.2.2.2.1, x.2.2.2.2.1, x.2.2.2.2.2.1, p, (fun _ _ => 0)) u) (fun u : ma_S => mw_ cI cG a n u) := by
  refine wb_start (S := ma_S) (by decide) (Nat.le_of_ble_eq_true rfl) ?_
  intro p0 e0 s0 m below meth c ls A hx hb hr hml htg hown hk hP hK hN hl hAe hsz hD hA
  have hl : lv_has ls 2 [(0, .ref (a.1 0)), (1, .int (nI (p)))] := hl
  have hP : va_P D cl_all ([((a.1 0), .inr (1, [.ref (a.1 2), .ref (a.1 7), .ref (a.1 3), .ref (a.1 10), .ref (a.1 1), .int (sc 0), .ref (a.1 kd)])), ((a.1 1), .inl (cI, 2 ^ n, .inl (f 0))), ((a.1 2), .inr (2, [.int (sc 1)])), ((a.1 3), .inr (4, [.ref (a.1 6), .ref (a.1 4), .ref (a.1 5)])), ((a.1 4), .inl (cI, 4, .inl (f 1))), ((a.1 5), .inl (cI, 4, .inl (f 2))), ((a.1 6), .inl (cI, n, .inl (f 3)))] ++ (mw_G cI cG a n (kd, sc, f, E, P, C) ++ mw_L cI cG a n (kd, sc, f, E, P, C))) s0.heap := hP
  have hD : va_D A ([((a.1 0), .inr (1, [.ref (a.1 2), .ref (a.1 7), .ref (a.1 3), .ref (a.1 10), .ref (a.1 1), .int (sc 0), .ref (a.1 kd)])), ((a.1 1), .inl (cI, 2 ^ n, .inl (f 0))), ((a.1 2), .inr (2, [.int (sc 1)])), ((a.1 3), .inr (4, [.ref (a.1 6), .ref (a.1 4), .ref (a.1 5)])), ((a.1 4), .inl (cI, 4, .inl (f 1))), ((a.1 5), .inl (cI, 4, .inl (f 2))), ((a.1 6), .inl (cI, n, .inl (f 3)))] ++ (mw_G cI cG a n (kd, sc, f, E, P, C) ++ mw_L cI cG a n (kd, sc, f, E, P, C))) := hD
  have hS : va_S A s0.heap s0.heap [] := va_S.rf
  have hRf : 3 ≤ ({ frames := 3, cells := 0, slots := 0, locals := 64 } : Room).frames := Nat.le_refl _
  have hRl : 64 ≤ ({ frames := 3, cells := 0, slots := 0, locals := 64 } : Room).locals := Nat.le_refl _
  have hCS : 0 ≤ ({ frames := 3, cells := 0, slots := 0, locals := 64 } : Room).cells ∧ 0 ≤ ({ frames := 3, cells := 0, slots := 0, locals := 64 } : Room).slots := ⟨Nat.zero_le _, Nat.zero_le _⟩
  have h2n : 2 ^ n ≤ 1024 := Nat.pow_le_pow_right (by omega) hn
  refine lv_aload_n hx hb nd_MA_becomeLinear_0 rfl (lv_at hl 0 rfl) ?_
  refine va_get (D := D) (C := nr_MA) (T := nt_MA) (N := 7) hx hb htg tf_MA hown hK hP 0 rfl rfl 3 (by decide) (htg _ tm_103) (fun _ h => h) rfl nd_MA_becomeLinear_1 ?_
  refine lv_iload_n hx hb nd_MA_becomeLinear_4 rfl (lv_at hl 1 rfl) ?_
  rw [mw_Lp rfl, mw_rot] at hP hD
  refine wd_Vv (C := nr_LK) (n := 1) (Y := ([(a.1 10, .inr (5, [.ref (a.1 13), .ref (a.1 11), .ref (a.1 12), .int (sc 2)])), (a.1 11, .inl (cG, 4, .inr (.inr (.inr (.inr (fun i => if i < 4 then some (a.2.2.1 i) else none)))))), (a.1 12, .inl (cI, 4, .inl (f 5))), (a.1 13, .inl (cG, n, .inr (.inr (.inr (.inr (fun i => if i < n then some (a.2.2.2 i) else none))))))] ++ (rw_R cI 4 a.2.2.1 P 4 ++ (rw_R cI 4 a.2.2.2 C n ++ [])))) (Z := []) hx hb hml hown htg (c_LK_clear l D cI cG cM (a.1 10) (a.1 11) (a.1 12) (a.1 13) n hn a.2.2.1 a.2.2.2 p P (f 5) (sc 2) C _) tm_225 tm_222 tm_223 tm_224 tm_7 (by decide +kernel) ⟨⟨Nat.le_trans (by decide) hRf, Nat.le_trans (by decide) hRl⟩, rfl, rfl⟩ hP hD hS hA hK hN (va_recv (q0 := 0) (ci := 5) hK (wm_P (Y := ([(a.1 10, .inr (5, [.ref (a.1 13), .ref (a.1 11), .ref (a.1 12), .int (sc 2)])), (a.1 11, .inl (cG, 4, .inr (.inr (.inr (.inr (fun i => if i < 4 then some (a.2.2.1 i) else none)))))), (a.1 12, .inl (cI, 4, .inl (f 5))), (a.1 13, .inl (cG, n, .inr (.inr (.inr (.inr (fun i => if i < n then some (a.2.2.2 i) else none))))))] ++ (rw_R cI 4 a.2.2.1 P 4 ++ (rw_R cI 4 a.2.2.2 C n ++ [])))) (Z := []) hP).2.1 rfl rfl) rfl hl.1 rfl (Nat.le_of_ble_eq_true rfl) nd_MA_becomeLinear_5 hCS (fun u5 H locs hp5 hP hD hS => ?_)
  rw [← mw_rot] at hP hD
  have hP : va_P D cl_all ([((a.1 0), .inr (1, [.ref (a.1 2), .ref (a.1 7), .ref (a.1 3), .ref (a.1 10), .ref (a.1 1), .int (sc 0), .ref (a.1 kd)])), ((a.1 1), .inl (cI, 2 ^ n, .inl (f 0))), ((a.1 2), .inr (2, [.int (sc 1)])), ((a.1 3), .inr (4, [.ref (a.1 6), .ref (a.1 4), .ref (a.1 5)])), ((a.1 4), .inl (cI, 4, .inl (f 1))), ((a.1 5), .inl (cI, 4, .inl (f 2))), ((a.1 6), .inl (cI, n, .inl (f 3)))] ++ (mw_G cI cG a n (kd, va_up sc 2 (nI p), f, E, P, u5) ++ mw_L cI cG a n (kd, va_up sc 2 (nI p), f, E, P, u5))) H := hP
  have hD : va_D A ([((a.1 0), .inr (1, [.ref (a.1 2), .ref (a.1 7), .ref (a.1 3), .ref (a.1 10), .ref (a.1 1), .int (sc 0), .ref (a.1 kd)])), ((a.1 1), .inl (cI, 2 ^ n, .inl (f 0))), ((a.1 2), .inr (2, [.int (sc 1)])), ((a.1 3), .inr (4, [.ref (a.1 6), .ref (a.1 4), .ref (a.1 5)])), ((a.1 4), .inl (cI, 4, .inl (f 1))), ((a.1 5), .inl (cI, 4, .inl (f 2))), ((a.1 6), .inl (cI, n, .inl (f 3)))] ++ (mw_G cI cG a n (kd, va_up sc 2 (nI p), f, E, P, u5) ++ mw_L cI cG a n (kd, va_up sc 2 (nI p), f, E, P, u5))) := hD
  refine lv_aload_n hx hb nd_MA_becomeLinear_8 rfl (lv_at hl 0 rfl) ?_
  refine lv_aload_n hx hb nd_MA_becomeLinear_9 rfl (lv_at hl 0 rfl) ?_
  refine va_get (D := D) (C := nr_MA) (T := nt_MA) (N := 7) hx hb htg tf_MA hown hK hP 0 rfl rfl 3 (by decide) (htg _ tm_103) (fun _ h => h) rfl nd_MA_becomeLinear_10 ?_
  refine wd_Vv (C := nr_MA) (n := 1) (X := []) (Y := [((a.1 0), .inr (1, [.ref (a.1 2), .ref (a.1 7), .ref (a.1 3), .ref (a.1 10), .ref (a.1 1), .int (sc 0), .ref (a.1 kd)])), ((a.1 1), .inl (cI, 2 ^ n, .inl (f 0)))]) (Z := [((a.1 2), .inr (2, [.int (sc 1)])), ((a.1 3), .inr (4, [.ref (a.1 6), .ref (a.1 4), .ref (a.1 5)])), ((a.1 4), .inl (cI, 4, .inl (f 1))), ((a.1 5), .inl (cI, 4, .inl (f 2))), ((a.1 6), .inl (cI, n, .inl (f 3)))] ++ (mw_G cI cG a n (kd, va_up sc 2 (nI p), f, E, P, u5) ++ mw_L cI cG a n (kd, va_up sc 2 (nI p), f, E, P, u5))) hx hb hml hown htg (c_MA_become l D cI cG cM a n hn kd 10 (sc 0) (f 0) (fun q => hI.2.2.2 q) _) tm_152 tm_149 tm_151 tp_0 tm_2 (by decide +kernel) ⟨⟨Nat.le_trans (by decide) hRf, Nat.le_trans (by decide) hRl⟩, rfl, rfl⟩ hP hD hS hA hK hN (va_recv (q0 := 0) (ci := 1) hK hP rfl rfl) rfl hl.1 rfl (Nat.le_of_ble_eq_true rfl) nd_MA_becomeLinear_13 hCS (fun u13 H locs hp13 hP hD hS => ?_)
  have hP : va_P D cl_all ([((a.1 0), .inr (1, [.ref (a.1 2), .ref (a.1 7), .ref (a.1 3), .ref (a.1 10), .ref (a.1 1), .int (u13.1), .ref (a.1 10)])), ((a.1 1), .inl (cI, 2 ^ n, .inl u13.2)), ((a.1 2), .inr (2, [.int (sc 1)])), ((a.1 3), .inr (4, [.ref (a.1 6), .ref (a.1 4), .ref (a.1 5)])), ((a.1 4), .inl (cI, 4, .inl (f 1))), ((a.1 5), .inl (cI, 4, .inl (f 2))), ((a.1 6), .inl (cI, n, .inl (f 3)))] ++ (mw_G cI cG a n (kd, va_up sc 2 (nI p), f, E, P, u5) ++ mw_L cI cG a n (kd, va_up sc 2 (nI p), f, E, P, u5))) H := hP
  have hD : va_D A ([((a.1 0), .inr (1, [.ref (a.1 2), .ref (a.1 7), .ref (a.1 3), .ref (a.1 10), .ref (a.1 1), .int (u13.1), .ref (a.1 10)])), ((a.1 1), .inl (cI, 2 ^ n, .inl u13.2)), ((a.1 2), .inr (2, [.int (sc 1)])), ((a.1 3), .inr (4, [.ref (a.1 6), .ref (a.1 4), .ref (a.1 5)])), ((a.1 4), .inl (cI, 4, .inl (f 1))), ((a.1 5), .inl (cI, 4, .inl (f 2))), ((a.1 6), .inl (cI, n, .inl (f 3)))] ++ (mw_G cI cG a n (kd, va_up sc 2 (nI p), f, E, P, u5) ++ mw_L cI cG a n (kd, va_up sc 2 (nI p), f, E, P, u5))) := hD
  exact wb_vret ((10, va_up (va_up sc 2 (nI p)) 0 u13.1, va_up f 0 u13.2, E, P, u5)) hx hb hr hk hAe (⟨Or.inr (Or.inr (Or.inr ⟨rfl, hp, fun _ _ _ _ => by show 0 < p; omega⟩)), Or.inr (Or.inr (Or.inr ⟨rfl, rfl, rfl, hp5⟩)), ma_Rf (fun s hs => hp13.2 s hs)⟩) hP hD hS nd_MA_becomeLinear_16
theorem nd_MA_setEdge_0 : decode nc_MA_setEdge 0 = .ok (.aload_n 0, 1) := by decide +kernel
theorem nd_MA_setEdge_1 : decode nc_MA_setEdge 1 = .ok (.getfield 51, 3) := by decide +kernel
theorem nd_MA_setEdge_4 : decode nc_MA_setEdge 4 = .ok (.astore 5, 2) := by decide +kernel
theorem nd_MA_setEdge_6 : decode nc_MA_setEdge 6 = .ok (.aload 5, 2) := by decide +kernel
theorem nd_MA_setEdge_8 : decode nc_MA_setEdge 8 = .ok (.instanceof 18, 3) := by decide +kernel
theorem nd_MA_setEdge_11 : decode nc_MA_setEdge 11 = .ok (.ifCond .eq 36, 3) := by decide +kernel
theorem nd_MA_setEdge_14 : decode nc_MA_setEdge 14 = .ok (.aload 5, 2) := by decide +kernel
theorem nd_MA_setEdge_16 : decode nc_MA_setEdge 16 = .ok (.checkcast 18, 3) := by decide +kernel
theorem nd_MA_setEdge_19 : decode nc_MA_setEdge 19 = .ok (.astore 4, 2) := by decide +kernel
theorem nd_MA_setEdge_21 : decode nc_MA_setEdge 21 = .ok (.aload 4, 2) := by decide +kernel
theorem nd_MA_setEdge_23 : decode nc_MA_setEdge 23 = .ok (.getfield 69, 3) := by decide +kernel
theorem nd_MA_setEdge_26 : decode nc_MA_setEdge 26 = .ok (.iload_n 1, 1) := by decide +kernel
theorem nd_MA_setEdge_27 : decode nc_MA_setEdge 27 = .ok (.aaload, 1) := by decide +kernel
theorem nd_MA_setEdge_28 : decode nc_MA_setEdge 28 = .ok (.iconst 0, 1) := by decide +kernel
theorem nd_MA_setEdge_29 : decode nc_MA_setEdge 29 = .ok (.iload_n 2, 1) := by decide +kernel
theorem nd_MA_setEdge_30 : decode nc_MA_setEdge 30 = .ok (.iastore, 1) := by decide +kernel
theorem nd_MA_setEdge_31 : decode nc_MA_setEdge 31 = .ok (.aload 4, 2) := by decide +kernel
theorem nd_MA_setEdge_33 : decode nc_MA_setEdge 33 = .ok (.getfield 69, 3) := by decide +kernel
theorem nd_MA_setEdge_36 : decode nc_MA_setEdge 36 = .ok (.iload_n 1, 1) := by decide +kernel
theorem nd_MA_setEdge_37 : decode nc_MA_setEdge 37 = .ok (.aaload, 1) := by decide +kernel
theorem nd_MA_setEdge_38 : decode nc_MA_setEdge 38 = .ok (.iconst 1, 1) := by decide +kernel
theorem nd_MA_setEdge_39 : decode nc_MA_setEdge 39 = .ok (.iload_n 3, 1) := by decide +kernel
theorem nd_MA_setEdge_40 : decode nc_MA_setEdge 40 = .ok (.iastore, 1) := by decide +kernel
theorem nd_MA_setEdge_41 : decode nc_MA_setEdge 41 = .ok (.aload_n 0, 1) := by decide +kernel
theorem nd_MA_setEdge_42 : decode nc_MA_setEdge 42 = .ok (.invokevirtual 73, 3) := by decide +kernel
theorem nd_MA_setEdge_45 : decode nc_MA_setEdge 45 = .ok (.iconst 1, 1) := by decide +kernel
theorem nd_MA_setEdge_46 : decode nc_MA_setEdge 46 = .ok (.ireturn, 1) := by decide +kernel
theorem nd_MA_setEdge_47 : decode nc_MA_setEdge 47 = .ok (.iconst 0, 1) := by decide +kernel
theorem nd_MA_setEdge_48 : decode nc_MA_setEdge 48 = .ok (.ireturn, 1) := by decide +kernel
set_option maxRecDepth 20000 in
theorem c_MA_setEdge (l : Launch) (D : va_G) (cI cG cM : ClassId)  (a : ma_A) (n : Nat) (hn : n ≤ 10) (kd : Nat) (sc : Nat → Int32) (f E P C : Nat → Nat → Int32) (x : ma_T) (hI : ma_I n x (kd, sc, f, E, P, C)) (el uu vv : Nat) (hel : el < n) (huu : uu < 8) (hvv : vv < 8) (sz : Nat) : wb_Mi l ny_MA_setEdge nc_MA_setEdge 6 (some .boolean) ({ frames := 2, cells := 0, slots := 0, locals := 43 }) D (ty_all cI cG cM) (mw_ cI cG a n (kd, sc, f, E, P, C)) sz [.ref (a.1 0), .int (nI (el)), .int (nI (uu)), .int (nI (vv))] (fun (v : Int32) (u : ma_S) => (x.1 = 1 → v = nI 1 ∧ ma_I n (x.1, x.2.1, va_up x.2.2.1 el uu, va_up x.2.2.2.1 el vv, x.2.2.2.2) u) ∧ (¬ x.1 = 1 → v = nI 0 ∧ ma_I n x u)) (fun u : ma_S => mw_ cI cG a n u) := by
  refine wb_start (S := ma_S) (by decide) (Nat.le_of_ble_eq_true rfl) ?_
  intro p e0 s0 m below meth c ls A hx hb hr hml htg hown hk hP hK hN hl hAe hsz hD hA
  have hl : lv_has ls 6 [(0, .ref (a.1 0)), (1, .int (nI (el))), (2, .int (nI (uu))), (3, .int (nI (vv)))] := hl
  have hP : va_P D cl_all ([((a.1 0), .inr (1, [.ref (a.1 2), .ref (a.1 7), .ref (a.1 3), .ref (a.1 10), .ref (a.1 1), .int (sc 0), .ref (a.1 kd)])), ((a.1 1), .inl (cI, 2 ^ n, .inl (f 0))), ((a.1 2), .inr (2, [.int (sc 1)])), ((a.1 3), .inr (4, [.ref (a.1 6), .ref (a.1 4), .ref (a.1 5)])), ((a.1 4), .inl (cI, 4, .inl (f 1))), ((a.1 5), .inl (cI, 4, .inl (f 2))), ((a.1 6), .inl (cI, n, .inl (f 3)))] ++ (mw_G cI cG a n (kd, sc, f, E, P, C) ++ mw_L cI cG a n (kd, sc, f, E, P, C))) s0.heap := hP
  have hD : va_D A ([((a.1 0), .inr (1, [.ref (a.1 2), .ref (a.1 7), .ref (a.1 3), .ref (a.1 10), .ref (a.1 1), .int (sc 0), .ref (a.1 kd)])), ((a.1 1), .inl (cI, 2 ^ n, .inl (f 0))), ((a.1 2), .inr (2, [.int (sc 1)])), ((a.1 3), .inr (4, [.ref (a.1 6), .ref (a.1 4), .ref (a.1 5)])), ((a.1 4), .inl (cI, 4, .inl (f 1))), ((a.1 5), .inl (cI, 4, .inl (f 2))), ((a.1 6), .inl (cI, n, .inl (f 3)))] ++ (mw_G cI cG a n (kd, sc, f, E, P, C) ++ mw_L cI cG a n (kd, sc, f, E, P, C))) := hD
  have hS : va_S A s0.heap s0.heap [] := va_S.rf
  have hRf : 2 ≤ ({ frames := 2, cells := 0, slots := 0, locals := 43 } : Room).frames := Nat.le_refl _
  have hRl : 43 ≤ ({ frames := 2, cells := 0, slots := 0, locals := 43 } : Room).locals := Nat.le_refl _
  have hCS : 0 ≤ ({ frames := 2, cells := 0, slots := 0, locals := 43 } : Room).cells ∧ 0 ≤ ({ frames := 2, cells := 0, slots := 0, locals := 43 } : Room).slots := ⟨Nat.zero_le _, Nat.zero_le _⟩
  have h2n : 2 ^ n ≤ 1024 := Nat.pow_le_pow_right (by omega) hn
  rcases hI.2.1 with ⟨hq, hkd, ho⟩ | ⟨hq, hkd, ho⟩ | ⟨hq, hkd, ho, ho2⟩ | ⟨hq, hkd, ho, ho2⟩
  · have hkd : kd = 2 := hkd
    subst hkd
    refine lv_aload_n hx hb nd_MA_setEdge_0 rfl (lv_at hl 0 rfl) ?_
    refine va_get (D := D) (C := nr_MA) (T := nt_MA) (N := 7) hx hb htg tf_MA hown hK hP 0 rfl rfl 6 (by decide) (htg _ tm_106) (fun _ h => h) rfl nd_MA_setEdge_1 ?_
    refine lv_astore hx hb nd_MA_setEdge_4 hl (by decide) rfl (fun ls hl => ?_)
    have hl : lv_has ls 6 [(5, .ref (a.1 2)), (0, .ref (a.1 0)), (1, .int (nI (el))), (2, .int (nI (uu))), (3, .int (nI (vv)))] := hl
    refine lv_aload hx hb nd_MA_setEdge_6 (lv_at hl 0 rfl) ?_
    refine va_instNo (C := nr_UK) hx hb hown (htg _ tm_43) (tn_UK_GK hN) (va_recv (q0 := 2) (ci := 2) hK hP rfl rfl) nd_MA_setEdge_8 ?_
    refine wi_top (y := nI 0) rfl ?_
    refine wi_if_eq (tgt := 47) hx hb (by decide) nd_MA_setEdge_11 rfl (fun _ => ?_) (fun h => absurd h (by decide))
    refine wi_ic hx hb (a := 0) nd_MA_setEdge_47 ?_
    exact wb_zret ((2, sc, f, E, P, C)) hx hb hr hk rfl hAe (⟨fun q => by have hq : x.1 = 0 := hq; omega, fun _ => ⟨rfl, hI⟩⟩) hP hD hS nd_MA_setEdge_48
  · have hkd : kd = 7 := hkd
    subst hkd
    refine lv_aload_n hx hb nd_MA_setEdge_0 rfl (lv_at hl 0 rfl) ?_
    refine va_get (D := D) (C := nr_MA) (T := nt_MA) (N := 7) hx hb htg tf_MA hown hK hP 0 rfl rfl 6 (by decide) (htg _ tm_106) (fun _ h => h) rfl nd_MA_setEdge_1 ?_
    refine lv_astore hx hb nd_MA_setEdge_4 hl (by decide) rfl (fun ls hl => ?_)
    have hl : lv_has ls 6 [(5, .ref (a.1 7)), (0, .ref (a.1 0)), (1, .int (nI (el))), (2, .int (nI (uu))), (3, .int (nI (vv)))] := hl
    refine lv_aload hx hb nd_MA_setEdge_6 (lv_at hl 0 rfl) ?_
    refine va_instY (C := nr_GK) hx hb hown (htg _ tm_43) (tn_570 hN) (va_recv (q0 := 0) (ci := 3) hK (wm_P (X := [((a.1 0), .inr (1, [.ref (a.1 2), .ref (a.1 7), .ref (a.1 3), .ref (a.1 10), .ref (a.1 1), .int (sc 0), .ref (a.1 7)])), ((a.1 1), .inl (cI, 2 ^ n, .inl (f 0))), ((a.1 2), .inr (2, [.int (sc 1)])), ((a.1 3), .inr (4, [.ref (a.1 6), .ref (a.1 4), .ref (a.1 5)])), ((a.1 4), .inl (cI, 4, .inl (f 1))), ((a.1 5), .inl (cI, 4, .inl (f 2))), ((a.1 6), .inl (cI, n, .inl (f 3)))]) (Y := mw_G cI cG a n (7, sc, f, E, P, C)) (Z := mw_L cI cG a n (7, sc, f, E, P, C)) hP).2.1 rfl rfl) nd_MA_setEdge_8 ?_
    refine wi_top (y := nI 1) rfl ?_
    refine wi_if_eq (tgt := 47) hx hb (by decide) nd_MA_setEdge_11 rfl (fun h => absurd h (by decide)) (fun _ => ?_)
    refine lv_aload hx hb nd_MA_setEdge_14 (lv_at hl 0 rfl) ?_
    refine va_castY (C := nr_GK) hx hb hown (htg _ tm_43) (tn_570 hN) (va_recv (q0 := 0) (ci := 3) hK (wm_P (X := [((a.1 0), .inr (1, [.ref (a.1 2), .ref (a.1 7), .ref (a.1 3), .ref (a.1 10), .ref (a.1 1), .int (sc 0), .ref (a.1 7)])), ((a.1 1), .inl (cI, 2 ^ n, .inl (f 0))), ((a.1 2), .inr (2, [.int (sc 1)])), ((a.1 3), .inr (4, [.ref (a.1 6), .ref (a.1 4), .ref (a.1 5)])), ((a.1 4), .inl (cI, 4, .inl (f 1))), ((a.1 5), .inl (cI, 4, .inl (f 2))), ((a.1 6), .inl (cI, n, .inl (f 3)))]) (Y := mw_G cI cG a n (7, sc, f, E, P, C)) (Z := mw_L cI cG a n (7, sc, f, E, P, C)) hP).2.1 rfl rfl) nd_MA_setEdge_16 ?_
    refine lv_astore hx hb nd_MA_setEdge_19 hl (by decide) rfl (fun ls hl => ?_)
    have hl : lv_has ls 6 [(4, .ref (a.1 7)), (5, .ref (a.1 7)), (0, .ref (a.1 0)), (1, .int (nI (el))), (2, .int (nI (uu))), (3, .int (nI (vv)))] := hl
    have hP : va_P D cl_all ([((a.1 0), .inr (1, [.ref (a.1 2), .ref (a.1 7), .ref (a.1 3), .ref (a.1 10), .ref (a.1 1), .int (sc 0), .ref (a.1 7)])), ((a.1 1), .inl (cI, 2 ^ n, .inl (f 0))), ((a.1 2), .inr (2, [.int (sc 1)])), ((a.1 3), .inr (4, [.ref (a.1 6), .ref (a.1 4), .ref (a.1 5)])), ((a.1 4), .inl (cI, 4, .inl (f 1))), ((a.1 5), .inl (cI, 4, .inl (f 2))), ((a.1 6), .inl (cI, n, .inl (f 3))), ((a.1 7), .inr (3, [.ref (a.1 9), .ref (a.1 8)])), ((a.1 8), .inl (cI, 8, .inl (f 4))), ((a.1 9), .inl (cG, n, .inr (.inr (.inr (.inr (fun i => if i < n then some (a.2.1 i) else none))))))] ++ (rw_R cI 2 a.2.1 E n ++ mw_L cI cG a n (7, sc, f, E, P, C))) s0.heap := mw_grP (F := [((a.1 0), .inr (1, [.ref (a.1 2), .ref (a.1 7), .ref (a.1 3), .ref (a.1 10), .ref (a.1 1), .int (sc 0), .ref (a.1 7)])), ((a.1 1), .inl (cI, 2 ^ n, .inl (f 0))), ((a.1 2), .inr (2, [.int (sc 1)])), ((a.1 3), .inr (4, [.ref (a.1 6), .ref (a.1 4), .ref (a.1 5)])), ((a.1 4), .inl (cI, 4, .inl (f 1))), ((a.1 5), .inl (cI, 4, .inl (f 2))), ((a.1 6), .inl (cI, n, .inl (f 3)))]) (G := [((a.1 7), .inr (3, [.ref (a.1 9), .ref (a.1 8)])), ((a.1 8), .inl (cI, 8, .inl (f 4))), ((a.1 9), .inl (cG, n, .inr (.inr (.inr (.inr (fun i => if i < n then some (a.2.1 i) else none))))))]) (R := rw_R cI 2 a.2.1 E n) (L := mw_L cI cG a n (7, sc, f, E, P, C)) hP
    have hD : va_D A ([((a.1 0), .inr (1, [.ref (a.1 2), .ref (a.1 7), .ref (a.1 3), .ref (a.1 10), .ref (a.1 1), .int (sc 0), .ref (a.1 7)])), ((a.1 1), .inl (cI, 2 ^ n, .inl (f 0))), ((a.1 2), .inr (2, [.int (sc 1)])), ((a.1 3), .inr (4, [.ref (a.1 6), .ref (a.1 4), .ref (a.1 5)])), ((a.1 4), .inl (cI, 4, .inl (f 1))), ((a.1 5), .inl (cI, 4, .inl (f 2))), ((a.1 6), .inl (cI, n, .inl (f 3))), ((a.1 7), .inr (3, [.ref (a.1 9), .ref (a.1 8)])), ((a.1 8), .inl (cI, 8, .inl (f 4))), ((a.1 9), .inl (cG, n, .inr (.inr (.inr (.inr (fun i => if i < n then some (a.2.1 i) else none))))))] ++ (rw_R cI 2 a.2.1 E n ++ mw_L cI cG a n (7, sc, f, E, P, C))) := mw_grD (F := [((a.1 0), .inr (1, [.ref (a.1 2), .ref (a.1 7), .ref (a.1 3), .ref (a.1 10), .ref (a.1 1), .int (sc 0), .ref (a.1 7)])), ((a.1 1), .inl (cI, 2 ^ n, .inl (f 0))), ((a.1 2), .inr (2, [.int (sc 1)])), ((a.1 3), .inr (4, [.ref (a.1 6), .ref (a.1 4), .ref (a.1 5)])), ((a.1 4), .inl (cI, 4, .inl (f 1))), ((a.1 5), .inl (cI, 4, .inl (f 2))), ((a.1 6), .inl (cI, n, .inl (f 3)))]) (G := [((a.1 7), .inr (3, [.ref (a.1 9), .ref (a.1 8)])), ((a.1 8), .inl (cI, 8, .inl (f 4))), ((a.1 9), .inl (cG, n, .inr (.inr (.inr (.inr (fun i => if i < n then some (a.2.1 i) else none))))))]) (R := rw_R cI 2 a.2.1 E n) (L := mw_L cI cG a n (7, sc, f, E, P, C)) hD
    refine lv_aload hx hb nd_MA_setEdge_21 (lv_at hl 0 rfl) ?_
    refine va_getN (D := D) (C := nr_GK) (T := nt_GK) (N := 2) hx hb htg tf_GK hown hK hP 7 rfl rfl 0 (by decide) (va_Nw.use rfl (tn_52 hN)) (fun _ h => h) rfl nd_MA_setEdge_23 ?_
    refine lv_iload_n hx hb nd_MA_setEdge_26 rfl (lv_at hl 3 rfl) ?_
    refine wi_aald (v := (a.2.1 el)) hx hb hK hP 9 1 rfl rfl rfl (by omega) (by omega) (if_pos (by omega)) nd_MA_setEdge_27 ?_
    refine wi_ic hx hb (a := 0) nd_MA_setEdge_28 ?_
    refine lv_iload_n hx hb nd_MA_setEdge_29 rfl (lv_at hl 4 rfl) ?_
    refine wi_iast hx hb hK hP hD hS _ 0 (rw_atL (by omega)) rfl (by omega) (by omega) nd_MA_setEdge_30 (fun H locs hP hD hS => ?_)
    rw [rw_setL (by omega)] at hP hD
    have hP : va_P D cl_all ([((a.1 0), .inr (1, [.ref (a.1 2), .ref (a.1 7), .ref (a.1 3), .ref (a.1 10), .ref (a.1 1), .int (sc 0), .ref (a.1 7)])), ((a.1 1), .inl (cI, 2 ^ n, .inl (f 0))), ((a.1 2), .inr (2, [.int (sc 1)])), ((a.1 3), .inr (4, [.ref (a.1 6), .ref (a.1 4), .ref (a.1 5)])), ((a.1 4), .inl (cI, 4, .inl (f 1))), ((a.1 5), .inl (cI, 4, .inl (f 2))), ((a.1 6), .inl (cI, n, .inl (f 3))), ((a.1 7), .inr (3, [.ref (a.1 9), .ref (a.1 8)])), ((a.1 8), .inl (cI, 8, .inl (f 4))), ((a.1 9), .inl (cG, n, .inr (.inr (.inr (.inr (fun i => if i < n then some (a.2.1 i) else none))))))] ++ (rw_R cI 2 a.2.1 (va_up E el (upd (E el) 0 (nI (uu)))) n ++ mw_L cI cG a n (7, sc, f, E, P, C))) H := hP
    have hD : va_D A ([((a.1 0), .inr (1, [.ref (a.1 2), .ref (a.1 7), .ref (a.1 3), .ref (a.1 10), .ref (a.1 1), .int (sc 0), .ref (a.1 7)])), ((a.1 1), .inl (cI, 2 ^ n, .inl (f 0))), ((a.1 2), .inr (2, [.int (sc 1)])), ((a.1 3), .inr (4, [.ref (a.1 6), .ref (a.1 4), .ref (a.1 5)])), ((a.1 4), .inl (cI, 4, .inl (f 1))), ((a.1 5), .inl (cI, 4, .inl (f 2))), ((a.1 6), .inl (cI, n, .inl (f 3))), ((a.1 7), .inr (3, [.ref (a.1 9), .ref (a.1 8)])), ((a.1 8), .inl (cI, 8, .inl (f 4))), ((a.1 9), .inl (cG, n, .inr (.inr (.inr (.inr (fun i => if i < n then some (a.2.1 i) else none))))))] ++ (rw_R cI 2 a.2.1 (va_up E el (upd (E el) 0 (nI (uu)))) n ++ mw_L cI cG a n (7, sc, f, E, P, C))) := hD
    refine lv_aload hx hb nd_MA_setEdge_31 (lv_at hl 0 rfl) ?_
    refine va_getN (D := D) (C := nr_GK) (T := nt_GK) (N := 2) hx hb htg tf_GK hown hK hP 7 rfl rfl 0 (by decide) (va_Nw.use rfl (tn_52 hN)) (fun _ h => h) rfl nd_MA_setEdge_33 ?_
    refine lv_iload_n hx hb nd_MA_setEdge_36 rfl (lv_at hl 3 rfl) ?_
    refine wi_aald (v := (a.2.1 el)) hx hb hK hP 9 1 rfl rfl rfl (by omega) (by omega) (if_pos (by omega)) nd_MA_setEdge_37 ?_
    refine wi_ic hx hb (a := 1) nd_MA_setEdge_38 ?_
    refine lv_iload_n hx hb nd_MA_setEdge_39 rfl (lv_at hl 5 rfl) ?_
    refine wi_iast hx hb hK hP hD hS _ 0 (rw_atL (by omega)) rfl (by omega) (by omega) nd_MA_setEdge_40 (fun H locs hP hD hS => ?_)
    rw [rw_setL (by omega)] at hP hD
    have hP : va_P D cl_all ([((a.1 0), .inr (1, [.ref (a.1 2), .ref (a.1 7), .ref (a.1 3), .ref (a.1 10), .ref (a.1 1), .int (sc 0), .ref (a.1 7)])), ((a.1 1), .inl (cI, 2 ^ n, .inl (f 0))), ((a.1 2), .inr (2, [.int (sc 1)])), ((a.1 3), .inr (4, [.ref (a.1 6), .ref (a.1 4), .ref (a.1 5)])), ((a.1 4), .inl (cI, 4, .inl (f 1))), ((a.1 5), .inl (cI, 4, .inl (f 2))), ((a.1 6), .inl (cI, n, .inl (f 3))), ((a.1 7), .inr (3, [.ref (a.1 9), .ref (a.1 8)])), ((a.1 8), .inl (cI, 8, .inl (f 4))), ((a.1 9), .inl (cG, n, .inr (.inr (.inr (.inr (fun i => if i < n then some (a.2.1 i) else none))))))] ++ (rw_R cI 2 a.2.1 (va_up (va_up E el (upd (E el) 0 (nI (uu)))) el (upd ((va_up E el (upd (E el) 0 (nI (uu)))) el) 1 (nI (vv)))) n ++ mw_L cI cG a n (7, sc, f, E, P, C))) H := hP
    have hD : va_D A ([((a.1 0), .inr (1, [.ref (a.1 2), .ref (a.1 7), .ref (a.1 3), .ref (a.1 10), .ref (a.1 1), .int (sc 0), .ref (a.1 7)])), ((a.1 1), .inl (cI, 2 ^ n, .inl (f 0))), ((a.1 2), .inr (2, [.int (sc 1)])), ((a.1 3), .inr (4, [.ref (a.1 6), .ref (a.1 4), .ref (a.1 5)])), ((a.1 4), .inl (cI, 4, .inl (f 1))), ((a.1 5), .inl (cI, 4, .inl (f 2))), ((a.1 6), .inl (cI, n, .inl (f 3))), ((a.1 7), .inr (3, [.ref (a.1 9), .ref (a.1 8)])), ((a.1 8), .inl (cI, 8, .inl (f 4))), ((a.1 9), .inl (cG, n, .inr (.inr (.inr (.inr (fun i => if i < n then some (a.2.1 i) else none))))))] ++ (rw_R cI 2 a.2.1 (va_up (va_up E el (upd (E el) 0 (nI (uu)))) el (upd ((va_up E el (upd (E el) 0 (nI (uu)))) el) 1 (nI (vv)))) n ++ mw_L cI cG a n (7, sc, f, E, P, C))) := hD
    refine lv_aload_n hx hb nd_MA_setEdge_41 rfl (lv_at hl 2 rfl) ?_
    refine wd_Vv (C := nr_MA) (n := 0) (X := []) (Y := [((a.1 0), .inr (1, [.ref (a.1 2), .ref (a.1 7), .ref (a.1 3), .ref (a.1 10), .ref (a.1 1), .int (sc 0), .ref (a.1 7)])), ((a.1 1), .inl (cI, 2 ^ n, .inl (f 0)))]) (Z := [((a.1 2), .inr (2, [.int (sc 1)])), ((a.1 3), .inr (4, [.ref (a.1 6), .ref (a.1 4), .ref (a.1 5)])), ((a.1 4), .inl (cI, 4, .inl (f 1))), ((a.1 5), .inl (cI, 4, .inl (f 2))), ((a.1 6), .inl (cI, n, .inl (f 3))), ((a.1 7), .inr (3, [.ref (a.1 9), .ref (a.1 8)])), ((a.1 8), .inl (cI, 8, .inl (f 4))), ((a.1 9), .inl (cG, n, .inr (.inr (.inr (.inr (fun i => if i < n then some (a.2.1 i) else none))))))] ++ (rw_R cI 2 a.2.1 (va_up (va_up E el (upd (E el) 0 (nI (uu)))) el (upd ((va_up E el (upd (E el) 0 (nI (uu)))) el) 1 (nI (vv)))) n ++ mw_L cI cG a n (7, sc, f, E, P, C))) hx hb hml hown htg (c_MA_forgetRanks l D cI cG cM a n hn 7 (sc 0) (f 0) (fun q => hI.2.2.2 q) _) tm_156 tm_153 tm_155 tp_1 tm_2 (by decide +kernel) ⟨⟨Nat.le_trans (by decide) hRf, Nat.le_trans (by decide) hRl⟩, rfl, rfl⟩ hP hD hS hA hK hN (va_recv (q0 := 0) (ci := 1) hK hP rfl rfl) rfl hl.1 rfl (Nat.le_of_ble_eq_true rfl) nd_MA_setEdge_42 hCS (fun u42 H locs hp42 hP hD hS => ?_)
    have hP : va_P D cl_all ([((a.1 0), .inr (1, [.ref (a.1 2), .ref (a.1 7), .ref (a.1 3), .ref (a.1 10), .ref (a.1 1), .int (u42.1), .ref (a.1 7)])), ((a.1 1), .inl (cI, 2 ^ n, .inl u42.2)), ((a.1 2), .inr (2, [.int (sc 1)])), ((a.1 3), .inr (4, [.ref (a.1 6), .ref (a.1 4), .ref (a.1 5)])), ((a.1 4), .inl (cI, 4, .inl (f 1))), ((a.1 5), .inl (cI, 4, .inl (f 2))), ((a.1 6), .inl (cI, n, .inl (f 3))), ((a.1 7), .inr (3, [.ref (a.1 9), .ref (a.1 8)])), ((a.1 8), .inl (cI, 8, .inl (f 4))), ((a.1 9), .inl (cG, n, .inr (.inr (.inr (.inr (fun i => if i < n then some (a.2.1 i) else none))))))] ++ (rw_R cI 2 a.2.1 (va_up (va_up E el (upd (E el) 0 (nI (uu)))) el (upd ((va_up E el (upd (E el) 0 (nI (uu)))) el) 1 (nI (vv)))) n ++ mw_L cI cG a n (7, sc, f, E, P, C))) H := hP
    have hD : va_D A ([((a.1 0), .inr (1, [.ref (a.1 2), .ref (a.1 7), .ref (a.1 3), .ref (a.1 10), .ref (a.1 1), .int (u42.1), .ref (a.1 7)])), ((a.1 1), .inl (cI, 2 ^ n, .inl u42.2)), ((a.1 2), .inr (2, [.int (sc 1)])), ((a.1 3), .inr (4, [.ref (a.1 6), .ref (a.1 4), .ref (a.1 5)])), ((a.1 4), .inl (cI, 4, .inl (f 1))), ((a.1 5), .inl (cI, 4, .inl (f 2))), ((a.1 6), .inl (cI, n, .inl (f 3))), ((a.1 7), .inr (3, [.ref (a.1 9), .ref (a.1 8)])), ((a.1 8), .inl (cI, 8, .inl (f 4))), ((a.1 9), .inl (cG, n, .inr (.inr (.inr (.inr (fun i => if i < n then some (a.2.1 i) else none))))))] ++ (rw_R cI 2 a.2.1 (va_up (va_up E el (upd (E el) 0 (nI (uu)))) el (upd ((va_up E el (upd (E el) 0 (nI (uu)))) el) 1 (nI (vv)))) n ++ mw_L cI cG a n (7, sc, f, E, P, C))) := hD
    refine wi_ic hx hb (a := 1) nd_MA_setEdge_45 ?_
    have hP : va_P D cl_all (mw_ cI cG a n (7, va_up sc 0 u42.1, va_up f 0 u42.2, (va_up (va_up E el (upd (E el) 0 (nI uu))) el (upd (va_up E el (upd (E el) 0 (nI uu)) el) 1 (nI vv))), P, C)) H := by show va_P D cl_all ([((a.1 0), .inr (1, [.ref (a.1 2), .ref (a.1 7), .ref (a.1 3), .ref (a.1 10), .ref (a.1 1), .int (u42.1), .ref (a.1 7)])), ((a.1 1), .inl (cI, 2 ^ n, .inl u42.2)), ((a.1 2), .inr (2, [.int (sc 1)])), ((a.1 3), .inr (4, [.ref (a.1 6), .ref (a.1 4), .ref (a.1 5)])), ((a.1 4), .inl (cI, 4, .inl (f 1))), ((a.1 5), .inl (cI, 4, .inl (f 2))), ((a.1 6), .inl (cI, n, .inl (f 3)))] ++ (([((a.1 7), .inr (3, [.ref (a.1 9), .ref (a.1 8)])), ((a.1 8), .inl (cI, 8, .inl (f 4))), ((a.1 9), .inl (cG, n, .inr (.inr (.inr (.inr (fun i => if i < n then some (a.2.1 i) else none))))))] ++ (rw_R cI 2 a.2.1 (va_up (va_up E el (upd (E el) 0 (nI (uu)))) el (upd ((va_up E el (upd (E el) 0 (nI (uu)))) el) 1 (nI (vv)))) n ++ [])) ++ mw_L cI cG a n (7, sc, f, E, P, C))) H; rw [mw_gr]; exact hP
    have hD : va_D A (mw_ cI cG a n (7, va_up sc 0 u42.1, va_up f 0 u42.2, (va_up (va_up E el (upd (E el) 0 (nI uu))) el (upd (va_up E el (upd (E el) 0 (nI uu)) el) 1 (nI vv))), P, C)) := by show va_D A ([((a.1 0), .inr (1, [.ref (a.1 2), .ref (a.1 7), .ref (a.1 3), .ref (a.1 10), .ref (a.1 1), .int (u42.1), .ref (a.1 7)])), ((a.1 1), .inl (cI, 2 ^ n, .inl u42.2)), ((a.1 2), .inr (2, [.int (sc 1)])), ((a.1 3), .inr (4, [.ref (a.1 6), .ref (a.1 4), .ref (a.1 5)])), ((a.1 4), .inl (cI, 4, .inl (f 1))), ((a.1 5), .inl (cI, 4, .inl (f 2))), ((a.1 6), .inl (cI, n, .inl (f 3)))] ++ (([((a.1 7), .inr (3, [.ref (a.1 9), .ref (a.1 8)])), ((a.1 8), .inl (cI, 8, .inl (f 4))), ((a.1 9), .inl (cG, n, .inr (.inr (.inr (.inr (fun i => if i < n then some (a.2.1 i) else none))))))] ++ (rw_R cI 2 a.2.1 (va_up (va_up E el (upd (E el) 0 (nI (uu)))) el (upd ((va_up E el (upd (E el) 0 (nI (uu)))) el) 1 (nI (vv)))) n ++ [])) ++ mw_L cI cG a n (7, sc, f, E, P, C))); rw [mw_gr]; exact hD
    have hv : ∀ i, i < n → x.2.2.1 i < 8 ∧ x.2.2.2.1 i < 8 := by rcases hI.1 with ⟨q, -⟩ | ⟨q, q2⟩ | ⟨q, -⟩ | ⟨q, -⟩ <;> first | exact q2 | omega
    have ho : ∀ e, e < n → E e 0 = nI (x.2.2.1 e) ∧ E e 1 = nI (x.2.2.2.1 e) := ho
    exact wb_zret ((7, va_up sc 0 u42.1, va_up f 0 u42.2, (va_up (va_up E el (upd (E el) 0 (nI uu))) el (upd (va_up E el (upd (E el) 0 (nI uu)) el) 1 (nI vv))), P, C)) hx hb hr hk rfl hAe (⟨fun _ => ⟨rfl, Or.inr (Or.inl ⟨hq, fun i hi => if q : i = el then by simp [va_up, q]; omega else by simp [va_up, q]; exact hv i hi⟩), Or.inr (Or.inl ⟨hq, rfl, fun e he => if q : e = el then by simp [va_up, upd, q] else by simp [va_up, q]; exact ho e he⟩), ma_Rf (fun s hs => hp42.2 s hs)⟩, fun q => absurd hq q⟩) hP hD hS nd_MA_setEdge_46
  · have hkd : kd = 3 := hkd
    subst hkd
    refine lv_aload_n hx hb nd_MA_setEdge_0 rfl (lv_at hl 0 rfl) ?_
    refine va_get (D := D) (C := nr_MA) (T := nt_MA) (N := 7) hx hb htg tf_MA hown hK hP 0 rfl rfl 6 (by decide) (htg _ tm_106) (fun _ h => h) rfl nd_MA_setEdge_1 ?_
    refine lv_astore hx hb nd_MA_setEdge_4 hl (by decide) rfl (fun ls hl => ?_)
    have hl : lv_has ls 6 [(5, .ref (a.1 3)), (0, .ref (a.1 0)), (1, .int (nI (el))), (2, .int (nI (uu))), (3, .int (nI (vv)))] := hl
    refine lv_aload hx hb nd_MA_setEdge_6 (lv_at hl 0 rfl) ?_
    refine va_instNo (C := nr_CK) hx hb hown (htg _ tm_43) (tn_CK_GK hN) (va_recv (q0 := 3) (ci := 4) hK hP rfl rfl) nd_MA_setEdge_8 ?_
    refine wi_top (y := nI 0) rfl ?_
    refine wi_if_eq (tgt := 47) hx hb (by decide) nd_MA_setEdge_11 rfl (fun _ => ?_) (fun h => absurd h (by decide))
    refine wi_ic hx hb (a := 0) nd_MA_setEdge_47 ?_
    exact wb_zret ((3, sc, f, E, P, C)) hx hb hr hk rfl hAe (⟨fun q => by have hq : x.1 = 2 := hq; omega, fun _ => ⟨rfl, hI⟩⟩) hP hD hS nd_MA_setEdge_48
  · have hkd : kd = 10 := hkd
    subst hkd
    refine lv_aload_n hx hb nd_MA_setEdge_0 rfl (lv_at hl 0 rfl) ?_
    refine va_get (D := D) (C := nr_MA) (T := nt_MA) (N := 7) hx hb htg tf_MA hown hK hP 0 rfl rfl 6 (by decide) (htg _ tm_106) (fun _ h => h) rfl nd_MA_setEdge_1 ?_
    refine lv_astore hx hb nd_MA_setEdge_4 hl (by decide) rfl (fun ls hl => ?_)
    have hl : lv_has ls 6 [(5, .ref (a.1 10)), (0, .ref (a.1 0)), (1, .int (nI (el))), (2, .int (nI (uu))), (3, .int (nI (vv)))] := hl
    refine lv_aload hx hb nd_MA_setEdge_6 (lv_at hl 0 rfl) ?_
    refine va_instNo (C := nr_LK) hx hb hown (htg _ tm_43) (tn_LK_GK hN) (va_recv (q0 := 0) (ci := 5) hK (wm_P (Y := mw_L cI cG a n (10, sc, f, E, P, C)) (Z := []) (show va_P D cl_all (([((a.1 0), .inr (1, [.ref (a.1 2), .ref (a.1 7), .ref (a.1 3), .ref (a.1 10), .ref (a.1 1), .int (sc 0), .ref (a.1 10)])), ((a.1 1), .inl (cI, 2 ^ n, .inl (f 0))), ((a.1 2), .inr (2, [.int (sc 1)])), ((a.1 3), .inr (4, [.ref (a.1 6), .ref (a.1 4), .ref (a.1 5)])), ((a.1 4), .inl (cI, 4, .inl (f 1))), ((a.1 5), .inl (cI, 4, .inl (f 2))), ((a.1 6), .inl (cI, n, .inl (f 3)))] ++ mw_G cI cG a n (10, sc, f, E, P, C)) ++ (mw_L cI cG a n (10, sc, f, E, P, C) ++ [])) s0.heap by rw [← mw_rot]; exact hP)).2.1 rfl rfl) nd_MA_setEdge_8 ?_
    refine wi_top (y := nI 0) rfl ?_
    refine wi_if_eq (tgt := 47) hx hb (by decide) nd_MA_setEdge_11 rfl (fun _ => ?_) (fun h => absurd h (by decide))
    refine wi_ic hx hb (a := 0) nd_MA_setEdge_47 ?_
    exact wb_zret ((10, sc, f, E, P, C)) hx hb hr hk rfl hAe (⟨fun q => by have hq : x.1 = 3 := hq; omega, fun _ => ⟨rfl, hI⟩⟩) hP hD hS nd_MA_setEdge_48
theorem nd_MA_setClass_0 : decode nc_MA_setClass 0 = .ok (.aload_n 0, 1) := by decide +kernel
theorem nd_MA_setClass_1 : decode nc_MA_setClass 1 = .ok (.getfield 51, 3) := by decide +kernel
theorem nd_MA_setClass_4 : decode nc_MA_setClass 4 = .ok (.astore 4, 2) := by decide +kernel
theorem nd_MA_setClass_6 : decode nc_MA_setClass 6 = .ok (.aload 4, 2) := by decide +kernel
theorem nd_MA_setClass_8 : decode nc_MA_setClass 8 = .ok (.instanceof 27, 3) := by decide +kernel
theorem nd_MA_setClass_11 : decode nc_MA_setClass 11 = .ok (.ifCond .eq 22, 3) := by decide +kernel
theorem nd_MA_setClass_14 : decode nc_MA_setClass 14 = .ok (.aload 4, 2) := by decide +kernel
theorem nd_MA_setClass_16 : decode nc_MA_setClass 16 = .ok (.checkcast 27, 3) := by decide +kernel
theorem nd_MA_setClass_19 : decode nc_MA_setClass 19 = .ok (.astore_n 3, 1) := by decide +kernel
theorem nd_MA_setClass_20 : decode nc_MA_setClass 20 = .ok (.aload_n 3, 1) := by decide +kernel
theorem nd_MA_setClass_21 : decode nc_MA_setClass 21 = .ok (.getfield 76, 3) := by decide +kernel
theorem nd_MA_setClass_24 : decode nc_MA_setClass 24 = .ok (.iload_n 1, 1) := by decide +kernel
theorem nd_MA_setClass_25 : decode nc_MA_setClass 25 = .ok (.iload_n 2, 1) := by decide +kernel
theorem nd_MA_setClass_26 : decode nc_MA_setClass 26 = .ok (.iastore, 1) := by decide +kernel
theorem nd_MA_setClass_27 : decode nc_MA_setClass 27 = .ok (.aload_n 0, 1) := by decide +kernel
theorem nd_MA_setClass_28 : decode nc_MA_setClass 28 = .ok (.invokevirtual 73, 3) := by decide +kernel
theorem nd_MA_setClass_31 : decode nc_MA_setClass 31 = .ok (.iconst 1, 1) := by decide +kernel
theorem nd_MA_setClass_32 : decode nc_MA_setClass 32 = .ok (.ireturn, 1) := by decide +kernel
theorem nd_MA_setClass_33 : decode nc_MA_setClass 33 = .ok (.iconst 0, 1) := by decide +kernel
theorem nd_MA_setClass_34 : decode nc_MA_setClass 34 = .ok (.ireturn, 1) := by decide +kernel
set_option maxRecDepth 20000 in
theorem c_MA_setClass (l : Launch) (D : va_G) (cI cG cM : ClassId)  (a : ma_A) (n : Nat) (hn : n ≤ 10) (kd : Nat) (sc : Nat → Int32) (f E P C : Nat → Nat → Int32) (x : ma_T) (hI : ma_I n x (kd, sc, f, E, P, C)) (el cc0 : Nat) (hel : el < n) (hcc : cc0 < 4) (sz : Nat) : wb_Mi l ny_MA_setClass nc_MA_setClass 5 (some .boolean) ({ frames := 2, cells := 0, slots := 0, locals := 43 }) D (ty_all cI cG cM) (mw_ cI cG a n (kd, sc, f, E, P, C)) sz [.ref (a.1 0), .int (nI (el)), .int (nI (cc0))] (fun (v : Int32) (u : ma_S) => (x.1 = 2 → v = nI 1 ∧ ma_I n (x.1, x.2.1, x.2.2.1, x.2.2.2.1, va_up x.2.2.2.2.1 el cc0, x.2.2.2.2.2) u) ∧ (¬ x.1 = 2 → v = nI 0 ∧ ma_I n x u)) (fun u : ma_S => mw_ cI cG a n u) := by
  refine wb_start (S := ma_S) (by decide) (Nat.le_of_ble_eq_true rfl) ?_
  intro p e0 s0 m below meth c ls A hx hb hr hml htg hown hk hP hK hN hl hAe hsz hD hA
  have hl : lv_has ls 5 [(0, .ref (a.1 0)), (1, .int (nI (el))), (2, .int (nI (cc0)))] := hl
  have hP : va_P D cl_all ([((a.1 0), .inr (1, [.ref (a.1 2), .ref (a.1 7), .ref (a.1 3), .ref (a.1 10), .ref (a.1 1), .int (sc 0), .ref (a.1 kd)])), ((a.1 1), .inl (cI, 2 ^ n, .inl (f 0))), ((a.1 2), .inr (2, [.int (sc 1)])), ((a.1 3), .inr (4, [.ref (a.1 6), .ref (a.1 4), .ref (a.1 5)])), ((a.1 4), .inl (cI, 4, .inl (f 1))), ((a.1 5), .inl (cI, 4, .inl (f 2))), ((a.1 6), .inl (cI, n, .inl (f 3)))] ++ (mw_G cI cG a n (kd, sc, f, E, P, C) ++ mw_L cI cG a n (kd, sc, f, E, P, C))) s0.heap := hP
  have hD : va_D A ([((a.1 0), .inr (1, [.ref (a.1 2), .ref (a.1 7), .ref (a.1 3), .ref (a.1 10), .ref (a.1 1), .int (sc 0), .ref (a.1 kd)])), ((a.1 1), .inl (cI, 2 ^ n, .inl (f 0))), ((a.1 2), .inr (2, [.int (sc 1)])), ((a.1 3), .inr (4, [.ref (a.1 6), .ref (a.1 4), .ref (a.1 5)])), ((a.1 4), .inl (cI, 4, .inl (f 1))), ((a.1 5), .inl (cI, 4, .inl (f 2))), ((a.1 6), .inl (cI, n, .inl (f 3)))] ++ (mw_G cI cG a n (kd, sc, f, E, P, C) ++ mw_L cI cG a n (kd, sc, f, E, P, C))) := hD
  have hS : va_S A s0.heap s0.heap [] := va_S.rf
  have hRf : 2 ≤ ({ frames := 2, cells := 0, slots := 0, locals := 43 } : Room).frames := Nat.le_refl _
  have hRl : 43 ≤ ({ frames := 2, cells := 0, slots := 0, locals := 43 } : Room).locals := Nat.le_refl _
  have hCS : 0 ≤ ({ frames := 2, cells := 0, slots := 0, locals := 43 } : Room).cells ∧ 0 ≤ ({ frames := 2, cells := 0, slots := 0, locals := 43 } : Room).slots := ⟨Nat.zero_le _, Nat.zero_le _⟩
  have h2n : 2 ^ n ≤ 1024 := Nat.pow_le_pow_right (by omega) hn
  rcases hI.2.1 with ⟨hq, hkd, ho⟩ | ⟨hq, hkd, ho⟩ | ⟨hq, hkd, ho, ho2⟩ | ⟨hq, hkd, ho, ho2⟩
  · have hkd : kd = 2 := hkd
    subst hkd
    refine lv_aload_n hx hb nd_MA_setClass_0 rfl (lv_at hl 0 rfl) ?_
    refine va_get (D := D) (C := nr_MA) (T := nt_MA) (N := 7) hx hb htg tf_MA hown hK hP 0 rfl rfl 6 (by decide) (htg _ tm_106) (fun _ h => h) rfl nd_MA_setClass_1 ?_
    refine lv_astore hx hb nd_MA_setClass_4 hl (by decide) rfl (fun ls hl => ?_)
    have hl : lv_has ls 5 [(4, .ref (a.1 2)), (0, .ref (a.1 0)), (1, .int (nI (el))), (2, .int (nI (cc0)))] := hl
    refine lv_aload hx hb nd_MA_setClass_6 (lv_at hl 0 rfl) ?_
    refine va_instNo (C := nr_UK) hx hb hown (htg _ tm_59) (tn_UK_CK hN) (va_recv (q0 := 2) (ci := 2) hK hP rfl rfl) nd_MA_setClass_8 ?_
    refine wi_top (y := nI 0) rfl ?_
    refine wi_if_eq (tgt := 33) hx hb (by decide) nd_MA_setClass_11 rfl (fun _ => ?_) (fun h => absurd h (by decide))
    refine wi_ic hx hb (a := 0) nd_MA_setClass_33 ?_
    exact wb_zret ((2, sc, f, E, P, C)) hx hb hr hk rfl hAe (⟨fun q => by have hq : x.1 = 0 := hq; omega, fun _ => ⟨rfl, hI⟩⟩) hP hD hS nd_MA_setClass_34
  · have hkd : kd = 7 := hkd
    subst hkd
    refine lv_aload_n hx hb nd_MA_setClass_0 rfl (lv_at hl 0 rfl) ?_
    refine va_get (D := D) (C := nr_MA) (T := nt_MA) (N := 7) hx hb htg tf_MA hown hK hP 0 rfl rfl 6 (by decide) (htg _ tm_106) (fun _ h => h) rfl nd_MA_setClass_1 ?_
    refine lv_astore hx hb nd_MA_setClass_4 hl (by decide) rfl (fun ls hl => ?_)
    have hl : lv_has ls 5 [(4, .ref (a.1 7)), (0, .ref (a.1 0)), (1, .int (nI (el))), (2, .int (nI (cc0)))] := hl
    refine lv_aload hx hb nd_MA_setClass_6 (lv_at hl 0 rfl) ?_
    refine va_instNo (C := nr_GK) hx hb hown (htg _ tm_59) (tn_GK_CK hN) (va_recv (q0 := 0) (ci := 3) hK (wm_P (X := [((a.1 0), .inr (1, [.ref (a.1 2), .ref (a.1 7), .ref (a.1 3), .ref (a.1 10), .ref (a.1 1), .int (sc 0), .ref (a.1 7)])), ((a.1 1), .inl (cI, 2 ^ n, .inl (f 0))), ((a.1 2), .inr (2, [.int (sc 1)])), ((a.1 3), .inr (4, [.ref (a.1 6), .ref (a.1 4), .ref (a.1 5)])), ((a.1 4), .inl (cI, 4, .inl (f 1))), ((a.1 5), .inl (cI, 4, .inl (f 2))), ((a.1 6), .inl (cI, n, .inl (f 3)))]) (Y := mw_G cI cG a n (7, sc, f, E, P, C)) (Z := mw_L cI cG a n (7, sc, f, E, P, C)) hP).2.1 rfl rfl) nd_MA_setClass_8 ?_
    refine wi_top (y := nI 0) rfl ?_
    refine wi_if_eq (tgt := 33) hx hb (by decide) nd_MA_setClass_11 rfl (fun _ => ?_) (fun h => absurd h (by decide))
    refine wi_ic hx hb (a := 0) nd_MA_setClass_33 ?_
    exact wb_zret ((7, sc, f, E, P, C)) hx hb hr hk rfl hAe (⟨fun q => by have hq : x.1 = 1 := hq; omega, fun _ => ⟨rfl, hI⟩⟩) hP hD hS nd_MA_setClass_34
  · have hkd : kd = 3 := hkd
    subst hkd
    refine lv_aload_n hx hb nd_MA_setClass_0 rfl (lv_at hl 0 rfl) ?_
    refine va_get (D := D) (C := nr_MA) (T := nt_MA) (N := 7) hx hb htg tf_MA hown hK hP 0 rfl rfl 6 (by decide) (htg _ tm_106) (fun _ h => h) rfl nd_MA_setClass_1 ?_
    refine lv_astore hx hb nd_MA_setClass_4 hl (by decide) rfl (fun ls hl => ?_)
    have hl : lv_has ls 5 [(4, .ref (a.1 3)), (0, .ref (a.1 0)), (1, .int (nI (el))), (2, .int (nI (cc0)))] := hl
    refine lv_aload hx hb nd_MA_setClass_6 (lv_at hl 0 rfl) ?_
    refine va_instY (C := nr_CK) hx hb hown (htg _ tm_59) (tn_571 hN) (va_recv (q0 := 3) (ci := 4) hK hP rfl rfl) nd_MA_setClass_8 ?_
    refine wi_top (y := nI 1) rfl ?_
    refine wi_if_eq (tgt := 33) hx hb (by decide) nd_MA_setClass_11 rfl (fun h => absurd h (by decide)) (fun _ => ?_)
    refine lv_aload hx hb nd_MA_setClass_14 (lv_at hl 0 rfl) ?_
    refine va_castY (C := nr_CK) hx hb hown (htg _ tm_59) (tn_571 hN) (va_recv (q0 := 3) (ci := 4) hK hP rfl rfl) nd_MA_setClass_16 ?_
    refine lv_astore_n hx hb nd_MA_setClass_19 rfl hl (by decide) rfl (fun ls hl => ?_)
    have hl : lv_has ls 5 [(3, .ref (a.1 3)), (4, .ref (a.1 3)), (0, .ref (a.1 0)), (1, .int (nI (el))), (2, .int (nI (cc0)))] := hl
    refine lv_aload_n hx hb nd_MA_setClass_20 rfl (lv_at hl 0 rfl) ?_
    refine va_getN (D := D) (C := nr_CK) (T := nt_CK) (N := 3) hx hb htg tf_CK hown hK hP 3 rfl rfl 0 (by decide) (va_Nw.use rfl (tn_66 hN)) (fun _ h => h) rfl nd_MA_setClass_21 ?_
    refine lv_iload_n hx hb nd_MA_setClass_24 rfl (lv_at hl 3 rfl) ?_
    refine lv_iload_n hx hb nd_MA_setClass_25 rfl (lv_at hl 4 rfl) ?_
    refine wi_iast hx hb hK hP hD hS 6 0 rfl rfl (by omega) (by omega) nd_MA_setClass_26 (fun H locs hP hD hS => ?_)
    have hP : va_P D cl_all ([((a.1 0), .inr (1, [.ref (a.1 2), .ref (a.1 7), .ref (a.1 3), .ref (a.1 10), .ref (a.1 1), .int (sc 0), .ref (a.1 3)])), ((a.1 1), .inl (cI, 2 ^ n, .inl (f 0))), ((a.1 2), .inr (2, [.int (sc 1)])), ((a.1 3), .inr (4, [.ref (a.1 6), .ref (a.1 4), .ref (a.1 5)])), ((a.1 4), .inl (cI, 4, .inl (f 1))), ((a.1 5), .inl (cI, 4, .inl (f 2))), ((a.1 6), .inl (cI, n, .inl (upd (f 3) el (nI (cc0)))))] ++ (mw_G cI cG a n (3, sc, f, E, P, C) ++ mw_L cI cG a n (3, sc, f, E, P, C))) H := hP
    have hD : va_D A ([((a.1 0), .inr (1, [.ref (a.1 2), .ref (a.1 7), .ref (a.1 3), .ref (a.1 10), .ref (a.1 1), .int (sc 0), .ref (a.1 3)])), ((a.1 1), .inl (cI, 2 ^ n, .inl (f 0))), ((a.1 2), .inr (2, [.int (sc 1)])), ((a.1 3), .inr (4, [.ref (a.1 6), .ref (a.1 4), .ref (a.1 5)])), ((a.1 4), .inl (cI, 4, .inl (f 1))), ((a.1 5), .inl (cI, 4, .inl (f 2))), ((a.1 6), .inl (cI, n, .inl (upd (f 3) el (nI (cc0)))))] ++ (mw_G cI cG a n (3, sc, f, E, P, C) ++ mw_L cI cG a n (3, sc, f, E, P, C))) := hD
    refine lv_aload_n hx hb nd_MA_setClass_27 rfl (lv_at hl 2 rfl) ?_
    refine wd_Vv (C := nr_MA) (n := 0) (X := []) (Y := [((a.1 0), .inr (1, [.ref (a.1 2), .ref (a.1 7), .ref (a.1 3), .ref (a.1 10), .ref (a.1 1), .int (sc 0), .ref (a.1 3)])), ((a.1 1), .inl (cI, 2 ^ n, .inl (f 0)))]) (Z := [((a.1 2), .inr (2, [.int (sc 1)])), ((a.1 3), .inr (4, [.ref (a.1 6), .ref (a.1 4), .ref (a.1 5)])), ((a.1 4), .inl (cI, 4, .inl (f 1))), ((a.1 5), .inl (cI, 4, .inl (f 2))), ((a.1 6), .inl (cI, n, .inl (upd (f 3) el (nI (cc0)))))] ++ (mw_G cI cG a n (3, sc, f, E, P, C) ++ mw_L cI cG a n (3, sc, f, E, P, C))) hx hb hml hown htg (c_MA_forgetRanks l D cI cG cM a n hn 3 (sc 0) (f 0) (fun q => hI.2.2.2 q) _) tm_156 tm_153 tm_155 tp_1 tm_2 (by decide +kernel) ⟨⟨Nat.le_trans (by decide) hRf, Nat.le_trans (by decide) hRl⟩, rfl, rfl⟩ hP hD hS hA hK hN (va_recv (q0 := 0) (ci := 1) hK hP rfl rfl) rfl hl.1 rfl (Nat.le_of_ble_eq_true rfl) nd_MA_setClass_28 hCS (fun u28 H locs hp28 hP hD hS => ?_)
    have hP : va_P D cl_all ([((a.1 0), .inr (1, [.ref (a.1 2), .ref (a.1 7), .ref (a.1 3), .ref (a.1 10), .ref (a.1 1), .int (u28.1), .ref (a.1 3)])), ((a.1 1), .inl (cI, 2 ^ n, .inl u28.2)), ((a.1 2), .inr (2, [.int (sc 1)])), ((a.1 3), .inr (4, [.ref (a.1 6), .ref (a.1 4), .ref (a.1 5)])), ((a.1 4), .inl (cI, 4, .inl (f 1))), ((a.1 5), .inl (cI, 4, .inl (f 2))), ((a.1 6), .inl (cI, n, .inl (upd (f 3) el (nI (cc0)))))] ++ (mw_G cI cG a n (3, sc, f, E, P, C) ++ mw_L cI cG a n (3, sc, f, E, P, C))) H := hP
    have hD : va_D A ([((a.1 0), .inr (1, [.ref (a.1 2), .ref (a.1 7), .ref (a.1 3), .ref (a.1 10), .ref (a.1 1), .int (u28.1), .ref (a.1 3)])), ((a.1 1), .inl (cI, 2 ^ n, .inl u28.2)), ((a.1 2), .inr (2, [.int (sc 1)])), ((a.1 3), .inr (4, [.ref (a.1 6), .ref (a.1 4), .ref (a.1 5)])), ((a.1 4), .inl (cI, 4, .inl (f 1))), ((a.1 5), .inl (cI, 4, .inl (f 2))), ((a.1 6), .inl (cI, n, .inl (upd (f 3) el (nI (cc0)))))] ++ (mw_G cI cG a n (3, sc, f, E, P, C) ++ mw_L cI cG a n (3, sc, f, E, P, C))) := hD
    refine wi_ic hx hb (a := 1) nd_MA_setClass_31 ?_
    have hv : (∀ i, i < n → x.2.2.2.2.1 i < 4) ∧ ∀ c, c < 4 → x.2.2.2.2.2.1 c ≤ 10 := by rcases hI.1 with ⟨q, -⟩ | ⟨q, -⟩ | ⟨q, q2⟩ | ⟨q, -⟩ <;> first | exact q2 | omega
    have ho : ∀ e, e < n → f 3 e = nI (x.2.2.2.2.1 e) := ho
    have ho2 : ∀ c, c < 4 → f 1 c = nI (x.2.2.2.2.2.1 c) := ho2
    exact wb_zret ((3, va_up sc 0 u28.1, va_up (va_up f 3 (upd (f 3) el (nI cc0))) 0 u28.2, E, P, C)) hx hb hr hk rfl hAe (⟨fun _ => ⟨rfl, Or.inr (Or.inr (Or.inl ⟨hq, fun i hi => if q : i = el then by simp [va_up, q]; omega else by simp [va_up, q]; exact hv.1 i hi, hv.2⟩)), Or.inr (Or.inr (Or.inl ⟨hq, rfl, fun e he => if q : e = el then by simp [va_up, upd, q] else by simp [va_up, upd, q]; exact ho e he, ho2⟩)), ma_Rf (fun s hs => hp28.2 s hs)⟩, fun q => absurd hq q⟩) hP hD hS nd_MA_setClass_32
  · have hkd : kd = 10 := hkd
    subst hkd
    refine lv_aload_n hx hb nd_MA_setClass_0 rfl (lv_at hl 0 rfl) ?_
    refine va_get (D := D) (C := nr_MA) (T := nt_MA) (N := 7) hx hb htg tf_MA hown hK hP 0 rfl rfl 6 (by decide) (htg _ tm_106) (fun _ h => h) rfl nd_MA_setClass_1 ?_
    refine lv_astore hx hb nd_MA_setClass_4 hl (by decide) rfl (fun ls hl => ?_)
    have hl : lv_has ls 5 [(4, .ref (a.1 10)), (0, .ref (a.1 0)), (1, .int (nI (el))), (2, .int (nI (cc0)))] := hl
    refine lv_aload hx hb nd_MA_setClass_6 (lv_at hl 0 rfl) ?_
    refine va_instNo (C := nr_LK) hx hb hown (htg _ tm_59) (tn_LK_CK hN) (va_recv (q0 := 0) (ci := 5) hK (wm_P (Y := mw_L cI cG a n (10, sc, f, E, P, C)) (Z := []) (show va_P D cl_all (([((a.1 0), .inr (1, [.ref (a.1 2), .ref (a.1 7), .ref (a.1 3), .ref (a.1 10), .ref (a.1 1), .int (sc 0), .ref (a.1 10)])), ((a.1 1), .inl (cI, 2 ^ n, .inl (f 0))), ((a.1 2), .inr (2, [.int (sc 1)])), ((a.1 3), .inr (4, [.ref (a.1 6), .ref (a.1 4), .ref (a.1 5)])), ((a.1 4), .inl (cI, 4, .inl (f 1))), ((a.1 5), .inl (cI, 4, .inl (f 2))), ((a.1 6), .inl (cI, n, .inl (f 3)))] ++ mw_G cI cG a n (10, sc, f, E, P, C)) ++ (mw_L cI cG a n (10, sc, f, E, P, C) ++ [])) s0.heap by rw [← mw_rot]; exact hP)).2.1 rfl rfl) nd_MA_setClass_8 ?_
    refine wi_top (y := nI 0) rfl ?_
    refine wi_if_eq (tgt := 33) hx hb (by decide) nd_MA_setClass_11 rfl (fun _ => ?_) (fun h => absurd h (by decide))
    refine wi_ic hx hb (a := 0) nd_MA_setClass_33 ?_
    exact wb_zret ((10, sc, f, E, P, C)) hx hb hr hk rfl hAe (⟨fun q => by have hq : x.1 = 3 := hq; omega, fun _ => ⟨rfl, hI⟩⟩) hP hD hS nd_MA_setClass_34
theorem nd_MA_setCap_0 : decode nc_MA_setCap 0 = .ok (.aload_n 0, 1) := by decide +kernel
theorem nd_MA_setCap_1 : decode nc_MA_setCap 1 = .ok (.getfield 51, 3) := by decide +kernel
theorem nd_MA_setCap_4 : decode nc_MA_setCap 4 = .ok (.astore 4, 2) := by decide +kernel
theorem nd_MA_setCap_6 : decode nc_MA_setCap 6 = .ok (.aload 4, 2) := by decide +kernel
theorem nd_MA_setCap_8 : decode nc_MA_setCap 8 = .ok (.instanceof 27, 3) := by decide +kernel
theorem nd_MA_setCap_11 : decode nc_MA_setCap 11 = .ok (.ifCond .eq 22, 3) := by decide +kernel
theorem nd_MA_setCap_14 : decode nc_MA_setCap 14 = .ok (.aload 4, 2) := by decide +kernel
theorem nd_MA_setCap_16 : decode nc_MA_setCap 16 = .ok (.checkcast 27, 3) := by decide +kernel
theorem nd_MA_setCap_19 : decode nc_MA_setCap 19 = .ok (.astore_n 3, 1) := by decide +kernel
theorem nd_MA_setCap_20 : decode nc_MA_setCap 20 = .ok (.aload_n 3, 1) := by decide +kernel
theorem nd_MA_setCap_21 : decode nc_MA_setCap 21 = .ok (.getfield 79, 3) := by decide +kernel
theorem nd_MA_setCap_24 : decode nc_MA_setCap 24 = .ok (.iload_n 1, 1) := by decide +kernel
theorem nd_MA_setCap_25 : decode nc_MA_setCap 25 = .ok (.iload_n 2, 1) := by decide +kernel
theorem nd_MA_setCap_26 : decode nc_MA_setCap 26 = .ok (.iastore, 1) := by decide +kernel
theorem nd_MA_setCap_27 : decode nc_MA_setCap 27 = .ok (.aload_n 0, 1) := by decide +kernel
theorem nd_MA_setCap_28 : decode nc_MA_setCap 28 = .ok (.invokevirtual 73, 3) := by decide +kernel
theorem nd_MA_setCap_31 : decode nc_MA_setCap 31 = .ok (.iconst 1, 1) := by decide +kernel
theorem nd_MA_setCap_32 : decode nc_MA_setCap 32 = .ok (.ireturn, 1) := by decide +kernel
theorem nd_MA_setCap_33 : decode nc_MA_setCap 33 = .ok (.iconst 0, 1) := by decide +kernel
theorem nd_MA_setCap_34 : decode nc_MA_setCap 34 = .ok (.ireturn, 1) := by decide +kernel
set_option maxRecDepth 20000 in
theorem c_MA_setCap (l : Launch) (D : va_G) (cI cG cM : ClassId)  (a : ma_A) (n : Nat) (hn : n ≤ 10) (kd : Nat) (sc : Nat → Int32) (f E P C : Nat → Nat → Int32) (x : ma_T) (hI : ma_I n x (kd, sc, f, E, P, C)) (c0 k0 : Nat) (hc0 : c0 < 4) (hk0 : k0 ≤ 10) (sz : Nat) : wb_Mi l ny_MA_setCap nc_MA_setCap 5 (some .boolean) ({ frames := 2, cells := 0, slots := 0, locals := 43 }) D (ty_all cI cG cM) (mw_ cI cG a n (kd, sc, f, E, P, C)) sz [.ref (a.1 0), .int (nI (c0)), .int (nI (k0))] (fun (v : Int32) (u : ma_S) => (x.1 = 2 → v = nI 1 ∧ ma_I n (x.1, x.2.1, x.2.2.1, x.2.2.2.1, x.2.2.2.2.1, va_up x.2.2.2.2.2.1 c0 k0, x.2.2.2.2.2.2) u) ∧ (¬ x.1 = 2 → v = nI 0 ∧ ma_I n x u)) (fun u : ma_S => mw_ cI cG a n u) := by
  refine wb_start (S := ma_S) (by decide) (Nat.le_of_ble_eq_true rfl) ?_
  intro p e0 s0 m below meth c ls A hx hb hr hml htg hown hk hP hK hN hl hAe hsz hD hA
  have hl : lv_has ls 5 [(0, .ref (a.1 0)), (1, .int (nI (c0))), (2, .int (nI (k0)))] := hl
  have hP : va_P D cl_all ([((a.1 0), .inr (1, [.ref (a.1 2), .ref (a.1 7), .ref (a.1 3), .ref (a.1 10), .ref (a.1 1), .int (sc 0), .ref (a.1 kd)])), ((a.1 1), .inl (cI, 2 ^ n, .inl (f 0))), ((a.1 2), .inr (2, [.int (sc 1)])), ((a.1 3), .inr (4, [.ref (a.1 6), .ref (a.1 4), .ref (a.1 5)])), ((a.1 4), .inl (cI, 4, .inl (f 1))), ((a.1 5), .inl (cI, 4, .inl (f 2))), ((a.1 6), .inl (cI, n, .inl (f 3)))] ++ (mw_G cI cG a n (kd, sc, f, E, P, C) ++ mw_L cI cG a n (kd, sc, f, E, P, C))) s0.heap := hP
  have hD : va_D A ([((a.1 0), .inr (1, [.ref (a.1 2), .ref (a.1 7), .ref (a.1 3), .ref (a.1 10), .ref (a.1 1), .int (sc 0), .ref (a.1 kd)])), ((a.1 1), .inl (cI, 2 ^ n, .inl (f 0))), ((a.1 2), .inr (2, [.int (sc 1)])), ((a.1 3), .inr (4, [.ref (a.1 6), .ref (a.1 4), .ref (a.1 5)])), ((a.1 4), .inl (cI, 4, .inl (f 1))), ((a.1 5), .inl (cI, 4, .inl (f 2))), ((a.1 6), .inl (cI, n, .inl (f 3)))] ++ (mw_G cI cG a n (kd, sc, f, E, P, C) ++ mw_L cI cG a n (kd, sc, f, E, P, C))) := hD
  have hS : va_S A s0.heap s0.heap [] := va_S.rf
  have hRf : 2 ≤ ({ frames := 2, cells := 0, slots := 0, locals := 43 } : Room).frames := Nat.le_refl _
  have hRl : 43 ≤ ({ frames := 2, cells := 0, slots := 0, locals := 43 } : Room).locals := Nat.le_refl _
  have hCS : 0 ≤ ({ frames := 2, cells := 0, slots := 0, locals := 43 } : Room).cells ∧ 0 ≤ ({ frames := 2, cells := 0, slots := 0, locals := 43 } : Room).slots := ⟨Nat.zero_le _, Nat.zero_le _⟩
  have h2n : 2 ^ n ≤ 1024 := Nat.pow_le_pow_right (by omega) hn
  rcases hI.2.1 with ⟨hq, hkd, ho⟩ | ⟨hq, hkd, ho⟩ | ⟨hq, hkd, ho, ho2⟩ | ⟨hq, hkd, ho, ho2⟩
  · have hkd : kd = 2 := hkd
    subst hkd
    refine lv_aload_n hx hb nd_MA_setCap_0 rfl (lv_at hl 0 rfl) ?_
    refine va_get (D := D) (C := nr_MA) (T := nt_MA) (N := 7) hx hb htg tf_MA hown hK hP 0 rfl rfl 6 (by decide) (htg _ tm_106) (fun _ h => h) rfl nd_MA_setCap_1 ?_
    refine lv_astore hx hb nd_MA_setCap_4 hl (by decide) rfl (fun ls hl => ?_)
    have hl : lv_has ls 5 [(4, .ref (a.1 2)), (0, .ref (a.1 0)), (1, .int (nI (c0))), (2, .int (nI (k0)))] := hl
    refine lv_aload hx hb nd_MA_setCap_6 (lv_at hl 0 rfl) ?_
    refine va_instNo (C := nr_UK) hx hb hown (htg _ tm_59) (tn_UK_CK hN) (va_recv (q0 := 2) (ci := 2) hK hP rfl rfl) nd_MA_setCap_8 ?_
    refine wi_top (y := nI 0) rfl ?_
    refine wi_if_eq (tgt := 33) hx hb (by decide) nd_MA_setCap_11 rfl (fun _ => ?_) (fun h => absurd h (by decide))
    refine wi_ic hx hb (a := 0) nd_MA_setCap_33 ?_
    exact wb_zret ((2, sc, f, E, P, C)) hx hb hr hk rfl hAe (⟨fun q => by have hq : x.1 = 0 := hq; omega, fun _ => ⟨rfl, hI⟩⟩) hP hD hS nd_MA_setCap_34
  · have hkd : kd = 7 := hkd
    subst hkd
    refine lv_aload_n hx hb nd_MA_setCap_0 rfl (lv_at hl 0 rfl) ?_
    refine va_get (D := D) (C := nr_MA) (T := nt_MA) (N := 7) hx hb htg tf_MA hown hK hP 0 rfl rfl 6 (by decide) (htg _ tm_106) (fun _ h => h) rfl nd_MA_setCap_1 ?_
    refine lv_astore hx hb nd_MA_setCap_4 hl (by decide) rfl (fun ls hl => ?_)
    have hl : lv_has ls 5 [(4, .ref (a.1 7)), (0, .ref (a.1 0)), (1, .int (nI (c0))), (2, .int (nI (k0)))] := hl
    refine lv_aload hx hb nd_MA_setCap_6 (lv_at hl 0 rfl) ?_
    refine va_instNo (C := nr_GK) hx hb hown (htg _ tm_59) (tn_GK_CK hN) (va_recv (q0 := 0) (ci := 3) hK (wm_P (X := [((a.1 0), .inr (1, [.ref (a.1 2), .ref (a.1 7), .ref (a.1 3), .ref (a.1 10), .ref (a.1 1), .int (sc 0), .ref (a.1 7)])), ((a.1 1), .inl (cI, 2 ^ n, .inl (f 0))), ((a.1 2), .inr (2, [.int (sc 1)])), ((a.1 3), .inr (4, [.ref (a.1 6), .ref (a.1 4), .ref (a.1 5)])), ((a.1 4), .inl (cI, 4, .inl (f 1))), ((a.1 5), .inl (cI, 4, .inl (f 2))), ((a.1 6), .inl (cI, n, .inl (f 3)))]) (Y := mw_G cI cG a n (7, sc, f, E, P, C)) (Z := mw_L cI cG a n (7, sc, f, E, P, C)) hP).2.1 rfl rfl) nd_MA_setCap_8 ?_
    refine wi_top (y := nI 0) rfl ?_
    refine wi_if_eq (tgt := 33) hx hb (by decide) nd_MA_setCap_11 rfl (fun _ => ?_) (fun h => absurd h (by decide))
    refine wi_ic hx hb (a := 0) nd_MA_setCap_33 ?_
    exact wb_zret ((7, sc, f, E, P, C)) hx hb hr hk rfl hAe (⟨fun q => by have hq : x.1 = 1 := hq; omega, fun _ => ⟨rfl, hI⟩⟩) hP hD hS nd_MA_setCap_34
  · have hkd : kd = 3 := hkd
    subst hkd
    refine lv_aload_n hx hb nd_MA_setCap_0 rfl (lv_at hl 0 rfl) ?_
    refine va_get (D := D) (C := nr_MA) (T := nt_MA) (N := 7) hx hb htg tf_MA hown hK hP 0 rfl rfl 6 (by decide) (htg _ tm_106) (fun _ h => h) rfl nd_MA_setCap_1 ?_
    refine lv_astore hx hb nd_MA_setCap_4 hl (by decide) rfl (fun ls hl => ?_)
    have hl : lv_has ls 5 [(4, .ref (a.1 3)), (0, .ref (a.1 0)), (1, .int (nI (c0))), (2, .int (nI (k0)))] := hl
    refine lv_aload hx hb nd_MA_setCap_6 (lv_at hl 0 rfl) ?_
    refine va_instY (C := nr_CK) hx hb hown (htg _ tm_59) (tn_571 hN) (va_recv (q0 := 3) (ci := 4) hK hP rfl rfl) nd_MA_setCap_8 ?_
    refine wi_top (y := nI 1) rfl ?_
    refine wi_if_eq (tgt := 33) hx hb (by decide) nd_MA_setCap_11 rfl (fun h => absurd h (by decide)) (fun _ => ?_)
    refine lv_aload hx hb nd_MA_setCap_14 (lv_at hl 0 rfl) ?_
    refine va_castY (C := nr_CK) hx hb hown (htg _ tm_59) (tn_571 hN) (va_recv (q0 := 3) (ci := 4) hK hP rfl rfl) nd_MA_setCap_16 ?_
    refine lv_astore_n hx hb nd_MA_setCap_19 rfl hl (by decide) rfl (fun ls hl => ?_)
    have hl : lv_has ls 5 [(3, .ref (a.1 3)), (4, .ref (a.1 3)), (0, .ref (a.1 0)), (1, .int (nI (c0))), (2, .int (nI (k0)))] := hl
    refine lv_aload_n hx hb nd_MA_setCap_20 rfl (lv_at hl 0 rfl) ?_
    refine va_getN (D := D) (C := nr_CK) (T := nt_CK) (N := 3) hx hb htg tf_CK hown hK hP 3 rfl rfl 1 (by decide) (va_Nw.use rfl (tn_68 hN)) (fun _ h => h) rfl nd_MA_setCap_21 ?_
    refine lv_iload_n hx hb nd_MA_setCap_24 rfl (lv_at hl 3 rfl) ?_
    refine lv_iload_n hx hb nd_MA_setCap_25 rfl (lv_at hl 4 rfl) ?_
    refine wi_iast hx hb hK hP hD hS 4 0 rfl rfl (by omega) (by omega) nd_MA_setCap_26 (fun H locs hP hD hS => ?_)
    have hP : va_P D cl_all ([((a.1 0), .inr (1, [.ref (a.1 2), .ref (a.1 7), .ref (a.1 3), .ref (a.1 10), .ref (a.1 1), .int (sc 0), .ref (a.1 3)])), ((a.1 1), .inl (cI, 2 ^ n, .inl (f 0))), ((a.1 2), .inr (2, [.int (sc 1)])), ((a.1 3), .inr (4, [.ref (a.1 6), .ref (a.1 4), .ref (a.1 5)])), ((a.1 4), .inl (cI, 4, .inl (upd (f 1) c0 (nI (k0))))), ((a.1 5), .inl (cI, 4, .inl (f 2))), ((a.1 6), .inl (cI, n, .inl (f 3)))] ++ (mw_G cI cG a n (3, sc, f, E, P, C) ++ mw_L cI cG a n (3, sc, f, E, P, C))) H := hP
    have hD : va_D A ([((a.1 0), .inr (1, [.ref (a.1 2), .ref (a.1 7), .ref (a.1 3), .ref (a.1 10), .ref (a.1 1), .int (sc 0), .ref (a.1 3)])), ((a.1 1), .inl (cI, 2 ^ n, .inl (f 0))), ((a.1 2), .inr (2, [.int (sc 1)])), ((a.1 3), .inr (4, [.ref (a.1 6), .ref (a.1 4), .ref (a.1 5)])), ((a.1 4), .inl (cI, 4, .inl (upd (f 1) c0 (nI (k0))))), ((a.1 5), .inl (cI, 4, .inl (f 2))), ((a.1 6), .inl (cI, n, .inl (f 3)))] ++ (mw_G cI cG a n (3, sc, f, E, P, C) ++ mw_L cI cG a n (3, sc, f, E, P, C))) := hD
    refine lv_aload_n hx hb nd_MA_setCap_27 rfl (lv_at hl 2 rfl) ?_
    refine wd_Vv (C := nr_MA) (n := 0) (X := []) (Y := [((a.1 0), .inr (1, [.ref (a.1 2), .ref (a.1 7), .ref (a.1 3), .ref (a.1 10), .ref (a.1 1), .int (sc 0), .ref (a.1 3)])), ((a.1 1), .inl (cI, 2 ^ n, .inl (f 0)))]) (Z := [((a.1 2), .inr (2, [.int (sc 1)])), ((a.1 3), .inr (4, [.ref (a.1 6), .ref (a.1 4), .ref (a.1 5)])), ((a.1 4), .inl (cI, 4, .inl (upd (f 1) c0 (nI (k0))))), ((a.1 5), .inl (cI, 4, .inl (f 2))), ((a.1 6), .inl (cI, n, .inl (f 3)))] ++ (mw_G cI cG a n (3, sc, f, E, P, C) ++ mw_L cI cG a n (3, sc, f, E, P, C))) hx hb hml hown htg (c_MA_forgetRanks l D cI cG cM a n hn 3 (sc 0) (f 0) (fun q => hI.2.2.2 q) _) tm_156 tm_153 tm_155 tp_1 tm_2 (by decide +kernel) ⟨⟨Nat.le_trans (by decide) hRf, Nat.le_trans (by decide) hRl⟩, rfl, rfl⟩ hP hD hS hA hK hN (va_recv (q0 := 0) (ci := 1) hK hP rfl rfl) rfl hl.1 rfl (Nat.le_of_ble_eq_true rfl) nd_MA_setCap_28 hCS (fun u28 H locs hp28 hP hD hS => ?_)
    have hP : va_P D cl_all ([((a.1 0), .inr (1, [.ref (a.1 2), .ref (a.1 7), .ref (a.1 3), .ref (a.1 10), .ref (a.1 1), .int (u28.1), .ref (a.1 3)])), ((a.1 1), .inl (cI, 2 ^ n, .inl u28.2)), ((a.1 2), .inr (2, [.int (sc 1)])), ((a.1 3), .inr (4, [.ref (a.1 6), .ref (a.1 4), .ref (a.1 5)])), ((a.1 4), .inl (cI, 4, .inl (upd (f 1) c0 (nI (k0))))), ((a.1 5), .inl (cI, 4, .inl (f 2))), ((a.1 6), .inl (cI, n, .inl (f 3)))] ++ (mw_G cI cG a n (3, sc, f, E, P, C) ++ mw_L cI cG a n (3, sc, f, E, P, C))) H := hP
    have hD : va_D A ([((a.1 0), .inr (1, [.ref (a.1 2), .ref (a.1 7), .ref (a.1 3), .ref (a.1 10), .ref (a.1 1), .int (u28.1), .ref (a.1 3)])), ((a.1 1), .inl (cI, 2 ^ n, .inl u28.2)), ((a.1 2), .inr (2, [.int (sc 1)])), ((a.1 3), .inr (4, [.ref (a.1 6), .ref (a.1 4), .ref (a.1 5)])), ((a.1 4), .inl (cI, 4, .inl (upd (f 1) c0 (nI (k0))))), ((a.1 5), .inl (cI, 4, .inl (f 2))), ((a.1 6), .inl (cI, n, .inl (f 3)))] ++ (mw_G cI cG a n (3, sc, f, E, P, C) ++ mw_L cI cG a n (3, sc, f, E, P, C))) := hD
    refine wi_ic hx hb (a := 1) nd_MA_setCap_31 ?_
    have hv : (∀ i, i < n → x.2.2.2.2.1 i < 4) ∧ ∀ c, c < 4 → x.2.2.2.2.2.1 c ≤ 10 := by rcases hI.1 with ⟨q, -⟩ | ⟨q, -⟩ | ⟨q, q2⟩ | ⟨q, -⟩ <;> first | exact q2 | omega
    have ho : ∀ e, e < n → f 3 e = nI (x.2.2.2.2.1 e) := ho
    have ho2 : ∀ c, c < 4 → f 1 c = nI (x.2.2.2.2.2.1 c) := ho2
    exact wb_zret ((3, va_up sc 0 u28.1, va_up (va_up f 1 (upd (f 1) c0 (nI k0))) 0 u28.2, E, P, C)) hx hb hr hk rfl hAe (⟨fun _ => ⟨rfl, Or.inr (Or.inr (Or.inl ⟨hq, hv.1, fun i hi => if q : i = c0 then by simp [va_up, q]; omega else by simp [va_up, q]; exact hv.2 i hi⟩)), Or.inr (Or.inr (Or.inl ⟨hq, rfl, ho, fun e he => if q : e = c0 then by simp [va_up, upd, q] else by simp [va_up, upd, q]; exact ho2 e he⟩)), ma_Rf (fun s hs => hp28.2 s hs)⟩, fun q => absurd hq q⟩) hP hD hS nd_MA_setCap_32
  · have hkd : kd = 10 := hkd
    subst hkd
    refine lv_aload_n hx hb nd_MA_setCap_0 rfl (lv_at hl 0 rfl) ?_
    refine va_get (D := D) (C := nr_MA) (T := nt_MA) (N := 7) hx hb htg tf_MA hown hK hP 0 rfl rfl 6 (by decide) (htg _ tm_106) (fun _ h => h) rfl nd_MA_setCap_1 ?_
    refine lv_astore hx hb nd_MA_setCap_4 hl (by decide) rfl (fun ls hl => ?_)
    have hl : lv_has ls 5 [(4, .ref (a.1 10)), (0, .ref (a.1 0)), (1, .int (nI (c0))), (2, .int (nI (k0)))] := hl
    refine lv_aload hx hb nd_MA_setCap_6 (lv_at hl 0 rfl) ?_
    refine va_instNo (C := nr_LK) hx hb hown (htg _ tm_59) (tn_LK_CK hN) (va_recv (q0 := 0) (ci := 5) hK (wm_P (Y := mw_L cI cG a n (10, sc, f, E, P, C)) (Z := []) (show va_P D cl_all (([((a.1 0), .inr (1, [.ref (a.1 2), .ref (a.1 7), .ref (a.1 3), .ref (a.1 10), .ref (a.1 1), .int (sc 0), .ref (a.1 10)])), ((a.1 1), .inl (cI, 2 ^ n, .inl (f 0))), ((a.1 2), .inr (2, [.int (sc 1)])), ((a.1 3), .inr (4, [.ref (a.1 6), .ref (a.1 4), .ref (a.1 5)])), ((a.1 4), .inl (cI, 4, .inl (f 1))), ((a.1 5), .inl (cI, 4, .inl (f 2))), ((a.1 6), .inl (cI, n, .inl (f 3)))] ++ mw_G cI cG a n (10, sc, f, E, P, C)) ++ (mw_L cI cG a n (10, sc, f, E, P, C) ++ [])) s0.heap by rw [← mw_rot]; exact hP)).2.1 rfl rfl) nd_MA_setCap_8 ?_
    refine wi_top (y := nI 0) rfl ?_
    refine wi_if_eq (tgt := 33) hx hb (by decide) nd_MA_setCap_11 rfl (fun _ => ?_) (fun h => absurd h (by decide))
    refine wi_ic hx hb (a := 0) nd_MA_setCap_33 ?_
    exact wb_zret ((10, sc, f, E, P, C)) hx hb hr hk rfl hAe (⟨fun q => by have hq : x.1 = 3 := hq; omega, fun _ => ⟨rfl, hI⟩⟩) hP hD hS nd_MA_setCap_34
theorem nd_MA_setEntry_0 : decode nc_MA_setEntry 0 = .ok (.aload_n 0, 1) := by decide +kernel
theorem nd_MA_setEntry_1 : decode nc_MA_setEntry 1 = .ok (.getfield 51, 3) := by decide +kernel
theorem nd_MA_setEntry_4 : decode nc_MA_setEntry 4 = .ok (.astore 5, 2) := by decide +kernel
theorem nd_MA_setEntry_6 : decode nc_MA_setEntry 6 = .ok (.aload 5, 2) := by decide +kernel
theorem nd_MA_setEntry_8 : decode nc_MA_setEntry 8 = .ok (.instanceof 34, 3) := by decide +kernel
theorem nd_MA_setEntry_11 : decode nc_MA_setEntry 11 = .ok (.ifCond .eq 24, 3) := by decide +kernel
theorem nd_MA_setEntry_14 : decode nc_MA_setEntry 14 = .ok (.aload 5, 2) := by decide +kernel
theorem nd_MA_setEntry_16 : decode nc_MA_setEntry 16 = .ok (.checkcast 34, 3) := by decide +kernel
theorem nd_MA_setEntry_19 : decode nc_MA_setEntry 19 = .ok (.astore 4, 2) := by decide +kernel
theorem nd_MA_setEntry_21 : decode nc_MA_setEntry 21 = .ok (.aload 4, 2) := by decide +kernel
theorem nd_MA_setEntry_23 : decode nc_MA_setEntry 23 = .ok (.iload_n 1, 1) := by decide +kernel
theorem nd_MA_setEntry_24 : decode nc_MA_setEntry 24 = .ok (.iload_n 2, 1) := by decide +kernel
theorem nd_MA_setEntry_25 : decode nc_MA_setEntry 25 = .ok (.iload_n 3, 1) := by decide +kernel
theorem nd_MA_setEntry_26 : decode nc_MA_setEntry 26 = .ok (.invokevirtual 82, 3) := by decide +kernel
theorem nd_MA_setEntry_29 : decode nc_MA_setEntry 29 = .ok (.aload_n 0, 1) := by decide +kernel
theorem nd_MA_setEntry_30 : decode nc_MA_setEntry 30 = .ok (.invokevirtual 73, 3) := by decide +kernel
theorem nd_MA_setEntry_33 : decode nc_MA_setEntry 33 = .ok (.iconst 1, 1) := by decide +kernel
theorem nd_MA_setEntry_34 : decode nc_MA_setEntry 34 = .ok (.ireturn, 1) := by decide +kernel
theorem nd_MA_setEntry_35 : decode nc_MA_setEntry 35 = .ok (.iconst 0, 1) := by decide +kernel
theorem nd_MA_setEntry_36 : decode nc_MA_setEntry 36 = .ok (.ireturn, 1) := by decide +kernel
set_option maxRecDepth 20000 in
theorem c_MA_setEntry (l : Launch) (D : va_G) (cI cG cM : ClassId)  (a : ma_A) (n : Nat) (hn : n ≤ 10) (kd : Nat) (sc : Nat → Int32) (f E P C : Nat → Nat → Int32) (x : ma_T) (hI : ma_I n x (kd, sc, f, E, P, C)) (el row : Nat) (hel : el < n) (hrow : row < 4) (v0 : Int32) (sz : Nat) : wb_Mi l ny_MA_setEntry nc_MA_setEntry 6 (some .boolean) ({ frames := 2, cells := 0, slots := 0, locals := 45 }) D (ty_all cI cG cM) (mw_ cI cG a n (kd, sc, f, E, P, C)) sz [.ref (a.1 0), .int (nI (el)), .int (nI (row)), .int (v0)] (fun (v : Int32) (u : ma_S) => (x.1 = 3 → v = nI 1 ∧ ma_I n (x.1, x.2.1, x.2.2.1, x.2.2.2.1, x.2.2.2.2.1, x.2.2.2.2.2.1, x.2.2.2.2.2.2.1, va_up x.2.2.2.2.2.2.2 el (va_up (x.2.2.2.2.2.2.2 el) row (fm_ v0 x.2.2.2.2.2.2.1))) u) ∧ (¬ x.1 = 3 → v = nI 0 ∧ ma_I n x u)) (fun u : ma_S => mw_ cI cG a n u) := by
  refine wb_start (S := ma_S) (by decide) (Nat.le_of_ble_eq_true rfl) ?_
  intro p e0 s0 m below meth c ls A hx hb hr hml htg hown hk hP hK hN hl hAe hsz hD hA
  have hl : lv_has ls 6 [(0, .ref (a.1 0)), (1, .int (nI (el))), (2, .int (nI (row))), (3, .int (v0))] := hl
  have hP : va_P D cl_all ([((a.1 0), .inr (1, [.ref (a.1 2), .ref (a.1 7), .ref (a.1 3), .ref (a.1 10), .ref (a.1 1), .int (sc 0), .ref (a.1 kd)])), ((a.1 1), .inl (cI, 2 ^ n, .inl (f 0))), ((a.1 2), .inr (2, [.int (sc 1)])), ((a.1 3), .inr (4, [.ref (a.1 6), .ref (a.1 4), .ref (a.1 5)])), ((a.1 4), .inl (cI, 4, .inl (f 1))), ((a.1 5), .inl (cI, 4, .inl (f 2))), ((a.1 6), .inl (cI, n, .inl (f 3)))] ++ (mw_G cI cG a n (kd, sc, f, E, P, C) ++ mw_L cI cG a n (kd, sc, f, E, P, C))) s0.heap := hP
  have hD : va_D A ([((a.1 0), .inr (1, [.ref (a.1 2), .ref (a.1 7), .ref (a.1 3), .ref (a.1 10), .ref (a.1 1), .int (sc 0), .ref (a.1 kd)])), ((a.1 1), .inl (cI, 2 ^ n, .inl (f 0))), ((a.1 2), .inr (2, [.int (sc 1)])), ((a.1 3), .inr (4, [.ref (a.1 6), .ref (a.1 4), .ref (a.1 5)])), ((a.1 4), .inl (cI, 4, .inl (f 1))), ((a.1 5), .inl (cI, 4, .inl (f 2))), ((a.1 6), .inl (cI, n, .inl (f 3)))] ++ (mw_G cI cG a n (kd, sc, f, E, P, C) ++ mw_L cI cG a n (kd, sc, f, E, P, C))) := hD
  have hS : va_S A s0.heap s0.heap [] := va_S.rf
  have hRf : 2 ≤ ({ frames := 2, cells := 0, slots := 0, locals := 45 } : Room).frames := Nat.le_refl _
  have hRl : 45 ≤ ({ frames := 2, cells := 0, slots := 0, locals := 45 } : Room).locals := Nat.le_refl _
  have hCS : 0 ≤ ({ frames := 2, cells := 0, slots := 0, locals := 45 } : Room).cells ∧ 0 ≤ ({ frames := 2, cells := 0, slots := 0, locals := 45 } : Room).slots := ⟨Nat.zero_le _, Nat.zero_le _⟩
  have h2n : 2 ^ n ≤ 1024 := Nat.pow_le_pow_right (by omega) hn
  rcases hI.2.1 with ⟨hq, hkd, ho⟩ | ⟨hq, hkd, ho⟩ | ⟨hq, hkd, ho, ho2⟩ | ⟨hq, hkd, ho, ho2⟩
  · have hkd : kd = 2 := hkd
    subst hkd
    refine lv_aload_n hx hb nd_MA_setEntry_0 rfl (lv_at hl 0 rfl) ?_
    refine va_get (D := D) (C := nr_MA) (T := nt_MA) (N := 7) hx hb htg tf_MA hown hK hP 0 rfl rfl 6 (by decide) (htg _ tm_106) (fun _ h => h) rfl nd_MA_setEntry_1 ?_
    refine lv_astore hx hb nd_MA_setEntry_4 hl (by decide) rfl (fun ls hl => ?_)
    have hl : lv_has ls 6 [(5, .ref (a.1 2)), (0, .ref (a.1 0)), (1, .int (nI (el))), (2, .int (nI (row))), (3, .int (v0))] := hl
    refine lv_aload hx hb nd_MA_setEntry_6 (lv_at hl 0 rfl) ?_
    refine va_instNo (C := nr_UK) hx hb hown (htg _ tm_77) (tn_UK_LK hN) (va_recv (q0 := 2) (ci := 2) hK hP rfl rfl) nd_MA_setEntry_8 ?_
    refine wi_top (y := nI 0) rfl ?_
    refine wi_if_eq (tgt := 35) hx hb (by decide) nd_MA_setEntry_11 rfl (fun _ => ?_) (fun h => absurd h (by decide))
    refine wi_ic hx hb (a := 0) nd_MA_setEntry_35 ?_
    exact wb_zret ((2, sc, f, E, P, C)) hx hb hr hk rfl hAe (⟨fun q => by have hq : x.1 = 0 := hq; omega, fun _ => ⟨rfl, hI⟩⟩) hP hD hS nd_MA_setEntry_36
  · have hkd : kd = 7 := hkd
    subst hkd
    refine lv_aload_n hx hb nd_MA_setEntry_0 rfl (lv_at hl 0 rfl) ?_
    refine va_get (D := D) (C := nr_MA) (T := nt_MA) (N := 7) hx hb htg tf_MA hown hK hP 0 rfl rfl 6 (by decide) (htg _ tm_106) (fun _ h => h) rfl nd_MA_setEntry_1 ?_
    refine lv_astore hx hb nd_MA_setEntry_4 hl (by decide) rfl (fun ls hl => ?_)
    have hl : lv_has ls 6 [(5, .ref (a.1 7)), (0, .ref (a.1 0)), (1, .int (nI (el))), (2, .int (nI (row))), (3, .int (v0))] := hl
    refine lv_aload hx hb nd_MA_setEntry_6 (lv_at hl 0 rfl) ?_
    refine va_instNo (C := nr_GK) hx hb hown (htg _ tm_77) (tn_GK_LK hN) (va_recv (q0 := 0) (ci := 3) hK (wm_P (X := [((a.1 0), .inr (1, [.ref (a.1 2), .ref (a.1 7), .ref (a.1 3), .ref (a.1 10), .ref (a.1 1), .int (sc 0), .ref (a.1 7)])), ((a.1 1), .inl (cI, 2 ^ n, .inl (f 0))), ((a.1 2), .inr (2, [.int (sc 1)])), ((a.1 3), .inr (4, [.ref (a.1 6), .ref (a.1 4), .ref (a.1 5)])), ((a.1 4), .inl (cI, 4, .inl (f 1))), ((a.1 5), .inl (cI, 4, .inl (f 2))), ((a.1 6), .inl (cI, n, .inl (f 3)))]) (Y := mw_G cI cG a n (7, sc, f, E, P, C)) (Z := mw_L cI cG a n (7, sc, f, E, P, C)) hP).2.1 rfl rfl) nd_MA_setEntry_8 ?_
    refine wi_top (y := nI 0) rfl ?_
    refine wi_if_eq (tgt := 35) hx hb (by decide) nd_MA_setEntry_11 rfl (fun _ => ?_) (fun h => absurd h (by decide))
    refine wi_ic hx hb (a := 0) nd_MA_setEntry_35 ?_
    exact wb_zret ((7, sc, f, E, P, C)) hx hb hr hk rfl hAe (⟨fun q => by have hq : x.1 = 1 := hq; omega, fun _ => ⟨rfl, hI⟩⟩) hP hD hS nd_MA_setEntry_36
  · have hkd : kd = 3 := hkd
    subst hkd
    refine lv_aload_n hx hb nd_MA_setEntry_0 rfl (lv_at hl 0 rfl) ?_
    refine va_get (D := D) (C := nr_MA) (T := nt_MA) (N := 7) hx hb htg tf_MA hown hK hP 0 rfl rfl 6 (by decide) (htg _ tm_106) (fun _ h => h) rfl nd_MA_setEntry_1 ?_
    refine lv_astore hx hb nd_MA_setEntry_4 hl (by decide) rfl (fun ls hl => ?_)
    have hl : lv_has ls 6 [(5, .ref (a.1 3)), (0, .ref (a.1 0)), (1, .int (nI (el))), (2, .int (nI (row))), (3, .int (v0))] := hl
    refine lv_aload hx hb nd_MA_setEntry_6 (lv_at hl 0 rfl) ?_
    refine va_instNo (C := nr_CK) hx hb hown (htg _ tm_77) (tn_CK_LK hN) (va_recv (q0 := 3) (ci := 4) hK hP rfl rfl) nd_MA_setEntry_8 ?_
    refine wi_top (y := nI 0) rfl ?_
    refine wi_if_eq (tgt := 35) hx hb (by decide) nd_MA_setEntry_11 rfl (fun _ => ?_) (fun h => absurd h (by decide))
    refine wi_ic hx hb (a := 0) nd_MA_setEntry_35 ?_
    exact wb_zret ((3, sc, f, E, P, C)) hx hb hr hk rfl hAe (⟨fun q => by have hq : x.1 = 2 := hq; omega, fun _ => ⟨rfl, hI⟩⟩) hP hD hS nd_MA_setEntry_36
  · have hkd : kd = 10 := hkd
    subst hkd
    refine lv_aload_n hx hb nd_MA_setEntry_0 rfl (lv_at hl 0 rfl) ?_
    refine va_get (D := D) (C := nr_MA) (T := nt_MA) (N := 7) hx hb htg tf_MA hown hK hP 0 rfl rfl 6 (by decide) (htg _ tm_106) (fun _ h => h) rfl nd_MA_setEntry_1 ?_
    refine lv_astore hx hb nd_MA_setEntry_4 hl (by decide) rfl (fun ls hl => ?_)
    have hl : lv_has ls 6 [(5, .ref (a.1 10)), (0, .ref (a.1 0)), (1, .int (nI (el))), (2, .int (nI (row))), (3, .int (v0))] := hl
    refine lv_aload hx hb nd_MA_setEntry_6 (lv_at hl 0 rfl) ?_
    refine va_instY (C := nr_LK) hx hb hown (htg _ tm_77) (tn_572 hN) (va_recv (q0 := 0) (ci := 5) hK (wm_P (Y := mw_L cI cG a n (10, sc, f, E, P, C)) (Z := []) (show va_P D cl_all (([((a.1 0), .inr (1, [.ref (a.1 2), .ref (a.1 7), .ref (a.1 3), .ref (a.1 10), .ref (a.1 1), .int (sc 0), .ref (a.1 10)])), ((a.1 1), .inl (cI, 2 ^ n, .inl (f 0))), ((a.1 2), .inr (2, [.int (sc 1)])), ((a.1 3), .inr (4, [.ref (a.1 6), .ref (a.1 4), .ref (a.1 5)])), ((a.1 4), .inl (cI, 4, .inl (f 1))), ((a.1 5), .inl (cI, 4, .inl (f 2))), ((a.1 6), .inl (cI, n, .inl (f 3)))] ++ mw_G cI cG a n (10, sc, f, E, P, C)) ++ (mw_L cI cG a n (10, sc, f, E, P, C) ++ [])) s0.heap by rw [← mw_rot]; exact hP)).2.1 rfl rfl) nd_MA_setEntry_8 ?_
    refine wi_top (y := nI 1) rfl ?_
    refine wi_if_eq (tgt := 35) hx hb (by decide) nd_MA_setEntry_11 rfl (fun h => absurd h (by decide)) (fun _ => ?_)
    refine lv_aload hx hb nd_MA_setEntry_14 (lv_at hl 0 rfl) ?_
    refine va_castY (C := nr_LK) hx hb hown (htg _ tm_77) (tn_572 hN) (va_recv (q0 := 0) (ci := 5) hK (wm_P (Y := mw_L cI cG a n (10, sc, f, E, P, C)) (Z := []) (show va_P D cl_all (([((a.1 0), .inr (1, [.ref (a.1 2), .ref (a.1 7), .ref (a.1 3), .ref (a.1 10), .ref (a.1 1), .int (sc 0), .ref (a.1 10)])), ((a.1 1), .inl (cI, 2 ^ n, .inl (f 0))), ((a.1 2), .inr (2, [.int (sc 1)])), ((a.1 3), .inr (4, [.ref (a.1 6), .ref (a.1 4), .ref (a.1 5)])), ((a.1 4), .inl (cI, 4, .inl (f 1))), ((a.1 5), .inl (cI, 4, .inl (f 2))), ((a.1 6), .inl (cI, n, .inl (f 3)))] ++ mw_G cI cG a n (10, sc, f, E, P, C)) ++ (mw_L cI cG a n (10, sc, f, E, P, C) ++ [])) s0.heap by rw [← mw_rot]; exact hP)).2.1 rfl rfl) nd_MA_setEntry_16 ?_
    refine lv_astore hx hb nd_MA_setEntry_19 hl (by decide) rfl (fun ls hl => ?_)
    have hl : lv_has ls 6 [(4, .ref (a.1 10)), (5, .ref (a.1 10)), (0, .ref (a.1 0)), (1, .int (nI (el))), (2, .int (nI (row))), (3, .int (v0))] := hl
    refine lv_aload hx hb nd_MA_setEntry_21 (lv_at hl 0 rfl) ?_
    refine lv_iload_n hx hb nd_MA_setEntry_23 rfl (lv_at hl 3 rfl) ?_
    refine lv_iload_n hx hb nd_MA_setEntry_24 rfl (lv_at hl 4 rfl) ?_
    refine lv_iload_n hx hb nd_MA_setEntry_25 rfl (lv_at hl 5 rfl) ?_
    have ho : sc 2 = nI x.2.2.2.2.2.2.1 := ho
    have ho2 : ∀ e, e < n → ∀ i, i < 4 → C e i = nI (x.2.2.2.2.2.2.2 e i) := ho2
    have hv : (x.2.2.2.2.2.2.1 = 2 ∨ x.2.2.2.2.2.2.1 = 3 ∨ x.2.2.2.2.2.2.1 = 5 ∨ x.2.2.2.2.2.2.1 = 7) ∧ ∀ e, e < n → ∀ i, i < 4 → x.2.2.2.2.2.2.2 e i < x.2.2.2.2.2.2.1 := by rcases hI.1 with ⟨q, -⟩ | ⟨q, -⟩ | ⟨q, -⟩ | ⟨q, q2⟩ <;> first | exact q2 | omega
    rw [mw_Lp ho, mw_rot] at hP hD
    refine wd_Vv (C := nr_LK) (n := 3) (Y := ([(a.1 10, .inr (5, [.ref (a.1 13), .ref (a.1 11), .ref (a.1 12), .int (nI x.2.2.2.2.2.2.1)])), (a.1 11, .inl (cG, 4, .inr (.inr (.inr (.inr (fun i => if i < 4 then some (a.2.2.1 i) else none)))))), (a.1 12, .inl (cI, 4, .inl (f 5))), (a.1 13, .inl (cG, n, .inr (.inr (.inr (.inr (fun i => if i < n then some (a.2.2.2 i) else none))))))] ++ (rw_R cI 4 a.2.2.1 P 4 ++ (rw_R cI 4 a.2.2.2 C n ++ [])))) (Z := []) hx hb hml hown htg (c_LK_setNumber l D cI cG cM (a.1 10) (a.1 11) (a.1 12) (a.1 13) n hn a.2.2.1 a.2.2.2 C x.2.2.2.2.2.2.1 hv.1 P (f 5) el row hel hrow v0 _) tm_238 tm_235 tm_236 tm_237 tm_7 (by decide +kernel) ⟨⟨Nat.le_trans (by decide) hRf, Nat.le_trans (by decide) hRl⟩, rfl, rfl⟩ hP hD hS hA hK hN (va_recv (q0 := 0) (ci := 5) hK (wm_P (Y := ([(a.1 10, .inr (5, [.ref (a.1 13), .ref (a.1 11), .ref (a.1 12), .int (nI x.2.2.2.2.2.2.1)])), (a.1 11, .inl (cG, 4, .inr (.inr (.inr (.inr (fun i => if i < 4 then some (a.2.2.1 i) else none)))))), (a.1 12, .inl (cI, 4, .inl (f 5))), (a.1 13, .inl (cG, n, .inr (.inr (.inr (.inr (fun i => if i < n then some (a.2.2.2 i) else none))))))] ++ (rw_R cI 4 a.2.2.1 P 4 ++ (rw_R cI 4 a.2.2.2 C n ++ [])))) (Z := []) hP).2.1 rfl rfl) rfl hl.1 rfl (Nat.le_of_ble_eq_true rfl) nd_MA_setEntry_26 hCS (fun u26 H locs hp26 hP hD hS => ?_)
    rw [← mw_rot] at hP hD
    have hP : va_P D cl_all ([((a.1 0), .inr (1, [.ref (a.1 2), .ref (a.1 7), .ref (a.1 3), .ref (a.1 10), .ref (a.1 1), .int (sc 0), .ref (a.1 10)])), ((a.1 1), .inl (cI, 2 ^ n, .inl (f 0))), ((a.1 2), .inr (2, [.int (sc 1)])), ((a.1 3), .inr (4, [.ref (a.1 6), .ref (a.1 4), .ref (a.1 5)])), ((a.1 4), .inl (cI, 4, .inl (f 1))), ((a.1 5), .inl (cI, 4, .inl (f 2))), ((a.1 6), .inl (cI, n, .inl (f 3)))] ++ (mw_G cI cG a n (10, sc, f, E, P, C) ++ mw_L cI cG a n (10, sc, f, E, P, va_up C el (upd (C el) row (nI (fm_ v0 x.2.2.2.2.2.2.1)))))) H := by rw [mw_Lp (sc := sc) (C := va_up C el (upd (C el) row (nI (fm_ v0 x.2.2.2.2.2.2.1)))) ho]; exact hP
    have hD : va_D A ([((a.1 0), .inr (1, [.ref (a.1 2), .ref (a.1 7), .ref (a.1 3), .ref (a.1 10), .ref (a.1 1), .int (sc 0), .ref (a.1 10)])), ((a.1 1), .inl (cI, 2 ^ n, .inl (f 0))), ((a.1 2), .inr (2, [.int (sc 1)])), ((a.1 3), .inr (4, [.ref (a.1 6), .ref (a.1 4), .ref (a.1 5)])), ((a.1 4), .inl (cI, 4, .inl (f 1))), ((a.1 5), .inl (cI, 4, .inl (f 2))), ((a.1 6), .inl (cI, n, .inl (f 3)))] ++ (mw_G cI cG a n (10, sc, f, E, P, C) ++ mw_L cI cG a n (10, sc, f, E, P, va_up C el (upd (C el) row (nI (fm_ v0 x.2.2.2.2.2.2.1)))))) := by rw [mw_Lp (sc := sc) (C := va_up C el (upd (C el) row (nI (fm_ v0 x.2.2.2.2.2.2.1)))) ho]; exact hD
    refine lv_aload_n hx hb nd_MA_setEntry_29 rfl (lv_at hl 2 rfl) ?_
    refine wd_Vv (C := nr_MA) (n := 0) (X := []) (Y := [((a.1 0), .inr (1, [.ref (a.1 2), .ref (a.1 7), .ref (a.1 3), .ref (a.1 10), .ref (a.1 1), .int (sc 0), .ref (a.1 10)])), ((a.1 1), .inl (cI, 2 ^ n, .inl (f 0)))]) (Z := [((a.1 2), .inr (2, [.int (sc 1)])), ((a.1 3), .inr (4, [.ref (a.1 6), .ref (a.1 4), .ref (a.1 5)])), ((a.1 4), .inl (cI, 4, .inl (f 1))), ((a.1 5), .inl (cI, 4, .inl (f 2))), ((a.1 6), .inl (cI, n, .inl (f 3)))] ++ (mw_G cI cG a n (10, sc, f, E, P, C) ++ mw_L cI cG a n (10, sc, f, E, P, va_up C el (upd (C el) row (nI (fm_ v0 x.2.2.2.2.2.2.1)))))) hx hb hml hown htg (c_MA_forgetRanks l D cI cG cM a n hn 10 (sc 0) (f 0) (fun q => hI.2.2.2 q) _) tm_156 tm_153 tm_155 tp_1 tm_2 (by decide +kernel) ⟨⟨Nat.le_trans (by decide) hRf, Nat.le_trans (by decide) hRl⟩, rfl, rfl⟩ hP hD hS hA hK hN (va_recv (q0 := 0) (ci := 1) hK hP rfl rfl) rfl hl.1 rfl (Nat.le_of_ble_eq_true rfl) nd_MA_setEntry_30 hCS (fun u30 H locs hp30 hP hD hS => ?_)
    have hP : va_P D cl_all ([((a.1 0), .inr (1, [.ref (a.1 2), .ref (a.1 7), .ref (a.1 3), .ref (a.1 10), .ref (a.1 1), .int (u30.1), .ref (a.1 10)])), ((a.1 1), .inl (cI, 2 ^ n, .inl u30.2)), ((a.1 2), .inr (2, [.int (sc 1)])), ((a.1 3), .inr (4, [.ref (a.1 6), .ref (a.1 4), .ref (a.1 5)])), ((a.1 4), .inl (cI, 4, .inl (f 1))), ((a.1 5), .inl (cI, 4, .inl (f 2))), ((a.1 6), .inl (cI, n, .inl (f 3)))] ++ (mw_G cI cG a n (10, sc, f, E, P, C) ++ mw_L cI cG a n (10, sc, f, E, P, va_up C el (upd (C el) row (nI (fm_ v0 x.2.2.2.2.2.2.1)))))) H := hP
    have hD : va_D A ([((a.1 0), .inr (1, [.ref (a.1 2), .ref (a.1 7), .ref (a.1 3), .ref (a.1 10), .ref (a.1 1), .int (u30.1), .ref (a.1 10)])), ((a.1 1), .inl (cI, 2 ^ n, .inl u30.2)), ((a.1 2), .inr (2, [.int (sc 1)])), ((a.1 3), .inr (4, [.ref (a.1 6), .ref (a.1 4), .ref (a.1 5)])), ((a.1 4), .inl (cI, 4, .inl (f 1))), ((a.1 5), .inl (cI, 4, .inl (f 2))), ((a.1 6), .inl (cI, n, .inl (f 3)))] ++ (mw_G cI cG a n (10, sc, f, E, P, C) ++ mw_L cI cG a n (10, sc, f, E, P, va_up C el (upd (C el) row (nI (fm_ v0 x.2.2.2.2.2.2.1)))))) := hD
    refine wi_ic hx hb (a := 1) nd_MA_setEntry_33 ?_
    exact wb_zret ((10, va_up sc 0 u30.1, va_up f 0 u30.2, E, P, va_up C el (upd (C el) row (nI (fm_ v0 x.2.2.2.2.2.2.1))))) hx hb hr hk rfl hAe (⟨fun _ => ⟨rfl, Or.inr (Or.inr (Or.inr ⟨hq, hv.1, fun e he i hi => if q : e = el then (if q2 : i = row then by simp [va_up, q, q2]; exact fm_lt v0 (by omega) else by simp [va_up, q, q2]; exact hv.2 el hel i hi) else by simp [va_up, q]; exact hv.2 e he i hi⟩)), Or.inr (Or.inr (Or.inr ⟨hq, rfl, ho, fun e he i hi => if q : e = el then (if q2 : i = row then by simp [va_up, upd, q, q2] else by simp [va_up, upd, q, q2]; exact ho2 el hel i hi) else by simp [va_up, q]; exact ho2 e he i hi⟩)), ma_Rf (fun s hs => hp30.2 s hs)⟩, fun q => absurd hq q⟩) hP hD hS nd_MA_setEntry_34
end
section
/-! The class itself: its world, what it stands for; the calls that change it. -/
abbrev cb_S : Type := (Nat → Int32) × ma_S × ma_S
abbrev cb_Y : Type := (Nat → Int32) × ma_T × ma_T
def cw_ (cI cG cM : ClassId) (q : Nat → Nat) (n : Nat) (mr : Nat → Option Nat) (a0 a1 : ma_A) (u : cb_S) : va_W := [(q 0, .inr (0, [.int (nI n), .int (nI (2 ^ n - 1)), .ref (q 1), .ref (q 2)])), (q 1, .inl (cI, n, .inl u.1)), (q 2, .inl (cM, 2, .inr (.inr (.inr (.inr mr)))))] ++ (mw_ cI cG a0 n u.2.1 ++ (mw_ cI cG a1 n u.2.2 ++ []))
def cb_I (n : Nat) (y : cb_Y) (u : cb_S) : Prop := (∀ e, e < n → u.1 e = y.1 e ∧ -1000000 ≤ (y.1 e).toInt ∧ (y.1 e).toInt ≤ 1000000) ∧ ma_I n y.2.1 u.2.1 ∧ ma_I n y.2.2 u.2.2
def cb_m (y : cb_Y) (j : Nat) : ma_T := if j = 0 then y.2.1 else y.2.2
def cb_s (y : cb_Y) (j : Nat) (x : ma_T) : cb_Y := if j = 0 then (y.1, x, y.2.2) else (y.1, y.2.1, x)
def sw_ (x : Int32) : Bool := x == nI 0 || x == nI 1
def sr_ (x : Int32) (b : Int32) : Bool := !(decide (x < 0)) && !(decide (b < x))
theorem sw_0 : sw_ (nI 0) = true := by decide
theorem sw_1 : sw_ (nI 1) = true := by decide
theorem sw_n {x : Int32} (h : ¬ x = nI 0 ∧ ¬ x = nI 1) : sw_ x = false := by simp [sw_, h.1, h.2]
theorem sr_t {k b : Nat} (h : k ≤ b) (hb : b < 2 ^ 31) : sr_ (nI k) (nI b) = true := by
  have h1 : ¬ nI k < 0 := nI_pos (by omega)
  have h2 : ¬ nI b < nI k := fun z => by have := (nI_ltI hb (by omega)).mp z; omega
  simp [sr_, h1, h2]
theorem sr_f {x b : Int32} (h : ¬ (¬ x < 0 ∧ ¬ b < x)) : sr_ x b = false := by
  unfold sr_
  by_cases q : x < 0
  · simp [q]
  · by_cases q2 : b < x
    · simp [q2]
    · exact absurd ⟨q, q2⟩ h
theorem sm_which (x : Int32) : x = nI 0 ∨ x = nI 1 ∨ (¬ x = nI 0 ∧ ¬ x = nI 1) := by
  by_cases h : x = nI 0
  · exact Or.inl h
  · by_cases h2 : x = nI 1
    · exact Or.inr (Or.inl h2)
    · exact Or.inr (Or.inr ⟨h, h2⟩)
theorem sm_upto {x : Int32} {b : Nat} (hb : b < 2 ^ 31) (h : ¬ x < 0 ∧ ¬ nI b < x) : ∃ k : Nat, k ≤ b ∧ x = nI k := nI_of2 (nI_toInt hb) h.1 (Int32.not_lt.mp h.2)
theorem sm_elem {x : Int32} {n : Nat} (hn : n < 2 ^ 31) (h : ¬ x < 0 ∧ ¬ nI n ≤ x) : ∃ k : Nat, k < n ∧ x = nI k := by
  obtain ⟨j, hj, rfl⟩ := nI_of h.1
  exact ⟨j, by refine Nat.lt_of_not_le fun z => h.2 (nI_le z hj), rfl⟩
theorem sm_el {x : Int32} {n : Nat} (h1 : 1 ≤ n) (hn : n < 2 ^ 31) : (¬ x < 0 ∧ ¬ nI n ≤ x) ↔ (¬ x < 0 ∧ ¬ nI (n - 1) < x) := by
  constructor
  · intro h
    obtain ⟨k, hk, rfl⟩ := sm_elem hn h
    exact ⟨h.1, fun z => by have := (nI_ltI (by omega) (by omega)).mp z; omega⟩
  · intro h
    obtain ⟨k, hk, rfl⟩ := sm_upto (by omega) h
    exact ⟨h.1, fun z => by have := (nI_leI (by omega) (by omega)).mp z; omega⟩
def sz_ (n : Nat) (x : Int32) : Bool := sr_ x (nI (n - 1))
theorem sz_t {k n : Nat} (h : k < n) (hn : n < 2 ^ 31) : sz_ n (nI k) = true := sr_t (by omega) (by omega)
theorem sz_f {x : Int32} {n : Nat} (h1 : 1 ≤ n) (hn : n < 2 ^ 31) (h : ¬ (¬ x < 0 ∧ ¬ nI n ≤ x)) : sz_ n x = false := sr_f (fun z => h ((sm_el h1 hn).mpr z))
def sp_p (x : Int32) : Bool := x == nI 2 || x == nI 3 || x == nI 5 || x == nI 7
theorem sp_pt {k : Nat} (h : k = 2 ∨ k = 3 ∨ k = 5 ∨ k = 7) : sp_p (nI k) = true := by rcases h with h | h | h | h <;> subst h <;> decide
theorem sp_pf {x : Int32} (h : ¬ (x = nI 2 ∨ x = nI 3 ∨ x = nI 5 ∨ x = nI 7)) : sp_p x = false := by
  unfold sp_p
  simp only [Bool.or_eq_false_iff, beq_eq_false_iff_ne]
  exact ⟨⟨⟨fun z => h (Or.inl z), fun z => h (Or.inr (Or.inl z))⟩, fun z => h (Or.inr (Or.inr (Or.inl z)))⟩, fun z => h (Or.inr (Or.inr (Or.inr z)))⟩
theorem sm_mod {x : Int32} (h : x = nI 2 ∨ x = nI 3 ∨ x = nI 5 ∨ x = nI 7) : ∃ k : Nat, (k = 2 ∨ k = 3 ∨ k = 5 ∨ k = 7) ∧ x = nI k := by
  rcases h with h | h | h | h
  · exact ⟨2, by omega, h⟩
  · exact ⟨3, by omega, h⟩
  · exact ⟨5, by omega, h⟩
  · exact ⟨7, by omega, h⟩
def tn_ (x : Int32) : Nat := x.toNatClampNeg
theorem tn_nI {k : Nat} (h : k < 2 ^ 31) : tn_ (nI k) = k := nI_clamp h
-- what the calls do: the answer, and what the object stands for behind it
def sp_uniform (y : cb_Y) (wh k : Int32) : Int32 × cb_Y := if sw_ wh && sr_ k (nI 10) then (nI 1, cb_s y (tn_ wh) (0, tn_ k, (cb_m y (tn_ wh)).2.2)) else (nI 0, y)
def sp_graphic (y : cb_Y) (wh : Int32) : Int32 × cb_Y := if sw_ wh then (nI 1, cb_s y (tn_ wh) (1, (cb_m y (tn_ wh)).2.1, (fun _ => 0), (fun _ => 0), (cb_m y (tn_ wh)).2.2.2.2)) else (nI 0, y)
def sp_classes (y : cb_Y) (wh : Int32) : Int32 × cb_Y := if sw_ wh then (nI 1, cb_s y (tn_ wh) (2, (cb_m y (tn_ wh)).2.1, (cb_m y (tn_ wh)).2.2.1, (cb_m y (tn_ wh)).2.2.2.1, (fun _ => 0), (fun _ => 0), (cb_m y (tn_ wh)).2.2.2.2.2.2)) else (nI 0, y)
def sp_linear (y : cb_Y) (wh p : Int32) : Int32 × cb_Y := if sw_ wh && sp_p p then (nI 1, cb_s y (tn_ wh) (3, (cb_m y (tn_ wh)).2.1, (cb_m y (tn_ wh)).2.2.1, (cb_m y (tn_ wh)).2.2.2.1, (cb_m y (tn_ wh)).2.2.2.2.1, (cb_m y (tn_ wh)).2.2.2.2.2.1, tn_ p, (fun _ _ => 0))) else (nI 0, y)
def sp_edge (n : Nat) (y : cb_Y) (wh e u v : Int32) : Int32 × cb_Y := if sw_ wh && sz_ n e && sr_ u (nI 7) && sr_ v (nI 7) && (cb_m y (tn_ wh)).1 == 1 then (nI 1, cb_s y (tn_ wh) ((cb_m y (tn_ wh)).1, (cb_m y (tn_ wh)).2.1, va_up (cb_m y (tn_ wh)).2.2.1 (tn_ e) (tn_ u), va_up (cb_m y (tn_ wh)).2.2.2.1 (tn_ e) (tn_ v), (cb_m y (tn_ wh)).2.2.2.2)) else (nI 0, y)
def sp_part (n : Nat) (y : cb_Y) (wh e c : Int32) : Int32 × cb_Y := if sw_ wh && sz_ n e && sr_ c (nI 3) && (cb_m y (tn_ wh)).1 == 2 then (nI 1, cb_s y (tn_ wh) ((cb_m y (tn_ wh)).1, (cb_m y (tn_ wh)).2.1, (cb_m y (tn_ wh)).2.2.1, (cb_m y (tn_ wh)).2.2.2.1, va_up (cb_m y (tn_ wh)).2.2.2.2.1 (tn_ e) (tn_ c), (cb_m y (tn_ wh)).2.2.2.2.2)) else (nI 0, y)
def sp_cap (y : cb_Y) (wh c k : Int32) : Int32 × cb_Y := if sw_ wh && sr_ c (nI 3) && sr_ k (nI 10) && (cb_m y (tn_ wh)).1 == 2 then (nI 1, cb_s y (tn_ wh) ((cb_m y (tn_ wh)).1, (cb_m y (tn_ wh)).2.1, (cb_m y (tn_ wh)).2.2.1, (cb_m y (tn_ wh)).2.2.2.1, (cb_m y (tn_ wh)).2.2.2.2.1, va_up (cb_m y (tn_ wh)).2.2.2.2.2.1 (tn_ c) (tn_ k), (cb_m y (tn_ wh)).2.2.2.2.2.2)) else (nI 0, y)
def sp_entry (n : Nat) (y : cb_Y) (wh e r v : Int32) : Int32 × cb_Y := if sw_ wh && sz_ n e && sr_ r (nI 3) && (cb_m y (tn_ wh)).1 == 3 then (nI 1, cb_s y (tn_ wh) ((cb_m y (tn_ wh)).1, (cb_m y (tn_ wh)).2.1, (cb_m y (tn_ wh)).2.2.1, (cb_m y (tn_ wh)).2.2.2.1, (cb_m y (tn_ wh)).2.2.2.2.1, (cb_m y (tn_ wh)).2.2.2.2.2.1, (cb_m y (tn_ wh)).2.2.2.2.2.2.1, va_up (cb_m y (tn_ wh)).2.2.2.2.2.2.2 (tn_ e) (va_up ((cb_m y (tn_ wh)).2.2.2.2.2.2.2 (tn_ e)) (tn_ r) (fm_ v (cb_m y (tn_ wh)).2.2.2.2.2.2.1)))) else (nI 0, y)
def sp_weight (n : Nat) (y : cb_Y) (e w : Int32) : Int32 × cb_Y := if sz_ n e && !(decide (w < -1000000)) && decide (w ≤ 1000000) then (nI 1, (upd y.1 (tn_ e) w, y.2)) else (nI 0, y)
theorem cb_s0 (y : cb_Y) (x : ma_T) : cb_s y 0 x = (y.1, x, y.2.2) := rfl
theorem cb_s1 (y : cb_Y) (x : ma_T) : cb_s y 1 x = (y.1, y.2.1, x) := rfl
theorem tn_0 : tn_ (nI 0) = 0 := rfl
theorem tn_1 : tn_ (nI 1) = 1 := rfl
theorem nd_CB_uniform_0 : decode nc_CB_uniform 0 = .ok (.iload_n 1, 1) := by decide +kernel
theorem nd_CB_uniform_1 : decode nc_CB_uniform 1 = .ok (.invokestatic 29, 3) := by decide +kernel
theorem nd_CB_uniform_4 : decode nc_CB_uniform 4 = .ok (.ifCond .eq 12, 3) := by decide +kernel
theorem nd_CB_uniform_7 : decode nc_CB_uniform 7 = .ok (.iload_n 2, 1) := by decide +kernel
theorem nd_CB_uniform_8 : decode nc_CB_uniform 8 = .ok (.bipush 10, 2) := by decide +kernel
theorem nd_CB_uniform_10 : decode nc_CB_uniform 10 = .ok (.invokestatic 33, 3) := by decide +kernel
theorem nd_CB_uniform_13 : decode nc_CB_uniform 13 = .ok (.ifCond .ne 5, 3) := by decide +kernel
theorem nd_CB_uniform_16 : decode nc_CB_uniform 16 = .ok (.iconst 0, 1) := by decide +kernel
theorem nd_CB_uniform_17 : decode nc_CB_uniform 17 = .ok (.ireturn, 1) := by decide +kernel
theorem nd_CB_uniform_18 : decode nc_CB_uniform 18 = .ok (.aload_n 0, 1) := by decide +kernel
theorem nd_CB_uniform_19 : decode nc_CB_uniform 19 = .ok (.getfield 25, 3) := by decide +kernel
theorem nd_CB_uniform_22 : decode nc_CB_uniform 22 = .ok (.iload_n 1, 1) := by decide +kernel
theorem nd_CB_uniform_23 : decode nc_CB_uniform 23 = .ok (.aaload, 1) := by decide +kernel
theorem nd_CB_uniform_24 : decode nc_CB_uniform 24 = .ok (.iload_n 2, 1) := by decide +kernel
theorem nd_CB_uniform_25 : decode nc_CB_uniform 25 = .ok (.invokevirtual 37, 3) := by decide +kernel
theorem nd_CB_uniform_28 : decode nc_CB_uniform 28 = .ok (.iconst 1, 1) := by decide +kernel
theorem nd_CB_uniform_29 : decode nc_CB_uniform 29 = .ok (.ireturn, 1) := by decide +kernel
set_option maxRecDepth 20000 in
theorem c_CB_uniform (l : Launch) (D : va_G) (cI cG cM : ClassId)  (q : Nat → Nat) (n : Nat) (hn1 : 1 ≤ n) (hn : n ≤ 10) (mr : Nat → Option Nat) (a0 a1 : ma_A) (hm0 : mr 0 = some (a0.1 0)) (hm1 : mr 1 = some (a1.1 0)) (w : Nat → Int32) (t0 t1 : ma_S) (y : cb_Y) (hI : cb_I n y (w, t0, t1)) (wh k : Int32) (sz : Nat) : wb_Mi l ny_CB_uniform nc_CB_uniform 3 (some .boolean) ({ frames := 4, cells := 0, slots := 0, locals := 85 }) D (ty_all cI cG cM) (cw_ cI cG cM q n mr a0 a1 (w, t0, t1)) sz [.ref (q 0), .int (wh), .int (k)] (fun (v : Int32) (u : cb_S) => v = (sp_uniform y wh k).1 ∧ cb_I n (sp_uniform y wh k).2 u) (fun u : cb_S => cw_ cI cG cM q n mr a0 a1 u) := by
  refine wb_start (S := cb_S) (by decide) (Nat.le_of_ble_eq_true rfl) ?_
  intro p e0 s0 m below meth c ls A hx hb hr hml htg hown hk hP hK hN hl hAe hsz hD hA
  have hl : lv_has ls 3 [(0, .ref (q 0)), (1, .int (wh)), (2, .int (k))] := hl
  have hP : va_P D cl_all ([((q 0), .inr (0, [.int (nI (n)), .int (nI (2 ^ n - 1)), .ref (q 1), .ref (q 2)])), ((q 1), .inl (cI, n, .inl w)), ((q 2), .inl (cM, 2, .inr (.inr (.inr (.inr mr)))))] ++ (mw_ cI cG a0 n t0 ++ (mw_ cI cG a1 n t1 ++ []))) s0.heap := hP
  have hD : va_D A ([((q 0), .inr (0, [.int (nI (n)), .int (nI (2 ^ n - 1)), .ref (q 1), .ref (q 2)])), ((q 1), .inl (cI, n, .inl w)), ((q 2), .inl (cM, 2, .inr (.inr (.inr (.inr mr)))))] ++ (mw_ cI cG a0 n t0 ++ (mw_ cI cG a1 n t1 ++ []))) := hD
  have hS : va_S A s0.heap s0.heap [] := va_S.rf
  have hRf : 4 ≤ ({ frames := 4, cells := 0, slots := 0, locals := 85 } : Room).frames := Nat.le_refl _
  have hRl : 85 ≤ ({ frames := 4, cells := 0, slots := 0, locals := 85 } : Room).locals := Nat.le_refl _
  have hCS : 0 ≤ ({ frames := 4, cells := 0, slots := 0, locals := 85 } : Room).cells ∧ 0 ≤ ({ frames := 4, cells := 0, slots := 0, locals := 85 } : Room).slots := ⟨Nat.zero_le _, Nat.zero_le _⟩
  have h2n : 2 ^ n ≤ 1024 := Nat.pow_le_pow_right (by omega) hn
  have h2p : 1 ≤ 2 ^ n := Nat.one_le_two_pow
  have hI0 : ma_I n y.2.1 t0 := hI.2.1
  have hI1 : ma_I n y.2.2 t1 := hI.2.2
  refine lv_iload_n hx hb nd_CB_uniform_0 rfl (lv_at hl 1 rfl) ?_
  rcases sm_which wh with hw1 | hw1 | hw1
  · subst hw1
    refine wc_S (n := 1) hx hb hml hown htg (c_CB_isMatroid l D _ (nI 0) (nI 1) (fun _ => rfl) (fun h => absurd (Or.inl nI_0) h)) tm_141 tm_139 tm_140 tm_1 (by decide +kernel) ⟨⟨Nat.le_trans (by decide) hRf, Nat.le_trans (by decide) hRl⟩, rfl, rfl⟩ (wa_pre wa_nil hK hN) rfl hl.1 rfl (Nat.le_of_ble_eq_true rfl) nd_CB_uniform_1 hCS ?_
    refine wi_if_eq (tgt := 16) hx hb (by decide) nd_CB_uniform_4 rfl (fun h => absurd h (by decide)) (fun _ => ?_)
    refine lv_iload_n hx hb nd_CB_uniform_7 rfl (lv_at hl 2 rfl) ?_
    refine lv_bipush (v := nI 10) hx hb nd_CB_uniform_8 (by decide) ?_
    by_cases hq10 : ¬ k < 0 ∧ ¬ nI (10) < k
    · obtain ⟨k1, h_k1, rfl⟩ := sm_upto (by omega) hq10
      refine wc_S (n := 2) hx hb hml hown htg (c_CB_isUpTo l D _ (nI k1) (nI (10)) (nI 1) (fun _ => rfl) (fun h => absurd hq10 h)) tm_144 tm_142 tm_143 tm_1 (by decide +kernel) ⟨⟨Nat.le_trans (by decide) hRf, Nat.le_trans (by decide) hRl⟩, rfl, rfl⟩ (wa_pre wa_nil hK hN) rfl hl.1 rfl (Nat.le_of_ble_eq_true rfl) nd_CB_uniform_10 hCS ?_
      refine wi_if_ne (tgt := 18) hx hb (by decide) nd_CB_uniform_13 rfl (fun _ => ?_) (fun h => absurd h (by decide))
      refine lv_aload_n hx hb nd_CB_uniform_18 rfl (lv_at hl 0 rfl) ?_
      refine va_get (D := D) (C := nr_CB) (T := nt_CB) (N := 4) hx hb htg tf_CB hown hK hP 0 rfl rfl 3 (by decide) (htg _ tm_125) (fun _ h => h) rfl nd_CB_uniform_19 ?_
      refine lv_iload_n hx hb nd_CB_uniform_22 rfl (lv_at hl 1 rfl) ?_
      refine wi_aald (v := (a0.1 0)) hx hb hK hP 2 2 rfl rfl rfl (by omega) (by omega) (hm0) nd_CB_uniform_23 ?_
      refine lv_iload_n hx hb nd_CB_uniform_24 rfl (lv_at hl 2 rfl) ?_
      refine wd_Vv (C := nr_MA) (n := 1) (X := [((q 0), .inr (0, [.int (nI (n)), .int (nI (2 ^ n - 1)), .ref (q 1), .ref (q 2)])), ((q 1), .inl (cI, n, .inl w)), ((q 2), .inl (cM, 2, .inr (.inr (.inr (.inr mr)))))]) (Y := mw_ cI cG a0 n t0) (Z := (mw_ cI cG a1 n t1 ++ [])) hx hb hml hown htg (c_MA_becomeUniform l D cI cG cM a0 n hn t0.1 t0.2.1 t0.2.2.1 t0.2.2.2.1 t0.2.2.2.2.1 t0.2.2.2.2.2 y.2.1 hI0 k1 (by omega) _) tm_148 tm_145 tm_146 tm_147 tm_2 (by decide +kernel) ⟨⟨Nat.le_trans (by decide) hRf, Nat.le_trans (by decide) hRl⟩, rfl, rfl⟩ hP hD hS hA hK hN (va_recv (q0 := 0) (ci := 1) hK (wm_P (X := [((q 0), .inr (0, [.int (nI (n)), .int (nI (2 ^ n - 1)), .ref (q 1), .ref (q 2)])), ((q 1), .inl (cI, n, .inl w)), ((q 2), .inl (cM, 2, .inr (.inr (.inr (.inr mr)))))]) (Y := mw_ cI cG a0 n t0) (Z := (mw_ cI cG a1 n t1 ++ [])) hP).2.1 rfl rfl) rfl hl.1 rfl (Nat.le_of_ble_eq_true rfl) nd_CB_uniform_25 hCS (fun u25 H locs hp25 hP hD hS => ?_)
      have hP : va_P D cl_all ([((q 0), .inr (0, [.int (nI (n)), .int (nI (2 ^ n - 1)), .ref (q 1), .ref (q 2)])), ((q 1), .inl (cI, n, .inl w)), ((q 2), .inl (cM, 2, .inr (.inr (.inr (.inr mr)))))] ++ (mw_ cI cG a0 n u25 ++ (mw_ cI cG a1 n t1 ++ []))) H := hP
      have hD : va_D A ([((q 0), .inr (0, [.int (nI (n)), .int (nI (2 ^ n - 1)), .ref (q 1), .ref (q 2)])), ((q 1), .inl (cI, n, .inl w)), ((q 2), .inl (cM, 2, .inr (.inr (.inr (.inr mr)))))] ++ (mw_ cI cG a0 n u25 ++ (mw_ cI cG a1 n t1 ++ []))) := hD
      refine wi_ic hx hb (a := 1) nd_CB_uniform_28 ?_
      have hsp : sp_uniform y (nI 0) (nI k1) = (nI 1, (y.1, (0, k1, y.2.1.2.2), y.2.2)) := by unfold sp_uniform; rw [sw_0, sr_t h_k1 (by omega), tn_0, tn_nI (by omega)]; rfl
      exact wb_zret ((w, u25, t1)) hx hb hr hk rfl hAe (by rw [hsp]; exact ⟨rfl, ⟨hI.1, hp25, hI1⟩⟩) hP hD hS nd_CB_uniform_29
    · refine wc_S (n := 2) hx hb hml hown htg (c_CB_isUpTo l D _ k (nI (10)) (nI 0) (fun h => absurd h hq10) (fun _ => rfl)) tm_144 tm_142 tm_143 tm_1 (by decide +kernel) ⟨⟨Nat.le_trans (by decide) hRf, Nat.le_trans (by decide) hRl⟩, rfl, rfl⟩ (wa_pre wa_nil hK hN) rfl hl.1 rfl (Nat.le_of_ble_eq_true rfl) nd_CB_uniform_10 hCS ?_
      refine wi_if_ne (tgt := 18) hx hb (by decide) nd_CB_uniform_13 rfl (fun h => absurd h (by decide)) (fun _ => ?_)
      refine wi_ic hx hb (a := 0) nd_CB_uniform_16 ?_
      have hsp : sp_uniform y (nI (0)) k = (nI 0, y) := by unfold sp_uniform; rw [sr_f hq10]; simp
      exact wb_zret ((w, t0, t1)) hx hb hr hk rfl hAe (by rw [hsp]; exact ⟨rfl, hI⟩) hP hD hS nd_CB_uniform_17
  · subst hw1
    refine wc_S (n := 1) hx hb hml hown htg (c_CB_isMatroid l D _ (nI 1) (nI 1) (fun _ => rfl) (fun h => absurd (Or.inr rfl) h)) tm_141 tm_139 tm_140 tm_1 (by decide +kernel) ⟨⟨Nat.le_trans (by decide) hRf, Nat.le_trans (by decide) hRl⟩, rfl, rfl⟩ (wa_pre wa_nil hK hN) rfl hl.1 rfl (Nat.le_of_ble_eq_true rfl) nd_CB_uniform_1 hCS ?_
    refine wi_if_eq (tgt := 16) hx hb (by decide) nd_CB_uniform_4 rfl (fun h => absurd h (by decide)) (fun _ => ?_)
    refine lv_iload_n hx hb nd_CB_uniform_7 rfl (lv_at hl 2 rfl) ?_
    refine lv_bipush (v := nI 10) hx hb nd_CB_uniform_8 (by decide) ?_
    by_cases hq10 : ¬ k < 0 ∧ ¬ nI (10) < k
    · obtain ⟨k1, h_k1, rfl⟩ := sm_upto (by omega) hq10
      refine wc_S (n := 2) hx hb hml hown htg (c_CB_isUpTo l D _ (nI k1) (nI (10)) (nI 1) (fun _ => rfl) (fun h => absurd hq10 h)) tm_144 tm_142 tm_143 tm_1 (by decide +kernel) ⟨⟨Nat.le_trans (by decide) hRf, Nat.le_trans (by decide) hRl⟩, rfl, rfl⟩ (wa_pre wa_nil hK hN) rfl hl.1 rfl (Nat.le_of_ble_eq_true rfl) nd_CB_uniform_10 hCS ?_
      refine wi_if_ne (tgt := 18) hx hb (by decide) nd_CB_uniform_13 rfl (fun _ => ?_) (fun h => absurd h (by decide))
      refine lv_aload_n hx hb nd_CB_uniform_18 rfl (lv_at hl 0 rfl) ?_
      refine va_get (D := D) (C := nr_CB) (T := nt_CB) (N := 4) hx hb htg tf_CB hown hK hP 0 rfl rfl 3 (by decide) (htg _ tm_125) (fun _ h => h) rfl nd_CB_uniform_19 ?_
      refine lv_iload_n hx hb nd_CB_uniform_22 rfl (lv_at hl 1 rfl) ?_
      refine wi_aald (v := (a1.1 0)) hx hb hK hP 2 2 rfl rfl rfl (by omega) (by omega) (hm1) nd_CB_uniform_23 ?_
      refine lv_iload_n hx hb nd_CB_uniform_24 rfl (lv_at hl 2 rfl) ?_
      rw [← List.append_assoc] at hP hD
      refine wd_Vv (C := nr_MA) (n := 1) (X := ([((q 0), .inr (0, [.int (nI (n)), .int (nI (2 ^ n - 1)), .ref (q 1), .ref (q 2)])), ((q 1), .inl (cI, n, .inl w)), ((q 2), .inl (cM, 2, .inr (.inr (.inr (.inr mr)))))] ++ mw_ cI cG a0 n t0)) (Y := mw_ cI cG a1 n t1) (Z := []) hx hb hml hown htg (c_MA_becomeUniform l D cI cG cM a1 n hn t1.1 t1.2.1 t1.2.2.1 t1.2.2.2.1 t1.2.2.2.2.1 t1.2.2.2.2.2 y.2.2 hI1 k1 (by omega) _) tm_148 tm_145 tm_146 tm_147 tm_2 (by decide +kernel) ⟨⟨Nat.le_trans (by decide) hRf, Nat.le_trans (by decide) hRl⟩, rfl, rfl⟩ hP hD hS hA hK hN (va_recv (q0 := 0) (ci := 1) hK (wm_P (X := ([((q 0), .inr (0, [.int (nI (n)), .int (nI (2 ^ n - 1)), .ref (q 1), .ref (q 2)])), ((q 1), .inl (cI, n, .inl w)), ((q 2), .inl (cM, 2, .inr (.inr (.inr (.inr mr)))))] ++ mw_ cI cG a0 n t0)) (Y := mw_ cI cG a1 n t1) (Z := []) hP).2.1 rfl rfl) rfl hl.1 rfl (Nat.le_of_ble_eq_true rfl) nd_CB_uniform_25 hCS (fun u25 H locs hp25 hP hD hS => ?_)
      rw [List.append_assoc] at hP hD
      have hP : va_P D cl_all ([((q 0), .inr (0, [.int (nI (n)), .int (nI (2 ^ n - 1)), .ref (q 1), .ref (q 2)])), ((q 1), .inl (cI, n, .inl w)), ((q 2), .inl (cM, 2, .inr (.inr (.inr (.inr mr)))))] ++ (mw_ cI cG a0 n t0 ++ (mw_ cI cG a1 n u25 ++ []))) H := hP
      have hD : va_D A ([((q 0), .inr (0, [.int (nI (n)), .int (nI (2 ^ n - 1)), .ref (q 1), .ref (q 2)])), ((q 1), .inl (cI, n, .inl w)), ((q 2), .inl (cM, 2, .inr (.inr (.inr (.inr mr)))))] ++ (mw_ cI cG a0 n t0 ++ (mw_ cI cG a1 n u25 ++ []))) := hD
      refine wi_ic hx hb (a := 1) nd_CB_uniform_28 ?_
      have hsp : sp_uniform y (nI 1) (nI k1) = (nI 1, (y.1, y.2.1, (0, k1, y.2.2.2.2))) := by unfold sp_uniform; rw [sw_1, sr_t h_k1 (by omega), tn_1, tn_nI (by omega)]; rfl
      exact wb_zret ((w, t0, u25)) hx hb hr hk rfl hAe (by rw [hsp]; exact ⟨rfl, ⟨hI.1, hI0, hp25⟩⟩) hP hD hS nd_CB_uniform_29
    · refine wc_S (n := 2) hx hb hml hown htg (c_CB_isUpTo l D _ k (nI (10)) (nI 0) (fun h => absurd h hq10) (fun _ => rfl)) tm_144 tm_142 tm_143 tm_1 (by decide +kernel) ⟨⟨Nat.le_trans (by decide) hRf, Nat.le_trans (by decide) hRl⟩, rfl, rfl⟩ (wa_pre wa_nil hK hN) rfl hl.1 rfl (Nat.le_of_ble_eq_true rfl) nd_CB_uniform_10 hCS ?_
      refine wi_if_ne (tgt := 18) hx hb (by decide) nd_CB_uniform_13 rfl (fun h => absurd h (by decide)) (fun _ => ?_)
      refine wi_ic hx hb (a := 0) nd_CB_uniform_16 ?_
      have hsp : sp_uniform y (nI (1)) k = (nI 0, y) := by unfold sp_uniform; rw [sr_f hq10]; simp
      exact wb_zret ((w, t0, t1)) hx hb hr hk rfl hAe (by rw [hsp]; exact ⟨rfl, hI⟩) hP hD hS nd_CB_uniform_17
  · refine wc_S (n := 1) hx hb hml hown htg (c_CB_isMatroid l D _ wh (nI 0) (fun h => absurd h (fun z => z.elim (fun z => hw1.1 (z.trans nI_0.symm)) hw1.2)) (fun _ => rfl)) tm_141 tm_139 tm_140 tm_1 (by decide +kernel) ⟨⟨Nat.le_trans (by decide) hRf, Nat.le_trans (by decide) hRl⟩, rfl, rfl⟩ (wa_pre wa_nil hK hN) rfl hl.1 rfl (Nat.le_of_ble_eq_true rfl) nd_CB_uniform_1 hCS ?_
    refine wi_if_eq (tgt := 16) hx hb (by decide) nd_CB_uniform_4 rfl (fun _ => ?_) (fun h => absurd h (by decide))
    refine wi_ic hx hb (a := 0) nd_CB_uniform_16 ?_
    have hsp : sp_uniform y wh k = (nI 0, y) := by unfold sp_uniform; rw [sw_n hw1]; simp
    exact wb_zret ((w, t0, t1)) hx hb hr hk rfl hAe (by rw [hsp]; exact ⟨rfl, hI⟩) hP hD hS nd_CB_uniform_17
end
section
/-! The class: the other calls that change it; the simple questions. -/
theorem nd_CB_graphic_0 : decode nc_CB_graphic 0 = .ok (.iload_n 1, 1) := by decide +kernel
theorem nd_CB_graphic_1 : decode nc_CB_graphic 1 = .ok (.invokestatic 29, 3) := by decide +kernel
theorem nd_CB_graphic_4 : decode nc_CB_graphic 4 = .ok (.ifCond .ne 5, 3) := by decide +kernel
theorem nd_CB_graphic_7 : decode nc_CB_graphic 7 = .ok (.iconst 0, 1) := by decide +kernel
theorem nd_CB_graphic_8 : decode nc_CB_graphic 8 = .ok (.ireturn, 1) := by decide +kernel
theorem nd_CB_graphic_9 : decode nc_CB_graphic 9 = .ok (.aload_n 0, 1) := by decide +kernel
theorem nd_CB_graphic_10 : decode nc_CB_graphic 10 = .ok (.getfield 25, 3) := by decide +kernel
theorem nd_CB_graphic_13 : decode nc_CB_graphic 13 = .ok (.iload_n 1, 1) := by decide +kernel
theorem nd_CB_graphic_14 : decode nc_CB_graphic 14 = .ok (.aaload, 1) := by decide +kernel
theorem nd_CB_graphic_15 : decode nc_CB_graphic 15 = .ok (.invokevirtual 40, 3) := by decide +kernel
theorem nd_CB_graphic_18 : decode nc_CB_graphic 18 = .ok (.iconst 1, 1) := by decide +kernel
theorem nd_CB_graphic_19 : decode nc_CB_graphic 19 = .ok (.ireturn, 1) := by decide +kernel
set_option maxRecDepth 20000 in
theorem c_CB_graphic (l : Launch) (D : va_G) (cI cG cM : ClassId)  (q : Nat → Nat) (n : Nat) (hn1 : 1 ≤ n) (hn : n ≤ 10) (mr : Nat → Option Nat) (a0 a1 : ma_A) (hm0 : mr 0 = some (a0.1 0)) (hm1 : mr 1 = some (a1.1 0)) (w : Nat → Int32) (t0 t1 : ma_S) (y : cb_Y) (hI : cb_I n y (w, t0, t1)) (wh : Int32) (sz : Nat) : wb_Mi l ny_CB_graphic nc_CB_graphic 2 (some .boolean) ({ frames := 4, cells := 0, slots := 0, locals := 84 }) D (ty_all cI cG cM) (cw_ cI cG cM q n mr a0 a1 (w, t0, t1)) sz [.ref (q 0), .int (wh)] (fun (v : Int32) (u : cb_S) => v = (sp_graphic y wh).1 ∧ cb_I n (sp_graphic y wh).2 u) (fun u : cb_S => cw_ cI cG cM q n mr a0 a1 u) := by
  refine wb_start (S := cb_S) (by decide) (Nat.le_of_ble_eq_true rfl) ?_
  intro p e0 s0 m below meth c ls A hx hb hr hml htg hown hk hP hK hN hl hAe hsz hD hA
  have hl : lv_has ls 2 [(0, .ref (q 0)), (1, .int (wh))] := hl
  have hP : va_P D cl_all ([((q 0), .inr (0, [.int (nI (n)), .int (nI (2 ^ n - 1)), .ref (q 1), .ref (q 2)])), ((q 1), .inl (cI, n, .inl w)), ((q 2), .inl (cM, 2, .inr (.inr (.inr (.inr mr)))))] ++ (mw_ cI cG a0 n t0 ++ (mw_ cI cG a1 n t1 ++ []))) s0.heap := hP
  have hD : va_D A ([((q 0), .inr (0, [.int (nI (n)), .int (nI (2 ^ n - 1)), .ref (q 1), .ref (q 2)])), ((q 1), .inl (cI, n, .inl w)), ((q 2), .inl (cM, 2, .inr (.inr (.inr (.inr mr)))))] ++ (mw_ cI cG a0 n t0 ++ (mw_ cI cG a1 n t1 ++ []))) := hD
  have hS : va_S A s0.heap s0.heap [] := va_S.rf
  have hRf : 4 ≤ ({ frames := 4, cells := 0, slots := 0, locals := 84 } : Room).frames := Nat.le_refl _
  have hRl : 84 ≤ ({ frames := 4, cells := 0, slots := 0, locals := 84 } : Room).locals := Nat.le_refl _
  have hCS : 0 ≤ ({ frames := 4, cells := 0, slots := 0, locals := 84 } : Room).cells ∧ 0 ≤ ({ frames := 4, cells := 0, slots := 0, locals := 84 } : Room).slots := ⟨Nat.zero_le _, Nat.zero_le _⟩
  have h2n : 2 ^ n ≤ 1024 := Nat.pow_le_pow_right (by omega) hn
  have h2p : 1 ≤ 2 ^ n := Nat.one_le_two_pow
  have hI0 : ma_I n y.2.1 t0 := hI.2.1
  have hI1 : ma_I n y.2.2 t1 := hI.2.2
  refine lv_iload_n hx hb nd_CB_graphic_0 rfl (lv_at hl 1 rfl) ?_
  rcases sm_which wh with hw1 | hw1 | hw1
  · subst hw1
    refine wc_S (n := 1) hx hb hml hown htg (c_CB_isMatroid l D _ (nI 0) (nI 1) (fun _ => rfl) (fun h => absurd (Or.inl nI_0) h)) tm_141 tm_139 tm_140 tm_1 (by decide +kernel) ⟨⟨Nat.le_trans (by decide) hRf, Nat.le_trans (by decide) hRl⟩, rfl, rfl⟩ (wa_pre wa_nil hK hN) rfl hl.1 rfl (Nat.le_of_ble_eq_true rfl) nd_CB_graphic_1 hCS ?_
    refine wi_if_ne (tgt := 9) hx hb (by decide) nd_CB_graphic_4 rfl (fun _ => ?_) (fun h => absurd h (by decide))
    refine lv_aload_n hx hb nd_CB_graphic_9 rfl (lv_at hl 0 rfl) ?_
    refine va_get (D := D) (C := nr_CB) (T := nt_CB) (N := 4) hx hb htg tf_CB hown hK hP 0 rfl rfl 3 (by decide) (htg _ tm_125) (fun _ h => h) rfl nd_CB_graphic_10 ?_
    refine lv_iload_n hx hb nd_CB_graphic_13 rfl (lv_at hl 1 rfl) ?_
    refine wi_aald (v := (a0.1 0)) hx hb hK hP 2 2 rfl rfl rfl (by omega) (by omega) (hm0) nd_CB_graphic_14 ?_
    refine wd_Vv (C := nr_MA) (n := 0) (X := [((q 0), .inr (0, [.int (nI (n)), .int (nI (2 ^ n - 1)), .ref (q 1), .ref (q 2)])), ((q 1), .inl (cI, n, .inl w)), ((q 2), .inl (cM, 2, .inr (.inr (.inr (.inr mr)))))]) (Y := mw_ cI cG a0 n t0) (Z := (mw_ cI cG a1 n t1 ++ [])) hx hb hml hown htg (c_MA_becomeGraphic l D cI cG cM a0 n hn t0.1 t0.2.1 t0.2.2.1 t0.2.2.2.1 t0.2.2.2.2.1 t0.2.2.2.2.2 y.2.1 hI0  _) tm_164 tm_161 tm_162 tm_163 tm_2 (by decide +kernel) ⟨⟨Nat.le_trans (by decide) hRf, Nat.le_trans (by decide) hRl⟩, rfl, rfl⟩ hP hD hS hA hK hN (va_recv (q0 := 0) (ci := 1) hK (wm_P (X := [((q 0), .inr (0, [.int (nI (n)), .int (nI (2 ^ n - 1)), .ref (q 1), .ref (q 2)])), ((q 1), .inl (cI, n, .inl w)), ((q 2), .inl (cM, 2, .inr (.inr (.inr (.inr mr)))))]) (Y := mw_ cI cG a0 n t0) (Z := (mw_ cI cG a1 n t1 ++ [])) hP).2.1 rfl rfl) rfl hl.1 rfl (Nat.le_of_ble_eq_true rfl) nd_CB_graphic_15 hCS (fun u15 H locs hp15 hP hD hS => ?_)
    have hP : va_P D cl_all ([((q 0), .inr (0, [.int (nI (n)), .int (nI (2 ^ n - 1)), .ref (q 1), .ref (q 2)])), ((q 1), .inl (cI, n, .inl w)), ((q 2), .inl (cM, 2, .inr (.inr (.inr (.inr mr)))))] ++ (mw_ cI cG a0 n u15 ++ (mw_ cI cG a1 n t1 ++ []))) H := hP
    have hD : va_D A ([((q 0), .inr (0, [.int (nI (n)), .int (nI (2 ^ n - 1)), .ref (q 1), .ref (q 2)])), ((q 1), .inl (cI, n, .inl w)), ((q 2), .inl (cM, 2, .inr (.inr (.inr (.inr mr)))))] ++ (mw_ cI cG a0 n u15 ++ (mw_ cI cG a1 n t1 ++ []))) := hD
    refine wi_ic hx hb (a := 1) nd_CB_graphic_18 ?_
    have hsp : sp_graphic y (nI (0))  = (nI 1, (y.1, (1, y.2.1.2.1, (fun _ => 0), (fun _ => 0), y.2.1.2.2.2.2), y.2.2)) := by unfold sp_graphic; simp only [sw_0, tn_0]; simp [cb_m, cb_s]
    exact wb_zret ((w, u15, t1)) hx hb hr hk rfl hAe (by rw [hsp]; exact ⟨rfl, ⟨hI.1, hp15, hI1⟩⟩) hP hD hS nd_CB_graphic_19
  · subst hw1
    refine wc_S (n := 1) hx hb hml hown htg (c_CB_isMatroid l D _ (nI 1) (nI 1) (fun _ => rfl) (fun h => absurd (Or.inr rfl) h)) tm_141 tm_139 tm_140 tm_1 (by decide +kernel) ⟨⟨Nat.le_trans (by decide) hRf, Nat.le_trans (by decide) hRl⟩, rfl, rfl⟩ (wa_pre wa_nil hK hN) rfl hl.1 rfl (Nat.le_of_ble_eq_true rfl) nd_CB_graphic_1 hCS ?_
    refine wi_if_ne (tgt := 9) hx hb (by decide) nd_CB_graphic_4 rfl (fun _ => ?_) (fun h => absurd h (by decide))
    refine lv_aload_n hx hb nd_CB_graphic_9 rfl (lv_at hl 0 rfl) ?_
    refine va_get (D := D) (C := nr_CB) (T := nt_CB) (N := 4) hx hb htg tf_CB hown hK hP 0 rfl rfl 3 (by decide) (htg _ tm_125) (fun _ h => h) rfl nd_CB_graphic_10 ?_
    refine lv_iload_n hx hb nd_CB_graphic_13 rfl (lv_at hl 1 rfl) ?_
    refine wi_aald (v := (a1.1 0)) hx hb hK hP 2 2 rfl rfl rfl (by omega) (by omega) (hm1) nd_CB_graphic_14 ?_
    rw [← List.append_assoc] at hP hD
    refine wd_Vv (C := nr_MA) (n := 0) (X := ([((q 0), .inr (0, [.int (nI (n)), .int (nI (2 ^ n - 1)), .ref (q 1), .ref (q 2)])), ((q 1), .inl (cI, n, .inl w)), ((q 2), .inl (cM, 2, .inr (.inr (.inr (.inr mr)))))] ++ mw_ cI cG a0 n t0)) (Y := mw_ cI cG a1 n t1) (Z := []) hx hb hml hown htg (c_MA_becomeGraphic l D cI cG cM a1 n hn t1.1 t1.2.1 t1.2.2.1 t1.2.2.2.1 t1.2.2.2.2.1 t1.2.2.2.2.2 y.2.2 hI1  _) tm_164 tm_161 tm_162 tm_163 tm_2 (by decide +kernel) ⟨⟨Nat.le_trans (by decide) hRf, Nat.le_trans (by decide) hRl⟩, rfl, rfl⟩ hP hD hS hA hK hN (va_recv (q0 := 0) (ci := 1) hK (wm_P (X := ([((q 0), .inr (0, [.int (nI (n)), .int (nI (2 ^ n - 1)), .ref (q 1), .ref (q 2)])), ((q 1), .inl (cI, n, .inl w)), ((q 2), .inl (cM, 2, .inr (.inr (.inr (.inr mr)))))] ++ mw_ cI cG a0 n t0)) (Y := mw_ cI cG a1 n t1) (Z := []) hP).2.1 rfl rfl) rfl hl.1 rfl (Nat.le_of_ble_eq_true rfl) nd_CB_graphic_15 hCS (fun u15 H locs hp15 hP hD hS => ?_)
    rw [List.append_assoc] at hP hD
    have hP : va_P D cl_all ([((q 0), .inr (0, [.int (nI (n)), .int (nI (2 ^ n - 1)), .ref (q 1), .ref (q 2)])), ((q 1), .inl (cI, n, .inl w)), ((q 2), .inl (cM, 2, .inr (.inr (.inr (.inr mr)))))] ++ (mw_ cI cG a0 n t0 ++ (mw_ cI cG a1 n u15 ++ []))) H := hP
    have hD : va_D A ([((q 0), .inr (0, [.int (nI (n)), .int (nI (2 ^ n - 1)), .ref (q 1), .ref (q 2)])), ((q 1), .inl (cI, n, .inl w)), ((q 2), .inl (cM, 2, .inr (.inr (.inr (.inr mr)))))] ++ (mw_ cI cG a0 n t0 ++ (mw_ cI cG a1 n u15 ++ []))) := hD
    refine wi_ic hx hb (a := 1) nd_CB_graphic_18 ?_
    have hsp : sp_graphic y (nI (1))  = (nI 1, (y.1, y.2.1, (1, y.2.2.2.1, (fun _ => 0), (fun _ => 0), y.2.2.2.2.2.2))) := by unfold sp_graphic; simp only [sw_1, tn_1]; simp [cb_m, cb_s]
    exact wb_zret ((w, t0, u15)) hx hb hr hk rfl hAe (by rw [hsp]; exact ⟨rfl, ⟨hI.1, hI0, hp15⟩⟩) hP hD hS nd_CB_graphic_19
  · refine wc_S (n := 1) hx hb hml hown htg (c_CB_isMatroid l D _ wh (nI 0) (fun h => absurd h (fun z => z.elim (fun z => hw1.1 (z.trans nI_0.symm)) hw1.2)) (fun _ => rfl)) tm_141 tm_139 tm_140 tm_1 (by decide +kernel) ⟨⟨Nat.le_trans (by decide) hRf, Nat.le_trans (by decide) hRl⟩, rfl, rfl⟩ (wa_pre wa_nil hK hN) rfl hl.1 rfl (Nat.le_of_ble_eq_true rfl) nd_CB_graphic_1 hCS ?_
    refine wi_if_ne (tgt := 9) hx hb (by decide) nd_CB_graphic_4 rfl (fun h => absurd h (by decide)) (fun _ => ?_)
    refine wi_ic hx hb (a := 0) nd_CB_graphic_7 ?_
    have hsp : sp_graphic y wh  = (nI 0, y) := by unfold sp_graphic; simp [sw_n hw1]
    exact wb_zret ((w, t0, t1)) hx hb hr hk rfl hAe (by rw [hsp]; exact ⟨rfl, hI⟩) hP hD hS nd_CB_graphic_8
theorem nd_CB_classes_0 : decode nc_CB_classes 0 = .ok (.iload_n 1, 1) := by decide +kernel
theorem nd_CB_classes_1 : decode nc_CB_classes 1 = .ok (.invokestatic 29, 3) := by decide +kernel
theorem nd_CB_classes_4 : decode nc_CB_classes 4 = .ok (.ifCond .ne 5, 3) := by decide +kernel
theorem nd_CB_classes_7 : decode nc_CB_classes 7 = .ok (.iconst 0, 1) := by decide +kernel
theorem nd_CB_classes_8 : decode nc_CB_classes 8 = .ok (.ireturn, 1) := by decide +kernel
theorem nd_CB_classes_9 : decode nc_CB_classes 9 = .ok (.aload_n 0, 1) := by decide +kernel
theorem nd_CB_classes_10 : decode nc_CB_classes 10 = .ok (.getfield 25, 3) := by decide +kernel
theorem nd_CB_classes_13 : decode nc_CB_classes 13 = .ok (.iload_n 1, 1) := by decide +kernel
theorem nd_CB_classes_14 : decode nc_CB_classes 14 = .ok (.aaload, 1) := by decide +kernel
theorem nd_CB_classes_15 : decode nc_CB_classes 15 = .ok (.invokevirtual 50, 3) := by decide +kernel
theorem nd_CB_classes_18 : decode nc_CB_classes 18 = .ok (.iconst 1, 1) := by decide +kernel
theorem nd_CB_classes_19 : decode nc_CB_classes 19 = .ok (.ireturn, 1) := by decide +kernel
set_option maxRecDepth 20000 in
theorem c_CB_classes (l : Launch) (D : va_G) (cI cG cM : ClassId)  (q : Nat → Nat) (n : Nat) (hn1 : 1 ≤ n) (hn : n ≤ 10) (mr : Nat → Option Nat) (a0 a1 : ma_A) (hm0 : mr 0 = some (a0.1 0)) (hm1 : mr 1 = some (a1.1 0)) (w : Nat → Int32) (t0 t1 : ma_S) (y : cb_Y) (hI : cb_I n y (w, t0, t1)) (wh : Int32) (sz : Nat) : wb_Mi l ny_CB_classes nc_CB_classes 2 (some .boolean) ({ frames := 4, cells := 0, slots := 0, locals := 84 }) D (ty_all cI cG cM) (cw_ cI cG cM q n mr a0 a1 (w, t0, t1)) sz [.ref (q 0), .int (wh)] (fun (v : Int32) (u : cb_S) => v = (sp_classes y wh).1 ∧ cb_I n (sp_classes y wh).2 u) (fun u : cb_S => cw_ cI cG cM q n mr a0 a1 u) := by
  refine wb_start (S := cb_S) (by decide) (Nat.le_of_ble_eq_true rfl) ?_
  intro p e0 s0 m below meth c ls A hx hb hr hml htg hown hk hP hK hN hl hAe hsz hD hA
  have hl : lv_has ls 2 [(0, .ref (q 0)), (1, .int (wh))] := hl
  have hP : va_P D cl_all ([((q 0), .inr (0, [.int (nI (n)), .int (nI (2 ^ n - 1)), .ref (q 1), .ref (q 2)])), ((q 1), .inl (cI, n, .inl w)), ((q 2), .inl (cM, 2, .inr (.inr (.inr (.inr mr)))))] ++ (mw_ cI cG a0 n t0 ++ (mw_ cI cG a1 n t1 ++ []))) s0.heap := hP
  have hD : va_D A ([((q 0), .inr (0, [.int (nI (n)), .int (nI (2 ^ n - 1)), .ref (q 1), .ref (q 2)])), ((q 1), .inl (cI, n, .inl w)), ((q 2), .inl (cM, 2, .inr (.inr (.inr (.inr mr)))))] ++ (mw_ cI cG a0 n t0 ++ (mw_ cI cG a1 n t1 ++ []))) := hD
  have hS : va_S A s0.heap s0.heap [] := va_S.rf
  have hRf : 4 ≤ ({ frames := 4, cells := 0, slots := 0, locals := 84 } : Room).frames := Nat.le_refl _
  have hRl : 84 ≤ ({ frames := 4, cells := 0, slots := 0, locals := 84 } : Room).locals := Nat.le_refl _
  have hCS : 0 ≤ ({ frames := 4, cells := 0, slots := 0, locals := 84 } : Room).cells ∧ 0 ≤ ({ frames := 4, cells := 0, slots := 0, locals := 84 } : Room).slots := ⟨Nat.zero_le _, Nat.zero_le _⟩
  have h2n : 2 ^ n ≤ 1024 := Nat.pow_le_pow_right (by omega) hn
  have h2p : 1 ≤ 2 ^ n := Nat.one_le_two_pow
  have hI0 : ma_I n y.2.1 t0 := hI.2.1
  have hI1 : ma_I n y.2.2 t1 := hI.2.2
  refine lv_iload_n hx hb nd_CB_classes_0 rfl (lv_at hl 1 rfl) ?_
  rcases sm_which wh with hw1 | hw1 | hw1
  · subst hw1
    refine wc_S (n := 1) hx hb hml hown htg (c_CB_isMatroid l D _ (nI 0) (nI 1) (fun _ => rfl) (fun h => absurd (Or.inl nI_0) h)) tm_141 tm_139 tm_140 tm_1 (by decide +kernel) ⟨⟨Nat.le_trans (by decide) hRf, Nat.le_trans (by decide) hRl⟩, rfl, rfl⟩ (wa_pre wa_nil hK hN) rfl hl.1 rfl (Nat.le_of_ble_eq_true rfl) nd_CB_classes_1 hCS ?_
    refine wi_if_ne (tgt := 9) hx hb (by decide) nd_CB_classes_4 rfl (fun _ => ?_) (fun h => absurd h (by decide))
    refine lv_aload_n hx hb nd_CB_classes_9 rfl (lv_at hl 0 rfl) ?_
    refine va_get (D := D) (C := nr_CB) (T := nt_CB) (N := 4) hx hb htg tf_CB hown hK hP 0 rfl rfl 3 (by decide) (htg _ tm_125) (fun _ h => h) rfl nd_CB_classes_10 ?_
    refine lv_iload_n hx hb nd_CB_classes_13 rfl (lv_at hl 1 rfl) ?_
    refine wi_aald (v := (a0.1 0)) hx hb hK hP 2 2 rfl rfl rfl (by omega) (by omega) (hm0) nd_CB_classes_14 ?_
    refine wd_Vv (C := nr_MA) (n := 0) (X := [((q 0), .inr (0, [.int (nI (n)), .int (nI (2 ^ n - 1)), .ref (q 1), .ref (q 2)])), ((q 1), .inl (cI, n, .inl w)), ((q 2), .inl (cM, 2, .inr (.inr (.inr (.inr mr)))))]) (Y := mw_ cI cG a0 n t0) (Z := (mw_ cI cG a1 n t1 ++ [])) hx hb hml hown htg (c_MA_becomeClasses l D cI cG cM a0 n hn t0.1 t0.2.1 t0.2.2.1 t0.2.2.2.1 t0.2.2.2.2.1 t0.2.2.2.2.2 y.2.1 hI0  _) tm_189 tm_186 tm_187 tm_188 tm_2 (by decide +kernel) ⟨⟨Nat.le_trans (by decide) hRf, Nat.le_trans (by decide) hRl⟩, rfl, rfl⟩ hP hD hS hA hK hN (va_recv (q0 := 0) (ci := 1) hK (wm_P (X := [((q 0), .inr (0, [.int (nI (n)), .int (nI (2 ^ n - 1)), .ref (q 1), .ref (q 2)])), ((q 1), .inl (cI, n, .inl w)), ((q 2), .inl (cM, 2, .inr (.inr (.inr (.inr mr)))))]) (Y := mw_ cI cG a0 n t0) (Z := (mw_ cI cG a1 n t1 ++ [])) hP).2.1 rfl rfl) rfl hl.1 rfl (Nat.le_of_ble_eq_true rfl) nd_CB_classes_15 hCS (fun u15 H locs hp15 hP hD hS => ?_)
    have hP : va_P D cl_all ([((q 0), .inr (0, [.int (nI (n)), .int (nI (2 ^ n - 1)), .ref (q 1), .ref (q 2)])), ((q 1), .inl (cI, n, .inl w)), ((q 2), .inl (cM, 2, .inr (.inr (.inr (.inr mr)))))] ++ (mw_ cI cG a0 n u15 ++ (mw_ cI cG a1 n t1 ++ []))) H := hP
    have hD : va_D A ([((q 0), .inr (0, [.int (nI (n)), .int (nI (2 ^ n - 1)), .ref (q 1), .ref (q 2)])), ((q 1), .inl (cI, n, .inl w)), ((q 2), .inl (cM, 2, .inr (.inr (.inr (.inr mr)))))] ++ (mw_ cI cG a0 n u15 ++ (mw_ cI cG a1 n t1 ++ []))) := hD
    refine wi_ic hx hb (a := 1) nd_CB_classes_18 ?_
    have hsp : sp_classes y (nI (0))  = (nI 1, (y.1, (2, y.2.1.2.1, y.2.1.2.2.1, y.2.1.2.2.2.1, (fun _ => 0), (fun _ => 0), y.2.1.2.2.2.2.2.2), y.2.2)) := by unfold sp_classes; simp only [sw_0, tn_0]; simp [cb_m, cb_s]
    exact wb_zret ((w, u15, t1)) hx hb hr hk rfl hAe (by rw [hsp]; exact ⟨rfl, ⟨hI.1, hp15, hI1⟩⟩) hP hD hS nd_CB_classes_19
  · subst hw1
    refine wc_S (n := 1) hx hb hml hown htg (c_CB_isMatroid l D _ (nI 1) (nI 1) (fun _ => rfl) (fun h => absurd (Or.inr rfl) h)) tm_141 tm_139 tm_140 tm_1 (by decide +kernel) ⟨⟨Nat.le_trans (by decide) hRf, Nat.le_trans (by decide) hRl⟩, rfl, rfl⟩ (wa_pre wa_nil hK hN) rfl hl.1 rfl (Nat.le_of_ble_eq_true rfl) nd_CB_classes_1 hCS ?_
    refine wi_if_ne (tgt := 9) hx hb (by decide) nd_CB_classes_4 rfl (fun _ => ?_) (fun h => absurd h (by decide))
    refine lv_aload_n hx hb nd_CB_classes_9 rfl (lv_at hl 0 rfl) ?_
    refine va_get (D := D) (C := nr_CB) (T := nt_CB) (N := 4) hx hb htg tf_CB hown hK hP 0 rfl rfl 3 (by decide) (htg _ tm_125) (fun _ h => h) rfl nd_CB_classes_10 ?_
    refine lv_iload_n hx hb nd_CB_classes_13 rfl (lv_at hl 1 rfl) ?_
    refine wi_aald (v := (a1.1 0)) hx hb hK hP 2 2 rfl rfl rfl (by omega) (by omega) (hm1) nd_CB_classes_14 ?_
    rw [← List.append_assoc] at hP hD
    refine wd_Vv (C := nr_MA) (n := 0) (X := ([((q 0), .inr (0, [.int (nI (n)), .int (nI (2 ^ n - 1)), .ref (q 1), .ref (q 2)])), ((q 1), .inl (cI, n, .inl w)), ((q 2), .inl (cM, 2, .inr (.inr (.inr (.inr mr)))))] ++ mw_ cI cG a0 n t0)) (Y := mw_ cI cG a1 n t1) (Z := []) hx hb hml hown htg (c_MA_becomeClasses l D cI cG cM a1 n hn t1.1 t1.2.1 t1.2.2.1 t1.2.2.2.1 t1.2.2.2.2.1 t1.2.2.2.2.2 y.2.2 hI1  _) tm_189 tm_186 tm_187 tm_188 tm_2 (by decide +kernel) ⟨⟨Nat.le_trans (by decide) hRf, Nat.le_trans (by decide) hRl⟩, rfl, rfl⟩ hP hD hS hA hK hN (va_recv (q0 := 0) (ci := 1) hK (wm_P (X := ([((q 0), .inr (0, [.int (nI (n)), .int (nI (2 ^ n - 1)), .ref (q 1), .ref (q 2)])), ((q 1), .inl (cI, n, .inl w)), ((q 2), .inl (cM, 2, .inr (.inr (.inr (.inr mr)))))] ++ mw_ cI cG a0 n t0)) (Y := mw_ cI cG a1 n t1) (Z := []) hP).2.1 rfl rfl) rfl hl.1 rfl (Nat.le_of_ble_eq_true rfl) nd_CB_classes_15 hCS (fun u15 H locs hp15 hP hD hS => ?_)
    rw [List.append_assoc] at hP hD
    have hP : va_P D cl_all ([((q 0), .inr (0, [.int (nI (n)), .int (nI (2 ^ n - 1)), .ref (q 1), .ref (q 2)])), ((q 1), .inl (cI, n, .inl w)), ((q 2), .inl (cM, 2, .inr (.inr (.inr (.inr mr)))))] ++ (mw_ cI cG a0 n t0 ++ (mw_ cI cG a1 n u15 ++ []))) H := hP
    have hD : va_D A ([((q 0), .inr (0, [.int (nI (n)), .int (nI (2 ^ n - 1)), .ref (q 1), .ref (q 2)])), ((q 1), .inl (cI, n, .inl w)), ((q 2), .inl (cM, 2, .inr (.inr (.inr (.inr mr)))))] ++ (mw_ cI cG a0 n t0 ++ (mw_ cI cG a1 n u15 ++ []))) := hD
    refine wi_ic hx hb (a := 1) nd_CB_classes_18 ?_
    have hsp : sp_classes y (nI (1))  = (nI 1, (y.1, y.2.1, (2, y.2.2.2.1, y.2.2.2.2.1, y.2.2.2.2.2.1, (fun _ => 0), (fun _ => 0), y.2.2.2.2.2.2.2.2))) := by unfold sp_classes; simp only [sw_1, tn_1]; simp [cb_m, cb_s]
    exact wb_zret ((w, t0, u15)) hx hb hr hk rfl hAe (by rw [hsp]; exact ⟨rfl, ⟨hI.1, hI0, hp15⟩⟩) hP hD hS nd_CB_classes_19
  · refine wc_S (n := 1) hx hb hml hown htg (c_CB_isMatroid l D _ wh (nI 0) (fun h => absurd h (fun z => z.elim (fun z => hw1.1 (z.trans nI_0.symm)) hw1.2)) (fun _ => rfl)) tm_141 tm_139 tm_140 tm_1 (by decide +kernel) ⟨⟨Nat.le_trans (by decide) hRf, Nat.le_trans (by decide) hRl⟩, rfl, rfl⟩ (wa_pre wa_nil hK hN) rfl hl.1 rfl (Nat.le_of_ble_eq_true rfl) nd_CB_classes_1 hCS ?_
    refine wi_if_ne (tgt := 9) hx hb (by decide) nd_CB_classes_4 rfl (fun h => absurd h (by decide)) (fun _ => ?_)
    refine wi_ic hx hb (a := 0) nd_CB_classes_7 ?_
    have hsp : sp_classes y wh  = (nI 0, y) := by unfold sp_classes; simp [sw_n hw1]
    exact wb_zret ((w, t0, t1)) hx hb hr hk rfl hAe (by rw [hsp]; exact ⟨rfl, hI⟩) hP hD hS nd_CB_classes_8
theorem nd_CB_linear_0 : decode nc_CB_linear 0 = .ok (.iload_n 1, 1) := by decide +kernel
theorem nd_CB_linear_1 : decode nc_CB_linear 1 = .ok (.invokestatic 29, 3) := by decide +kernel
theorem nd_CB_linear_4 : decode nc_CB_linear 4 = .ok (.ifCond .eq 10, 3) := by decide +kernel
theorem nd_CB_linear_7 : decode nc_CB_linear 7 = .ok (.iload_n 2, 1) := by decide +kernel
theorem nd_CB_linear_8 : decode nc_CB_linear 8 = .ok (.invokestatic 59, 3) := by decide +kernel
theorem nd_CB_linear_11 : decode nc_CB_linear 11 = .ok (.ifCond .ne 5, 3) := by decide +kernel
theorem nd_CB_linear_14 : decode nc_CB_linear 14 = .ok (.iconst 0, 1) := by decide +kernel
theorem nd_CB_linear_15 : decode nc_CB_linear 15 = .ok (.ireturn, 1) := by decide +kernel
theorem nd_CB_linear_16 : decode nc_CB_linear 16 = .ok (.aload_n 0, 1) := by decide +kernel
theorem nd_CB_linear_17 : decode nc_CB_linear 17 = .ok (.getfield 25, 3) := by decide +kernel
theorem nd_CB_linear_20 : decode nc_CB_linear 20 = .ok (.iload_n 1, 1) := by decide +kernel
theorem nd_CB_linear_21 : decode nc_CB_linear 21 = .ok (.aaload, 1) := by decide +kernel
theorem nd_CB_linear_22 : decode nc_CB_linear 22 = .ok (.iload_n 2, 1) := by decide +kernel
theorem nd_CB_linear_23 : decode nc_CB_linear 23 = .ok (.invokevirtual 62, 3) := by decide +kernel
theorem nd_CB_linear_26 : decode nc_CB_linear 26 = .ok (.iconst 1, 1) := by decide +kernel
theorem nd_CB_linear_27 : decode nc_CB_linear 27 = .ok (.ireturn, 1) := by decide +kernel
set_option maxRecDepth 20000 in
theorem c_CB_linear (l : Launch) (D : va_G) (cI cG cM : ClassId)  (q : Nat → Nat) (n : Nat) (hn1 : 1 ≤ n) (hn : n ≤ 10) (mr : Nat → Option Nat) (a0 a1 : ma_A) (hm0 : mr 0 = some (a0.1 0)) (hm1 : mr 1 = some (a1.1 0)) (w : Nat → Int32) (t0 t1 : ma_S) (y : cb_Y) (hI : cb_I n y (w, t0, t1)) (wh p : Int32) (sz : Nat) : wb_Mi l ny_CB_linear nc_CB_linear 3 (some .boolean) ({ frames := 4, cells := 0, slots := 0, locals := 85 }) D (ty_all cI cG cM) (cw_ cI cG cM q n mr a0 a1 (w, t0, t1)) sz [.ref (q 0), .int (wh), .int (p)] (fun (v : Int32) (u : cb_S) => v = (sp_linear y wh p).1 ∧ cb_I n (sp_linear y wh p).2 u) (fun u : cb_S => cw_ cI cG cM q n mr a0 a1 u) := by
  refine wb_start (S := cb_S) (by decide) (Nat.le_of_ble_eq_true rfl) ?_
  intro p0 e0 s0 m below meth c ls A hx hb hr hml htg hown hk hP hK hN hl hAe hsz hD hA
  have hl : lv_has ls 3 [(0, .ref (q 0)), (1, .int (wh)), (2, .int (p))] := hl
  have hP : va_P D cl_all ([((q 0), .inr (0, [.int (nI (n)), .int (nI (2 ^ n - 1)), .ref (q 1), .ref (q 2)])), ((q 1), .inl (cI, n, .inl w)), ((q 2), .inl (cM, 2, .inr (.inr (.inr (.inr mr)))))] ++ (mw_ cI cG a0 n t0 ++ (mw_ cI cG a1 n t1 ++ []))) s0.heap := hP
  have hD : va_D A ([((q 0), .inr (0, [.int (nI (n)), .int (nI (2 ^ n - 1)), .ref (q 1), .ref (q 2)])), ((q 1), .inl (cI, n, .inl w)), ((q 2), .inl (cM, 2, .inr (.inr (.inr (.inr mr)))))] ++ (mw_ cI cG a0 n t0 ++ (mw_ cI cG a1 n t1 ++ []))) := hD
  have hS : va_S A s0.heap s0.heap [] := va_S.rf
  have hRf : 4 ≤ ({ frames := 4, cells := 0, slots := 0, locals := 85 } : Room).frames := Nat.le_refl _
  have hRl : 85 ≤ ({ frames := 4, cells := 0, slots := 0, locals := 85 } : Room).locals := Nat.le_refl _
  have hCS : 0 ≤ ({ frames := 4, cells := 0, slots := 0, locals := 85 } : Room).cells ∧ 0 ≤ ({ frames := 4, cells := 0, slots := 0, locals := 85 } : Room).slots := ⟨Nat.zero_le _, Nat.zero_le _⟩
  have h2n : 2 ^ n ≤ 1024 := Nat.pow_le_pow_right (by omega) hn
  have h2p : 1 ≤ 2 ^ n := Nat.one_le_two_pow
  have hI0 : ma_I n y.2.1 t0 := hI.2.1
  have hI1 : ma_I n y.2.2 t1 := hI.2.2
  refine lv_iload_n hx hb nd_CB_linear_0 rfl (lv_at hl 1 rfl) ?_
  rcases sm_which wh with hw1 | hw1 | hw1
  · subst hw1
    refine wc_S (n := 1) hx hb hml hown htg (c_CB_isMatroid l D _ (nI 0) (nI 1) (fun _ => rfl) (fun h => absurd (Or.inl nI_0) h)) tm_141 tm_139 tm_140 tm_1 (by decide +kernel) ⟨⟨Nat.le_trans (by decide) hRf, Nat.le_trans (by decide) hRl⟩, rfl, rfl⟩ (wa_pre wa_nil hK hN) rfl hl.1 rfl (Nat.le_of_ble_eq_true rfl) nd_CB_linear_1 hCS ?_
    refine wi_if_eq (tgt := 14) hx hb (by decide) nd_CB_linear_4 rfl (fun h => absurd h (by decide)) (fun _ => ?_)
    refine lv_iload_n hx hb nd_CB_linear_7 rfl (lv_at hl 2 rfl) ?_
    by_cases hq8 : p = nI 2 ∨ p = nI 3 ∨ p = nI 5 ∨ p = nI 7
    · obtain ⟨p1, h_p1, rfl⟩ := sm_mod hq8
      refine wc_S (n := 1) hx hb hml hown htg (c_CB_isModulus l D _ (nI p1) (nI 1) (fun _ => rfl) (fun h => absurd hq8 h)) tm_217 tm_215 tm_216 tm_1 (by decide +kernel) ⟨⟨Nat.le_trans (by decide) hRf, Nat.le_trans (by decide) hRl⟩, rfl, rfl⟩ (wa_pre wa_nil hK hN) rfl hl.1 rfl (Nat.le_of_ble_eq_true rfl) nd_CB_linear_8 hCS ?_
      refine wi_if_ne (tgt := 16) hx hb (by decide) nd_CB_linear_11 rfl (fun _ => ?_) (fun h => absurd h (by decide))
      refine lv_aload_n hx hb nd_CB_linear_16 rfl (lv_at hl 0 rfl) ?_
      refine va_get (D := D) (C := nr_CB) (T := nt_CB) (N := 4) hx hb htg tf_CB hown hK hP 0 rfl rfl 3 (by decide) (htg _ tm_125) (fun _ h => h) rfl nd_CB_linear_17 ?_
      refine lv_iload_n hx hb nd_CB_linear_20 rfl (lv_at hl 1 rfl) ?_
      refine wi_aald (v := (a0.1 0)) hx hb hK hP 2 2 rfl rfl rfl (by omega) (by omega) (hm0) nd_CB_linear_21 ?_
      refine lv_iload_n hx hb nd_CB_linear_22 rfl (lv_at hl 2 rfl) ?_
      refine wd_Vv (C := nr_MA) (n := 1) (X := [((q 0), .inr (0, [.int (nI (n)), .int (nI (2 ^ n - 1)), .ref (q 1), .ref (q 2)])), ((q 1), .inl (cI, n, .inl w)), ((q 2), .inl (cM, 2, .inr (.inr (.inr (.inr mr)))))]) (Y := mw_ cI cG a0 n t0) (Z := (mw_ cI cG a1 n t1 ++ [])) hx hb hml hown htg (c_MA_becomeLinear l D cI cG cM a0 n hn t0.1 t0.2.1 t0.2.2.1 t0.2.2.2.1 t0.2.2.2.2.1 t0.2.2.2.2.2 y.2.1 hI0 p1 h_p1 _) tm_221 tm_218 tm_219 tm_220 tm_2 (by decide +kernel) ⟨⟨Nat.le_trans (by decide) hRf, Nat.le_trans (by decide) hRl⟩, rfl, rfl⟩ hP hD hS hA hK hN (va_recv (q0 := 0) (ci := 1) hK (wm_P (X := [((q 0), .inr (0, [.int (nI (n)), .int (nI (2 ^ n - 1)), .ref (q 1), .ref (q 2)])), ((q 1), .inl (cI, n, .inl w)), ((q 2), .inl (cM, 2, .inr (.inr (.inr (.inr mr)))))]) (Y := mw_ cI cG a0 n t0) (Z := (mw_ cI cG a1 n t1 ++ [])) hP).2.1 rfl rfl) rfl hl.1 rfl (Nat.le_of_ble_eq_true rfl) nd_CB_linear_23 hCS (fun u23 H locs hp23 hP hD hS => ?_)
      have hP : va_P D cl_all ([((q 0), .inr (0, [.int (nI (n)), .int (nI (2 ^ n - 1)), .ref (q 1), .ref (q 2)])), ((q 1), .inl (cI, n, .inl w)), ((q 2), .inl (cM, 2, .inr (.inr (.inr (.inr mr)))))] ++ (mw_ cI cG a0 n u23 ++ (mw_ cI cG a1 n t1 ++ []))) H := hP
      have hD : va_D A ([((q 0), .inr (0, [.int (nI (n)), .int (nI (2 ^ n - 1)), .ref (q 1), .ref (q 2)])), ((q 1), .inl (cI, n, .inl w)), ((q 2), .inl (cM, 2, .inr (.inr (.inr (.inr mr)))))] ++ (mw_ cI cG a0 n u23 ++ (mw_ cI cG a1 n t1 ++ []))) := hD
      refine wi_ic hx hb (a := 1) nd_CB_linear_26 ?_
      have hsp : sp_linear y (nI (0)) (nI (p1)) = (nI 1, (y.1, (3, y.2.1.2.1, y.2.1.2.2.1, y.2.1.2.2.2.1, y.2.1.2.2.2.2.1, y.2.1.2.2.2.2.2.1, p1, (fun _ _ => 0)), y.2.2)) := by unfold sp_linear; simp only [sw_0, sp_pt h_p1, tn_nI (show p1 < 2 ^ 31 by omega), tn_0]; simp [cb_m, cb_s]
      exact wb_zret ((w, u23, t1)) hx hb hr hk rfl hAe (by rw [hsp]; exact ⟨rfl, ⟨hI.1, hp23, hI1⟩⟩) hP hD hS nd_CB_linear_27
    · refine wc_S (n := 1) hx hb hml hown htg (c_CB_isModulus l D _ p (nI 0) (fun h => absurd h hq8) (fun _ => rfl)) tm_217 tm_215 tm_216 tm_1 (by decide +kernel) ⟨⟨Nat.le_trans (by decide) hRf, Nat.le_trans (by decide) hRl⟩, rfl, rfl⟩ (wa_pre wa_nil hK hN) rfl hl.1 rfl (Nat.le_of_ble_eq_true rfl) nd_CB_linear_8 hCS ?_
      refine wi_if_ne (tgt := 16) hx hb (by decide) nd_CB_linear_11 rfl (fun h => absurd h (by decide)) (fun _ => ?_)
      refine wi_ic hx hb (a := 0) nd_CB_linear_14 ?_
      have hsp : sp_linear y (nI (0)) p = (nI 0, y) := by unfold sp_linear; simp [sp_pf hq8]
      exact wb_zret ((w, t0, t1)) hx hb hr hk rfl hAe (by rw [hsp]; exact ⟨rfl, hI⟩) hP hD hS nd_CB_linear_15
  · subst hw1
    refine wc_S (n := 1) hx hb hml hown htg (c_CB_isMatroid l D _ (nI 1) (nI 1) (fun _ => rfl) (fun h => absurd (Or.inr rfl) h)) tm_141 tm_139 tm_140 tm_1 (by decide +kernel) ⟨⟨Nat.le_trans (by decide) hRf, Nat.le_trans (by decide) hRl⟩, rfl, rfl⟩ (wa_pre wa_nil hK hN) rfl hl.1 rfl (Nat.le_of_ble_eq_true rfl) nd_CB_linear_1 hCS ?_
    refine wi_if_eq (tgt := 14) hx hb (by decide) nd_CB_linear_4 rfl (fun h => absurd h (by decide)) (fun _ => ?_)
    refine lv_iload_n hx hb nd_CB_linear_7 rfl (lv_at hl 2 rfl) ?_
    by_cases hq8 : p = nI 2 ∨ p = nI 3 ∨ p = nI 5 ∨ p = nI 7
    · obtain ⟨p1, h_p1, rfl⟩ := sm_mod hq8
      refine wc_S (n := 1) hx hb hml hown htg (c_CB_isModulus l D _ (nI p1) (nI 1) (fun _ => rfl) (fun h => absurd hq8 h)) tm_217 tm_215 tm_216 tm_1 (by decide +kernel) ⟨⟨Nat.le_trans (by decide) hRf, Nat.le_trans (by decide) hRl⟩, rfl, rfl⟩ (wa_pre wa_nil hK hN) rfl hl.1 rfl (Nat.le_of_ble_eq_true rfl) nd_CB_linear_8 hCS ?_
      refine wi_if_ne (tgt := 16) hx hb (by decide) nd_CB_linear_11 rfl (fun _ => ?_) (fun h => absurd h (by decide))
      refine lv_aload_n hx hb nd_CB_linear_16 rfl (lv_at hl 0 rfl) ?_
      refine va_get (D := D) (C := nr_CB) (T := nt_CB) (N := 4) hx hb htg tf_CB hown hK hP 0 rfl rfl 3 (by decide) (htg _ tm_125) (fun _ h => h) rfl nd_CB_linear_17 ?_
      refine lv_iload_n hx hb nd_CB_linear_20 rfl (lv_at hl 1 rfl) ?_
      refine wi_aald (v := (a1.1 0)) hx hb hK hP 2 2 rfl rfl rfl (by omega) (by omega) (hm1) nd_CB_linear_21 ?_
      refine lv_iload_n hx hb nd_CB_linear_22 rfl (lv_at hl 2 rfl) ?_
      rw [← List.append_assoc] at hP hD
      refine wd_Vv (C := nr_MA) (n := 1) (X := ([((q 0), .inr (0, [.int (nI (n)), .int (nI (2 ^ n - 1)), .ref (q 1), .ref (q 2)])), ((q 1), .inl (cI, n, .inl w)), ((q 2), .inl (cM, 2, .inr (.inr (.inr (.inr mr)))))] ++ mw_ cI cG a0 n t0)) (Y := mw_ cI cG a1 n t1) (Z := []) hx hb hml hown htg (c_MA_becomeLinear l D cI cG cM a1 n hn t1.1 t1.2.1 t1.2.2.1 t1.2.2.2.1 t1.2.2.2.2.1 t1.2.2.2.2.2 y.2.2 hI1 p1 h_p1 _) tm_221 tm_218 tm_219 tm_220 tm_2 (by decide +kernel) ⟨⟨Nat.le_trans (by decide) hRf, Nat.le_trans (by decide) hRl⟩, rfl, rfl⟩ hP hD hS hA hK hN (va_recv (q0 := 0) (ci := 1) hK (wm_P (X := ([((q 0), .inr (0, [.int (nI (n)), .int (nI (2 ^ n - 1)), .ref (q 1), .ref (q 2)])), ((q 1), .inl (cI, n, .inl w)), ((q 2), .inl (cM, 2, .inr (.inr (.inr (.inr mr)))))] ++ mw_ cI cG a0 n t0)) (Y := mw_ cI cG a1 n t1) (Z := []) hP).2.1 rfl rfl) rfl hl.1 rfl (Nat.le_of_ble_eq_true rfl) nd_CB_linear_23 hCS (fun u23 H locs hp23 hP hD hS => ?_)
      rw [List.append_assoc] at hP hD
      have hP : va_P D cl_all ([((q 0), .inr (0, [.int (nI (n)), .int (nI (2 ^ n - 1)), .ref (q 1), .ref (q 2)])), ((q 1), .inl (cI, n, .inl w)), ((q 2), .inl (cM, 2, .inr (.inr (.inr (.inr mr)))))] ++ (mw_ cI cG a0 n t0 ++ (mw_ cI cG a1 n u23 ++ []))) H := hP
      have hD : va_D A ([((q 0), .inr (0, [.int (nI (n)), .int (nI (2 ^ n - 1)), .ref (q 1), .ref (q 2)])), ((q 1), .inl (cI, n, .inl w)), ((q 2), .inl (cM, 2, .inr (.inr (.inr (.inr mr)))))] ++ (mw_ cI cG a0 n t0 ++ (mw_ cI cG a1 n u23 ++ []))) := hD
      refine wi_ic hx hb (a := 1) nd_CB_linear_26 ?_
      have hsp : sp_linear y (nI (1)) (nI (p1)) = (nI 1, (y.1, y.2.1, (3, y.2.2.2.1, y.2.2.2.2.1, y.2.2.2.2.2.1, y.2.2.2.2.2.2.1, y.2.2.2.2.2.2.2.1, p1, (fun _ _ => 0)))) := by unfold sp_linear; simp only [sw_1, sp_pt h_p1, tn_nI (show p1 < 2 ^ 31 by omega), tn_1]; simp [cb_m, cb_s]
      exact wb_zret ((w, t0, u23)) hx hb hr hk rfl hAe (by rw [hsp]; exact ⟨rfl, ⟨hI.1, hI0, hp23⟩⟩) hP hD hS nd_CB_linear_27
    · refine wc_S (n := 1) hx hb hml hown htg (c_CB_isModulus l D _ p (nI 0) (fun h => absurd h hq8) (fun _ => rfl)) tm_217 tm_215 tm_216 tm_1 (by decide +kernel) ⟨⟨Nat.le_trans (by decide) hRf, Nat.le_trans (by decide) hRl⟩, rfl, rfl⟩ (wa_pre wa_nil hK hN) rfl hl.1 rfl (Nat.le_of_ble_eq_true rfl) nd_CB_linear_8 hCS ?_
      refine wi_if_ne (tgt := 16) hx hb (by decide) nd_CB_linear_11 rfl (fun h => absurd h (by decide)) (fun _ => ?_)
      refine wi_ic hx hb (a := 0) nd_CB_linear_14 ?_
      have hsp : sp_linear y (nI (1)) p = (nI 0, y) := by unfold sp_linear; simp [sp_pf hq8]
      exact wb_zret ((w, t0, t1)) hx hb hr hk rfl hAe (by rw [hsp]; exact ⟨rfl, hI⟩) hP hD hS nd_CB_linear_15
  · refine wc_S (n := 1) hx hb hml hown htg (c_CB_isMatroid l D _ wh (nI 0) (fun h => absurd h (fun z => z.elim (fun z => hw1.1 (z.trans nI_0.symm)) hw1.2)) (fun _ => rfl)) tm_141 tm_139 tm_140 tm_1 (by decide +kernel) ⟨⟨Nat.le_trans (by decide) hRf, Nat.le_trans (by decide) hRl⟩, rfl, rfl⟩ (wa_pre wa_nil hK hN) rfl hl.1 rfl (Nat.le_of_ble_eq_true rfl) nd_CB_linear_1 hCS ?_
    refine wi_if_eq (tgt := 14) hx hb (by decide) nd_CB_linear_4 rfl (fun _ => ?_) (fun h => absurd h (by decide))
    refine wi_ic hx hb (a := 0) nd_CB_linear_14 ?_
    have hsp : sp_linear y wh p = (nI 0, y) := by unfold sp_linear; simp [sw_n hw1]
    exact wb_zret ((w, t0, t1)) hx hb hr hk rfl hAe (by rw [hsp]; exact ⟨rfl, hI⟩) hP hD hS nd_CB_linear_15
theorem nd_CB_edge_0 : decode nc_CB_edge 0 = .ok (.iload_n 1, 1) := by decide +kernel
theorem nd_CB_edge_1 : decode nc_CB_edge 1 = .ok (.invokestatic 29, 3) := by decide +kernel
theorem nd_CB_edge_4 : decode nc_CB_edge 4 = .ok (.ifCond .eq 30, 3) := by decide +kernel
theorem nd_CB_edge_7 : decode nc_CB_edge 7 = .ok (.aload_n 0, 1) := by decide +kernel
theorem nd_CB_edge_8 : decode nc_CB_edge 8 = .ok (.iload_n 2, 1) := by decide +kernel
theorem nd_CB_edge_9 : decode nc_CB_edge 9 = .ok (.invokevirtual 43, 3) := by decide +kernel
theorem nd_CB_edge_12 : decode nc_CB_edge 12 = .ok (.ifCond .eq 22, 3) := by decide +kernel
theorem nd_CB_edge_15 : decode nc_CB_edge 15 = .ok (.iload_n 3, 1) := by decide +kernel
theorem nd_CB_edge_16 : decode nc_CB_edge 16 = .ok (.bipush 7, 2) := by decide +kernel
theorem nd_CB_edge_18 : decode nc_CB_edge 18 = .ok (.invokestatic 33, 3) := by decide +kernel
theorem nd_CB_edge_21 : decode nc_CB_edge 21 = .ok (.ifCond .eq 13, 3) := by decide +kernel
theorem nd_CB_edge_24 : decode nc_CB_edge 24 = .ok (.iload 4, 2) := by decide +kernel
theorem nd_CB_edge_26 : decode nc_CB_edge 26 = .ok (.bipush 7, 2) := by decide +kernel
theorem nd_CB_edge_28 : decode nc_CB_edge 28 = .ok (.invokestatic 33, 3) := by decide +kernel
theorem nd_CB_edge_31 : decode nc_CB_edge 31 = .ok (.ifCond .ne 5, 3) := by decide +kernel
theorem nd_CB_edge_34 : decode nc_CB_edge 34 = .ok (.iconst 0, 1) := by decide +kernel
theorem nd_CB_edge_35 : decode nc_CB_edge 35 = .ok (.ireturn, 1) := by decide +kernel
theorem nd_CB_edge_36 : decode nc_CB_edge 36 = .ok (.aload_n 0, 1) := by decide +kernel
theorem nd_CB_edge_37 : decode nc_CB_edge 37 = .ok (.getfield 25, 3) := by decide +kernel
theorem nd_CB_edge_40 : decode nc_CB_edge 40 = .ok (.iload_n 1, 1) := by decide +kernel
theorem nd_CB_edge_41 : decode nc_CB_edge 41 = .ok (.aaload, 1) := by decide +kernel
theorem nd_CB_edge_42 : decode nc_CB_edge 42 = .ok (.iload_n 2, 1) := by decide +kernel
theorem nd_CB_edge_43 : decode nc_CB_edge 43 = .ok (.iload_n 3, 1) := by decide +kernel
theorem nd_CB_edge_44 : decode nc_CB_edge 44 = .ok (.iload 4, 2) := by decide +kernel
theorem nd_CB_edge_46 : decode nc_CB_edge 46 = .ok (.invokevirtual 46, 3) := by decide +kernel
theorem nd_CB_edge_49 : decode nc_CB_edge 49 = .ok (.ireturn, 1) := by decide +kernel
set_option maxRecDepth 20000 in
theorem c_CB_edge (l : Launch) (D : va_G) (cI cG cM : ClassId)  (q : Nat → Nat) (n : Nat) (hn1 : 1 ≤ n) (hn : n ≤ 10) (mr : Nat → Option Nat) (a0 a1 : ma_A) (hm0 : mr 0 = some (a0.1 0)) (hm1 : mr 1 = some (a1.1 0)) (w : Nat → Int32) (t0 t1 : ma_S) (y : cb_Y) (hI : cb_I n y (w, t0, t1)) (wh el u0 v0 : Int32) (sz : Nat) : wb_Mi l ny_CB_edge nc_CB_edge 5 (some .boolean) ({ frames := 3, cells := 0, slots := 0, locals := 68 }) D (ty_all cI cG cM) (cw_ cI cG cM q n mr a0 a1 (w, t0, t1)) sz [.ref (q 0), .int (wh), .int (el), .int (u0), .int (v0)] (fun (v : Int32) (u : cb_S) => v = (sp_edge n y wh el u0 v0).1 ∧ cb_I n (sp_edge n y wh el u0 v0).2 u) (fun u : cb_S => cw_ cI cG cM q n mr a0 a1 u) := by
  refine wb_start (S := cb_S) (by decide) (Nat.le_of_ble_eq_true rfl) ?_
  intro p e0 s0 m below meth c ls A hx hb hr hml htg hown hk hP hK hN hl hAe hsz hD hA
  have hl : lv_has ls 5 [(0, .ref (q 0)), (1, .int (wh)), (2, .int (el)), (3, .int (u0)), (4, .int (v0))] := hl
  have hP : va_P D cl_all ([((q 0), .inr (0, [.int (nI (n)), .int (nI (2 ^ n - 1)), .ref (q 1), .ref (q 2)])), ((q 1), .inl (cI, n, .inl w)), ((q 2), .inl (cM, 2, .inr (.inr (.inr (.inr mr)))))] ++ (mw_ cI cG a0 n t0 ++ (mw_ cI cG a1 n t1 ++ []))) s0.heap := hP
  have hD : va_D A ([((q 0), .inr (0, [.int (nI (n)), .int (nI (2 ^ n - 1)), .ref (q 1), .ref (q 2)])), ((q 1), .inl (cI, n, .inl w)), ((q 2), .inl (cM, 2, .inr (.inr (.inr (.inr mr)))))] ++ (mw_ cI cG a0 n t0 ++ (mw_ cI cG a1 n t1 ++ []))) := hD
  have hS : va_S A s0.heap s0.heap [] := va_S.rf
  have hRf : 3 ≤ ({ frames := 3, cells := 0, slots := 0, locals := 68 } : Room).frames := Nat.le_refl _
  have hRl : 68 ≤ ({ frames := 3, cells := 0, slots := 0, locals := 68 } : Room).locals := Nat.le_refl _
  have hCS : 0 ≤ ({ frames := 3, cells := 0, slots := 0, locals := 68 } : Room).cells ∧ 0 ≤ ({ frames := 3, cells := 0, slots := 0, locals := 68 } : Room).slots := ⟨Nat.zero_le _, Nat.zero_le _⟩
  have h2n : 2 ^ n ≤ 1024 := Nat.pow_le_pow_right (by omega) hn
  have h2p : 1 ≤ 2 ^ n := Nat.one_le_two_pow
  have hI0 : ma_I n y.2.1 t0 := hI.2.1
  have hI1 : ma_I n y.2.2 t1 := hI.2.2
  refine lv_iload_n hx hb nd_CB_edge_0 rfl (lv_at hl 1 rfl) ?_
  rcases sm_which wh with hw1 | hw1 | hw1
  · subst hw1
    refine wc_S (n := 1) hx hb hml hown htg (c_CB_isMatroid l D _ (nI 0) (nI 1) (fun _ => rfl) (fun h => absurd (Or.inl nI_0) h)) tm_141 tm_139 tm_140 tm_1 (by decide +kernel) ⟨⟨Nat.le_trans (by decide) hRf, Nat.le_trans (by decide) hRl⟩, rfl, rfl⟩ (wa_pre wa_nil hK hN) rfl hl.1 rfl (Nat.le_of_ble_eq_true rfl) nd_CB_edge_1 hCS ?_
    refine wi_if_eq (tgt := 34) hx hb (by decide) nd_CB_edge_4 rfl (fun h => absurd h (by decide)) (fun _ => ?_)
    refine lv_aload_n hx hb nd_CB_edge_7 rfl (lv_at hl 0 rfl) ?_
    refine lv_iload_n hx hb nd_CB_edge_8 rfl (lv_at hl 2 rfl) ?_
    by_cases hq9 : ¬ el < 0 ∧ ¬ nI n ≤ el
    · obtain ⟨el1, h_el1, rfl⟩ := sm_elem (by omega) hq9
      refine wc_V (C := nr_CB) (n := 1) hx hb hml hown htg (c_CB_isElement l D _ (q 0) (q 1) (q 2) n (nI el1) (nI 1) (fun _ => rfl) (fun h => absurd hq9 h)) tm_177 tm_174 tm_176 tp_2 tm_1 (by decide +kernel) ⟨⟨Nat.le_trans (by decide) hRf, Nat.le_trans (by decide) hRl⟩, rfl, rfl⟩ (wa_pre (hP.sub [0] rfl) hK hN) (va_recv (q0 := 0) (ci := 0) hK hP rfl rfl) rfl hl.1 rfl (Nat.le_of_ble_eq_true rfl) nd_CB_edge_9 hCS ?_
      refine wi_if_eq (tgt := 34) hx hb (by decide) nd_CB_edge_12 rfl (fun h => absurd h (by decide)) (fun _ => ?_)
      refine lv_iload_n hx hb nd_CB_edge_15 rfl (lv_at hl 3 rfl) ?_
      refine lv_bipush (v := nI 7) hx hb nd_CB_edge_16 (by decide) ?_
      by_cases hq18 : ¬ u0 < 0 ∧ ¬ nI (7) < u0
      · obtain ⟨u01, h_u01, rfl⟩ := sm_upto (by omega) hq18
        refine wc_S (n := 2) hx hb hml hown htg (c_CB_isUpTo l D _ (nI u01) (nI (7)) (nI 1) (fun _ => rfl) (fun h => absurd hq18 h)) tm_144 tm_142 tm_143 tm_1 (by decide +kernel) ⟨⟨Nat.le_trans (by decide) hRf, Nat.le_trans (by decide) hRl⟩, rfl, rfl⟩ (wa_pre wa_nil hK hN) rfl hl.1 rfl (Nat.le_of_ble_eq_true rfl) nd_CB_edge_18 hCS ?_
        refine wi_if_eq (tgt := 34) hx hb (by decide) nd_CB_edge_21 rfl (fun h => absurd h (by decide)) (fun _ => ?_)
        refine lv_iload hx hb nd_CB_edge_24 (lv_at hl 4 rfl) ?_
        refine lv_bipush (v := nI 7) hx hb nd_CB_edge_26 (by decide) ?_
        by_cases hq28 : ¬ v0 < 0 ∧ ¬ nI (7) < v0
        · obtain ⟨v01, h_v01, rfl⟩ := sm_upto (by omega) hq28
          refine wc_S (n := 2) hx hb hml hown htg (c_CB_isUpTo l D _ (nI v01) (nI (7)) (nI 1) (fun _ => rfl) (fun h => absurd hq28 h)) tm_144 tm_142 tm_143 tm_1 (by decide +kernel) ⟨⟨Nat.le_trans (by decide) hRf, Nat.le_trans (by decide) hRl⟩, rfl, rfl⟩ (wa_pre wa_nil hK hN) rfl hl.1 rfl (Nat.le_of_ble_eq_true rfl) nd_CB_edge_28 hCS ?_
          refine wi_if_ne (tgt := 36) hx hb (by decide) nd_CB_edge_31 rfl (fun _ => ?_) (fun h => absurd h (by decide))
          refine lv_aload_n hx hb nd_CB_edge_36 rfl (lv_at hl 0 rfl) ?_
          refine va_get (D := D) (C := nr_CB) (T := nt_CB) (N := 4) hx hb htg tf_CB hown hK hP 0 rfl rfl 3 (by decide) (htg _ tm_125) (fun _ h => h) rfl nd_CB_edge_37 ?_
          refine lv_iload_n hx hb nd_CB_edge_40 rfl (lv_at hl 1 rfl) ?_
          refine wi_aald (v := (a0.1 0)) hx hb hK hP 2 2 rfl rfl rfl (by omega) (by omega) (hm0) nd_CB_edge_41 ?_
          refine lv_iload_n hx hb nd_CB_edge_42 rfl (lv_at hl 2 rfl) ?_
          refine lv_iload_n hx hb nd_CB_edge_43 rfl (lv_at hl 3 rfl) ?_
          refine lv_iload hx hb nd_CB_edge_44 (lv_at hl 4 rfl) ?_
          refine wd_Vi (C := nr_MA) (n := 3) (X := [((q 0), .inr (0, [.int (nI (n)), .int (nI (2 ^ n - 1)), .ref (q 1), .ref (q 2)])), ((q 1), .inl (cI, n, .inl w)), ((q 2), .inl (cM, 2, .inr (.inr (.inr (.inr mr)))))]) (Y := mw_ cI cG a0 n t0) (Z := (mw_ cI cG a1 n t1 ++ [])) hx hb hml hown htg (c_MA_setEdge l D cI cG cM a0 n hn t0.1 t0.2.1 t0.2.2.1 t0.2.2.2.1 t0.2.2.2.2.1 t0.2.2.2.2.2 y.2.1 hI0 el1 u01 v01 (by omega) (by omega) (by omega) _) tm_181 tm_178 tm_179 tm_180 tm_2 (by decide +kernel) ⟨⟨Nat.le_trans (by decide) hRf, Nat.le_trans (by decide) hRl⟩, rfl, rfl⟩ hP hD hS hA hK hN (va_recv (q0 := 0) (ci := 1) hK (wm_P (X := [((q 0), .inr (0, [.int (nI (n)), .int (nI (2 ^ n - 1)), .ref (q 1), .ref (q 2)])), ((q 1), .inl (cI, n, .inl w)), ((q 2), .inl (cM, 2, .inr (.inr (.inr (.inr mr)))))]) (Y := mw_ cI cG a0 n t0) (Z := (mw_ cI cG a1 n t1 ++ [])) hP).2.1 rfl rfl) rfl hl.1 rfl (Nat.le_of_ble_eq_true rfl) nd_CB_edge_46 hCS (fun v46 u46 H locs hp46 hP hD hS => ?_)
          have hP : va_P D cl_all ([((q 0), .inr (0, [.int (nI (n)), .int (nI (2 ^ n - 1)), .ref (q 1), .ref (q 2)])), ((q 1), .inl (cI, n, .inl w)), ((q 2), .inl (cM, 2, .inr (.inr (.inr (.inr mr)))))] ++ (mw_ cI cG a0 n u46 ++ (mw_ cI cG a1 n t1 ++ []))) H := hP
          have hD : va_D A ([((q 0), .inr (0, [.int (nI (n)), .int (nI (2 ^ n - 1)), .ref (q 1), .ref (q 2)])), ((q 1), .inl (cI, n, .inl w)), ((q 2), .inl (cM, 2, .inr (.inr (.inr (.inr mr)))))] ++ (mw_ cI cG a0 n u46 ++ (mw_ cI cG a1 n t1 ++ []))) := hD
          by_cases hkd : y.2.1.1 = 1
          · refine wi_top (hp46.1 hkd).1 ?_
            have hsp : sp_edge n y (nI (0)) (nI (el1)) (nI (u01)) (nI (v01)) = (nI 1, (y.1, (y.2.1.1, y.2.1.2.1, va_up y.2.1.2.2.1 el1 u01, va_up y.2.1.2.2.2.1 el1 v01, y.2.1.2.2.2.2), y.2.2)) := by unfold sp_edge; simp only [sw_0, sz_t h_el1 (show n < 2 ^ 31 by omega), tn_nI (show el1 < 2 ^ 31 by omega), sr_t h_u01 (show 7 < 2 ^ 31 by omega), tn_nI (show u01 < 2 ^ 31 by omega), sr_t h_v01 (show 7 < 2 ^ 31 by omega), tn_nI (show v01 < 2 ^ 31 by omega), tn_0]; simp [cb_m, cb_s, hkd]
            exact wb_zret ((w, u46, t1)) hx hb hr hk rfl hAe (by rw [hsp]; exact ⟨rfl, ⟨hI.1, (hp46.1 hkd).2, hI1⟩⟩) hP hD hS nd_CB_edge_49
          · refine wi_top (hp46.2 hkd).1 ?_
            have hsp : sp_edge n y (nI (0)) (nI (el1)) (nI (u01)) (nI (v01)) = (nI 0, y) := by unfold sp_edge; simp only [sw_0, sz_t h_el1 (show n < 2 ^ 31 by omega), tn_nI (show el1 < 2 ^ 31 by omega), sr_t h_u01 (show 7 < 2 ^ 31 by omega), tn_nI (show u01 < 2 ^ 31 by omega), sr_t h_v01 (show 7 < 2 ^ 31 by omega), tn_nI (show v01 < 2 ^ 31 by omega), tn_0]; simp [cb_m, hkd]
            exact wb_zret ((w, u46, t1)) hx hb hr hk rfl hAe (by rw [hsp]; exact ⟨rfl, ⟨hI.1, (hp46.2 hkd).2, hI1⟩⟩) hP hD hS nd_CB_edge_49
        · refine wc_S (n := 2) hx hb hml hown htg (c_CB_isUpTo l D _ v0 (nI (7)) (nI 0) (fun h => absurd h hq28) (fun _ => rfl)) tm_144 tm_142 tm_143 tm_1 (by decide +kernel) ⟨⟨Nat.le_trans (by decide) hRf, Nat.le_trans (by decide) hRl⟩, rfl, rfl⟩ (wa_pre wa_nil hK hN) rfl hl.1 rfl (Nat.le_of_ble_eq_true rfl) nd_CB_edge_28 hCS ?_
          refine wi_if_ne (tgt := 36) hx hb (by decide) nd_CB_edge_31 rfl (fun h => absurd h (by decide)) (fun _ => ?_)
          refine wi_ic hx hb (a := 0) nd_CB_edge_34 ?_
          have hsp : sp_edge n y (nI (0)) (nI (el1)) (nI (u01)) v0 = (nI 0, y) := by unfold sp_edge; simp [sr_f hq28]
          exact wb_zret ((w, t0, t1)) hx hb hr hk rfl hAe (by rw [hsp]; exact ⟨rfl, hI⟩) hP hD hS nd_CB_edge_35
      · refine wc_S (n := 2) hx hb hml hown htg (c_CB_isUpTo l D _ u0 (nI (7)) (nI 0) (fun h => absurd h hq18) (fun _ => rfl)) tm_144 tm_142 tm_143 tm_1 (by decide +kernel) ⟨⟨Nat.le_trans (by decide) hRf, Nat.le_trans (by decide) hRl⟩, rfl, rfl⟩ (wa_pre wa_nil hK hN) rfl hl.1 rfl (Nat.le_of_ble_eq_true rfl) nd_CB_edge_18 hCS ?_
        refine wi_if_eq (tgt := 34) hx hb (by decide) nd_CB_edge_21 rfl (fun _ => ?_) (fun h => absurd h (by decide))
        refine wi_ic hx hb (a := 0) nd_CB_edge_34 ?_
        have hsp : sp_edge n y (nI (0)) (nI (el1)) u0 v0 = (nI 0, y) := by unfold sp_edge; simp [sr_f hq18]
        exact wb_zret ((w, t0, t1)) hx hb hr hk rfl hAe (by rw [hsp]; exact ⟨rfl, hI⟩) hP hD hS nd_CB_edge_35
    · refine wc_V (C := nr_CB) (n := 1) hx hb hml hown htg (c_CB_isElement l D _ (q 0) (q 1) (q 2) n el (nI 0) (fun h => absurd h hq9) (fun _ => rfl)) tm_177 tm_174 tm_176 tp_2 tm_1 (by decide +kernel) ⟨⟨Nat.le_trans (by decide) hRf, Nat.le_trans (by decide) hRl⟩, rfl, rfl⟩ (wa_pre (hP.sub [0] rfl) hK hN) (va_recv (q0 := 0) (ci := 0) hK hP rfl rfl) rfl hl.1 rfl (Nat.le_of_ble_eq_true rfl) nd_CB_edge_9 hCS ?_
      refine wi_if_eq (tgt := 34) hx hb (by decide) nd_CB_edge_12 rfl (fun _ => ?_) (fun h => absurd h (by decide))
      refine wi_ic hx hb (a := 0) nd_CB_edge_34 ?_
      have hsp : sp_edge n y (nI (0)) el u0 v0 = (nI 0, y) := by unfold sp_edge; simp [sz_f hn1 (show n < 2 ^ 31 by omega) hq9]
      exact wb_zret ((w, t0, t1)) hx hb hr hk rfl hAe (by rw [hsp]; exact ⟨rfl, hI⟩) hP hD hS nd_CB_edge_35
  · subst hw1
    refine wc_S (n := 1) hx hb hml hown htg (c_CB_isMatroid l D _ (nI 1) (nI 1) (fun _ => rfl) (fun h => absurd (Or.inr rfl) h)) tm_141 tm_139 tm_140 tm_1 (by decide +kernel) ⟨⟨Nat.le_trans (by decide) hRf, Nat.le_trans (by decide) hRl⟩, rfl, rfl⟩ (wa_pre wa_nil hK hN) rfl hl.1 rfl (Nat.le_of_ble_eq_true rfl) nd_CB_edge_1 hCS ?_
    refine wi_if_eq (tgt := 34) hx hb (by decide) nd_CB_edge_4 rfl (fun h => absurd h (by decide)) (fun _ => ?_)
    refine lv_aload_n hx hb nd_CB_edge_7 rfl (lv_at hl 0 rfl) ?_
    refine lv_iload_n hx hb nd_CB_edge_8 rfl (lv_at hl 2 rfl) ?_
    by_cases hq9 : ¬ el < 0 ∧ ¬ nI n ≤ el
    · obtain ⟨el1, h_el1, rfl⟩ := sm_elem (by omega) hq9
      refine wc_V (C := nr_CB) (n := 1) hx hb hml hown htg (c_CB_isElement l D _ (q 0) (q 1) (q 2) n (nI el1) (nI 1) (fun _ => rfl) (fun h => absurd hq9 h)) tm_177 tm_174 tm_176 tp_2 tm_1 (by decide +kernel) ⟨⟨Nat.le_trans (by decide) hRf, Nat.le_trans (by decide) hRl⟩, rfl, rfl⟩ (wa_pre (hP.sub [0] rfl) hK hN) (va_recv (q0 := 0) (ci := 0) hK hP rfl rfl) rfl hl.1 rfl (Nat.le_of_ble_eq_true rfl) nd_CB_edge_9 hCS ?_
      refine wi_if_eq (tgt := 34) hx hb (by decide) nd_CB_edge_12 rfl (fun h => absurd h (by decide)) (fun _ => ?_)
      refine lv_iload_n hx hb nd_CB_edge_15 rfl (lv_at hl 3 rfl) ?_
      refine lv_bipush (v := nI 7) hx hb nd_CB_edge_16 (by decide) ?_
      by_cases hq18 : ¬ u0 < 0 ∧ ¬ nI (7) < u0
      · obtain ⟨u01, h_u01, rfl⟩ := sm_upto (by omega) hq18
        refine wc_S (n := 2) hx hb hml hown htg (c_CB_isUpTo l D _ (nI u01) (nI (7)) (nI 1) (fun _ => rfl) (fun h => absurd hq18 h)) tm_144 tm_142 tm_143 tm_1 (by decide +kernel) ⟨⟨Nat.le_trans (by decide) hRf, Nat.le_trans (by decide) hRl⟩, rfl, rfl⟩ (wa_pre wa_nil hK hN) rfl hl.1 rfl (Nat.le_of_ble_eq_true rfl) nd_CB_edge_18 hCS ?_
        refine wi_if_eq (tgt := 34) hx hb (by decide) nd_CB_edge_21 rfl (fun h => absurd h (by decide)) (fun _ => ?_)
        refine lv_iload hx hb nd_CB_edge_24 (lv_at hl 4 rfl) ?_
        refine lv_bipush (v := nI 7) hx hb nd_CB_edge_26 (by decide) ?_
        by_cases hq28 : ¬ v0 < 0 ∧ ¬ nI (7) < v0
        · obtain ⟨v01, h_v01, rfl⟩ := sm_upto (by omega) hq28
          refine wc_S (n := 2) hx hb hml hown htg (c_CB_isUpTo l D _ (nI v01) (nI (7)) (nI 1) (fun _ => rfl) (fun h => absurd hq28 h)) tm_144 tm_142 tm_143 tm_1 (by decide +kernel) ⟨⟨Nat.le_trans (by decide) hRf, Nat.le_trans (by decide) hRl⟩, rfl, rfl⟩ (wa_pre wa_nil hK hN) rfl hl.1 rfl (Nat.le_of_ble_eq_true rfl) nd_CB_edge_28 hCS ?_
          refine wi_if_ne (tgt := 36) hx hb (by decide) nd_CB_edge_31 rfl (fun _ => ?_) (fun h => absurd h (by decide))
          refine lv_aload_n hx hb nd_CB_edge_36 rfl (lv_at hl 0 rfl) ?_
          refine va_get (D := D) (C := nr_CB) (T := nt_CB) (N := 4) hx hb htg tf_CB hown hK hP 0 rfl rfl 3 (by decide) (htg _ tm_125) (fun _ h => h) rfl nd_CB_edge_37 ?_
          refine lv_iload_n hx hb nd_CB_edge_40 rfl (lv_at hl 1 rfl) ?_
          refine wi_aald (v := (a1.1 0)) hx hb hK hP 2 2 rfl rfl rfl (by omega) (by omega) (hm1) nd_CB_edge_41 ?_
          refine lv_iload_n hx hb nd_CB_edge_42 rfl (lv_at hl 2 rfl) ?_
          refine lv_iload_n hx hb nd_CB_edge_43 rfl (lv_at hl 3 rfl) ?_
          refine lv_iload hx hb nd_CB_edge_44 (lv_at hl 4 rfl) ?_
          rw [← List.append_assoc] at hP hD
          refine wd_Vi (C := nr_MA) (n := 3) (X := ([((q 0), .inr (0, [.int (nI (n)), .int (nI (2 ^ n - 1)), .ref (q 1), .ref (q 2)])), ((q 1), .inl (cI, n, .inl w)), ((q 2), .inl (cM, 2, .inr (.inr (.inr (.inr mr)))))] ++ mw_ cI cG a0 n t0)) (Y := mw_ cI cG a1 n t1) (Z := []) hx hb hml hown htg (c_MA_setEdge l D cI cG cM a1 n hn t1.1 t1.2.1 t1.2.2.1 t1.2.2.2.1 t1.2.2.2.2.1 t1.2.2.2.2.2 y.2.2 hI1 el1 u01 v01 (by omega) (by omega) (by omega) _) tm_181 tm_178 tm_179 tm_180 tm_2 (by decide +kernel) ⟨⟨Nat.le_trans (by decide) hRf, Nat.le_trans (by decide) hRl⟩, rfl, rfl⟩ hP hD hS hA hK hN (va_recv (q0 := 0) (ci := 1) hK (wm_P (X := ([((q 0), .inr (0, [.int (nI (n)), .int (nI (2 ^ n - 1)), .ref (q 1), .ref (q 2)])), ((q 1), .inl (cI, n, .inl w)), ((q 2), .inl (cM, 2, .inr (.inr (.inr (.inr mr)))))] ++ mw_ cI cG a0 n t0)) (Y := mw_ cI cG a1 n t1) (Z := []) hP).2.1 rfl rfl) rfl hl.1 rfl (Nat.le_of_ble_eq_true rfl) nd_CB_edge_46 hCS (fun v46 u46 H locs hp46 hP hD hS => ?_)
          rw [List.append_assoc] at hP hD
          have hP : va_P D cl_all ([((q 0), .inr (0, [.int (nI (n)), .int (nI (2 ^ n - 1)), .ref (q 1), .ref (q 2)])), ((q 1), .inl (cI, n, .inl w)), ((q 2), .inl (cM, 2, .inr (.inr (.inr (.inr mr)))))] ++ (mw_ cI cG a0 n t0 ++ (mw_ cI cG a1 n u46 ++ []))) H := hP
          have hD : va_D A ([((q 0), .inr (0, [.int (nI (n)), .int (nI (2 ^ n - 1)), .ref (q 1), .ref (q 2)])), ((q 1), .inl (cI, n, .inl w)), ((q 2), .inl (cM, 2, .inr (.inr (.inr (.inr mr)))))] ++ (mw_ cI cG a0 n t0 ++ (mw_ cI cG a1 n u46 ++ []))) := hD
          by_cases hkd : y.2.2.1 = 1
          · refine wi_top (hp46.1 hkd).1 ?_
            have hsp : sp_edge n y (nI (1)) (nI (el1)) (nI (u01)) (nI (v01)) = (nI 1, (y.1, y.2.1, (y.2.2.1, y.2.2.2.1, va_up y.2.2.2.2.1 el1 u01, va_up y.2.2.2.2.2.1 el1 v01, y.2.2.2.2.2.2))) := by unfold sp_edge; simp only [sw_1, sz_t h_el1 (show n < 2 ^ 31 by omega), tn_nI (show el1 < 2 ^ 31 by omega), sr_t h_u01 (show 7 < 2 ^ 31 by omega), tn_nI (show u01 < 2 ^ 31 by omega), sr_t h_v01 (show 7 < 2 ^ 31 by omega), tn_nI (show v01 < 2 ^ 31 by omega), tn_1]; simp [cb_m, cb_s, hkd]
            exact wb_zret ((w, t0, u46)) hx hb hr hk rfl hAe (by rw [hsp]; exact ⟨rfl, ⟨hI.1, hI0, (hp46.1 hkd).2⟩⟩) hP hD hS nd_CB_edge_49
          · refine wi_top (hp46.2 hkd).1 ?_
            have hsp : sp_edge n y (nI (1)) (nI (el1)) (nI (u01)) (nI (v01)) = (nI 0, y) := by unfold sp_edge; simp only [sw_1, sz_t h_el1 (show n < 2 ^ 31 by omega), tn_nI (show el1 < 2 ^ 31 by omega), sr_t h_u01 (show 7 < 2 ^ 31 by omega), tn_nI (show u01 < 2 ^ 31 by omega), sr_t h_v01 (show 7 < 2 ^ 31 by omega), tn_nI (show v01 < 2 ^ 31 by omega), tn_1]; simp [cb_m, hkd]
            exact wb_zret ((w, t0, u46)) hx hb hr hk rfl hAe (by rw [hsp]; exact ⟨rfl, ⟨hI.1, hI0, (hp46.2 hkd).2⟩⟩) hP hD hS nd_CB_edge_49
        · refine wc_S (n := 2) hx hb hml hown htg (c_CB_isUpTo l D _ v0 (nI (7)) (nI 0) (fun h => absurd h hq28) (fun _ => rfl)) tm_144 tm_142 tm_143 tm_1 (by decide +kernel) ⟨⟨Nat.le_trans (by decide) hRf, Nat.le_trans (by decide) hRl⟩, rfl, rfl⟩ (wa_pre wa_nil hK hN) rfl hl.1 rfl (Nat.le_of_ble_eq_true rfl) nd_CB_edge_28 hCS ?_
          refine wi_if_ne (tgt := 36) hx hb (by decide) nd_CB_edge_31 rfl (fun h => absurd h (by decide)) (fun _ => ?_)
          refine wi_ic hx hb (a := 0) nd_CB_edge_34 ?_
          have hsp : sp_edge n y (nI (1)) (nI (el1)) (nI (u01)) v0 = (nI 0, y) := by unfold sp_edge; simp [sr_f hq28]
          exact wb_zret ((w, t0, t1)) hx hb hr hk rfl hAe (by rw [hsp]; exact ⟨rfl, hI⟩) hP hD hS nd_CB_edge_35
      · refine wc_S (n := 2) hx hb hml hown htg (c_CB_isUpTo l D _ u0 (nI (7)) (nI 0) (fun h => absurd h hq18) (fun _ => rfl)) tm_144 tm_142 tm_143 tm_1 (by decide +kernel) ⟨⟨Nat.le_trans (by decide) hRf, Nat.le_trans (by decide) hRl⟩, rfl, rfl⟩ (wa_pre wa_nil hK hN) rfl hl.1 rfl (Nat.le_of_ble_eq_true rfl) nd_CB_edge_18 hCS ?_
        refine wi_if_eq (tgt := 34) hx hb (by decide) nd_CB_edge_21 rfl (fun _ => ?_) (fun h => absurd h (by decide))
        refine wi_ic hx hb (a := 0) nd_CB_edge_34 ?_
        have hsp : sp_edge n y (nI (1)) (nI (el1)) u0 v0 = (nI 0, y) := by unfold sp_edge; simp [sr_f hq18]
        exact wb_zret ((w, t0, t1)) hx hb hr hk rfl hAe (by rw [hsp]; exact ⟨rfl, hI⟩) hP hD hS nd_CB_edge_35
    · refine wc_V (C := nr_CB) (n := 1) hx hb hml hown htg (c_CB_isElement l D _ (q 0) (q 1) (q 2) n el (nI 0) (fun h => absurd h hq9) (fun _ => rfl)) tm_177 tm_174 tm_176 tp_2 tm_1 (by decide +kernel) ⟨⟨Nat.le_trans (by decide) hRf, Nat.le_trans (by decide) hRl⟩, rfl, rfl⟩ (wa_pre (hP.sub [0] rfl) hK hN) (va_recv (q0 := 0) (ci := 0) hK hP rfl rfl) rfl hl.1 rfl (Nat.le_of_ble_eq_true rfl) nd_CB_edge_9 hCS ?_
      refine wi_if_eq (tgt := 34) hx hb (by decide) nd_CB_edge_12 rfl (fun _ => ?_) (fun h => absurd h (by decide))
      refine wi_ic hx hb (a := 0) nd_CB_edge_34 ?_
      have hsp : sp_edge n y (nI (1)) el u0 v0 = (nI 0, y) := by unfold sp_edge; simp [sz_f hn1 (show n < 2 ^ 31 by omega) hq9]
      exact wb_zret ((w, t0, t1)) hx hb hr hk rfl hAe (by rw [hsp]; exact ⟨rfl, hI⟩) hP hD hS nd_CB_edge_35
  · refine wc_S (n := 1) hx hb hml hown htg (c_CB_isMatroid l D _ wh (nI 0) (fun h => absurd h (fun z => z.elim (fun z => hw1.1 (z.trans nI_0.symm)) hw1.2)) (fun _ => rfl)) tm_141 tm_139 tm_140 tm_1 (by decide +kernel) ⟨⟨Nat.le_trans (by decide) hRf, Nat.le_trans (by decide) hRl⟩, rfl, rfl⟩ (wa_pre wa_nil hK hN) rfl hl.1 rfl (Nat.le_of_ble_eq_true rfl) nd_CB_edge_1 hCS ?_
    refine wi_if_eq (tgt := 34) hx hb (by decide) nd_CB_edge_4 rfl (fun _ => ?_) (fun h => absurd h (by decide))
    refine wi_ic hx hb (a := 0) nd_CB_edge_34 ?_
    have hsp : sp_edge n y wh el u0 v0 = (nI 0, y) := by unfold sp_edge; simp [sw_n hw1]
    exact wb_zret ((w, t0, t1)) hx hb hr hk rfl hAe (by rw [hsp]; exact ⟨rfl, hI⟩) hP hD hS nd_CB_edge_35
theorem nd_CB_part_0 : decode nc_CB_part 0 = .ok (.iload_n 1, 1) := by decide +kernel
theorem nd_CB_part_1 : decode nc_CB_part 1 = .ok (.invokestatic 29, 3) := by decide +kernel
theorem nd_CB_part_4 : decode nc_CB_part 4 = .ok (.ifCond .eq 19, 3) := by decide +kernel
theorem nd_CB_part_7 : decode nc_CB_part 7 = .ok (.aload_n 0, 1) := by decide +kernel
theorem nd_CB_part_8 : decode nc_CB_part 8 = .ok (.iload_n 2, 1) := by decide +kernel
theorem nd_CB_part_9 : decode nc_CB_part 9 = .ok (.invokevirtual 43, 3) := by decide +kernel
theorem nd_CB_part_12 : decode nc_CB_part 12 = .ok (.ifCond .eq 11, 3) := by decide +kernel
theorem nd_CB_part_15 : decode nc_CB_part 15 = .ok (.iload_n 3, 1) := by decide +kernel
theorem nd_CB_part_16 : decode nc_CB_part 16 = .ok (.iconst 3, 1) := by decide +kernel
theorem nd_CB_part_17 : decode nc_CB_part 17 = .ok (.invokestatic 33, 3) := by decide +kernel
theorem nd_CB_part_20 : decode nc_CB_part 20 = .ok (.ifCond .ne 5, 3) := by decide +kernel
theorem nd_CB_part_23 : decode nc_CB_part 23 = .ok (.iconst 0, 1) := by decide +kernel
theorem nd_CB_part_24 : decode nc_CB_part 24 = .ok (.ireturn, 1) := by decide +kernel
theorem nd_CB_part_25 : decode nc_CB_part 25 = .ok (.aload_n 0, 1) := by decide +kernel
theorem nd_CB_part_26 : decode nc_CB_part 26 = .ok (.getfield 25, 3) := by decide +kernel
theorem nd_CB_part_29 : decode nc_CB_part 29 = .ok (.iload_n 1, 1) := by decide +kernel
theorem nd_CB_part_30 : decode nc_CB_part 30 = .ok (.aaload, 1) := by decide +kernel
theorem nd_CB_part_31 : decode nc_CB_part 31 = .ok (.iload_n 2, 1) := by decide +kernel
theorem nd_CB_part_32 : decode nc_CB_part 32 = .ok (.iload_n 3, 1) := by decide +kernel
theorem nd_CB_part_33 : decode nc_CB_part 33 = .ok (.invokevirtual 53, 3) := by decide +kernel
theorem nd_CB_part_36 : decode nc_CB_part 36 = .ok (.ireturn, 1) := by decide +kernel
set_option maxRecDepth 20000 in
theorem c_CB_part (l : Launch) (D : va_G) (cI cG cM : ClassId)  (q : Nat → Nat) (n : Nat) (hn1 : 1 ≤ n) (hn : n ≤ 10) (mr : Nat → Option Nat) (a0 a1 : ma_A) (hm0 : mr 0 = some (a0.1 0)) (hm1 : mr 1 = some (a1.1 0)) (w : Nat → Int32) (t0 t1 : ma_S) (y : cb_Y) (hI : cb_I n y (w, t0, t1)) (wh el c0 : Int32) (sz : Nat) : wb_Mi l ny_CB_part nc_CB_part 4 (some .boolean) ({ frames := 3, cells := 0, slots := 0, locals := 67 }) D (ty_all cI cG cM) (cw_ cI cG cM q n mr a0 a1 (w, t0, t1)) sz [.ref (q 0), .int (wh), .int (el), .int (c0)] (fun (v : Int32) (u : cb_S) => v = (sp_part n y wh el c0).1 ∧ cb_I n (sp_part n y wh el c0).2 u) (fun u : cb_S => cw_ cI cG cM q n mr a0 a1 u) := by
  refine wb_start (S := cb_S) (by decide) (Nat.le_of_ble_eq_true rfl) ?_
  intro p e0 s0 m below meth c ls A hx hb hr hml htg hown hk hP hK hN hl hAe hsz hD hA
  have hl : lv_has ls 4 [(0, .ref (q 0)), (1, .int (wh)), (2, .int (el)), (3, .int (c0))] := hl
  have hP : va_P D cl_all ([((q 0), .inr (0, [.int (nI (n)), .int (nI (2 ^ n - 1)), .ref (q 1), .ref (q 2)])), ((q 1), .inl (cI, n, .inl w)), ((q 2), .inl (cM, 2, .inr (.inr (.inr (.inr mr)))))] ++ (mw_ cI cG a0 n t0 ++ (mw_ cI cG a1 n t1 ++ []))) s0.heap := hP
  have hD : va_D A ([((q 0), .inr (0, [.int (nI (n)), .int (nI (2 ^ n - 1)), .ref (q 1), .ref (q 2)])), ((q 1), .inl (cI, n, .inl w)), ((q 2), .inl (cM, 2, .inr (.inr (.inr (.inr mr)))))] ++ (mw_ cI cG a0 n t0 ++ (mw_ cI cG a1 n t1 ++ []))) := hD
  have hS : va_S A s0.heap s0.heap [] := va_S.rf
  have hRf : 3 ≤ ({ frames := 3, cells := 0, slots := 0, locals := 67 } : Room).frames := Nat.le_refl _
  have hRl : 67 ≤ ({ frames := 3, cells := 0, slots := 0, locals := 67 } : Room).locals := Nat.le_refl _
  have hCS : 0 ≤ ({ frames := 3, cells := 0, slots := 0, locals := 67 } : Room).cells ∧ 0 ≤ ({ frames := 3, cells := 0, slots := 0, locals := 67 } : Room).slots := ⟨Nat.zero_le _, Nat.zero_le _⟩
  have h2n : 2 ^ n ≤ 1024 := Nat.pow_le_pow_right (by omega) hn
  have h2p : 1 ≤ 2 ^ n := Nat.one_le_two_pow
  have hI0 : ma_I n y.2.1 t0 := hI.2.1
  have hI1 : ma_I n y.2.2 t1 := hI.2.2
  refine lv_iload_n hx hb nd_CB_part_0 rfl (lv_at hl 1 rfl) ?_
  rcases sm_which wh with hw1 | hw1 | hw1
  · subst hw1
    refine wc_S (n := 1) hx hb hml hown htg (c_CB_isMatroid l D _ (nI 0) (nI 1) (fun _ => rfl) (fun h => absurd (Or.inl nI_0) h)) tm_141 tm_139 tm_140 tm_1 (by decide +kernel) ⟨⟨Nat.le_trans (by decide) hRf, Nat.le_trans (by decide) hRl⟩, rfl, rfl⟩ (wa_pre wa_nil hK hN) rfl hl.1 rfl (Nat.le_of_ble_eq_true rfl) nd_CB_part_1 hCS ?_
    refine wi_if_eq (tgt := 23) hx hb (by decide) nd_CB_part_4 rfl (fun h => absurd h (by decide)) (fun _ => ?_)
    refine lv_aload_n hx hb nd_CB_part_7 rfl (lv_at hl 0 rfl) ?_
    refine lv_iload_n hx hb nd_CB_part_8 rfl (lv_at hl 2 rfl) ?_
    by_cases hq9 : ¬ el < 0 ∧ ¬ nI n ≤ el
    · obtain ⟨el1, h_el1, rfl⟩ := sm_elem (by omega) hq9
      refine wc_V (C := nr_CB) (n := 1) hx hb hml hown htg (c_CB_isElement l D _ (q 0) (q 1) (q 2) n (nI el1) (nI 1) (fun _ => rfl) (fun h => absurd hq9 h)) tm_177 tm_174 tm_176 tp_2 tm_1 (by decide +kernel) ⟨⟨Nat.le_trans (by decide) hRf, Nat.le_trans (by decide) hRl⟩, rfl, rfl⟩ (wa_pre (hP.sub [0] rfl) hK hN) (va_recv (q0 := 0) (ci := 0) hK hP rfl rfl) rfl hl.1 rfl (Nat.le_of_ble_eq_true rfl) nd_CB_part_9 hCS ?_
      refine wi_if_eq (tgt := 23) hx hb (by decide) nd_CB_part_12 rfl (fun h => absurd h (by decide)) (fun _ => ?_)
      refine lv_iload_n hx hb nd_CB_part_15 rfl (lv_at hl 3 rfl) ?_
      refine wi_ic hx hb (a := 3) nd_CB_part_16 ?_
      by_cases hq17 : ¬ c0 < 0 ∧ ¬ nI (3) < c0
      · obtain ⟨c01, h_c01, rfl⟩ := sm_upto (by omega) hq17
        refine wc_S (n := 2) hx hb hml hown htg (c_CB_isUpTo l D _ (nI c01) (nI (3)) (nI 1) (fun _ => rfl) (fun h => absurd hq17 h)) tm_144 tm_142 tm_143 tm_1 (by decide +kernel) ⟨⟨Nat.le_trans (by decide) hRf, Nat.le_trans (by decide) hRl⟩, rfl, rfl⟩ (wa_pre wa_nil hK hN) rfl hl.1 rfl (Nat.le_of_ble_eq_true rfl) nd_CB_part_17 hCS ?_
        refine wi_if_ne (tgt := 25) hx hb (by decide) nd_CB_part_20 rfl (fun _ => ?_) (fun h => absurd h (by decide))
        refine lv_aload_n hx hb nd_CB_part_25 rfl (lv_at hl 0 rfl) ?_
        refine va_get (D := D) (C := nr_CB) (T := nt_CB) (N := 4) hx hb htg tf_CB hown hK hP 0 rfl rfl 3 (by decide) (htg _ tm_125) (fun _ h => h) rfl nd_CB_part_26 ?_
        refine lv_iload_n hx hb nd_CB_part_29 rfl (lv_at hl 1 rfl) ?_
        refine wi_aald (v := (a0.1 0)) hx hb hK hP 2 2 rfl rfl rfl (by omega) (by omega) (hm0) nd_CB_part_30 ?_
        refine lv_iload_n hx hb nd_CB_part_31 rfl (lv_at hl 2 rfl) ?_
        refine lv_iload_n hx hb nd_CB_part_32 rfl (lv_at hl 3 rfl) ?_
        refine wd_Vi (C := nr_MA) (n := 2) (X := [((q 0), .inr (0, [.int (nI (n)), .int (nI (2 ^ n - 1)), .ref (q 1), .ref (q 2)])), ((q 1), .inl (cI, n, .inl w)), ((q 2), .inl (cM, 2, .inr (.inr (.inr (.inr mr)))))]) (Y := mw_ cI cG a0 n t0) (Z := (mw_ cI cG a1 n t1 ++ [])) hx hb hml hown htg (c_MA_setClass l D cI cG cM a0 n hn t0.1 t0.2.1 t0.2.2.1 t0.2.2.2.1 t0.2.2.2.2.1 t0.2.2.2.2.2 y.2.1 hI0 el1 c01 (by omega) (by omega) _) tm_202 tm_199 tm_200 tm_201 tm_2 (by decide +kernel) ⟨⟨Nat.le_trans (by decide) hRf, Nat.le_trans (by decide) hRl⟩, rfl, rfl⟩ hP hD hS hA hK hN (va_recv (q0 := 0) (ci := 1) hK (wm_P (X := [((q 0), .inr (0, [.int (nI (n)), .int (nI (2 ^ n - 1)), .ref (q 1), .ref (q 2)])), ((q 1), .inl (cI, n, .inl w)), ((q 2), .inl (cM, 2, .inr (.inr (.inr (.inr mr)))))]) (Y := mw_ cI cG a0 n t0) (Z := (mw_ cI cG a1 n t1 ++ [])) hP).2.1 rfl rfl) rfl hl.1 rfl (Nat.le_of_ble_eq_true rfl) nd_CB_part_33 hCS (fun v33 u33 H locs hp33 hP hD hS => ?_)
        have hP : va_P D cl_all ([((q 0), .inr (0, [.int (nI (n)), .int (nI (2 ^ n - 1)), .ref (q 1), .ref (q 2)])), ((q 1), .inl (cI, n, .inl w)), ((q 2), .inl (cM, 2, .inr (.inr (.inr (.inr mr)))))] ++ (mw_ cI cG a0 n u33 ++ (mw_ cI cG a1 n t1 ++ []))) H := hP
        have hD : va_D A ([((q 0), .inr (0, [.int (nI (n)), .int (nI (2 ^ n - 1)), .ref (q 1), .ref (q 2)])), ((q 1), .inl (cI, n, .inl w)), ((q 2), .inl (cM, 2, .inr (.inr (.inr (.inr mr)))))] ++ (mw_ cI cG a0 n u33 ++ (mw_ cI cG a1 n t1 ++ []))) := hD
        by_cases hkd : y.2.1.1 = 2
        · refine wi_top (hp33.1 hkd).1 ?_
          have hsp : sp_part n y (nI (0)) (nI (el1)) (nI (c01)) = (nI 1, (y.1, (y.2.1.1, y.2.1.2.1, y.2.1.2.2.1, y.2.1.2.2.2.1, va_up y.2.1.2.2.2.2.1 el1 c01, y.2.1.2.2.2.2.2), y.2.2)) := by unfold sp_part; simp only [sw_0, sz_t h_el1 (show n < 2 ^ 31 by omega), tn_nI (show el1 < 2 ^ 31 by omega), sr_t h_c01 (show 3 < 2 ^ 31 by omega), tn_nI (show c01 < 2 ^ 31 by omega), tn_0]; simp [cb_m, cb_s, hkd]
          exact wb_zret ((w, u33, t1)) hx hb hr hk rfl hAe (by rw [hsp]; exact ⟨rfl, ⟨hI.1, (hp33.1 hkd).2, hI1⟩⟩) hP hD hS nd_CB_part_36
        · refine wi_top (hp33.2 hkd).1 ?_
          have hsp : sp_part n y (nI (0)) (nI (el1)) (nI (c01)) = (nI 0, y) := by unfold sp_part; simp only [sw_0, sz_t h_el1 (show n < 2 ^ 31 by omega), tn_nI (show el1 < 2 ^ 31 by omega), sr_t h_c01 (show 3 < 2 ^ 31 by omega), tn_nI (show c01 < 2 ^ 31 by omega), tn_0]; simp [cb_m, hkd]
          exact wb_zret ((w, u33, t1)) hx hb hr hk rfl hAe (by rw [hsp]; exact ⟨rfl, ⟨hI.1, (hp33.2 hkd).2, hI1⟩⟩) hP hD hS nd_CB_part_36
      · refine wc_S (n := 2) hx hb hml hown htg (c_CB_isUpTo l D _ c0 (nI (3)) (nI 0) (fun h => absurd h hq17) (fun _ => rfl)) tm_144 tm_142 tm_143 tm_1 (by decide +kernel) ⟨⟨Nat.le_trans (by decide) hRf, Nat.le_trans (by decide) hRl⟩, rfl, rfl⟩ (wa_pre wa_nil hK hN) rfl hl.1 rfl (Nat.le_of_ble_eq_true rfl) nd_CB_part_17 hCS ?_
        refine wi_if_ne (tgt := 25) hx hb (by decide) nd_CB_part_20 rfl (fun h => absurd h (by decide)) (fun _ => ?_)
        refine wi_ic hx hb (a := 0) nd_CB_part_23 ?_
        have hsp : sp_part n y (nI (0)) (nI (el1)) c0 = (nI 0, y) := by unfold sp_part; simp [sr_f hq17]
        exact wb_zret ((w, t0, t1)) hx hb hr hk rfl hAe (by rw [hsp]; exact ⟨rfl, hI⟩) hP hD hS nd_CB_part_24
    · refine wc_V (C := nr_CB) (n := 1) hx hb hml hown htg (c_CB_isElement l D _ (q 0) (q 1) (q 2) n el (nI 0) (fun h => absurd h hq9) (fun _ => rfl)) tm_177 tm_174 tm_176 tp_2 tm_1 (by decide +kernel) ⟨⟨Nat.le_trans (by decide) hRf, Nat.le_trans (by decide) hRl⟩, rfl, rfl⟩ (wa_pre (hP.sub [0] rfl) hK hN) (va_recv (q0 := 0) (ci := 0) hK hP rfl rfl) rfl hl.1 rfl (Nat.le_of_ble_eq_true rfl) nd_CB_part_9 hCS ?_
      refine wi_if_eq (tgt := 23) hx hb (by decide) nd_CB_part_12 rfl (fun _ => ?_) (fun h => absurd h (by decide))
      refine wi_ic hx hb (a := 0) nd_CB_part_23 ?_
      have hsp : sp_part n y (nI (0)) el c0 = (nI 0, y) := by unfold sp_part; simp [sz_f hn1 (show n < 2 ^ 31 by omega) hq9]
      exact wb_zret ((w, t0, t1)) hx hb hr hk rfl hAe (by rw [hsp]; exact ⟨rfl, hI⟩) hP hD hS nd_CB_part_24
  · subst hw1
    refine wc_S (n := 1) hx hb hml hown htg (c_CB_isMatroid l D _ (nI 1) (nI 1) (fun _ => rfl) (fun h => absurd (Or.inr rfl) h)) tm_141 tm_139 tm_140 tm_1 (by decide +kernel) ⟨⟨Nat.le_trans (by decide) hRf, Nat.le_trans (by decide) hRl⟩, rfl, rfl⟩ (wa_pre wa_nil hK hN) rfl hl.1 rfl (Nat.le_of_ble_eq_true rfl) nd_CB_part_1 hCS ?_
    refine wi_if_eq (tgt := 23) hx hb (by decide) nd_CB_part_4 rfl (fun h => absurd h (by decide)) (fun _ => ?_)
    refine lv_aload_n hx hb nd_CB_part_7 rfl (lv_at hl 0 rfl) ?_
    refine lv_iload_n hx hb nd_CB_part_8 rfl (lv_at hl 2 rfl) ?_
    by_cases hq9 : ¬ el < 0 ∧ ¬ nI n ≤ el
    · obtain ⟨el1, h_el1, rfl⟩ := sm_elem (by omega) hq9
      refine wc_V (C := nr_CB) (n := 1) hx hb hml hown htg (c_CB_isElement l D _ (q 0) (q 1) (q 2) n (nI el1) (nI 1) (fun _ => rfl) (fun h => absurd hq9 h)) tm_177 tm_174 tm_176 tp_2 tm_1 (by decide +kernel) ⟨⟨Nat.le_trans (by decide) hRf, Nat.le_trans (by decide) hRl⟩, rfl, rfl⟩ (wa_pre (hP.sub [0] rfl) hK hN) (va_recv (q0 := 0) (ci := 0) hK hP rfl rfl) rfl hl.1 rfl (Nat.le_of_ble_eq_true rfl) nd_CB_part_9 hCS ?_
      refine wi_if_eq (tgt := 23) hx hb (by decide) nd_CB_part_12 rfl (fun h => absurd h (by decide)) (fun _ => ?_)
      refine lv_iload_n hx hb nd_CB_part_15 rfl (lv_at hl 3 rfl) ?_
      refine wi_ic hx hb (a := 3) nd_CB_part_16 ?_
      by_cases hq17 : ¬ c0 < 0 ∧ ¬ nI (3) < c0
      · obtain ⟨c01, h_c01, rfl⟩ := sm_upto (by omega) hq17
        refine wc_S (n := 2) hx hb hml hown htg (c_CB_isUpTo l D _ (nI c01) (nI (3)) (nI 1) (fun _ => rfl) (fun h => absurd hq17 h)) tm_144 tm_142 tm_143 tm_1 (by decide +kernel) ⟨⟨Nat.le_trans (by decide) hRf, Nat.le_trans (by decide) hRl⟩, rfl, rfl⟩ (wa_pre wa_nil hK hN) rfl hl.1 rfl (Nat.le_of_ble_eq_true rfl) nd_CB_part_17 hCS ?_
        refine wi_if_ne (tgt := 25) hx hb (by decide) nd_CB_part_20 rfl (fun _ => ?_) (fun h => absurd h (by decide))
        refine lv_aload_n hx hb nd_CB_part_25 rfl (lv_at hl 0 rfl) ?_
        refine va_get (D := D) (C := nr_CB) (T := nt_CB) (N := 4) hx hb htg tf_CB hown hK hP 0 rfl rfl 3 (by decide) (htg _ tm_125) (fun _ h => h) rfl nd_CB_part_26 ?_
        refine lv_iload_n hx hb nd_CB_part_29 rfl (lv_at hl 1 rfl) ?_
        refine wi_aald (v := (a1.1 0)) hx hb hK hP 2 2 rfl rfl rfl (by omega) (by omega) (hm1) nd_CB_part_30 ?_
        refine lv_iload_n hx hb nd_CB_part_31 rfl (lv_at hl 2 rfl) ?_
        refine lv_iload_n hx hb nd_CB_part_32 rfl (lv_at hl 3 rfl) ?_
        rw [← List.append_assoc] at hP hD
        refine wd_Vi (C := nr_MA) (n := 2) (X := ([((q 0), .inr (0, [.int (nI (n)), .int (nI (2 ^ n - 1)), .ref (q 1), .ref (q 2)])), ((q 1), .inl (cI, n, .inl w)), ((q 2), .inl (cM, 2, .inr (.inr (.inr (.inr mr)))))] ++ mw_ cI cG a0 n t0)) (Y := mw_ cI cG a1 n t1) (Z := []) hx hb hml hown htg (c_MA_setClass l D cI cG cM a1 n hn t1.1 t1.2.1 t1.2.2.1 t1.2.2.2.1 t1.2.2.2.2.1 t1.2.2.2.2.2 y.2.2 hI1 el1 c01 (by omega) (by omega) _) tm_202 tm_199 tm_200 tm_201 tm_2 (by decide +kernel) ⟨⟨Nat.le_trans (by decide) hRf, Nat.le_trans (by decide) hRl⟩, rfl, rfl⟩ hP hD hS hA hK hN (va_recv (q0 := 0) (ci := 1) hK (wm_P (X := ([((q 0), .inr (0, [.int (nI (n)), .int (nI (2 ^ n - 1)), .ref (q 1), .ref (q 2)])), ((q 1), .inl (cI, n, .inl w)), ((q 2), .inl (cM, 2, .inr (.inr (.inr (.inr mr)))))] ++ mw_ cI cG a0 n t0)) (Y := mw_ cI cG a1 n t1) (Z := []) hP).2.1 rfl rfl) rfl hl.1 rfl (Nat.le_of_ble_eq_true rfl) nd_CB_part_33 hCS (fun v33 u33 H locs hp33 hP hD hS => ?_)
        rw [List.append_assoc] at hP hD
        have hP : va_P D cl_all ([((q 0), .inr (0, [.int (nI (n)), .int (nI (2 ^ n - 1)), .ref (q 1), .ref (q 2)])), ((q 1), .inl (cI, n, .inl w)), ((q 2), .inl (cM, 2, .inr (.inr (.inr (.inr mr)))))] ++ (mw_ cI cG a0 n t0 ++ (mw_ cI cG a1 n u33 ++ []))) H := hP
        have hD : va_D A ([((q 0), .inr (0, [.int (nI (n)), .int (nI (2 ^ n - 1)), .ref (q 1), .ref (q 2)])), ((q 1), .inl (cI, n, .inl w)), ((q 2), .inl (cM, 2, .inr (.inr (.inr (.inr mr)))))] ++ (mw_ cI cG a0 n t0 ++ (mw_ cI cG a1 n u33 ++ []))) := hD
        by_cases hkd : y.2.2.1 = 2
        · refine wi_top (hp33.1 hkd).1 ?_
          have hsp : sp_part n y (nI (1)) (nI (el1)) (nI (c01)) = (nI 1, (y.1, y.2.1, (y.2.2.1, y.2.2.2.1, y.2.2.2.2.1, y.2.2.2.2.2.1, va_up y.2.2.2.2.2.2.1 el1 c01, y.2.2.2.2.2.2.2))) := by unfold sp_part; simp only [sw_1, sz_t h_el1 (show n < 2 ^ 31 by omega), tn_nI (show el1 < 2 ^ 31 by omega), sr_t h_c01 (show 3 < 2 ^ 31 by omega), tn_nI (show c01 < 2 ^ 31 by omega), tn_1]; simp [cb_m, cb_s, hkd]
          exact wb_zret ((w, t0, u33)) hx hb hr hk rfl hAe (by rw [hsp]; exact ⟨rfl, ⟨hI.1, hI0, (hp33.1 hkd).2⟩⟩) hP hD hS nd_CB_part_36
        · refine wi_top (hp33.2 hkd).1 ?_
          have hsp : sp_part n y (nI (1)) (nI (el1)) (nI (c01)) = (nI 0, y) := by unfold sp_part; simp only [sw_1, sz_t h_el1 (show n < 2 ^ 31 by omega), tn_nI (show el1 < 2 ^ 31 by omega), sr_t h_c01 (show 3 < 2 ^ 31 by omega), tn_nI (show c01 < 2 ^ 31 by omega), tn_1]; simp [cb_m, hkd]
          exact wb_zret ((w, t0, u33)) hx hb hr hk rfl hAe (by rw [hsp]; exact ⟨rfl, ⟨hI.1, hI0, (hp33.2 hkd).2⟩⟩) hP hD hS nd_CB_part_36
      · refine wc_S (n := 2) hx hb hml hown htg (c_CB_isUpTo l D _ c0 (nI (3)) (nI 0) (fun h => absurd h hq17) (fun _ => rfl)) tm_144 tm_142 tm_143 tm_1 (by decide +kernel) ⟨⟨Nat.le_trans (by decide) hRf, Nat.le_trans (by decide) hRl⟩, rfl, rfl⟩ (wa_pre wa_nil hK hN) rfl hl.1 rfl (Nat.le_of_ble_eq_true rfl) nd_CB_part_17 hCS ?_
        refine wi_if_ne (tgt := 25) hx hb (by decide) nd_CB_part_20 rfl (fun h => absurd h (by decide)) (fun _ => ?_)
        refine wi_ic hx hb (a := 0) nd_CB_part_23 ?_
        have hsp : sp_part n y (nI (1)) (nI (el1)) c0 = (nI 0, y) := by unfold sp_part; simp [sr_f hq17]
        exact wb_zret ((w, t0, t1)) hx hb hr hk rfl hAe (by rw [hsp]; exact ⟨rfl, hI⟩) hP hD hS nd_CB_part_24
    · refine wc_V (C := nr_CB) (n := 1) hx hb hml hown htg (c_CB_isElement l D _ (q 0) (q 1) (q 2) n el (nI 0) (fun h => absurd h hq9) (fun _ => rfl)) tm_177 tm_174 tm_176 tp_2 tm_1 (by decide +kernel) ⟨⟨Nat.le_trans (by decide) hRf, Nat.le_trans (by decide) hRl⟩, rfl, rfl⟩ (wa_pre (hP.sub [0] rfl) hK hN) (va_recv (q0 := 0) (ci := 0) hK hP rfl rfl) rfl hl.1 rfl (Nat.le_of_ble_eq_true rfl) nd_CB_part_9 hCS ?_
      refine wi_if_eq (tgt := 23) hx hb (by decide) nd_CB_part_12 rfl (fun _ => ?_) (fun h => absurd h (by decide))
      refine wi_ic hx hb (a := 0) nd_CB_part_23 ?_
      have hsp : sp_part n y (nI (1)) el c0 = (nI 0, y) := by unfold sp_part; simp [sz_f hn1 (show n < 2 ^ 31 by omega) hq9]
      exact wb_zret ((w, t0, t1)) hx hb hr hk rfl hAe (by rw [hsp]; exact ⟨rfl, hI⟩) hP hD hS nd_CB_part_24
  · refine wc_S (n := 1) hx hb hml hown htg (c_CB_isMatroid l D _ wh (nI 0) (fun h => absurd h (fun z => z.elim (fun z => hw1.1 (z.trans nI_0.symm)) hw1.2)) (fun _ => rfl)) tm_141 tm_139 tm_140 tm_1 (by decide +kernel) ⟨⟨Nat.le_trans (by decide) hRf, Nat.le_trans (by decide) hRl⟩, rfl, rfl⟩ (wa_pre wa_nil hK hN) rfl hl.1 rfl (Nat.le_of_ble_eq_true rfl) nd_CB_part_1 hCS ?_
    refine wi_if_eq (tgt := 23) hx hb (by decide) nd_CB_part_4 rfl (fun _ => ?_) (fun h => absurd h (by decide))
    refine wi_ic hx hb (a := 0) nd_CB_part_23 ?_
    have hsp : sp_part n y wh el c0 = (nI 0, y) := by unfold sp_part; simp [sw_n hw1]
    exact wb_zret ((w, t0, t1)) hx hb hr hk rfl hAe (by rw [hsp]; exact ⟨rfl, hI⟩) hP hD hS nd_CB_part_24
theorem nd_CB_cap_0 : decode nc_CB_cap 0 = .ok (.iload_n 1, 1) := by decide +kernel
theorem nd_CB_cap_1 : decode nc_CB_cap 1 = .ok (.invokestatic 29, 3) := by decide +kernel
theorem nd_CB_cap_4 : decode nc_CB_cap 4 = .ok (.ifCond .eq 20, 3) := by decide +kernel
theorem nd_CB_cap_7 : decode nc_CB_cap 7 = .ok (.iload_n 2, 1) := by decide +kernel
theorem nd_CB_cap_8 : decode nc_CB_cap 8 = .ok (.iconst 3, 1) := by decide +kernel
theorem nd_CB_cap_9 : decode nc_CB_cap 9 = .ok (.invokestatic 33, 3) := by decide +kernel
theorem nd_CB_cap_12 : decode nc_CB_cap 12 = .ok (.ifCond .eq 12, 3) := by decide +kernel
theorem nd_CB_cap_15 : decode nc_CB_cap 15 = .ok (.iload_n 3, 1) := by decide +kernel
theorem nd_CB_cap_16 : decode nc_CB_cap 16 = .ok (.bipush 10, 2) := by decide +kernel
theorem nd_CB_cap_18 : decode nc_CB_cap 18 = .ok (.invokestatic 33, 3) := by decide +kernel
theorem nd_CB_cap_21 : decode nc_CB_cap 21 = .ok (.ifCond .ne 5, 3) := by decide +kernel
theorem nd_CB_cap_24 : decode nc_CB_cap 24 = .ok (.iconst 0, 1) := by decide +kernel
theorem nd_CB_cap_25 : decode nc_CB_cap 25 = .ok (.ireturn, 1) := by decide +kernel
theorem nd_CB_cap_26 : decode nc_CB_cap 26 = .ok (.aload_n 0, 1) := by decide +kernel
theorem nd_CB_cap_27 : decode nc_CB_cap 27 = .ok (.getfield 25, 3) := by decide +kernel
theorem nd_CB_cap_30 : decode nc_CB_cap 30 = .ok (.iload_n 1, 1) := by decide +kernel
theorem nd_CB_cap_31 : decode nc_CB_cap 31 = .ok (.aaload, 1) := by decide +kernel
theorem nd_CB_cap_32 : decode nc_CB_cap 32 = .ok (.iload_n 2, 1) := by decide +kernel
theorem nd_CB_cap_33 : decode nc_CB_cap 33 = .ok (.iload_n 3, 1) := by decide +kernel
theorem nd_CB_cap_34 : decode nc_CB_cap 34 = .ok (.invokevirtual 56, 3) := by decide +kernel
theorem nd_CB_cap_37 : decode nc_CB_cap 37 = .ok (.ireturn, 1) := by decide +kernel
set_option maxRecDepth 20000 in
theorem c_CB_cap (l : Launch) (D : va_G) (cI cG cM : ClassId)  (q : Nat → Nat) (n : Nat) (hn1 : 1 ≤ n) (hn : n ≤ 10) (mr : Nat → Option Nat) (a0 a1 : ma_A) (hm0 : mr 0 = some (a0.1 0)) (hm1 : mr 1 = some (a1.1 0)) (w : Nat → Int32) (t0 t1 : ma_S) (y : cb_Y) (hI : cb_I n y (w, t0, t1)) (wh c0 k0 : Int32) (sz : Nat) : wb_Mi l ny_CB_cap nc_CB_cap 4 (some .boolean) ({ frames := 3, cells := 0, slots := 0, locals := 67 }) D (ty_all cI cG cM) (cw_ cI cG cM q n mr a0 a1 (w, t0, t1)) sz [.ref (q 0), .int (wh), .int (c0), .int (k0)] (fun (v : Int32) (u : cb_S) => v = (sp_cap y wh c0 k0).1 ∧ cb_I n (sp_cap y wh c0 k0).2 u) (fun u : cb_S => cw_ cI cG cM q n mr a0 a1 u) := by
  refine wb_start (S := cb_S) (by decide) (Nat.le_of_ble_eq_true rfl) ?_
  intro p e0 s0 m below meth c ls A hx hb hr hml htg hown hk hP hK hN hl hAe hsz hD hA
  have hl : lv_has ls 4 [(0, .ref (q 0)), (1, .int (wh)), (2, .int (c0)), (3, .int (k0))] := hl
  have hP : va_P D cl_all ([((q 0), .inr (0, [.int (nI (n)), .int (nI (2 ^ n - 1)), .ref (q 1), .ref (q 2)])), ((q 1), .inl (cI, n, .inl w)), ((q 2), .inl (cM, 2, .inr (.inr (.inr (.inr mr)))))] ++ (mw_ cI cG a0 n t0 ++ (mw_ cI cG a1 n t1 ++ []))) s0.heap := hP
  have hD : va_D A ([((q 0), .inr (0, [.int (nI (n)), .int (nI (2 ^ n - 1)), .ref (q 1), .ref (q 2)])), ((q 1), .inl (cI, n, .inl w)), ((q 2), .inl (cM, 2, .inr (.inr (.inr (.inr mr)))))] ++ (mw_ cI cG a0 n t0 ++ (mw_ cI cG a1 n t1 ++ []))) := hD
  have hS : va_S A s0.heap s0.heap [] := va_S.rf
  have hRf : 3 ≤ ({ frames := 3, cells := 0, slots := 0, locals := 67 } : Room).frames := Nat.le_refl _
  have hRl : 67 ≤ ({ frames := 3, cells := 0, slots := 0, locals := 67 } : Room).locals := Nat.le_refl _
  have hCS : 0 ≤ ({ frames := 3, cells := 0, slots := 0, locals := 67 } : Room).cells ∧ 0 ≤ ({ frames := 3, cells := 0, slots := 0, locals := 67 } : Room).slots := ⟨Nat.zero_le _, Nat.zero_le _⟩
  have h2n : 2 ^ n ≤ 1024 := Nat.pow_le_pow_right (by omega) hn
  have h2p : 1 ≤ 2 ^ n := Nat.one_le_two_pow
  have hI0 : ma_I n y.2.1 t0 := hI.2.1
  have hI1 : ma_I n y.2.2 t1 := hI.2.2
  refine lv_iload_n hx hb nd_CB_cap_0 rfl (lv_at hl 1 rfl) ?_
  rcases sm_which wh with hw1 | hw1 | hw1
  · subst hw1
    refine wc_S (n := 1) hx hb hml hown htg (c_CB_isMatroid l D _ (nI 0) (nI 1) (fun _ => rfl) (fun h => absurd (Or.inl nI_0) h)) tm_141 tm_139 tm_140 tm_1 (by decide +kernel) ⟨⟨Nat.le_trans (by decide) hRf, Nat.le_trans (by decide) hRl⟩, rfl, rfl⟩ (wa_pre wa_nil hK hN) rfl hl.1 rfl (Nat.le_of_ble_eq_true rfl) nd_CB_cap_1 hCS ?_
    refine wi_if_eq (tgt := 24) hx hb (by decide) nd_CB_cap_4 rfl (fun h => absurd h (by decide)) (fun _ => ?_)
    refine lv_iload_n hx hb nd_CB_cap_7 rfl (lv_at hl 2 rfl) ?_
    refine wi_ic hx hb (a := 3) nd_CB_cap_8 ?_
    by_cases hq9 : ¬ c0 < 0 ∧ ¬ nI (3) < c0
    · obtain ⟨c01, h_c01, rfl⟩ := sm_upto (by omega) hq9
      refine wc_S (n := 2) hx hb hml hown htg (c_CB_isUpTo l D _ (nI c01) (nI (3)) (nI 1) (fun _ => rfl) (fun h => absurd hq9 h)) tm_144 tm_142 tm_143 tm_1 (by decide +kernel) ⟨⟨Nat.le_trans (by decide) hRf, Nat.le_trans (by decide) hRl⟩, rfl, rfl⟩ (wa_pre wa_nil hK hN) rfl hl.1 rfl (Nat.le_of_ble_eq_true rfl) nd_CB_cap_9 hCS ?_
      refine wi_if_eq (tgt := 24) hx hb (by decide) nd_CB_cap_12 rfl (fun h => absurd h (by decide)) (fun _ => ?_)
      refine lv_iload_n hx hb nd_CB_cap_15 rfl (lv_at hl 3 rfl) ?_
      refine lv_bipush (v := nI 10) hx hb nd_CB_cap_16 (by decide) ?_
      by_cases hq18 : ¬ k0 < 0 ∧ ¬ nI (10) < k0
      · obtain ⟨k01, h_k01, rfl⟩ := sm_upto (by omega) hq18
        refine wc_S (n := 2) hx hb hml hown htg (c_CB_isUpTo l D _ (nI k01) (nI (10)) (nI 1) (fun _ => rfl) (fun h => absurd hq18 h)) tm_144 tm_142 tm_143 tm_1 (by decide +kernel) ⟨⟨Nat.le_trans (by decide) hRf, Nat.le_trans (by decide) hRl⟩, rfl, rfl⟩ (wa_pre wa_nil hK hN) rfl hl.1 rfl (Nat.le_of_ble_eq_true rfl) nd_CB_cap_18 hCS ?_
        refine wi_if_ne (tgt := 26) hx hb (by decide) nd_CB_cap_21 rfl (fun _ => ?_) (fun h => absurd h (by decide))
        refine lv_aload_n hx hb nd_CB_cap_26 rfl (lv_at hl 0 rfl) ?_
        refine va_get (D := D) (C := nr_CB) (T := nt_CB) (N := 4) hx hb htg tf_CB hown hK hP 0 rfl rfl 3 (by decide) (htg _ tm_125) (fun _ h => h) rfl nd_CB_cap_27 ?_
        refine lv_iload_n hx hb nd_CB_cap_30 rfl (lv_at hl 1 rfl) ?_
        refine wi_aald (v := (a0.1 0)) hx hb hK hP 2 2 rfl rfl rfl (by omega) (by omega) (hm0) nd_CB_cap_31 ?_
        refine lv_iload_n hx hb nd_CB_cap_32 rfl (lv_at hl 2 rfl) ?_
        refine lv_iload_n hx hb nd_CB_cap_33 rfl (lv_at hl 3 rfl) ?_
        refine wd_Vi (C := nr_MA) (n := 2) (X := [((q 0), .inr (0, [.int (nI (n)), .int (nI (2 ^ n - 1)), .ref (q 1), .ref (q 2)])), ((q 1), .inl (cI, n, .inl w)), ((q 2), .inl (cM, 2, .inr (.inr (.inr (.inr mr)))))]) (Y := mw_ cI cG a0 n t0) (Z := (mw_ cI cG a1 n t1 ++ [])) hx hb hml hown htg (c_MA_setCap l D cI cG cM a0 n hn t0.1 t0.2.1 t0.2.2.1 t0.2.2.2.1 t0.2.2.2.2.1 t0.2.2.2.2.2 y.2.1 hI0 c01 k01 (by omega) (by omega) _) tm_210 tm_207 tm_208 tm_209 tm_2 (by decide +kernel) ⟨⟨Nat.le_trans (by decide) hRf, Nat.le_trans (by decide) hRl⟩, rfl, rfl⟩ hP hD hS hA hK hN (va_recv (q0 := 0) (ci := 1) hK (wm_P (X := [((q 0), .inr (0, [.int (nI (n)), .int (nI (2 ^ n - 1)), .ref (q 1), .ref (q 2)])), ((q 1), .inl (cI, n, .inl w)), ((q 2), .inl (cM, 2, .inr (.inr (.inr (.inr mr)))))]) (Y := mw_ cI cG a0 n t0) (Z := (mw_ cI cG a1 n t1 ++ [])) hP).2.1 rfl rfl) rfl hl.1 rfl (Nat.le_of_ble_eq_true rfl) nd_CB_cap_34 hCS (fun v34 u34 H locs hp34 hP hD hS => ?_)
        have hP : va_P D cl_all ([((q 0), .inr (0, [.int (nI (n)), .int (nI (2 ^ n - 1)), .ref (q 1), .ref (q 2)])), ((q 1), .inl (cI, n, .inl w)), ((q 2), .inl (cM, 2, .inr (.inr (.inr (.inr mr)))))] ++ (mw_ cI cG a0 n u34 ++ (mw_ cI cG a1 n t1 ++ []))) H := hP
        have hD : va_D A ([((q 0), .inr (0, [.int (nI (n)), .int (nI (2 ^ n - 1)), .ref (q 1), .ref (q 2)])), ((q 1), .inl (cI, n, .inl w)), ((q 2), .inl (cM, 2, .inr (.inr (.inr (.inr mr)))))] ++ (mw_ cI cG a0 n u34 ++ (mw_ cI cG a1 n t1 ++ []))) := hD
        by_cases hkd : y.2.1.1 = 2
        · refine wi_top (hp34.1 hkd).1 ?_
          have hsp : sp_cap y (nI (0)) (nI (c01)) (nI (k01)) = (nI 1, (y.1, (y.2.1.1, y.2.1.2.1, y.2.1.2.2.1, y.2.1.2.2.2.1, y.2.1.2.2.2.2.1, va_up y.2.1.2.2.2.2.2.1 c01 k01, y.2.1.2.2.2.2.2.2), y.2.2)) := by unfold sp_cap; simp only [sw_0, sr_t h_c01 (show 3 < 2 ^ 31 by omega), tn_nI (show c01 < 2 ^ 31 by omega), sr_t h_k01 (show 10 < 2 ^ 31 by omega), tn_nI (show k01 < 2 ^ 31 by omega), tn_0]; simp [cb_m, cb_s, hkd]
          exact wb_zret ((w, u34, t1)) hx hb hr hk rfl hAe (by rw [hsp]; exact ⟨rfl, ⟨hI.1, (hp34.1 hkd).2, hI1⟩⟩) hP hD hS nd_CB_cap_37
        · refine wi_top (hp34.2 hkd).1 ?_
          have hsp : sp_cap y (nI (0)) (nI (c01)) (nI (k01)) = (nI 0, y) := by unfold sp_cap; simp only [sw_0, sr_t h_c01 (show 3 < 2 ^ 31 by omega), tn_nI (show c01 < 2 ^ 31 by omega), sr_t h_k01 (show 10 < 2 ^ 31 by omega), tn_nI (show k01 < 2 ^ 31 by omega), tn_0]; simp [cb_m, hkd]
          exact wb_zret ((w, u34, t1)) hx hb hr hk rfl hAe (by rw [hsp]; exact ⟨rfl, ⟨hI.1, (hp34.2 hkd).2, hI1⟩⟩) hP hD hS nd_CB_cap_37
      · refine wc_S (n := 2) hx hb hml hown htg (c_CB_isUpTo l D _ k0 (nI (10)) (nI 0) (fun h => absurd h hq18) (fun _ => rfl)) tm_144 tm_142 tm_143 tm_1 (by decide +kernel) ⟨⟨Nat.le_trans (by decide) hRf, Nat.le_trans (by decide) hRl⟩, rfl, rfl⟩ (wa_pre wa_nil hK hN) rfl hl.1 rfl (Nat.le_of_ble_eq_true rfl) nd_CB_cap_18 hCS ?_
        refine wi_if_ne (tgt := 26) hx hb (by decide) nd_CB_cap_21 rfl (fun h => absurd h (by decide)) (fun _ => ?_)
        refine wi_ic hx hb (a := 0) nd_CB_cap_24 ?_
        have hsp : sp_cap y (nI (0)) (nI (c01)) k0 = (nI 0, y) := by unfold sp_cap; simp [sr_f hq18]
        exact wb_zret ((w, t0, t1)) hx hb hr hk rfl hAe (by rw [hsp]; exact ⟨rfl, hI⟩) hP hD hS nd_CB_cap_25
    · refine wc_S (n := 2) hx hb hml hown htg (c_CB_isUpTo l D _ c0 (nI (3)) (nI 0) (fun h => absurd h hq9) (fun _ => rfl)) tm_144 tm_142 tm_143 tm_1 (by decide +kernel) ⟨⟨Nat.le_trans (by decide) hRf, Nat.le_trans (by decide) hRl⟩, rfl, rfl⟩ (wa_pre wa_nil hK hN) rfl hl.1 rfl (Nat.le_of_ble_eq_true rfl) nd_CB_cap_9 hCS ?_
      refine wi_if_eq (tgt := 24) hx hb (by decide) nd_CB_cap_12 rfl (fun _ => ?_) (fun h => absurd h (by decide))
      refine wi_ic hx hb (a := 0) nd_CB_cap_24 ?_
      have hsp : sp_cap y (nI (0)) c0 k0 = (nI 0, y) := by unfold sp_cap; simp [sr_f hq9]
      exact wb_zret ((w, t0, t1)) hx hb hr hk rfl hAe (by rw [hsp]; exact ⟨rfl, hI⟩) hP hD hS nd_CB_cap_25
  · subst hw1
    refine wc_S (n := 1) hx hb hml hown htg (c_CB_isMatroid l D _ (nI 1) (nI 1) (fun _ => rfl) (fun h => absurd (Or.inr rfl) h)) tm_141 tm_139 tm_140 tm_1 (by decide +kernel) ⟨⟨Nat.le_trans (by decide) hRf, Nat.le_trans (by decide) hRl⟩, rfl, rfl⟩ (wa_pre wa_nil hK hN) rfl hl.1 rfl (Nat.le_of_ble_eq_true rfl) nd_CB_cap_1 hCS ?_
    refine wi_if_eq (tgt := 24) hx hb (by decide) nd_CB_cap_4 rfl (fun h => absurd h (by decide)) (fun _ => ?_)
    refine lv_iload_n hx hb nd_CB_cap_7 rfl (lv_at hl 2 rfl) ?_
    refine wi_ic hx hb (a := 3) nd_CB_cap_8 ?_
    by_cases hq9 : ¬ c0 < 0 ∧ ¬ nI (3) < c0
    · obtain ⟨c01, h_c01, rfl⟩ := sm_upto (by omega) hq9
      refine wc_S (n := 2) hx hb hml hown htg (c_CB_isUpTo l D _ (nI c01) (nI (3)) (nI 1) (fun _ => rfl) (fun h => absurd hq9 h)) tm_144 tm_142 tm_143 tm_1 (by decide +kernel) ⟨⟨Nat.le_trans (by decide) hRf, Nat.le_trans (by decide) hRl⟩, rfl, rfl⟩ (wa_pre wa_nil hK hN) rfl hl.1 rfl (Nat.le_of_ble_eq_true rfl) nd_CB_cap_9 hCS ?_
      refine wi_if_eq (tgt := 24) hx hb (by decide) nd_CB_cap_12 rfl (fun h => absurd h (by decide)) (fun _ => ?_)
      refine lv_iload_n hx hb nd_CB_cap_15 rfl (lv_at hl 3 rfl) ?_
      refine lv_bipush (v := nI 10) hx hb nd_CB_cap_16 (by decide) ?_
      by_cases hq18 : ¬ k0 < 0 ∧ ¬ nI (10) < k0
      · obtain ⟨k01, h_k01, rfl⟩ := sm_upto (by omega) hq18
        refine wc_S (n := 2) hx hb hml hown htg (c_CB_isUpTo l D _ (nI k01) (nI (10)) (nI 1) (fun _ => rfl) (fun h => absurd hq18 h)) tm_144 tm_142 tm_143 tm_1 (by decide +kernel) ⟨⟨Nat.le_trans (by decide) hRf, Nat.le_trans (by decide) hRl⟩, rfl, rfl⟩ (wa_pre wa_nil hK hN) rfl hl.1 rfl (Nat.le_of_ble_eq_true rfl) nd_CB_cap_18 hCS ?_
        refine wi_if_ne (tgt := 26) hx hb (by decide) nd_CB_cap_21 rfl (fun _ => ?_) (fun h => absurd h (by decide))
        refine lv_aload_n hx hb nd_CB_cap_26 rfl (lv_at hl 0 rfl) ?_
        refine va_get (D := D) (C := nr_CB) (T := nt_CB) (N := 4) hx hb htg tf_CB hown hK hP 0 rfl rfl 3 (by decide) (htg _ tm_125) (fun _ h => h) rfl nd_CB_cap_27 ?_
        refine lv_iload_n hx hb nd_CB_cap_30 rfl (lv_at hl 1 rfl) ?_
        refine wi_aald (v := (a1.1 0)) hx hb hK hP 2 2 rfl rfl rfl (by omega) (by omega) (hm1) nd_CB_cap_31 ?_
        refine lv_iload_n hx hb nd_CB_cap_32 rfl (lv_at hl 2 rfl) ?_
        refine lv_iload_n hx hb nd_CB_cap_33 rfl (lv_at hl 3 rfl) ?_
        rw [← List.append_assoc] at hP hD
        refine wd_Vi (C := nr_MA) (n := 2) (X := ([((q 0), .inr (0, [.int (nI (n)), .int (nI (2 ^ n - 1)), .ref (q 1), .ref (q 2)])), ((q 1), .inl (cI, n, .inl w)), ((q 2), .inl (cM, 2, .inr (.inr (.inr (.inr mr)))))] ++ mw_ cI cG a0 n t0)) (Y := mw_ cI cG a1 n t1) (Z := []) hx hb hml hown htg (c_MA_setCap l D cI cG cM a1 n hn t1.1 t1.2.1 t1.2.2.1 t1.2.2.2.1 t1.2.2.2.2.1 t1.2.2.2.2.2 y.2.2 hI1 c01 k01 (by omega) (by omega) _) tm_210 tm_207 tm_208 tm_209 tm_2 (by decide +kernel) ⟨⟨Nat.le_trans (by decide) hRf, Nat.le_trans (by decide) hRl⟩, rfl, rfl⟩ hP hD hS hA hK hN (va_recv (q0 := 0) (ci := 1) hK (wm_P (X := ([((q 0), .inr (0, [.int (nI (n)), .int (nI (2 ^ n - 1)), .ref (q 1), .ref (q 2)])), ((q 1), .inl (cI, n, .inl w)), ((q 2), .inl (cM, 2, .inr (.inr (.inr (.inr mr)))))] ++ mw_ cI cG a0 n t0)) (Y := mw_ cI cG a1 n t1) (Z := []) hP).2.1 rfl rfl) rfl hl.1 rfl (Nat.le_of_ble_eq_true rfl) nd_CB_cap_34 hCS (fun v34 u34 H locs hp34 hP hD hS => ?_)
        rw [List.append_assoc] at hP hD
        have hP : va_P D cl_all ([((q 0), .inr (0, [.int (nI (n)), .int (nI (2 ^ n - 1)), .ref (q 1), .ref (q 2)])), ((q 1), .inl (cI, n, .inl w)), ((q 2), .inl (cM, 2, .inr (.inr (.inr (.inr mr)))))] ++ (mw_ cI cG a0 n t0 ++ (mw_ cI cG a1 n u34 ++ []))) H := hP
        have hD : va_D A ([((q 0), .inr (0, [.int (nI (n)), .int (nI (2 ^ n - 1)), .ref (q 1), .ref (q 2)])), ((q 1), .inl (cI, n, .inl w)), ((q 2), .inl (cM, 2, .inr (.inr (.inr (.inr mr)))))] ++ (mw_ cI cG a0 n t0 ++ (mw_ cI cG a1 n u34 ++ []))) := hD
        by_cases hkd : y.2.2.1 = 2
        · refine wi_top (hp34.1 hkd).1 ?_
          have hsp : sp_cap y (nI (1)) (nI (c01)) (nI (k01)) = (nI 1, (y.1, y.2.1, (y.2.2.1, y.2.2.2.1, y.2.2.2.2.1, y.2.2.2.2.2.1, y.2.2.2.2.2.2.1, va_up y.2.2.2.2.2.2.2.1 c01 k01, y.2.2.2.2.2.2.2.2))) := by unfold sp_cap; simp only [sw_1, sr_t h_c01 (show 3 < 2 ^ 31 by omega), tn_nI (show c01 < 2 ^ 31 by omega), sr_t h_k01 (show 10 < 2 ^ 31 by omega), tn_nI (show k01 < 2 ^ 31 by omega), tn_1]; simp [cb_m, cb_s, hkd]
          exact wb_zret ((w, t0, u34)) hx hb hr hk rfl hAe (by rw [hsp]; exact ⟨rfl, ⟨hI.1, hI0, (hp34.1 hkd).2⟩⟩) hP hD hS nd_CB_cap_37
        · refine wi_top (hp34.2 hkd).1 ?_
          have hsp : sp_cap y (nI (1)) (nI (c01)) (nI (k01)) = (nI 0, y) := by unfold sp_cap; simp only [sw_1, sr_t h_c01 (show 3 < 2 ^ 31 by omega), tn_nI (show c01 < 2 ^ 31 by omega), sr_t h_k01 (show 10 < 2 ^ 31 by omega), tn_nI (show k01 < 2 ^ 31 by omega), tn_1]; simp [cb_m, hkd]
          exact wb_zret ((w, t0, u34)) hx hb hr hk rfl hAe (by rw [hsp]; exact ⟨rfl, ⟨hI.1, hI0, (hp34.2 hkd).2⟩⟩) hP hD hS nd_CB_cap_37
      · refine wc_S (n := 2) hx hb hml hown htg (c_CB_isUpTo l D _ k0 (nI (10)) (nI 0) (fun h => absurd h hq18) (fun _ => rfl)) tm_144 tm_142 tm_143 tm_1 (by decide +kernel) ⟨⟨Nat.le_trans (by decide) hRf, Nat.le_trans (by decide) hRl⟩, rfl, rfl⟩ (wa_pre wa_nil hK hN) rfl hl.1 rfl (Nat.le_of_ble_eq_true rfl) nd_CB_cap_18 hCS ?_
        refine wi_if_ne (tgt := 26) hx hb (by decide) nd_CB_cap_21 rfl (fun h => absurd h (by decide)) (fun _ => ?_)
        refine wi_ic hx hb (a := 0) nd_CB_cap_24 ?_
        have hsp : sp_cap y (nI (1)) (nI (c01)) k0 = (nI 0, y) := by unfold sp_cap; simp [sr_f hq18]
        exact wb_zret ((w, t0, t1)) hx hb hr hk rfl hAe (by rw [hsp]; exact ⟨rfl, hI⟩) hP hD hS nd_CB_cap_25
    · refine wc_S (n := 2) hx hb hml hown htg (c_CB_isUpTo l D _ c0 (nI (3)) (nI 0) (fun h => absurd h hq9) (fun _ => rfl)) tm_144 tm_142 tm_143 tm_1 (by decide +kernel) ⟨⟨Nat.le_trans (by decide) hRf, Nat.le_trans (by decide) hRl⟩, rfl, rfl⟩ (wa_pre wa_nil hK hN) rfl hl.1 rfl (Nat.le_of_ble_eq_true rfl) nd_CB_cap_9 hCS ?_
      refine wi_if_eq (tgt := 24) hx hb (by decide) nd_CB_cap_12 rfl (fun _ => ?_) (fun h => absurd h (by decide))
      refine wi_ic hx hb (a := 0) nd_CB_cap_24 ?_
      have hsp : sp_cap y (nI (1)) c0 k0 = (nI 0, y) := by unfold sp_cap; simp [sr_f hq9]
      exact wb_zret ((w, t0, t1)) hx hb hr hk rfl hAe (by rw [hsp]; exact ⟨rfl, hI⟩) hP hD hS nd_CB_cap_25
  · refine wc_S (n := 1) hx hb hml hown htg (c_CB_isMatroid l D _ wh (nI 0) (fun h => absurd h (fun z => z.elim (fun z => hw1.1 (z.trans nI_0.symm)) hw1.2)) (fun _ => rfl)) tm_141 tm_139 tm_140 tm_1 (by decide +kernel) ⟨⟨Nat.le_trans (by decide) hRf, Nat.le_trans (by decide) hRl⟩, rfl, rfl⟩ (wa_pre wa_nil hK hN) rfl hl.1 rfl (Nat.le_of_ble_eq_true rfl) nd_CB_cap_1 hCS ?_
    refine wi_if_eq (tgt := 24) hx hb (by decide) nd_CB_cap_4 rfl (fun _ => ?_) (fun h => absurd h (by decide))
    refine wi_ic hx hb (a := 0) nd_CB_cap_24 ?_
    have hsp : sp_cap y wh c0 k0 = (nI 0, y) := by unfold sp_cap; simp [sw_n hw1]
    exact wb_zret ((w, t0, t1)) hx hb hr hk rfl hAe (by rw [hsp]; exact ⟨rfl, hI⟩) hP hD hS nd_CB_cap_25
theorem nd_CB_entry_0 : decode nc_CB_entry 0 = .ok (.iload_n 1, 1) := by decide +kernel
theorem nd_CB_entry_1 : decode nc_CB_entry 1 = .ok (.invokestatic 29, 3) := by decide +kernel
theorem nd_CB_entry_4 : decode nc_CB_entry 4 = .ok (.ifCond .eq 19, 3) := by decide +kernel
theorem nd_CB_entry_7 : decode nc_CB_entry 7 = .ok (.aload_n 0, 1) := by decide +kernel
theorem nd_CB_entry_8 : decode nc_CB_entry 8 = .ok (.iload_n 2, 1) := by decide +kernel
theorem nd_CB_entry_9 : decode nc_CB_entry 9 = .ok (.invokevirtual 43, 3) := by decide +kernel
theorem nd_CB_entry_12 : decode nc_CB_entry 12 = .ok (.ifCond .eq 11, 3) := by decide +kernel
theorem nd_CB_entry_15 : decode nc_CB_entry 15 = .ok (.iload_n 3, 1) := by decide +kernel
theorem nd_CB_entry_16 : decode nc_CB_entry 16 = .ok (.iconst 3, 1) := by decide +kernel
theorem nd_CB_entry_17 : decode nc_CB_entry 17 = .ok (.invokestatic 33, 3) := by decide +kernel
theorem nd_CB_entry_20 : decode nc_CB_entry 20 = .ok (.ifCond .ne 5, 3) := by decide +kernel
theorem nd_CB_entry_23 : decode nc_CB_entry 23 = .ok (.iconst 0, 1) := by decide +kernel
theorem nd_CB_entry_24 : decode nc_CB_entry 24 = .ok (.ireturn, 1) := by decide +kernel
theorem nd_CB_entry_25 : decode nc_CB_entry 25 = .ok (.aload_n 0, 1) := by decide +kernel
theorem nd_CB_entry_26 : decode nc_CB_entry 26 = .ok (.getfield 25, 3) := by decide +kernel
theorem nd_CB_entry_29 : decode nc_CB_entry 29 = .ok (.iload_n 1, 1) := by decide +kernel
theorem nd_CB_entry_30 : decode nc_CB_entry 30 = .ok (.aaload, 1) := by decide +kernel
theorem nd_CB_entry_31 : decode nc_CB_entry 31 = .ok (.iload_n 2, 1) := by decide +kernel
theorem nd_CB_entry_32 : decode nc_CB_entry 32 = .ok (.iload_n 3, 1) := by decide +kernel
theorem nd_CB_entry_33 : decode nc_CB_entry 33 = .ok (.iload 4, 2) := by decide +kernel
theorem nd_CB_entry_35 : decode nc_CB_entry 35 = .ok (.invokevirtual 65, 3) := by decide +kernel
theorem nd_CB_entry_38 : decode nc_CB_entry 38 = .ok (.ireturn, 1) := by decide +kernel
set_option maxRecDepth 20000 in
theorem c_CB_entry (l : Launch) (D : va_G) (cI cG cM : ClassId)  (q : Nat → Nat) (n : Nat) (hn1 : 1 ≤ n) (hn : n ≤ 10) (mr : Nat → Option Nat) (a0 a1 : ma_A) (hm0 : mr 0 = some (a0.1 0)) (hm1 : mr 1 = some (a1.1 0)) (w : Nat → Int32) (t0 t1 : ma_S) (y : cb_Y) (hI : cb_I n y (w, t0, t1)) (wh el r0 v0 : Int32) (sz : Nat) : wb_Mi l ny_CB_entry nc_CB_entry 5 (some .boolean) ({ frames := 3, cells := 0, slots := 0, locals := 70 }) D (ty_all cI cG cM) (cw_ cI cG cM q n mr a0 a1 (w, t0, t1)) sz [.ref (q 0), .int (wh), .int (el), .int (r0), .int (v0)] (fun (v : Int32) (u : cb_S) => v = (sp_entry n y wh el r0 v0).1 ∧ cb_I n (sp_entry n y wh el r0 v0).2 u) (fun u : cb_S => cw_ cI cG cM q n mr a0 a1 u) := by
  refine wb_start (S := cb_S) (by decide) (Nat.le_of_ble_eq_true rfl) ?_
  intro p e0 s0 m below meth c ls A hx hb hr hml htg hown hk hP hK hN hl hAe hsz hD hA
  have hl : lv_has ls 5 [(0, .ref (q 0)), (1, .int (wh)), (2, .int (el)), (3, .int (r0)), (4, .int (v0))] := hl
  have hP : va_P D cl_all ([((q 0), .inr (0, [.int (nI (n)), .int (nI (2 ^ n - 1)), .ref (q 1), .ref (q 2)])), ((q 1), .inl (cI, n, .inl w)), ((q 2), .inl (cM, 2, .inr (.inr (.inr (.inr mr)))))] ++ (mw_ cI cG a0 n t0 ++ (mw_ cI cG a1 n t1 ++ []))) s0.heap := hP
  have hD : va_D A ([((q 0), .inr (0, [.int (nI (n)), .int (nI (2 ^ n - 1)), .ref (q 1), .ref (q 2)])), ((q 1), .inl (cI, n, .inl w)), ((q 2), .inl (cM, 2, .inr (.inr (.inr (.inr mr)))))] ++ (mw_ cI cG a0 n t0 ++ (mw_ cI cG a1 n t1 ++ []))) := hD
  have hS : va_S A s0.heap s0.heap [] := va_S.rf
  have hRf : 3 ≤ ({ frames := 3, cells := 0, slots := 0, locals := 70 } : Room).frames := Nat.le_refl _
  have hRl : 70 ≤ ({ frames := 3, cells := 0, slots := 0, locals := 70 } : Room).locals := Nat.le_refl _
  have hCS : 0 ≤ ({ frames := 3, cells := 0, slots := 0, locals := 70 } : Room).cells ∧ 0 ≤ ({ frames := 3, cells := 0, slots := 0, locals := 70 } : Room).slots := ⟨Nat.zero_le _, Nat.zero_le _⟩
  have h2n : 2 ^ n ≤ 1024 := Nat.pow_le_pow_right (by omega) hn
  have h2p : 1 ≤ 2 ^ n := Nat.one_le_two_pow
  have hI0 : ma_I n y.2.1 t0 := hI.2.1
  have hI1 : ma_I n y.2.2 t1 := hI.2.2
  refine lv_iload_n hx hb nd_CB_entry_0 rfl (lv_at hl 1 rfl) ?_
  rcases sm_which wh with hw1 | hw1 | hw1
  · subst hw1
    refine wc_S (n := 1) hx hb hml hown htg (c_CB_isMatroid l D _ (nI 0) (nI 1) (fun _ => rfl) (fun h => absurd (Or.inl nI_0) h)) tm_141 tm_139 tm_140 tm_1 (by decide +kernel) ⟨⟨Nat.le_trans (by decide) hRf, Nat.le_trans (by decide) hRl⟩, rfl, rfl⟩ (wa_pre wa_nil hK hN) rfl hl.1 rfl (Nat.le_of_ble_eq_true rfl) nd_CB_entry_1 hCS ?_
    refine wi_if_eq (tgt := 23) hx hb (by decide) nd_CB_entry_4 rfl (fun h => absurd h (by decide)) (fun _ => ?_)
    refine lv_aload_n hx hb nd_CB_entry_7 rfl (lv_at hl 0 rfl) ?_
    refine lv_iload_n hx hb nd_CB_entry_8 rfl (lv_at hl 2 rfl) ?_
    by_cases hq9 : ¬ el < 0 ∧ ¬ nI n ≤ el
    · obtain ⟨el1, h_el1, rfl⟩ := sm_elem (by omega) hq9
      refine wc_V (C := nr_CB) (n := 1) hx hb hml hown htg (c_CB_isElement l D _ (q 0) (q 1) (q 2) n (nI el1) (nI 1) (fun _ => rfl) (fun h => absurd hq9 h)) tm_177 tm_174 tm_176 tp_2 tm_1 (by decide +kernel) ⟨⟨Nat.le_trans (by decide) hRf, Nat.le_trans (by decide) hRl⟩, rfl, rfl⟩ (wa_pre (hP.sub [0] rfl) hK hN) (va_recv (q0 := 0) (ci := 0) hK hP rfl rfl) rfl hl.1 rfl (Nat.le_of_ble_eq_true rfl) nd_CB_entry_9 hCS ?_
      refine wi_if_eq (tgt := 23) hx hb (by decide) nd_CB_entry_12 rfl (fun h => absurd h (by decide)) (fun _ => ?_)
      refine lv_iload_n hx hb nd_CB_entry_15 rfl (lv_at hl 3 rfl) ?_
      refine wi_ic hx hb (a := 3) nd_CB_entry_16 ?_
      by_cases hq17 : ¬ r0 < 0 ∧ ¬ nI (3) < r0
      · obtain ⟨r01, h_r01, rfl⟩ := sm_upto (by omega) hq17
        refine wc_S (n := 2) hx hb hml hown htg (c_CB_isUpTo l D _ (nI r01) (nI (3)) (nI 1) (fun _ => rfl) (fun h => absurd hq17 h)) tm_144 tm_142 tm_143 tm_1 (by decide +kernel) ⟨⟨Nat.le_trans (by decide) hRf, Nat.le_trans (by decide) hRl⟩, rfl, rfl⟩ (wa_pre wa_nil hK hN) rfl hl.1 rfl (Nat.le_of_ble_eq_true rfl) nd_CB_entry_17 hCS ?_
        refine wi_if_ne (tgt := 25) hx hb (by decide) nd_CB_entry_20 rfl (fun _ => ?_) (fun h => absurd h (by decide))
        refine lv_aload_n hx hb nd_CB_entry_25 rfl (lv_at hl 0 rfl) ?_
        refine va_get (D := D) (C := nr_CB) (T := nt_CB) (N := 4) hx hb htg tf_CB hown hK hP 0 rfl rfl 3 (by decide) (htg _ tm_125) (fun _ h => h) rfl nd_CB_entry_26 ?_
        refine lv_iload_n hx hb nd_CB_entry_29 rfl (lv_at hl 1 rfl) ?_
        refine wi_aald (v := (a0.1 0)) hx hb hK hP 2 2 rfl rfl rfl (by omega) (by omega) (hm0) nd_CB_entry_30 ?_
        refine lv_iload_n hx hb nd_CB_entry_31 rfl (lv_at hl 2 rfl) ?_
        refine lv_iload_n hx hb nd_CB_entry_32 rfl (lv_at hl 3 rfl) ?_
        refine lv_iload hx hb nd_CB_entry_33 (lv_at hl 4 rfl) ?_
        refine wd_Vi (C := nr_MA) (n := 3) (X := [((q 0), .inr (0, [.int (nI (n)), .int (nI (2 ^ n - 1)), .ref (q 1), .ref (q 2)])), ((q 1), .inl (cI, n, .inl w)), ((q 2), .inl (cM, 2, .inr (.inr (.inr (.inr mr)))))]) (Y := mw_ cI cG a0 n t0) (Z := (mw_ cI cG a1 n t1 ++ [])) hx hb hml hown htg (c_MA_setEntry l D cI cG cM a0 n hn t0.1 t0.2.1 t0.2.2.1 t0.2.2.2.1 t0.2.2.2.2.1 t0.2.2.2.2.2 y.2.1 hI0 el1 r01 (by omega) (by omega) v0 _) tm_234 tm_231 tm_232 tm_233 tm_2 (by decide +kernel) ⟨⟨Nat.le_trans (by decide) hRf, Nat.le_trans (by decide) hRl⟩, rfl, rfl⟩ hP hD hS hA hK hN (va_recv (q0 := 0) (ci := 1) hK (wm_P (X := [((q 0), .inr (0, [.int (nI (n)), .int (nI (2 ^ n - 1)), .ref (q 1), .ref (q 2)])), ((q 1), .inl (cI, n, .inl w)), ((q 2), .inl (cM, 2, .inr (.inr (.inr (.inr mr)))))]) (Y := mw_ cI cG a0 n t0) (Z := (mw_ cI cG a1 n t1 ++ [])) hP).2.1 rfl rfl) rfl hl.1 rfl (Nat.le_of_ble_eq_true rfl) nd_CB_entry_35 hCS (fun v35 u35 H locs hp35 hP hD hS => ?_)
        have hP : va_P D cl_all ([((q 0), .inr (0, [.int (nI (n)), .int (nI (2 ^ n - 1)), .ref (q 1), .ref (q 2)])), ((q 1), .inl (cI, n, .inl w)), ((q 2), .inl (cM, 2, .inr (.inr (.inr (.inr mr)))))] ++ (mw_ cI cG a0 n u35 ++ (mw_ cI cG a1 n t1 ++ []))) H := hP
        have hD : va_D A ([((q 0), .inr (0, [.int (nI (n)), .int (nI (2 ^ n - 1)), .ref (q 1), .ref (q 2)])), ((q 1), .inl (cI, n, .inl w)), ((q 2), .inl (cM, 2, .inr (.inr (.inr (.inr mr)))))] ++ (mw_ cI cG a0 n u35 ++ (mw_ cI cG a1 n t1 ++ []))) := hD
        by_cases hkd : y.2.1.1 = 3
        · refine wi_top (hp35.1 hkd).1 ?_
          have hsp : sp_entry n y (nI (0)) (nI (el1)) (nI (r01)) v0 = (nI 1, (y.1, (y.2.1.1, y.2.1.2.1, y.2.1.2.2.1, y.2.1.2.2.2.1, y.2.1.2.2.2.2.1, y.2.1.2.2.2.2.2.1, y.2.1.2.2.2.2.2.2.1, va_up y.2.1.2.2.2.2.2.2.2 el1 (va_up (y.2.1.2.2.2.2.2.2.2 el1) r01 (fm_ v0 y.2.1.2.2.2.2.2.2.1))), y.2.2)) := by unfold sp_entry; simp only [sw_0, sz_t h_el1 (show n < 2 ^ 31 by omega), tn_nI (show el1 < 2 ^ 31 by omega), sr_t h_r01 (show 3 < 2 ^ 31 by omega), tn_nI (show r01 < 2 ^ 31 by omega), tn_0]; simp [cb_m, cb_s, hkd]
          exact wb_zret ((w, u35, t1)) hx hb hr hk rfl hAe (by rw [hsp]; exact ⟨rfl, ⟨hI.1, (hp35.1 hkd).2, hI1⟩⟩) hP hD hS nd_CB_entry_38
        · refine wi_top (hp35.2 hkd).1 ?_
          have hsp : sp_entry n y (nI (0)) (nI (el1)) (nI (r01)) v0 = (nI 0, y) := by unfold sp_entry; simp only [sw_0, sz_t h_el1 (show n < 2 ^ 31 by omega), tn_nI (show el1 < 2 ^ 31 by omega), sr_t h_r01 (show 3 < 2 ^ 31 by omega), tn_nI (show r01 < 2 ^ 31 by omega), tn_0]; simp [cb_m, hkd]
          exact wb_zret ((w, u35, t1)) hx hb hr hk rfl hAe (by rw [hsp]; exact ⟨rfl, ⟨hI.1, (hp35.2 hkd).2, hI1⟩⟩) hP hD hS nd_CB_entry_38
      · refine wc_S (n := 2) hx hb hml hown htg (c_CB_isUpTo l D _ r0 (nI (3)) (nI 0) (fun h => absurd h hq17) (fun _ => rfl)) tm_144 tm_142 tm_143 tm_1 (by decide +kernel) ⟨⟨Nat.le_trans (by decide) hRf, Nat.le_trans (by decide) hRl⟩, rfl, rfl⟩ (wa_pre wa_nil hK hN) rfl hl.1 rfl (Nat.le_of_ble_eq_true rfl) nd_CB_entry_17 hCS ?_
        refine wi_if_ne (tgt := 25) hx hb (by decide) nd_CB_entry_20 rfl (fun h => absurd h (by decide)) (fun _ => ?_)
        refine wi_ic hx hb (a := 0) nd_CB_entry_23 ?_
        have hsp : sp_entry n y (nI (0)) (nI (el1)) r0 v0 = (nI 0, y) := by unfold sp_entry; simp [sr_f hq17]
        exact wb_zret ((w, t0, t1)) hx hb hr hk rfl hAe (by rw [hsp]; exact ⟨rfl, hI⟩) hP hD hS nd_CB_entry_24
    · refine wc_V (C := nr_CB) (n := 1) hx hb hml hown htg (c_CB_isElement l D _ (q 0) (q 1) (q 2) n el (nI 0) (fun h => absurd h hq9) (fun _ => rfl)) tm_177 tm_174 tm_176 tp_2 tm_1 (by decide +kernel) ⟨⟨Nat.le_trans (by decide) hRf, Nat.le_trans (by decide) hRl⟩, rfl, rfl⟩ (wa_pre (hP.sub [0] rfl) hK hN) (va_recv (q0 := 0) (ci := 0) hK hP rfl rfl) rfl hl.1 rfl (Nat.le_of_ble_eq_true rfl) nd_CB_entry_9 hCS ?_
      refine wi_if_eq (tgt := 23) hx hb (by decide) nd_CB_entry_12 rfl (fun _ => ?_) (fun h => absurd h (by decide))
      refine wi_ic hx hb (a := 0) nd_CB_entry_23 ?_
      have hsp : sp_entry n y (nI (0)) el r0 v0 = (nI 0, y) := by unfold sp_entry; simp [sz_f hn1 (show n < 2 ^ 31 by omega) hq9]
      exact wb_zret ((w, t0, t1)) hx hb hr hk rfl hAe (by rw [hsp]; exact ⟨rfl, hI⟩) hP hD hS nd_CB_entry_24
  · subst hw1
    refine wc_S (n := 1) hx hb hml hown htg (c_CB_isMatroid l D _ (nI 1) (nI 1) (fun _ => rfl) (fun h => absurd (Or.inr rfl) h)) tm_141 tm_139 tm_140 tm_1 (by decide +kernel) ⟨⟨Nat.le_trans (by decide) hRf, Nat.le_trans (by decide) hRl⟩, rfl, rfl⟩ (wa_pre wa_nil hK hN) rfl hl.1 rfl (Nat.le_of_ble_eq_true rfl) nd_CB_entry_1 hCS ?_
    refine wi_if_eq (tgt := 23) hx hb (by decide) nd_CB_entry_4 rfl (fun h => absurd h (by decide)) (fun _ => ?_)
    refine lv_aload_n hx hb nd_CB_entry_7 rfl (lv_at hl 0 rfl) ?_
    refine lv_iload_n hx hb nd_CB_entry_8 rfl (lv_at hl 2 rfl) ?_
    by_cases hq9 : ¬ el < 0 ∧ ¬ nI n ≤ el
    · obtain ⟨el1, h_el1, rfl⟩ := sm_elem (by omega) hq9
      refine wc_V (C := nr_CB) (n := 1) hx hb hml hown htg (c_CB_isElement l D _ (q 0) (q 1) (q 2) n (nI el1) (nI 1) (fun _ => rfl) (fun h => absurd hq9 h)) tm_177 tm_174 tm_176 tp_2 tm_1 (by decide +kernel) ⟨⟨Nat.le_trans (by decide) hRf, Nat.le_trans (by decide) hRl⟩, rfl, rfl⟩ (wa_pre (hP.sub [0] rfl) hK hN) (va_recv (q0 := 0) (ci := 0) hK hP rfl rfl) rfl hl.1 rfl (Nat.le_of_ble_eq_true rfl) nd_CB_entry_9 hCS ?_
      refine wi_if_eq (tgt := 23) hx hb (by decide) nd_CB_entry_12 rfl (fun h => absurd h (by decide)) (fun _ => ?_)
      refine lv_iload_n hx hb nd_CB_entry_15 rfl (lv_at hl 3 rfl) ?_
      refine wi_ic hx hb (a := 3) nd_CB_entry_16 ?_
      by_cases hq17 : ¬ r0 < 0 ∧ ¬ nI (3) < r0
      · obtain ⟨r01, h_r01, rfl⟩ := sm_upto (by omega) hq17
        refine wc_S (n := 2) hx hb hml hown htg (c_CB_isUpTo l D _ (nI r01) (nI (3)) (nI 1) (fun _ => rfl) (fun h => absurd hq17 h)) tm_144 tm_142 tm_143 tm_1 (by decide +kernel) ⟨⟨Nat.le_trans (by decide) hRf, Nat.le_trans (by decide) hRl⟩, rfl, rfl⟩ (wa_pre wa_nil hK hN) rfl hl.1 rfl (Nat.le_of_ble_eq_true rfl) nd_CB_entry_17 hCS ?_
        refine wi_if_ne (tgt := 25) hx hb (by decide) nd_CB_entry_20 rfl (fun _ => ?_) (fun h => absurd h (by decide))
        refine lv_aload_n hx hb nd_CB_entry_25 rfl (lv_at hl 0 rfl) ?_
        refine va_get (D := D) (C := nr_CB) (T := nt_CB) (N := 4) hx hb htg tf_CB hown hK hP 0 rfl rfl 3 (by decide) (htg _ tm_125) (fun _ h => h) rfl nd_CB_entry_26 ?_
        refine lv_iload_n hx hb nd_CB_entry_29 rfl (lv_at hl 1 rfl) ?_
        refine wi_aald (v := (a1.1 0)) hx hb hK hP 2 2 rfl rfl rfl (by omega) (by omega) (hm1) nd_CB_entry_30 ?_
        refine lv_iload_n hx hb nd_CB_entry_31 rfl (lv_at hl 2 rfl) ?_
        refine lv_iload_n hx hb nd_CB_entry_32 rfl (lv_at hl 3 rfl) ?_
        refine lv_iload hx hb nd_CB_entry_33 (lv_at hl 4 rfl) ?_
        rw [← List.append_assoc] at hP hD
        refine wd_Vi (C := nr_MA) (n := 3) (X := ([((q 0), .inr (0, [.int (nI (n)), .int (nI (2 ^ n - 1)), .ref (q 1), .ref (q 2)])), ((q 1), .inl (cI, n, .inl w)), ((q 2), .inl (cM, 2, .inr (.inr (.inr (.inr mr)))))] ++ mw_ cI cG a0 n t0)) (Y := mw_ cI cG a1 n t1) (Z := []) hx hb hml hown htg (c_MA_setEntry l D cI cG cM a1 n hn t1.1 t1.2.1 t1.2.2.1 t1.2.2.2.1 t1.2.2.2.2.1 t1.2.2.2.2.2 y.2.2 hI1 el1 r01 (by omega) (by omega) v0 _) tm_234 tm_231 tm_232 tm_233 tm_2 (by decide +kernel) ⟨⟨Nat.le_trans (by decide) hRf, Nat.le_trans (by decide) hRl⟩, rfl, rfl⟩ hP hD hS hA hK hN (va_recv (q0 := 0) (ci := 1) hK (wm_P (X := ([((q 0), .inr (0, [.int (nI (n)), .int (nI (2 ^ n - 1)), .ref (q 1), .ref (q 2)])), ((q 1), .inl (cI, n, .inl w)), ((q 2), .inl (cM, 2, .inr (.inr (.inr (.inr mr)))))] ++ mw_ cI cG a0 n t0)) (Y := mw_ cI cG a1 n t1) (Z := []) hP).2.1 rfl rfl) rfl hl.1 rfl (Nat.le_of_ble_eq_true rfl) nd_CB_entry_35 hCS (fun v35 u35 H locs hp35 hP hD hS => ?_)
        rw [List.append_assoc] at hP hD
        have hP : va_P D cl_all ([((q 0), .inr (0, [.int (nI (n)), .int (nI (2 ^ n - 1)), .ref (q 1), .ref (q 2)])), ((q 1), .inl (cI, n, .inl w)), ((q 2), .inl (cM, 2, .inr (.inr (.inr (.inr mr)))))] ++ (mw_ cI cG a0 n t0 ++ (mw_ cI cG a1 n u35 ++ []))) H := hP
        have hD : va_D A ([((q 0), .inr (0, [.int (nI (n)), .int (nI (2 ^ n - 1)), .ref (q 1), .ref (q 2)])), ((q 1), .inl (cI, n, .inl w)), ((q 2), .inl (cM, 2, .inr (.inr (.inr (.inr mr)))))] ++ (mw_ cI cG a0 n t0 ++ (mw_ cI cG a1 n u35 ++ []))) := hD
        by_cases hkd : y.2.2.1 = 3
        · refine wi_top (hp35.1 hkd).1 ?_
          have hsp : sp_entry n y (nI (1)) (nI (el1)) (nI (r01)) v0 = (nI 1, (y.1, y.2.1, (y.2.2.1, y.2.2.2.1, y.2.2.2.2.1, y.2.2.2.2.2.1, y.2.2.2.2.2.2.1, y.2.2.2.2.2.2.2.1, y.2.2.2.2.2.2.2.2.1, va_up y.2.2.2.2.2.2.2.2.2 el1 (va_up (y.2.2.2.2.2.2.2.2.2 el1) r01 (fm_ v0 y.2.2.2.2.2.2.2.2.1))))) := by unfold sp_entry; simp only [sw_1, sz_t h_el1 (show n < 2 ^ 31 by omega), tn_nI (show el1 < 2 ^ 31 by omega), sr_t h_r01 (show 3 < 2 ^ 31 by omega), tn_nI (show r01 < 2 ^ 31 by omega), tn_1]; simp [cb_m, cb_s, hkd]
          exact wb_zret ((w, t0, u35)) hx hb hr hk rfl hAe (by rw [hsp]; exact ⟨rfl, ⟨hI.1, hI0, (hp35.1 hkd).2⟩⟩) hP hD hS nd_CB_entry_38
        · refine wi_top (hp35.2 hkd).1 ?_
          have hsp : sp_entry n y (nI (1)) (nI (el1)) (nI (r01)) v0 = (nI 0, y) := by unfold sp_entry; simp only [sw_1, sz_t h_el1 (show n < 2 ^ 31 by omega), tn_nI (show el1 < 2 ^ 31 by omega), sr_t h_r01 (show 3 < 2 ^ 31 by omega), tn_nI (show r01 < 2 ^ 31 by omega), tn_1]; simp [cb_m, hkd]
          exact wb_zret ((w, t0, u35)) hx hb hr hk rfl hAe (by rw [hsp]; exact ⟨rfl, ⟨hI.1, hI0, (hp35.2 hkd).2⟩⟩) hP hD hS nd_CB_entry_38
      · refine wc_S (n := 2) hx hb hml hown htg (c_CB_isUpTo l D _ r0 (nI (3)) (nI 0) (fun h => absurd h hq17) (fun _ => rfl)) tm_144 tm_142 tm_143 tm_1 (by decide +kernel) ⟨⟨Nat.le_trans (by decide) hRf, Nat.le_trans (by decide) hRl⟩, rfl, rfl⟩ (wa_pre wa_nil hK hN) rfl hl.1 rfl (Nat.le_of_ble_eq_true rfl) nd_CB_entry_17 hCS ?_
        refine wi_if_ne (tgt := 25) hx hb (by decide) nd_CB_entry_20 rfl (fun h => absurd h (by decide)) (fun _ => ?_)
        refine wi_ic hx hb (a := 0) nd_CB_entry_23 ?_
        have hsp : sp_entry n y (nI (1)) (nI (el1)) r0 v0 = (nI 0, y) := by unfold sp_entry; simp [sr_f hq17]
        exact wb_zret ((w, t0, t1)) hx hb hr hk rfl hAe (by rw [hsp]; exact ⟨rfl, hI⟩) hP hD hS nd_CB_entry_24
    · refine wc_V (C := nr_CB) (n := 1) hx hb hml hown htg (c_CB_isElement l D _ (q 0) (q 1) (q 2) n el (nI 0) (fun h => absurd h hq9) (fun _ => rfl)) tm_177 tm_174 tm_176 tp_2 tm_1 (by decide +kernel) ⟨⟨Nat.le_trans (by decide) hRf, Nat.le_trans (by decide) hRl⟩, rfl, rfl⟩ (wa_pre (hP.sub [0] rfl) hK hN) (va_recv (q0 := 0) (ci := 0) hK hP rfl rfl) rfl hl.1 rfl (Nat.le_of_ble_eq_true rfl) nd_CB_entry_9 hCS ?_
      refine wi_if_eq (tgt := 23) hx hb (by decide) nd_CB_entry_12 rfl (fun _ => ?_) (fun h => absurd h (by decide))
      refine wi_ic hx hb (a := 0) nd_CB_entry_23 ?_
      have hsp : sp_entry n y (nI (1)) el r0 v0 = (nI 0, y) := by unfold sp_entry; simp [sz_f hn1 (show n < 2 ^ 31 by omega) hq9]
      exact wb_zret ((w, t0, t1)) hx hb hr hk rfl hAe (by rw [hsp]; exact ⟨rfl, hI⟩) hP hD hS nd_CB_entry_24
  · refine wc_S (n := 1) hx hb hml hown htg (c_CB_isMatroid l D _ wh (nI 0) (fun h => absurd h (fun z => z.elim (fun z => hw1.1 (z.trans nI_0.symm)) hw1.2)) (fun _ => rfl)) tm_141 tm_139 tm_140 tm_1 (by decide +kernel) ⟨⟨Nat.le_trans (by decide) hRf, Nat.le_trans (by decide) hRl⟩, rfl, rfl⟩ (wa_pre wa_nil hK hN) rfl hl.1 rfl (Nat.le_of_ble_eq_true rfl) nd_CB_entry_1 hCS ?_
    refine wi_if_eq (tgt := 23) hx hb (by decide) nd_CB_entry_4 rfl (fun _ => ?_) (fun h => absurd h (by decide))
    refine wi_ic hx hb (a := 0) nd_CB_entry_23 ?_
    have hsp : sp_entry n y wh el r0 v0 = (nI 0, y) := by unfold sp_entry; simp [sw_n hw1]
    exact wb_zret ((w, t0, t1)) hx hb hr hk rfl hAe (by rw [hsp]; exact ⟨rfl, hI⟩) hP hD hS nd_CB_entry_24
theorem nd_CB_weight_0 : decode nc_CB_weight 0 = .ok (.aload_n 0, 1) := by decide +kernel
theorem nd_CB_weight_1 : decode nc_CB_weight 1 = .ok (.iload_n 1, 1) := by decide +kernel
theorem nd_CB_weight_2 : decode nc_CB_weight 2 = .ok (.invokevirtual 43, 3) := by decide +kernel
theorem nd_CB_weight_5 : decode nc_CB_weight 5 = .ok (.ifCond .eq 15, 3) := by decide +kernel
theorem nd_CB_weight_8 : decode nc_CB_weight 8 = .ok (.iload_n 2, 1) := by decide +kernel
theorem nd_CB_weight_9 : decode nc_CB_weight 9 = .ok (.ldc 68, 2) := by decide +kernel
theorem nd_CB_weight_11 : decode nc_CB_weight 11 = .ok (.if_icmp .lt 9, 3) := by decide +kernel
theorem nd_CB_weight_14 : decode nc_CB_weight 14 = .ok (.iload_n 2, 1) := by decide +kernel
theorem nd_CB_weight_15 : decode nc_CB_weight 15 = .ok (.ldc 69, 2) := by decide +kernel
theorem nd_CB_weight_17 : decode nc_CB_weight 17 = .ok (.if_icmp .le 5, 3) := by decide +kernel
theorem nd_CB_weight_20 : decode nc_CB_weight 20 = .ok (.iconst 0, 1) := by decide +kernel
theorem nd_CB_weight_21 : decode nc_CB_weight 21 = .ok (.ireturn, 1) := by decide +kernel
theorem nd_CB_weight_22 : decode nc_CB_weight 22 = .ok (.aload_n 0, 1) := by decide +kernel
theorem nd_CB_weight_23 : decode nc_CB_weight 23 = .ok (.getfield 16, 3) := by decide +kernel
theorem nd_CB_weight_26 : decode nc_CB_weight 26 = .ok (.iload_n 1, 1) := by decide +kernel
theorem nd_CB_weight_27 : decode nc_CB_weight 27 = .ok (.iload_n 2, 1) := by decide +kernel
theorem nd_CB_weight_28 : decode nc_CB_weight 28 = .ok (.iastore, 1) := by decide +kernel
theorem nd_CB_weight_29 : decode nc_CB_weight 29 = .ok (.iconst 1, 1) := by decide +kernel
theorem nd_CB_weight_30 : decode nc_CB_weight 30 = .ok (.ireturn, 1) := by decide +kernel
set_option maxRecDepth 20000 in
theorem c_CB_weight (l : Launch) (D : va_G) (cI cG cM : ClassId)  (q : Nat → Nat) (n : Nat) (hn1 : 1 ≤ n) (hn : n ≤ 10) (mr : Nat → Option Nat) (a0 a1 : ma_A) (hm0 : mr 0 = some (a0.1 0)) (hm1 : mr 1 = some (a1.1 0)) (w : Nat → Int32) (t0 t1 : ma_S) (y : cb_Y) (hI : cb_I n y (w, t0, t1)) (el ww : Int32) (sz : Nat) : wb_Mi l ny_CB_weight nc_CB_weight 3 (some .boolean) ({ frames := 1, cells := 0, slots := 0, locals := 21 }) D (ty_all cI cG cM) (cw_ cI cG cM q n mr a0 a1 (w, t0, t1)) sz [.ref (q 0), .int (el), .int (ww)] (fun (v : Int32) (u : cb_S) => v = (sp_weight n y el ww).1 ∧ cb_I n (sp_weight n y el ww).2 u) (fun u : cb_S => cw_ cI cG cM q n mr a0 a1 u) := by
  refine wb_start (S := cb_S) (by decide) (Nat.le_of_ble_eq_true rfl) ?_
  intro p e0 s0 m below meth c ls A hx hb hr hml htg hown hk hP hK hN hl hAe hsz hD hA
  have hl : lv_has ls 3 [(0, .ref (q 0)), (1, .int (el)), (2, .int (ww))] := hl
  have hP : va_P D cl_all ([((q 0), .inr (0, [.int (nI (n)), .int (nI (2 ^ n - 1)), .ref (q 1), .ref (q 2)])), ((q 1), .inl (cI, n, .inl w)), ((q 2), .inl (cM, 2, .inr (.inr (.inr (.inr mr)))))] ++ (mw_ cI cG a0 n t0 ++ (mw_ cI cG a1 n t1 ++ []))) s0.heap := hP
  have hD : va_D A ([((q 0), .inr (0, [.int (nI (n)), .int (nI (2 ^ n - 1)), .ref (q 1), .ref (q 2)])), ((q 1), .inl (cI, n, .inl w)), ((q 2), .inl (cM, 2, .inr (.inr (.inr (.inr mr)))))] ++ (mw_ cI cG a0 n t0 ++ (mw_ cI cG a1 n t1 ++ []))) := hD
  have hS : va_S A s0.heap s0.heap [] := va_S.rf
  have hRf : 1 ≤ ({ frames := 1, cells := 0, slots := 0, locals := 21 } : Room).frames := Nat.le_refl _
  have hRl : 21 ≤ ({ frames := 1, cells := 0, slots := 0, locals := 21 } : Room).locals := Nat.le_refl _
  have hCS : 0 ≤ ({ frames := 1, cells := 0, slots := 0, locals := 21 } : Room).cells ∧ 0 ≤ ({ frames := 1, cells := 0, slots := 0, locals := 21 } : Room).slots := ⟨Nat.zero_le _, Nat.zero_le _⟩
  have h2n : 2 ^ n ≤ 1024 := Nat.pow_le_pow_right (by omega) hn
  have h2p : 1 ≤ 2 ^ n := Nat.one_le_two_pow
  have hI0 : ma_I n y.2.1 t0 := hI.2.1
  have hI1 : ma_I n y.2.2 t1 := hI.2.2
  refine lv_aload_n hx hb nd_CB_weight_0 rfl (lv_at hl 0 rfl) ?_
  refine lv_iload_n hx hb nd_CB_weight_1 rfl (lv_at hl 1 rfl) ?_
  by_cases hq2 : ¬ el < 0 ∧ ¬ nI n ≤ el
  · obtain ⟨el1, h_el1, rfl⟩ := sm_elem (by omega) hq2
    refine wc_V (C := nr_CB) (n := 1) hx hb hml hown htg (c_CB_isElement l D _ (q 0) (q 1) (q 2) n (nI el1) (nI 1) (fun _ => rfl) (fun h => absurd hq2 h)) tm_177 tm_174 tm_176 tp_2 tm_1 (by decide +kernel) ⟨⟨Nat.le_trans (by decide) hRf, Nat.le_trans (by decide) hRl⟩, rfl, rfl⟩ (wa_pre (hP.sub [0] rfl) hK hN) (va_recv (q0 := 0) (ci := 0) hK hP rfl rfl) rfl hl.1 rfl (Nat.le_of_ble_eq_true rfl) nd_CB_weight_2 hCS ?_
    refine wi_if_eq (tgt := 20) hx hb (by decide) nd_CB_weight_5 rfl (fun h => absurd h (by decide)) (fun _ => ?_)
    refine lv_iload_n hx hb nd_CB_weight_8 rfl (lv_at hl 2 rfl) ?_
    refine lv_ldc hx hb hown (htg _ tm_246) nd_CB_weight_9 ?_
    refine lv_icmp_lt (tgt := 20) hx hb nd_CB_weight_11 rfl (fun hc11 => ?_) (fun hc11 => ?_)
    · refine wi_ic hx hb (a := 0) nd_CB_weight_20 ?_
      have hsp : sp_weight n y (nI (el1)) ww = (nI 0, y) := by unfold sp_weight; simp [hc11]
      exact wb_zret (w, t0, t1) hx hb hr hk rfl hAe (by rw [hsp]; exact ⟨rfl, hI⟩) hP hD hS nd_CB_weight_21
    · refine lv_iload_n hx hb nd_CB_weight_14 rfl (lv_at hl 2 rfl) ?_
      refine lv_ldc hx hb hown (htg _ tm_247) nd_CB_weight_15 ?_
      refine lv_icmp_le (tgt := 22) hx hb nd_CB_weight_17 rfl (fun hc17 => ?_) (fun hc17 => ?_)
      · refine lv_aload_n hx hb nd_CB_weight_22 rfl (lv_at hl 0 rfl) ?_
        refine va_get (D := D) (C := nr_CB) (T := nt_CB) (N := 4) hx hb htg tf_CB hown hK hP 0 rfl rfl 2 (by decide) (htg _ tm_124) (fun _ h => h) rfl nd_CB_weight_23 ?_
        refine lv_iload_n hx hb nd_CB_weight_26 rfl (lv_at hl 1 rfl) ?_
        refine lv_iload_n hx hb nd_CB_weight_27 rfl (lv_at hl 2 rfl) ?_
        refine wi_iast hx hb hK hP hD hS 1 0 rfl rfl (by omega) (by omega) nd_CB_weight_28 (fun H locs hP hD hS => ?_)
        have hP : va_P D cl_all ([((q 0), .inr (0, [.int (nI (n)), .int (nI (2 ^ n - 1)), .ref (q 1), .ref (q 2)])), ((q 1), .inl (cI, n, .inl (upd w el1 ww))), ((q 2), .inl (cM, 2, .inr (.inr (.inr (.inr mr)))))] ++ (mw_ cI cG a0 n t0 ++ (mw_ cI cG a1 n t1 ++ []))) H := hP
        have hD : va_D A ([((q 0), .inr (0, [.int (nI (n)), .int (nI (2 ^ n - 1)), .ref (q 1), .ref (q 2)])), ((q 1), .inl (cI, n, .inl (upd w el1 ww))), ((q 2), .inl (cM, 2, .inr (.inr (.inr (.inr mr)))))] ++ (mw_ cI cG a0 n t0 ++ (mw_ cI cG a1 n t1 ++ []))) := hD
        refine wi_ic hx hb (a := 1) nd_CB_weight_29 ?_
        have hsp : sp_weight n y (nI el1) ww = (nI 1, (upd y.1 el1 ww, y.2)) := by unfold sp_weight; rw [sz_t h_el1 (show n < 2 ^ 31 by omega), tn_nI (show el1 < 2 ^ 31 by omega)]; simp [hc11, hc17]
        have b1 : -1000000 ≤ ww.toInt := by have := Int32.le_iff_toInt_le.mp (Int32.not_lt.mp hc11); simpa using this
        have b2 : ww.toInt ≤ 1000000 := by have := Int32.le_iff_toInt_le.mp hc17; simpa using this
        exact wb_zret (upd w el1 ww, t0, t1) hx hb hr hk rfl hAe (by rw [hsp]; exact ⟨rfl, fun e he => if q : e = el1 then by simp [upd, q]; exact ⟨b1, b2⟩ else by simp [upd, q]; exact hI.1 e he, hI.2⟩) hP hD hS nd_CB_weight_30
      · refine wi_ic hx hb (a := 0) nd_CB_weight_20 ?_
        have hsp : sp_weight n y (nI (el1)) ww = (nI 0, y) := by unfold sp_weight; simp [hc17]
        exact wb_zret (w, t0, t1) hx hb hr hk rfl hAe (by rw [hsp]; exact ⟨rfl, hI⟩) hP hD hS nd_CB_weight_21
  · refine wc_V (C := nr_CB) (n := 1) hx hb hml hown htg (c_CB_isElement l D _ (q 0) (q 1) (q 2) n el (nI 0) (fun h => absurd h hq2) (fun _ => rfl)) tm_177 tm_174 tm_176 tp_2 tm_1 (by decide +kernel) ⟨⟨Nat.le_trans (by decide) hRf, Nat.le_trans (by decide) hRl⟩, rfl, rfl⟩ (wa_pre (hP.sub [0] rfl) hK hN) (va_recv (q0 := 0) (ci := 0) hK hP rfl rfl) rfl hl.1 rfl (Nat.le_of_ble_eq_true rfl) nd_CB_weight_2 hCS ?_
    refine wi_if_eq (tgt := 20) hx hb (by decide) nd_CB_weight_5 rfl (fun _ => ?_) (fun h => absurd h (by decide))
    refine wi_ic hx hb (a := 0) nd_CB_weight_20 ?_
    have hsp : sp_weight n y el ww = (nI 0, y) := by unfold sp_weight; simp [sz_f hn1 (show n < 2 ^ 31 by omega) hq2]
    exact wb_zret (w, t0, t1) hx hb hr hk rfl hAe (by rw [hsp]; exact ⟨rfl, hI⟩) hP hD hS nd_CB_weight_21
noncomputable def sp_rank (n : Nat) (y : cb_Y) (wh s : Int32) : Int32 := if sw_ wh && sr_ s (nI (2 ^ n - 1)) then nI (ma_r n (cb_m y (tn_ wh)) (tn_ s)) else -1
noncomputable def sp_indep (n : Nat) (y : cb_Y) (wh s : Int32) : Int32 := if sw_ wh && sr_ s (nI (2 ^ n - 1)) then (if ma_r n (cb_m y (tn_ wh)) (tn_ s) = mt_cd n (tn_ s) then nI 1 else nI 0) else -1
def sp_weightOf (n : Nat) (y : cb_Y) (s : Int32) : Int32 := if sr_ s (nI (2 ^ n - 1)) then ms_W y.1 n (tn_ s) else 0
theorem ms_W_eq {v w : Nat → Int32} {n s : Nat} (h : ∀ e, e < n → v e = w e) : ms_W v n s = ms_W w n s := by
  induction n with
  | zero => rfl
  | succ k ih => simp only [ms_W]; rw [ih (fun e he => h e (by omega)), h k (by omega)]
theorem nd_CB_rank_0 : decode nc_CB_rank 0 = .ok (.iload_n 1, 1) := by decide +kernel
theorem nd_CB_rank_1 : decode nc_CB_rank 1 = .ok (.invokestatic 29, 3) := by decide +kernel
theorem nd_CB_rank_4 : decode nc_CB_rank 4 = .ok (.ifCond .eq 11, 3) := by decide +kernel
theorem nd_CB_rank_7 : decode nc_CB_rank 7 = .ok (.aload_n 0, 1) := by decide +kernel
theorem nd_CB_rank_8 : decode nc_CB_rank 8 = .ok (.iload_n 2, 1) := by decide +kernel
theorem nd_CB_rank_9 : decode nc_CB_rank 9 = .ok (.invokevirtual 70, 3) := by decide +kernel
theorem nd_CB_rank_12 : decode nc_CB_rank 12 = .ok (.ifCond .ne 5, 3) := by decide +kernel
theorem nd_CB_rank_15 : decode nc_CB_rank 15 = .ok (.iconst (-1), 1) := by decide +kernel
theorem nd_CB_rank_16 : decode nc_CB_rank 16 = .ok (.ireturn, 1) := by decide +kernel
theorem nd_CB_rank_17 : decode nc_CB_rank 17 = .ok (.aload_n 0, 1) := by decide +kernel
theorem nd_CB_rank_18 : decode nc_CB_rank 18 = .ok (.getfield 25, 3) := by decide +kernel
theorem nd_CB_rank_21 : decode nc_CB_rank 21 = .ok (.iload_n 1, 1) := by decide +kernel
theorem nd_CB_rank_22 : decode nc_CB_rank 22 = .ok (.aaload, 1) := by decide +kernel
theorem nd_CB_rank_23 : decode nc_CB_rank 23 = .ok (.iload_n 2, 1) := by decide +kernel
theorem nd_CB_rank_24 : decode nc_CB_rank 24 = .ok (.invokevirtual 76, 3) := by decide +kernel
theorem nd_CB_rank_27 : decode nc_CB_rank 27 = .ok (.ireturn, 1) := by decide +kernel
set_option maxRecDepth 20000 in
theorem c_CB_rank (l : Launch) (D : va_G) (cI cG cM : ClassId)  (q : Nat → Nat) (n : Nat) (hn1 : 1 ≤ n) (hn : n ≤ 10) (mr : Nat → Option Nat) (a0 a1 : ma_A) (hm0 : mr 0 = some (a0.1 0)) (hm1 : mr 1 = some (a1.1 0)) (w : Nat → Int32) (t0 t1 : ma_S) (y : cb_Y) (hI : cb_I n y (w, t0, t1)) (wh s : Int32) (sz : Nat) : wb_Mi l ny_CB_rank nc_CB_rank 3 (some .int) ({ frames := 5, cells := 0, slots := 0, locals := 112 }) D (ty_all cI cG cM) (cw_ cI cG cM q n mr a0 a1 (w, t0, t1)) sz [.ref (q 0), .int (wh), .int (s)] (fun (v : Int32) (u : cb_S) => v = sp_rank n y wh s ∧ cb_I n y u) (fun u : cb_S => cw_ cI cG cM q n mr a0 a1 u) := by
  refine wb_start (S := cb_S) (by decide) (Nat.le_of_ble_eq_true rfl) ?_
  intro p e0 s0 m below meth c ls A hx hb hr hml htg hown hk hP hK hN hl hAe hsz hD hA
  have hl : lv_has ls 3 [(0, .ref (q 0)), (1, .int (wh)), (2, .int (s))] := hl
  have hP : va_P D cl_all ([((q 0), .inr (0, [.int (nI (n)), .int (nI (2 ^ n - 1)), .ref (q 1), .ref (q 2)])), ((q 1), .inl (cI, n, .inl w)), ((q 2), .inl (cM, 2, .inr (.inr (.inr (.inr mr)))))] ++ (mw_ cI cG a0 n t0 ++ (mw_ cI cG a1 n t1 ++ []))) s0.heap := hP
  have hD : va_D A ([((q 0), .inr (0, [.int (nI (n)), .int (nI (2 ^ n - 1)), .ref (q 1), .ref (q 2)])), ((q 1), .inl (cI, n, .inl w)), ((q 2), .inl (cM, 2, .inr (.inr (.inr (.inr mr)))))] ++ (mw_ cI cG a0 n t0 ++ (mw_ cI cG a1 n t1 ++ []))) := hD
  have hS : va_S A s0.heap s0.heap [] := va_S.rf
  have hRf : 5 ≤ ({ frames := 5, cells := 0, slots := 0, locals := 112 } : Room).frames := Nat.le_refl _
  have hRl : 112 ≤ ({ frames := 5, cells := 0, slots := 0, locals := 112 } : Room).locals := Nat.le_refl _
  have hCS : 0 ≤ ({ frames := 5, cells := 0, slots := 0, locals := 112 } : Room).cells ∧ 0 ≤ ({ frames := 5, cells := 0, slots := 0, locals := 112 } : Room).slots := ⟨Nat.zero_le _, Nat.zero_le _⟩
  have h2n : 2 ^ n ≤ 1024 := Nat.pow_le_pow_right (by omega) hn
  have h2p : 1 ≤ 2 ^ n := Nat.one_le_two_pow
  have hI0 : ma_I n y.2.1 t0 := hI.2.1
  have hI1 : ma_I n y.2.2 t1 := hI.2.2
  refine lv_iload_n hx hb nd_CB_rank_0 rfl (lv_at hl 1 rfl) ?_
  rcases sm_which wh with hw1 | hw1 | hw1
  · subst hw1
    refine wc_S (n := 1) hx hb hml hown htg (c_CB_isMatroid l D _ (nI 0) (nI 1) (fun _ => rfl) (fun h => absurd (Or.inl nI_0) h)) tm_141 tm_139 tm_140 tm_1 (by decide +kernel) ⟨⟨Nat.le_trans (by decide) hRf, Nat.le_trans (by decide) hRl⟩, rfl, rfl⟩ (wa_pre wa_nil hK hN) rfl hl.1 rfl (Nat.le_of_ble_eq_true rfl) nd_CB_rank_1 hCS ?_
    refine wi_if_eq (tgt := 15) hx hb (by decide) nd_CB_rank_4 rfl (fun h => absurd h (by decide)) (fun _ => ?_)
    refine lv_aload_n hx hb nd_CB_rank_7 rfl (lv_at hl 0 rfl) ?_
    refine lv_iload_n hx hb nd_CB_rank_8 rfl (lv_at hl 2 rfl) ?_
    by_cases hq9 : ¬ s < 0 ∧ ¬ nI (2 ^ n - 1) < s
    · obtain ⟨s1, h_s1, rfl⟩ := sm_upto (by omega) hq9
      refine wc_V (C := nr_CB) (n := 1) hx hb hml hown htg (c_CB_isSet l D _ (q 0) (q 1) (q 2) n (nI s1) (nI 1) (fun _ => rfl) (fun h => absurd hq9 h)) tm_255 tm_252 tm_254 tp_3 tm_1 (by decide +kernel) ⟨⟨Nat.le_trans (by decide) hRf, Nat.le_trans (by decide) hRl⟩, rfl, rfl⟩ (wa_pre (hP.sub [0] rfl) hK hN) (va_recv (q0 := 0) (ci := 0) hK hP rfl rfl) rfl hl.1 rfl (Nat.le_of_ble_eq_true rfl) nd_CB_rank_9 hCS ?_
      refine wi_if_ne (tgt := 17) hx hb (by decide) nd_CB_rank_12 rfl (fun _ => ?_) (fun h => absurd h (by decide))
      refine lv_aload_n hx hb nd_CB_rank_17 rfl (lv_at hl 0 rfl) ?_
      refine va_get (D := D) (C := nr_CB) (T := nt_CB) (N := 4) hx hb htg tf_CB hown hK hP 0 rfl rfl 3 (by decide) (htg _ tm_125) (fun _ h => h) rfl nd_CB_rank_18 ?_
      refine lv_iload_n hx hb nd_CB_rank_21 rfl (lv_at hl 1 rfl) ?_
      refine wi_aald (v := (a0.1 0)) hx hb hK hP 2 2 rfl rfl rfl (by omega) (by omega) (hm0) nd_CB_rank_22 ?_
      refine lv_iload_n hx hb nd_CB_rank_23 rfl (lv_at hl 2 rfl) ?_
      refine wd_Vi (C := nr_MA) (n := 1) (X := [((q 0), .inr (0, [.int (nI (n)), .int (nI (2 ^ n - 1)), .ref (q 1), .ref (q 2)])), ((q 1), .inl (cI, n, .inl w)), ((q 2), .inl (cM, 2, .inr (.inr (.inr (.inr mr)))))]) (Y := mw_ cI cG a0 n t0) (Z := (mw_ cI cG a1 n t1 ++ [])) hx hb hml hown htg (c_MA_rankOf l D cI cG cM a0 n hn t0.1 t0.2.1 t0.2.2.1 t0.2.2.2.1 t0.2.2.2.2.1 t0.2.2.2.2.2 y.2.1 hI0 s1 (by omega) _) tm_263 tm_314 tm_261 tm_262 tm_2 (by decide +kernel) ⟨⟨Nat.le_trans (by decide) hRf, Nat.le_trans (by decide) hRl⟩, rfl, rfl⟩ hP hD hS hA hK hN (va_recv (q0 := 0) (ci := 1) hK (wm_P (X := [((q 0), .inr (0, [.int (nI (n)), .int (nI (2 ^ n - 1)), .ref (q 1), .ref (q 2)])), ((q 1), .inl (cI, n, .inl w)), ((q 2), .inl (cM, 2, .inr (.inr (.inr (.inr mr)))))]) (Y := mw_ cI cG a0 n t0) (Z := (mw_ cI cG a1 n t1 ++ [])) hP).2.1 rfl rfl) rfl hl.1 rfl (Nat.le_of_ble_eq_true rfl) nd_CB_rank_24 hCS (fun v24 u24 H locs hp24 hP hD hS => ?_)
      have hP : va_P D cl_all ([((q 0), .inr (0, [.int (nI (n)), .int (nI (2 ^ n - 1)), .ref (q 1), .ref (q 2)])), ((q 1), .inl (cI, n, .inl w)), ((q 2), .inl (cM, 2, .inr (.inr (.inr (.inr mr)))))] ++ (mw_ cI cG a0 n u24 ++ (mw_ cI cG a1 n t1 ++ []))) H := hP
      have hD : va_D A ([((q 0), .inr (0, [.int (nI (n)), .int (nI (2 ^ n - 1)), .ref (q 1), .ref (q 2)])), ((q 1), .inl (cI, n, .inl w)), ((q 2), .inl (cM, 2, .inr (.inr (.inr (.inr mr)))))] ++ (mw_ cI cG a0 n u24 ++ (mw_ cI cG a1 n t1 ++ []))) := hD
      refine wi_top hp24.1 ?_
      have hsp : sp_rank n y (nI (0)) (nI (s1)) = nI (ma_r n y.2.1 s1) := by unfold sp_rank; simp only [sw_0, sr_t h_s1 (show 2 ^ n - 1 < 2 ^ 31 by omega), tn_0, tn_nI (show s1 < 2 ^ 31 by omega)]; simp [cb_m]
      exact wb_iret ((w, u24, t1)) hx hb hr hk hAe (by rw [hsp]; exact ⟨rfl, ⟨hI.1, hp24.2, hI1⟩⟩) hP hD hS nd_CB_rank_27
    · refine wc_V (C := nr_CB) (n := 1) hx hb hml hown htg (c_CB_isSet l D _ (q 0) (q 1) (q 2) n s (nI 0) (fun h => absurd h hq9) (fun _ => rfl)) tm_255 tm_252 tm_254 tp_3 tm_1 (by decide +kernel) ⟨⟨Nat.le_trans (by decide) hRf, Nat.le_trans (by decide) hRl⟩, rfl, rfl⟩ (wa_pre (hP.sub [0] rfl) hK hN) (va_recv (q0 := 0) (ci := 0) hK hP rfl rfl) rfl hl.1 rfl (Nat.le_of_ble_eq_true rfl) nd_CB_rank_9 hCS ?_
      refine wi_if_ne (tgt := 17) hx hb (by decide) nd_CB_rank_12 rfl (fun h => absurd h (by decide)) (fun _ => ?_)
      refine lv_iconst (v := -1) hx hb nd_CB_rank_15 (by decide) ?_
      have hsp : sp_rank n y (nI (0)) s = -1 := by unfold sp_rank; simp [sr_f hq9]
      exact wb_iret ((w, t0, t1)) hx hb hr hk hAe (by rw [hsp]; exact ⟨rfl, hI⟩) hP hD hS nd_CB_rank_16
  · subst hw1
    refine wc_S (n := 1) hx hb hml hown htg (c_CB_isMatroid l D _ (nI 1) (nI 1) (fun _ => rfl) (fun h => absurd (Or.inr rfl) h)) tm_141 tm_139 tm_140 tm_1 (by decide +kernel) ⟨⟨Nat.le_trans (by decide) hRf, Nat.le_trans (by decide) hRl⟩, rfl, rfl⟩ (wa_pre wa_nil hK hN) rfl hl.1 rfl (Nat.le_of_ble_eq_true rfl) nd_CB_rank_1 hCS ?_
    refine wi_if_eq (tgt := 15) hx hb (by decide) nd_CB_rank_4 rfl (fun h => absurd h (by decide)) (fun _ => ?_)
    refine lv_aload_n hx hb nd_CB_rank_7 rfl (lv_at hl 0 rfl) ?_
    refine lv_iload_n hx hb nd_CB_rank_8 rfl (lv_at hl 2 rfl) ?_
    by_cases hq9 : ¬ s < 0 ∧ ¬ nI (2 ^ n - 1) < s
    · obtain ⟨s1, h_s1, rfl⟩ := sm_upto (by omega) hq9
      refine wc_V (C := nr_CB) (n := 1) hx hb hml hown htg (c_CB_isSet l D _ (q 0) (q 1) (q 2) n (nI s1) (nI 1) (fun _ => rfl) (fun h => absurd hq9 h)) tm_255 tm_252 tm_254 tp_3 tm_1 (by decide +kernel) ⟨⟨Nat.le_trans (by decide) hRf, Nat.le_trans (by decide) hRl⟩, rfl, rfl⟩ (wa_pre (hP.sub [0] rfl) hK hN) (va_recv (q0 := 0) (ci := 0) hK hP rfl rfl) rfl hl.1 rfl (Nat.le_of_ble_eq_true rfl) nd_CB_rank_9 hCS ?_
      refine wi_if_ne (tgt := 17) hx hb (by decide) nd_CB_rank_12 rfl (fun _ => ?_) (fun h => absurd h (by decide))
      refine lv_aload_n hx hb nd_CB_rank_17 rfl (lv_at hl 0 rfl) ?_
      refine va_get (D := D) (C := nr_CB) (T := nt_CB) (N := 4) hx hb htg tf_CB hown hK hP 0 rfl rfl 3 (by decide) (htg _ tm_125) (fun _ h => h) rfl nd_CB_rank_18 ?_
      refine lv_iload_n hx hb nd_CB_rank_21 rfl (lv_at hl 1 rfl) ?_
      refine wi_aald (v := (a1.1 0)) hx hb hK hP 2 2 rfl rfl rfl (by omega) (by omega) (hm1) nd_CB_rank_22 ?_
      refine lv_iload_n hx hb nd_CB_rank_23 rfl (lv_at hl 2 rfl) ?_
      rw [← List.append_assoc] at hP hD
      refine wd_Vi (C := nr_MA) (n := 1) (X := ([((q 0), .inr (0, [.int (nI (n)), .int (nI (2 ^ n - 1)), .ref (q 1), .ref (q 2)])), ((q 1), .inl (cI, n, .inl w)), ((q 2), .inl (cM, 2, .inr (.inr (.inr (.inr mr)))))] ++ mw_ cI cG a0 n t0)) (Y := mw_ cI cG a1 n t1) (Z := []) hx hb hml hown htg (c_MA_rankOf l D cI cG cM a1 n hn t1.1 t1.2.1 t1.2.2.1 t1.2.2.2.1 t1.2.2.2.2.1 t1.2.2.2.2.2 y.2.2 hI1 s1 (by omega) _) tm_263 tm_314 tm_261 tm_262 tm_2 (by decide +kernel) ⟨⟨Nat.le_trans (by decide) hRf, Nat.le_trans (by decide) hRl⟩, rfl, rfl⟩ hP hD hS hA hK hN (va_recv (q0 := 0) (ci := 1) hK (wm_P (X := ([((q 0), .inr (0, [.int (nI (n)), .int (nI (2 ^ n - 1)), .ref (q 1), .ref (q 2)])), ((q 1), .inl (cI, n, .inl w)), ((q 2), .inl (cM, 2, .inr (.inr (.inr (.inr mr)))))] ++ mw_ cI cG a0 n t0)) (Y := mw_ cI cG a1 n t1) (Z := []) hP).2.1 rfl rfl) rfl hl.1 rfl (Nat.le_of_ble_eq_true rfl) nd_CB_rank_24 hCS (fun v24 u24 H locs hp24 hP hD hS => ?_)
      rw [List.append_assoc] at hP hD
      have hP : va_P D cl_all ([((q 0), .inr (0, [.int (nI (n)), .int (nI (2 ^ n - 1)), .ref (q 1), .ref (q 2)])), ((q 1), .inl (cI, n, .inl w)), ((q 2), .inl (cM, 2, .inr (.inr (.inr (.inr mr)))))] ++ (mw_ cI cG a0 n t0 ++ (mw_ cI cG a1 n u24 ++ []))) H := hP
      have hD : va_D A ([((q 0), .inr (0, [.int (nI (n)), .int (nI (2 ^ n - 1)), .ref (q 1), .ref (q 2)])), ((q 1), .inl (cI, n, .inl w)), ((q 2), .inl (cM, 2, .inr (.inr (.inr (.inr mr)))))] ++ (mw_ cI cG a0 n t0 ++ (mw_ cI cG a1 n u24 ++ []))) := hD
      refine wi_top hp24.1 ?_
      have hsp : sp_rank n y (nI (1)) (nI (s1)) = nI (ma_r n y.2.2 s1) := by unfold sp_rank; simp only [sw_1, sr_t h_s1 (show 2 ^ n - 1 < 2 ^ 31 by omega), tn_1, tn_nI (show s1 < 2 ^ 31 by omega)]; simp [cb_m]
      exact wb_iret ((w, t0, u24)) hx hb hr hk hAe (by rw [hsp]; exact ⟨rfl, ⟨hI.1, hI0, hp24.2⟩⟩) hP hD hS nd_CB_rank_27
    · refine wc_V (C := nr_CB) (n := 1) hx hb hml hown htg (c_CB_isSet l D _ (q 0) (q 1) (q 2) n s (nI 0) (fun h => absurd h hq9) (fun _ => rfl)) tm_255 tm_252 tm_254 tp_3 tm_1 (by decide +kernel) ⟨⟨Nat.le_trans (by decide) hRf, Nat.le_trans (by decide) hRl⟩, rfl, rfl⟩ (wa_pre (hP.sub [0] rfl) hK hN) (va_recv (q0 := 0) (ci := 0) hK hP rfl rfl) rfl hl.1 rfl (Nat.le_of_ble_eq_true rfl) nd_CB_rank_9 hCS ?_
      refine wi_if_ne (tgt := 17) hx hb (by decide) nd_CB_rank_12 rfl (fun h => absurd h (by decide)) (fun _ => ?_)
      refine lv_iconst (v := -1) hx hb nd_CB_rank_15 (by decide) ?_
      have hsp : sp_rank n y (nI (1)) s = -1 := by unfold sp_rank; simp [sr_f hq9]
      exact wb_iret ((w, t0, t1)) hx hb hr hk hAe (by rw [hsp]; exact ⟨rfl, hI⟩) hP hD hS nd_CB_rank_16
  · refine wc_S (n := 1) hx hb hml hown htg (c_CB_isMatroid l D _ wh (nI 0) (fun h => absurd h (fun z => z.elim (fun z => hw1.1 (z.trans nI_0.symm)) hw1.2)) (fun _ => rfl)) tm_141 tm_139 tm_140 tm_1 (by decide +kernel) ⟨⟨Nat.le_trans (by decide) hRf, Nat.le_trans (by decide) hRl⟩, rfl, rfl⟩ (wa_pre wa_nil hK hN) rfl hl.1 rfl (Nat.le_of_ble_eq_true rfl) nd_CB_rank_1 hCS ?_
    refine wi_if_eq (tgt := 15) hx hb (by decide) nd_CB_rank_4 rfl (fun _ => ?_) (fun h => absurd h (by decide))
    refine lv_iconst (v := -1) hx hb nd_CB_rank_15 (by decide) ?_
    have hsp : sp_rank n y wh s = -1 := by unfold sp_rank; simp [sw_n hw1]
    exact wb_iret ((w, t0, t1)) hx hb hr hk hAe (by rw [hsp]; exact ⟨rfl, hI⟩) hP hD hS nd_CB_rank_16
theorem nd_CB_independent_0 : decode nc_CB_independent 0 = .ok (.iload_n 1, 1) := by decide +kernel
theorem nd_CB_independent_1 : decode nc_CB_independent 1 = .ok (.invokestatic 29, 3) := by decide +kernel
theorem nd_CB_independent_4 : decode nc_CB_independent 4 = .ok (.ifCond .eq 11, 3) := by decide +kernel
theorem nd_CB_independent_7 : decode nc_CB_independent 7 = .ok (.aload_n 0, 1) := by decide +kernel
theorem nd_CB_independent_8 : decode nc_CB_independent 8 = .ok (.iload_n 2, 1) := by decide +kernel
theorem nd_CB_independent_9 : decode nc_CB_independent 9 = .ok (.invokevirtual 70, 3) := by decide +kernel
theorem nd_CB_independent_12 : decode nc_CB_independent 12 = .ok (.ifCond .ne 5, 3) := by decide +kernel
theorem nd_CB_independent_15 : decode nc_CB_independent 15 = .ok (.iconst (-1), 1) := by decide +kernel
theorem nd_CB_independent_16 : decode nc_CB_independent 16 = .ok (.ireturn, 1) := by decide +kernel
theorem nd_CB_independent_17 : decode nc_CB_independent 17 = .ok (.aload_n 0, 1) := by decide +kernel
theorem nd_CB_independent_18 : decode nc_CB_independent 18 = .ok (.getfield 25, 3) := by decide +kernel
theorem nd_CB_independent_21 : decode nc_CB_independent 21 = .ok (.iload_n 1, 1) := by decide +kernel
theorem nd_CB_independent_22 : decode nc_CB_independent 22 = .ok (.aaload, 1) := by decide +kernel
theorem nd_CB_independent_23 : decode nc_CB_independent 23 = .ok (.iload_n 2, 1) := by decide +kernel
theorem nd_CB_independent_24 : decode nc_CB_independent 24 = .ok (.invokevirtual 73, 3) := by decide +kernel
theorem nd_CB_independent_27 : decode nc_CB_independent 27 = .ok (.ifCond .eq 7, 3) := by decide +kernel
theorem nd_CB_independent_30 : decode nc_CB_independent 30 = .ok (.iconst 1, 1) := by decide +kernel
theorem nd_CB_independent_31 : decode nc_CB_independent 31 = .ok (.goto 4, 3) := by decide +kernel
theorem nd_CB_independent_34 : decode nc_CB_independent 34 = .ok (.iconst 0, 1) := by decide +kernel
theorem nd_CB_independent_35 : decode nc_CB_independent 35 = .ok (.ireturn, 1) := by decide +kernel
set_option maxRecDepth 20000 in
theorem c_CB_independent (l : Launch) (D : va_G) (cI cG cM : ClassId)  (q : Nat → Nat) (n : Nat) (hn1 : 1 ≤ n) (hn : n ≤ 10) (mr : Nat → Option Nat) (a0 a1 : ma_A) (hm0 : mr 0 = some (a0.1 0)) (hm1 : mr 1 = some (a1.1 0)) (w : Nat → Int32) (t0 t1 : ma_S) (y : cb_Y) (hI : cb_I n y (w, t0, t1)) (wh s : Int32) (sz : Nat) : wb_Mi l ny_CB_independent nc_CB_independent 3 (some .int) ({ frames := 6, cells := 0, slots := 0, locals := 133 }) D (ty_all cI cG cM) (cw_ cI cG cM q n mr a0 a1 (w, t0, t1)) sz [.ref (q 0), .int (wh), .int (s)] (fun (v : Int32) (u : cb_S) => v = sp_indep n y wh s ∧ cb_I n y u) (fun u : cb_S => cw_ cI cG cM q n mr a0 a1 u) := by
  refine wb_start (S := cb_S) (by decide) (Nat.le_of_ble_eq_true rfl) ?_
  intro p e0 s0 m below meth c ls A hx hb hr hml htg hown hk hP hK hN hl hAe hsz hD hA
  have hl : lv_has ls 3 [(0, .ref (q 0)), (1, .int (wh)), (2, .int (s))] := hl
  have hP : va_P D cl_all ([((q 0), .inr (0, [.int (nI (n)), .int (nI (2 ^ n - 1)), .ref (q 1), .ref (q 2)])), ((q 1), .inl (cI, n, .inl w)), ((q 2), .inl (cM, 2, .inr (.inr (.inr (.inr mr)))))] ++ (mw_ cI cG a0 n t0 ++ (mw_ cI cG a1 n t1 ++ []))) s0.heap := hP
  have hD : va_D A ([((q 0), .inr (0, [.int (nI (n)), .int (nI (2 ^ n - 1)), .ref (q 1), .ref (q 2)])), ((q 1), .inl (cI, n, .inl w)), ((q 2), .inl (cM, 2, .inr (.inr (.inr (.inr mr)))))] ++ (mw_ cI cG a0 n t0 ++ (mw_ cI cG a1 n t1 ++ []))) := hD
  have hS : va_S A s0.heap s0.heap [] := va_S.rf
  have hRf : 6 ≤ ({ frames := 6, cells := 0, slots := 0, locals := 133 } : Room).frames := Nat.le_refl _
  have hRl : 133 ≤ ({ frames := 6, cells := 0, slots := 0, locals := 133 } : Room).locals := Nat.le_refl _
  have hCS : 0 ≤ ({ frames := 6, cells := 0, slots := 0, locals := 133 } : Room).cells ∧ 0 ≤ ({ frames := 6, cells := 0, slots := 0, locals := 133 } : Room).slots := ⟨Nat.zero_le _, Nat.zero_le _⟩
  have h2n : 2 ^ n ≤ 1024 := Nat.pow_le_pow_right (by omega) hn
  have h2p : 1 ≤ 2 ^ n := Nat.one_le_two_pow
  have hI0 : ma_I n y.2.1 t0 := hI.2.1
  have hI1 : ma_I n y.2.2 t1 := hI.2.2
  refine lv_iload_n hx hb nd_CB_independent_0 rfl (lv_at hl 1 rfl) ?_
  rcases sm_which wh with hw1 | hw1 | hw1
  · subst hw1
    refine wc_S (n := 1) hx hb hml hown htg (c_CB_isMatroid l D _ (nI 0) (nI 1) (fun _ => rfl) (fun h => absurd (Or.inl nI_0) h)) tm_141 tm_139 tm_140 tm_1 (by decide +kernel) ⟨⟨Nat.le_trans (by decide) hRf, Nat.le_trans (by decide) hRl⟩, rfl, rfl⟩ (wa_pre wa_nil hK hN) rfl hl.1 rfl (Nat.le_of_ble_eq_true rfl) nd_CB_independent_1 hCS ?_
    refine wi_if_eq (tgt := 15) hx hb (by decide) nd_CB_independent_4 rfl (fun h => absurd h (by decide)) (fun _ => ?_)
    refine lv_aload_n hx hb nd_CB_independent_7 rfl (lv_at hl 0 rfl) ?_
    refine lv_iload_n hx hb nd_CB_independent_8 rfl (lv_at hl 2 rfl) ?_
    by_cases hq9 : ¬ s < 0 ∧ ¬ nI (2 ^ n - 1) < s
    · obtain ⟨s1, h_s1, rfl⟩ := sm_upto (by omega) hq9
      refine wc_V (C := nr_CB) (n := 1) hx hb hml hown htg (c_CB_isSet l D _ (q 0) (q 1) (q 2) n (nI s1) (nI 1) (fun _ => rfl) (fun h => absurd hq9 h)) tm_255 tm_252 tm_254 tp_3 tm_1 (by decide +kernel) ⟨⟨Nat.le_trans (by decide) hRf, Nat.le_trans (by decide) hRl⟩, rfl, rfl⟩ (wa_pre (hP.sub [0] rfl) hK hN) (va_recv (q0 := 0) (ci := 0) hK hP rfl rfl) rfl hl.1 rfl (Nat.le_of_ble_eq_true rfl) nd_CB_independent_9 hCS ?_
      refine wi_if_ne (tgt := 17) hx hb (by decide) nd_CB_independent_12 rfl (fun _ => ?_) (fun h => absurd h (by decide))
      refine lv_aload_n hx hb nd_CB_independent_17 rfl (lv_at hl 0 rfl) ?_
      refine va_get (D := D) (C := nr_CB) (T := nt_CB) (N := 4) hx hb htg tf_CB hown hK hP 0 rfl rfl 3 (by decide) (htg _ tm_125) (fun _ h => h) rfl nd_CB_independent_18 ?_
      refine lv_iload_n hx hb nd_CB_independent_21 rfl (lv_at hl 1 rfl) ?_
      refine wi_aald (v := (a0.1 0)) hx hb hK hP 2 2 rfl rfl rfl (by omega) (by omega) (hm0) nd_CB_independent_22 ?_
      refine lv_iload_n hx hb nd_CB_independent_23 rfl (lv_at hl 2 rfl) ?_
      refine wd_Vi (C := nr_MA) (n := 1) (X := [((q 0), .inr (0, [.int (nI (n)), .int (nI (2 ^ n - 1)), .ref (q 1), .ref (q 2)])), ((q 1), .inl (cI, n, .inl w)), ((q 2), .inl (cM, 2, .inr (.inr (.inr (.inr mr)))))]) (Y := mw_ cI cG a0 n t0) (Z := (mw_ cI cG a1 n t1 ++ [])) hx hb hml hown htg (c_MA_isIndependent l D cI cG cM a0 n hn t0.1 t0.2.1 t0.2.2.1 t0.2.2.2.1 t0.2.2.2.2.1 t0.2.2.2.2.2 y.2.1 hI0 s1 (by omega) _) tm_259 tm_256 tm_257 tm_258 tm_2 (by decide +kernel) ⟨⟨Nat.le_trans (by decide) hRf, Nat.le_trans (by decide) hRl⟩, rfl, rfl⟩ hP hD hS hA hK hN (va_recv (q0 := 0) (ci := 1) hK (wm_P (X := [((q 0), .inr (0, [.int (nI (n)), .int (nI (2 ^ n - 1)), .ref (q 1), .ref (q 2)])), ((q 1), .inl (cI, n, .inl w)), ((q 2), .inl (cM, 2, .inr (.inr (.inr (.inr mr)))))]) (Y := mw_ cI cG a0 n t0) (Z := (mw_ cI cG a1 n t1 ++ [])) hP).2.1 rfl rfl) rfl hl.1 rfl (Nat.le_of_ble_eq_true rfl) nd_CB_independent_24 hCS (fun v24 u24 H locs hp24 hP hD hS => ?_)
      have hP : va_P D cl_all ([((q 0), .inr (0, [.int (nI (n)), .int (nI (2 ^ n - 1)), .ref (q 1), .ref (q 2)])), ((q 1), .inl (cI, n, .inl w)), ((q 2), .inl (cM, 2, .inr (.inr (.inr (.inr mr)))))] ++ (mw_ cI cG a0 n u24 ++ (mw_ cI cG a1 n t1 ++ []))) H := hP
      have hD : va_D A ([((q 0), .inr (0, [.int (nI (n)), .int (nI (2 ^ n - 1)), .ref (q 1), .ref (q 2)])), ((q 1), .inl (cI, n, .inl w)), ((q 2), .inl (cM, 2, .inr (.inr (.inr (.inr mr)))))] ++ (mw_ cI cG a0 n u24 ++ (mw_ cI cG a1 n t1 ++ []))) := hD
      refine lv_if_eq (tgt := 34) hx hb nd_CB_independent_27 rfl (fun hc27 => ?_) (fun hc27 => ?_)
      · refine wi_ic hx hb (a := 0) nd_CB_independent_34 ?_
        have hin : ¬ ma_r n y.2.1 s1 = mt_cd n s1 := fun q => nI_ne0 (n := 1) (by omega) (by omega) ((hp24.1 q).symm.trans hc27)
        have hsp : sp_indep n y (nI (0)) (nI (s1)) = nI 0 := by unfold sp_indep; simp only [sw_0, sr_t h_s1 (show 2 ^ n - 1 < 2 ^ 31 by omega), tn_0, tn_nI (show s1 < 2 ^ 31 by omega)]; simp [cb_m, hin]
        exact wb_iret ((w, u24, t1)) hx hb hr hk hAe (by rw [hsp]; exact ⟨rfl, ⟨hI.1, hp24.2.2, hI1⟩⟩) hP hD hS nd_CB_independent_35
      · refine wi_ic hx hb (a := 1) nd_CB_independent_30 ?_
        refine lv_goto (tgt := 35) hx hb nd_CB_independent_31 rfl ?_
        have hin : ma_r n y.2.1 s1 = mt_cd n s1 := Classical.byContradiction fun q => hc27 ((hp24.2.1 q).trans nI_0)
        have hsp : sp_indep n y (nI (0)) (nI (s1)) = nI 1 := by unfold sp_indep; simp only [sw_0, sr_t h_s1 (show 2 ^ n - 1 < 2 ^ 31 by omega), tn_0, tn_nI (show s1 < 2 ^ 31 by omega)]; simp [cb_m, hin]
        exact wb_iret ((w, u24, t1)) hx hb hr hk hAe (by rw [hsp]; exact ⟨rfl, ⟨hI.1, hp24.2.2, hI1⟩⟩) hP hD hS nd_CB_independent_35
    · refine wc_V (C := nr_CB) (n := 1) hx hb hml hown htg (c_CB_isSet l D _ (q 0) (q 1) (q 2) n s (nI 0) (fun h => absurd h hq9) (fun _ => rfl)) tm_255 tm_252 tm_254 tp_3 tm_1 (by decide +kernel) ⟨⟨Nat.le_trans (by decide) hRf, Nat.le_trans (by decide) hRl⟩, rfl, rfl⟩ (wa_pre (hP.sub [0] rfl) hK hN) (va_recv (q0 := 0) (ci := 0) hK hP rfl rfl) rfl hl.1 rfl (Nat.le_of_ble_eq_true rfl) nd_CB_independent_9 hCS ?_
      refine wi_if_ne (tgt := 17) hx hb (by decide) nd_CB_independent_12 rfl (fun h => absurd h (by decide)) (fun _ => ?_)
      refine lv_iconst (v := -1) hx hb nd_CB_independent_15 (by decide) ?_
      have hsp : sp_indep n y (nI (0)) s = -1 := by unfold sp_indep; simp [sr_f hq9]
      exact wb_iret ((w, t0, t1)) hx hb hr hk hAe (by rw [hsp]; exact ⟨rfl, hI⟩) hP hD hS nd_CB_independent_16
  · subst hw1
    refine wc_S (n := 1) hx hb hml hown htg (c_CB_isMatroid l D _ (nI 1) (nI 1) (fun _ => rfl) (fun h => absurd (Or.inr rfl) h)) tm_141 tm_139 tm_140 tm_1 (by decide +kernel) ⟨⟨Nat.le_trans (by decide) hRf, Nat.le_trans (by decide) hRl⟩, rfl, rfl⟩ (wa_pre wa_nil hK hN) rfl hl.1 rfl (Nat.le_of_ble_eq_true rfl) nd_CB_independent_1 hCS ?_
    refine wi_if_eq (tgt := 15) hx hb (by decide) nd_CB_independent_4 rfl (fun h => absurd h (by decide)) (fun _ => ?_)
    refine lv_aload_n hx hb nd_CB_independent_7 rfl (lv_at hl 0 rfl) ?_
    refine lv_iload_n hx hb nd_CB_independent_8 rfl (lv_at hl 2 rfl) ?_
    by_cases hq9 : ¬ s < 0 ∧ ¬ nI (2 ^ n - 1) < s
    · obtain ⟨s1, h_s1, rfl⟩ := sm_upto (by omega) hq9
      refine wc_V (C := nr_CB) (n := 1) hx hb hml hown htg (c_CB_isSet l D _ (q 0) (q 1) (q 2) n (nI s1) (nI 1) (fun _ => rfl) (fun h => absurd hq9 h)) tm_255 tm_252 tm_254 tp_3 tm_1 (by decide +kernel) ⟨⟨Nat.le_trans (by decide) hRf, Nat.le_trans (by decide) hRl⟩, rfl, rfl⟩ (wa_pre (hP.sub [0] rfl) hK hN) (va_recv (q0 := 0) (ci := 0) hK hP rfl rfl) rfl hl.1 rfl (Nat.le_of_ble_eq_true rfl) nd_CB_independent_9 hCS ?_
      refine wi_if_ne (tgt := 17) hx hb (by decide) nd_CB_independent_12 rfl (fun _ => ?_) (fun h => absurd h (by decide))
      refine lv_aload_n hx hb nd_CB_independent_17 rfl (lv_at hl 0 rfl) ?_
      refine va_get (D := D) (C := nr_CB) (T := nt_CB) (N := 4) hx hb htg tf_CB hown hK hP 0 rfl rfl 3 (by decide) (htg _ tm_125) (fun _ h => h) rfl nd_CB_independent_18 ?_
      refine lv_iload_n hx hb nd_CB_independent_21 rfl (lv_at hl 1 rfl) ?_
      refine wi_aald (v := (a1.1 0)) hx hb hK hP 2 2 rfl rfl rfl (by omega) (by omega) (hm1) nd_CB_independent_22 ?_
      refine lv_iload_n hx hb nd_CB_independent_23 rfl (lv_at hl 2 rfl) ?_
      rw [← List.append_assoc] at hP hD
      refine wd_Vi (C := nr_MA) (n := 1) (X := ([((q 0), .inr (0, [.int (nI (n)), .int (nI (2 ^ n - 1)), .ref (q 1), .ref (q 2)])), ((q 1), .inl (cI, n, .inl w)), ((q 2), .inl (cM, 2, .inr (.inr (.inr (.inr mr)))))] ++ mw_ cI cG a0 n t0)) (Y := mw_ cI cG a1 n t1) (Z := []) hx hb hml hown htg (c_MA_isIndependent l D cI cG cM a1 n hn t1.1 t1.2.1 t1.2.2.1 t1.2.2.2.1 t1.2.2.2.2.1 t1.2.2.2.2.2 y.2.2 hI1 s1 (by omega) _) tm_259 tm_256 tm_257 tm_258 tm_2 (by decide +kernel) ⟨⟨Nat.le_trans (by decide) hRf, Nat.le_trans (by decide) hRl⟩, rfl, rfl⟩ hP hD hS hA hK hN (va_recv (q0 := 0) (ci := 1) hK (wm_P (X := ([((q 0), .inr (0, [.int (nI (n)), .int (nI (2 ^ n - 1)), .ref (q 1), .ref (q 2)])), ((q 1), .inl (cI, n, .inl w)), ((q 2), .inl (cM, 2, .inr (.inr (.inr (.inr mr)))))] ++ mw_ cI cG a0 n t0)) (Y := mw_ cI cG a1 n t1) (Z := []) hP).2.1 rfl rfl) rfl hl.1 rfl (Nat.le_of_ble_eq_true rfl) nd_CB_independent_24 hCS (fun v24 u24 H locs hp24 hP hD hS => ?_)
      rw [List.append_assoc] at hP hD
      have hP : va_P D cl_all ([((q 0), .inr (0, [.int (nI (n)), .int (nI (2 ^ n - 1)), .ref (q 1), .ref (q 2)])), ((q 1), .inl (cI, n, .inl w)), ((q 2), .inl (cM, 2, .inr (.inr (.inr (.inr mr)))))] ++ (mw_ cI cG a0 n t0 ++ (mw_ cI cG a1 n u24 ++ []))) H := hP
      have hD : va_D A ([((q 0), .inr (0, [.int (nI (n)), .int (nI (2 ^ n - 1)), .ref (q 1), .ref (q 2)])), ((q 1), .inl (cI, n, .inl w)), ((q 2), .inl (cM, 2, .inr (.inr (.inr (.inr mr)))))] ++ (mw_ cI cG a0 n t0 ++ (mw_ cI cG a1 n u24 ++ []))) := hD
      refine lv_if_eq (tgt := 34) hx hb nd_CB_independent_27 rfl (fun hc27 => ?_) (fun hc27 => ?_)
      · refine wi_ic hx hb (a := 0) nd_CB_independent_34 ?_
        have hin : ¬ ma_r n y.2.2 s1 = mt_cd n s1 := fun q => nI_ne0 (n := 1) (by omega) (by omega) ((hp24.1 q).symm.trans hc27)
        have hsp : sp_indep n y (nI (1)) (nI (s1)) = nI 0 := by unfold sp_indep; simp only [sw_1, sr_t h_s1 (show 2 ^ n - 1 < 2 ^ 31 by omega), tn_1, tn_nI (show s1 < 2 ^ 31 by omega)]; simp [cb_m, hin]
        exact wb_iret ((w, t0, u24)) hx hb hr hk hAe (by rw [hsp]; exact ⟨rfl, ⟨hI.1, hI0, hp24.2.2⟩⟩) hP hD hS nd_CB_independent_35
      · refine wi_ic hx hb (a := 1) nd_CB_independent_30 ?_
        refine lv_goto (tgt := 35) hx hb nd_CB_independent_31 rfl ?_
        have hin : ma_r n y.2.2 s1 = mt_cd n s1 := Classical.byContradiction fun q => hc27 ((hp24.2.1 q).trans nI_0)
        have hsp : sp_indep n y (nI (1)) (nI (s1)) = nI 1 := by unfold sp_indep; simp only [sw_1, sr_t h_s1 (show 2 ^ n - 1 < 2 ^ 31 by omega), tn_1, tn_nI (show s1 < 2 ^ 31 by omega)]; simp [cb_m, hin]
        exact wb_iret ((w, t0, u24)) hx hb hr hk hAe (by rw [hsp]; exact ⟨rfl, ⟨hI.1, hI0, hp24.2.2⟩⟩) hP hD hS nd_CB_independent_35
    · refine wc_V (C := nr_CB) (n := 1) hx hb hml hown htg (c_CB_isSet l D _ (q 0) (q 1) (q 2) n s (nI 0) (fun h => absurd h hq9) (fun _ => rfl)) tm_255 tm_252 tm_254 tp_3 tm_1 (by decide +kernel) ⟨⟨Nat.le_trans (by decide) hRf, Nat.le_trans (by decide) hRl⟩, rfl, rfl⟩ (wa_pre (hP.sub [0] rfl) hK hN) (va_recv (q0 := 0) (ci := 0) hK hP rfl rfl) rfl hl.1 rfl (Nat.le_of_ble_eq_true rfl) nd_CB_independent_9 hCS ?_
      refine wi_if_ne (tgt := 17) hx hb (by decide) nd_CB_independent_12 rfl (fun h => absurd h (by decide)) (fun _ => ?_)
      refine lv_iconst (v := -1) hx hb nd_CB_independent_15 (by decide) ?_
      have hsp : sp_indep n y (nI (1)) s = -1 := by unfold sp_indep; simp [sr_f hq9]
      exact wb_iret ((w, t0, t1)) hx hb hr hk hAe (by rw [hsp]; exact ⟨rfl, hI⟩) hP hD hS nd_CB_independent_16
  · refine wc_S (n := 1) hx hb hml hown htg (c_CB_isMatroid l D _ wh (nI 0) (fun h => absurd h (fun z => z.elim (fun z => hw1.1 (z.trans nI_0.symm)) hw1.2)) (fun _ => rfl)) tm_141 tm_139 tm_140 tm_1 (by decide +kernel) ⟨⟨Nat.le_trans (by decide) hRf, Nat.le_trans (by decide) hRl⟩, rfl, rfl⟩ (wa_pre wa_nil hK hN) rfl hl.1 rfl (Nat.le_of_ble_eq_true rfl) nd_CB_independent_1 hCS ?_
    refine wi_if_eq (tgt := 15) hx hb (by decide) nd_CB_independent_4 rfl (fun _ => ?_) (fun h => absurd h (by decide))
    refine lv_iconst (v := -1) hx hb nd_CB_independent_15 (by decide) ?_
    have hsp : sp_indep n y wh s = -1 := by unfold sp_indep; simp [sw_n hw1]
    exact wb_iret ((w, t0, t1)) hx hb hr hk hAe (by rw [hsp]; exact ⟨rfl, hI⟩) hP hD hS nd_CB_independent_16
theorem nd_CB_weightOf_0 : decode nc_CB_weightOf 0 = .ok (.aload_n 0, 1) := by decide +kernel
theorem nd_CB_weightOf_1 : decode nc_CB_weightOf 1 = .ok (.iload_n 1, 1) := by decide +kernel
theorem nd_CB_weightOf_2 : decode nc_CB_weightOf 2 = .ok (.invokevirtual 70, 3) := by decide +kernel
theorem nd_CB_weightOf_5 : decode nc_CB_weightOf 5 = .ok (.ifCond .eq 11, 3) := by decide +kernel
theorem nd_CB_weightOf_8 : decode nc_CB_weightOf 8 = .ok (.aload_n 0, 1) := by decide +kernel
theorem nd_CB_weightOf_9 : decode nc_CB_weightOf 9 = .ok (.iload_n 1, 1) := by decide +kernel
theorem nd_CB_weightOf_10 : decode nc_CB_weightOf 10 = .ok (.invokevirtual 94, 3) := by decide +kernel
theorem nd_CB_weightOf_13 : decode nc_CB_weightOf 13 = .ok (.goto 4, 3) := by decide +kernel
theorem nd_CB_weightOf_16 : decode nc_CB_weightOf 16 = .ok (.iconst 0, 1) := by decide +kernel
theorem nd_CB_weightOf_17 : decode nc_CB_weightOf 17 = .ok (.ireturn, 1) := by decide +kernel
set_option maxRecDepth 20000 in
theorem c_CB_weightOf (l : Launch) (D : va_G) (cI cG cM : ClassId)  (q : Nat → Nat) (n : Nat) (hn1 : 1 ≤ n) (hn : n ≤ 10) (mr : Nat → Option Nat) (a0 a1 : ma_A) (hm0 : mr 0 = some (a0.1 0)) (hm1 : mr 1 = some (a1.1 0)) (w : Nat → Int32) (t0 t1 : ma_S) (y : cb_Y) (hI : cb_I n y (w, t0, t1)) (s : Int32) (sz : Nat) : wb_Mi l ny_CB_weightOf nc_CB_weightOf 2 (some .int) ({ frames := 2, cells := 0, slots := 0, locals := 44 }) D (ty_all cI cG cM) (cw_ cI cG cM q n mr a0 a1 (w, t0, t1)) sz [.ref (q 0), .int (s)] (fun (v : Int32) (u : cb_S) => v = sp_weightOf n y s ∧ cb_I n y u) (fun u : cb_S => cw_ cI cG cM q n mr a0 a1 u) := by
  refine wb_start (S := cb_S) (by decide) (Nat.le_of_ble_eq_true rfl) ?_
  intro p e0 s0 m below meth c ls A hx hb hr hml htg hown hk hP hK hN hl hAe hsz hD hA
  have hl : lv_has ls 2 [(0, .ref (q 0)), (1, .int (s))] := hl
  have hP : va_P D cl_all ([((q 0), .inr (0, [.int (nI (n)), .int (nI (2 ^ n - 1)), .ref (q 1), .ref (q 2)])), ((q 1), .inl (cI, n, .inl w)), ((q 2), .inl (cM, 2, .inr (.inr (.inr (.inr mr)))))] ++ (mw_ cI cG a0 n t0 ++ (mw_ cI cG a1 n t1 ++ []))) s0.heap := hP
  have hD : va_D A ([((q 0), .inr (0, [.int (nI (n)), .int (nI (2 ^ n - 1)), .ref (q 1), .ref (q 2)])), ((q 1), .inl (cI, n, .inl w)), ((q 2), .inl (cM, 2, .inr (.inr (.inr (.inr mr)))))] ++ (mw_ cI cG a0 n t0 ++ (mw_ cI cG a1 n t1 ++ []))) := hD
  have hS : va_S A s0.heap s0.heap [] := va_S.rf
  have hRf : 2 ≤ ({ frames := 2, cells := 0, slots := 0, locals := 44 } : Room).frames := Nat.le_refl _
  have hRl : 44 ≤ ({ frames := 2, cells := 0, slots := 0, locals := 44 } : Room).locals := Nat.le_refl _
  have hCS : 0 ≤ ({ frames := 2, cells := 0, slots := 0, locals := 44 } : Room).cells ∧ 0 ≤ ({ frames := 2, cells := 0, slots := 0, locals := 44 } : Room).slots := ⟨Nat.zero_le _, Nat.zero_le _⟩
  have h2n : 2 ^ n ≤ 1024 := Nat.pow_le_pow_right (by omega) hn
  have h2p : 1 ≤ 2 ^ n := Nat.one_le_two_pow
  have hI0 : ma_I n y.2.1 t0 := hI.2.1
  have hI1 : ma_I n y.2.2 t1 := hI.2.2
  refine lv_aload_n hx hb nd_CB_weightOf_0 rfl (lv_at hl 0 rfl) ?_
  refine lv_iload_n hx hb nd_CB_weightOf_1 rfl (lv_at hl 1 rfl) ?_
  by_cases hq2 : ¬ s < 0 ∧ ¬ nI (2 ^ n - 1) < s
  · obtain ⟨s1, h_s1, rfl⟩ := sm_upto (by omega) hq2
    refine wc_V (C := nr_CB) (n := 1) hx hb hml hown htg (c_CB_isSet l D _ (q 0) (q 1) (q 2) n (nI s1) (nI 1) (fun _ => rfl) (fun h => absurd hq2 h)) tm_255 tm_252 tm_254 tp_3 tm_1 (by decide +kernel) ⟨⟨Nat.le_trans (by decide) hRf, Nat.le_trans (by decide) hRl⟩, rfl, rfl⟩ (wa_pre (hP.sub [0] rfl) hK hN) (va_recv (q0 := 0) (ci := 0) hK hP rfl rfl) rfl hl.1 rfl (Nat.le_of_ble_eq_true rfl) nd_CB_weightOf_2 hCS ?_
    refine wi_if_eq (tgt := 16) hx hb (by decide) nd_CB_weightOf_5 rfl (fun h => absurd h (by decide)) (fun _ => ?_)
    refine lv_aload_n hx hb nd_CB_weightOf_8 rfl (lv_at hl 0 rfl) ?_
    refine lv_iload_n hx hb nd_CB_weightOf_9 rfl (lv_at hl 1 rfl) ?_
    refine wc_V (C := nr_CB) (n := 1) hx hb hml hown htg (c_CB_sumOfWeights l D cI cG cM (q 0) (q 1) (q 2) n hn w s1 (by omega)) tm_344 tm_341 tm_343 tp_9 tm_1 (by decide +kernel) ⟨⟨Nat.le_trans (by decide) hRf, Nat.le_trans (by decide) hRl⟩, rfl, rfl⟩ (wa_pre (hP.sub [0, 1] rfl) hK hN) (va_recv (q0 := 0) (ci := 0) hK hP rfl rfl) rfl hl.1 rfl (Nat.le_of_ble_eq_true rfl) nd_CB_weightOf_10 hCS ?_
    refine lv_goto (tgt := 17) hx hb nd_CB_weightOf_13 rfl ?_
    have hsp : sp_weightOf n y (nI s1) = ms_W w n s1 := by unfold sp_weightOf; rw [sr_t h_s1 (show 2 ^ n - 1 < 2 ^ 31 by omega), tn_nI (show s1 < 2 ^ 31 by omega), ms_W_eq (fun e he => (hI.1 e he).1)]; rfl
    exact wb_iret (w, t0, t1) hx hb hr hk hAe (by rw [hsp]; exact ⟨rfl, hI⟩) hP hD hS nd_CB_weightOf_17
  · refine wc_V (C := nr_CB) (n := 1) hx hb hml hown htg (c_CB_isSet l D _ (q 0) (q 1) (q 2) n s (nI 0) (fun h => absurd h hq2) (fun _ => rfl)) tm_255 tm_252 tm_254 tp_3 tm_1 (by decide +kernel) ⟨⟨Nat.le_trans (by decide) hRf, Nat.le_trans (by decide) hRl⟩, rfl, rfl⟩ (wa_pre (hP.sub [0] rfl) hK hN) (va_recv (q0 := 0) (ci := 0) hK hP rfl rfl) rfl hl.1 rfl (Nat.le_of_ble_eq_true rfl) nd_CB_weightOf_2 hCS ?_
    refine wi_if_eq (tgt := 16) hx hb (by decide) nd_CB_weightOf_5 rfl (fun _ => ?_) (fun h => absurd h (by decide))
    refine wi_ic hx hb (a := 0) nd_CB_weightOf_16 ?_
    have hsp : sp_weightOf n y s = 0 := by unfold sp_weightOf; simp [sr_f hq2]
    exact wb_iret (w, t0, t1) hx hb hr hk hAe (by rw [hsp]; exact ⟨nI_0, hI⟩) hP hD hS nd_CB_weightOf_17
theorem nd_CB_isCommon_0 : decode nc_CB_isCommon 0 = .ok (.aload_n 0, 1) := by decide +kernel
theorem nd_CB_isCommon_1 : decode nc_CB_isCommon 1 = .ok (.getfield 25, 3) := by decide +kernel
theorem nd_CB_isCommon_4 : decode nc_CB_isCommon 4 = .ok (.iconst 0, 1) := by decide +kernel
theorem nd_CB_isCommon_5 : decode nc_CB_isCommon 5 = .ok (.aaload, 1) := by decide +kernel
theorem nd_CB_isCommon_6 : decode nc_CB_isCommon 6 = .ok (.iload_n 1, 1) := by decide +kernel
theorem nd_CB_isCommon_7 : decode nc_CB_isCommon 7 = .ok (.invokevirtual 73, 3) := by decide +kernel
theorem nd_CB_isCommon_10 : decode nc_CB_isCommon 10 = .ok (.ifCond .eq 20, 3) := by decide +kernel
theorem nd_CB_isCommon_13 : decode nc_CB_isCommon 13 = .ok (.aload_n 0, 1) := by decide +kernel
theorem nd_CB_isCommon_14 : decode nc_CB_isCommon 14 = .ok (.getfield 25, 3) := by decide +kernel
theorem nd_CB_isCommon_17 : decode nc_CB_isCommon 17 = .ok (.iconst 1, 1) := by decide +kernel
theorem nd_CB_isCommon_18 : decode nc_CB_isCommon 18 = .ok (.aaload, 1) := by decide +kernel
theorem nd_CB_isCommon_19 : decode nc_CB_isCommon 19 = .ok (.iload_n 1, 1) := by decide +kernel
theorem nd_CB_isCommon_20 : decode nc_CB_isCommon 20 = .ok (.invokevirtual 73, 3) := by decide +kernel
theorem nd_CB_isCommon_23 : decode nc_CB_isCommon 23 = .ok (.ifCond .eq 7, 3) := by decide +kernel
theorem nd_CB_isCommon_26 : decode nc_CB_isCommon 26 = .ok (.iconst 1, 1) := by decide +kernel
theorem nd_CB_isCommon_27 : decode nc_CB_isCommon 27 = .ok (.goto 4, 3) := by decide +kernel
theorem nd_CB_isCommon_30 : decode nc_CB_isCommon 30 = .ok (.iconst 0, 1) := by decide +kernel
theorem nd_CB_isCommon_31 : decode nc_CB_isCommon 31 = .ok (.ireturn, 1) := by decide +kernel
set_option maxRecDepth 20000 in
theorem c_CB_isCommon (l : Launch) (D : va_G) (cI cG cM : ClassId)  (q : Nat → Nat) (n : Nat) (hn1 : 1 ≤ n) (hn : n ≤ 10) (mr : Nat → Option Nat) (a0 a1 : ma_A) (hm0 : mr 0 = some (a0.1 0)) (hm1 : mr 1 = some (a1.1 0)) (w : Nat → Int32) (t0 t1 : ma_S) (y : cb_Y) (hI : cb_I n y (w, t0, t1)) (s : Nat) (hs : s < 2 ^ n) (sz : Nat) : wb_Mi l ny_CB_isCommon nc_CB_isCommon 2 (some .boolean) ({ frames := 6, cells := 0, slots := 0, locals := 133 }) D (ty_all cI cG cM) (cw_ cI cG cM q n mr a0 a1 (w, t0, t1)) sz [.ref (q 0), .int (nI (s))] (fun (v : Int32) (u : cb_S) => ((ma_r n y.2.1 s = mt_cd n s ∧ ma_r n y.2.2 s = mt_cd n s) → v = nI 1) ∧ (¬ (ma_r n y.2.1 s = mt_cd n s ∧ ma_r n y.2.2 s = mt_cd n s) → v = nI 0) ∧ cb_I n y u) (fun u : cb_S => cw_ cI cG cM q n mr a0 a1 u) := by
  refine wb_start (S := cb_S) (by decide) (Nat.le_of_ble_eq_true rfl) ?_
  intro p e0 s0 m below meth c ls A hx hb hr hml htg hown hk hP hK hN hl hAe hsz hD hA
  have hl : lv_has ls 2 [(0, .ref (q 0)), (1, .int (nI (s)))] := hl
  have hP : va_P D cl_all ([((q 0), .inr (0, [.int (nI (n)), .int (nI (2 ^ n - 1)), .ref (q 1), .ref (q 2)])), ((q 1), .inl (cI, n, .inl w)), ((q 2), .inl (cM, 2, .inr (.inr (.inr (.inr mr)))))] ++ (mw_ cI cG a0 n t0 ++ (mw_ cI cG a1 n t1 ++ []))) s0.heap := hP
  have hD : va_D A ([((q 0), .inr (0, [.int (nI (n)), .int (nI (2 ^ n - 1)), .ref (q 1), .ref (q 2)])), ((q 1), .inl (cI, n, .inl w)), ((q 2), .inl (cM, 2, .inr (.inr (.inr (.inr mr)))))] ++ (mw_ cI cG a0 n t0 ++ (mw_ cI cG a1 n t1 ++ []))) := hD
  have hS : va_S A s0.heap s0.heap [] := va_S.rf
  have hRf : 6 ≤ ({ frames := 6, cells := 0, slots := 0, locals := 133 } : Room).frames := Nat.le_refl _
  have hRl : 133 ≤ ({ frames := 6, cells := 0, slots := 0, locals := 133 } : Room).locals := Nat.le_refl _
  have hCS : 0 ≤ ({ frames := 6, cells := 0, slots := 0, locals := 133 } : Room).cells ∧ 0 ≤ ({ frames := 6, cells := 0, slots := 0, locals := 133 } : Room).slots := ⟨Nat.zero_le _, Nat.zero_le _⟩
  have h2n : 2 ^ n ≤ 1024 := Nat.pow_le_pow_right (by omega) hn
  have h2p : 1 ≤ 2 ^ n := Nat.one_le_two_pow
  have hI0 : ma_I n y.2.1 t0 := hI.2.1
  have hI1 : ma_I n y.2.2 t1 := hI.2.2
  refine lv_aload_n hx hb nd_CB_isCommon_0 rfl (lv_at hl 0 rfl) ?_
  refine va_get (D := D) (C := nr_CB) (T := nt_CB) (N := 4) hx hb htg tf_CB hown hK hP 0 rfl rfl 3 (by decide) (htg _ tm_125) (fun _ h => h) rfl nd_CB_isCommon_1 ?_
  refine wi_ic hx hb (a := 0) nd_CB_isCommon_4 ?_
  refine wi_aald (v := (a0.1 0)) hx hb hK hP 2 2 rfl rfl rfl (by omega) (by omega) (hm0) nd_CB_isCommon_5 ?_
  refine lv_iload_n hx hb nd_CB_isCommon_6 rfl (lv_at hl 1 rfl) ?_
  refine wd_Vi (C := nr_MA) (n := 1) (X := [((q 0), .inr (0, [.int (nI (n)), .int (nI (2 ^ n - 1)), .ref (q 1), .ref (q 2)])), ((q 1), .inl (cI, n, .inl w)), ((q 2), .inl (cM, 2, .inr (.inr (.inr (.inr mr)))))]) (Y := mw_ cI cG a0 n t0) (Z := (mw_ cI cG a1 n t1 ++ [])) hx hb hml hown htg (c_MA_isIndependent l D cI cG cM a0 n hn t0.1 t0.2.1 t0.2.2.1 t0.2.2.2.1 t0.2.2.2.2.1 t0.2.2.2.2.2 y.2.1 hI0 s (hs) _) tm_259 tm_256 tm_257 tm_258 tm_2 (by decide +kernel) ⟨⟨Nat.le_trans (by decide) hRf, Nat.le_trans (by decide) hRl⟩, rfl, rfl⟩ hP hD hS hA hK hN (va_recv (q0 := 0) (ci := 1) hK (wm_P (X := [((q 0), .inr (0, [.int (nI (n)), .int (nI (2 ^ n - 1)), .ref (q 1), .ref (q 2)])), ((q 1), .inl (cI, n, .inl w)), ((q 2), .inl (cM, 2, .inr (.inr (.inr (.inr mr)))))]) (Y := mw_ cI cG a0 n t0) (Z := (mw_ cI cG a1 n t1 ++ [])) hP).2.1 rfl rfl) rfl hl.1 rfl (Nat.le_of_ble_eq_true rfl) nd_CB_isCommon_7 hCS (fun v7 u7 H locs hp7 hP hD hS => ?_)
  have hP : va_P D cl_all ([((q 0), .inr (0, [.int (nI (n)), .int (nI (2 ^ n - 1)), .ref (q 1), .ref (q 2)])), ((q 1), .inl (cI, n, .inl w)), ((q 2), .inl (cM, 2, .inr (.inr (.inr (.inr mr)))))] ++ (mw_ cI cG a0 n u7 ++ (mw_ cI cG a1 n t1 ++ []))) H := hP
  have hD : va_D A ([((q 0), .inr (0, [.int (nI (n)), .int (nI (2 ^ n - 1)), .ref (q 1), .ref (q 2)])), ((q 1), .inl (cI, n, .inl w)), ((q 2), .inl (cM, 2, .inr (.inr (.inr (.inr mr)))))] ++ (mw_ cI cG a0 n u7 ++ (mw_ cI cG a1 n t1 ++ []))) := hD
  refine lv_if_eq (tgt := 30) hx hb nd_CB_isCommon_10 rfl (fun hc10 => ?_) (fun hc10 => ?_)
  · refine wi_ic hx hb (a := 0) nd_CB_isCommon_30 ?_
    have h0 : ¬ ma_r n y.2.1 s = mt_cd n s := fun q => nI_ne0 (n := 1) (by omega) (by omega) ((hp7.1 q).symm.trans hc10)
    exact wb_zret ((w, u7, t1)) hx hb hr hk rfl hAe (⟨fun q => absurd q.1 h0, fun _ => rfl, ⟨hI.1, hp7.2.2, hI1⟩⟩) hP hD hS nd_CB_isCommon_31
  · refine lv_aload_n hx hb nd_CB_isCommon_13 rfl (lv_at hl 0 rfl) ?_
    refine va_get (D := D) (C := nr_CB) (T := nt_CB) (N := 4) hx hb htg tf_CB hown hK hP 0 rfl rfl 3 (by decide) (htg _ tm_125) (fun _ h => h) rfl nd_CB_isCommon_14 ?_
    refine wi_ic hx hb (a := 1) nd_CB_isCommon_17 ?_
    refine wi_aald (v := (a1.1 0)) hx hb hK hP 2 2 rfl rfl rfl (by omega) (by omega) (hm1) nd_CB_isCommon_18 ?_
    refine lv_iload_n hx hb nd_CB_isCommon_19 rfl (lv_at hl 1 rfl) ?_
    rw [← List.append_assoc] at hP hD
    refine wd_Vi (C := nr_MA) (n := 1) (X := ([((q 0), .inr (0, [.int (nI (n)), .int (nI (2 ^ n - 1)), .ref (q 1), .ref (q 2)])), ((q 1), .inl (cI, n, .inl w)), ((q 2), .inl (cM, 2, .inr (.inr (.inr (.inr mr)))))] ++ mw_ cI cG a0 n u7)) (Y := mw_ cI cG a1 n t1) (Z := []) hx hb hml hown htg (c_MA_isIndependent l D cI cG cM a1 n hn t1.1 t1.2.1 t1.2.2.1 t1.2.2.2.1 t1.2.2.2.2.1 t1.2.2.2.2.2 y.2.2 hI1 s (hs) _) tm_259 tm_256 tm_257 tm_258 tm_2 (by decide +kernel) ⟨⟨Nat.le_trans (by decide) hRf, Nat.le_trans (by decide) hRl⟩, rfl, rfl⟩ hP hD hS hA hK hN (va_recv (q0 := 0) (ci := 1) hK (wm_P (X := ([((q 0), .inr (0, [.int (nI (n)), .int (nI (2 ^ n - 1)), .ref (q 1), .ref (q 2)])), ((q 1), .inl (cI, n, .inl w)), ((q 2), .inl (cM, 2, .inr (.inr (.inr (.inr mr)))))] ++ mw_ cI cG a0 n u7)) (Y := mw_ cI cG a1 n t1) (Z := []) hP).2.1 rfl rfl) rfl hl.1 rfl (Nat.le_of_ble_eq_true rfl) nd_CB_isCommon_20 hCS (fun v20 u20 H locs hp20 hP hD hS => ?_)
    rw [List.append_assoc] at hP hD
    have hP : va_P D cl_all ([((q 0), .inr (0, [.int (nI (n)), .int (nI (2 ^ n - 1)), .ref (q 1), .ref (q 2)])), ((q 1), .inl (cI, n, .inl w)), ((q 2), .inl (cM, 2, .inr (.inr (.inr (.inr mr)))))] ++ (mw_ cI cG a0 n u7 ++ (mw_ cI cG a1 n u20 ++ []))) H := hP
    have hD : va_D A ([((q 0), .inr (0, [.int (nI (n)), .int (nI (2 ^ n - 1)), .ref (q 1), .ref (q 2)])), ((q 1), .inl (cI, n, .inl w)), ((q 2), .inl (cM, 2, .inr (.inr (.inr (.inr mr)))))] ++ (mw_ cI cG a0 n u7 ++ (mw_ cI cG a1 n u20 ++ []))) := hD
    refine lv_if_eq (tgt := 30) hx hb nd_CB_isCommon_23 rfl (fun hc23 => ?_) (fun hc23 => ?_)
    · refine wi_ic hx hb (a := 0) nd_CB_isCommon_30 ?_
      have h0 : ma_r n y.2.1 s = mt_cd n s := Classical.byContradiction fun q => hc10 ((hp7.2.1 q).trans nI_0)
      have h1 : ¬ ma_r n y.2.2 s = mt_cd n s := fun q => nI_ne0 (n := 1) (by omega) (by omega) ((hp20.1 q).symm.trans hc23)
      exact wb_zret ((w, u7, u20)) hx hb hr hk rfl hAe (⟨fun q => absurd q.2 h1, fun _ => rfl, ⟨hI.1, hp7.2.2, hp20.2.2⟩⟩) hP hD hS nd_CB_isCommon_31
    · refine wi_ic hx hb (a := 1) nd_CB_isCommon_26 ?_
      refine lv_goto (tgt := 31) hx hb nd_CB_isCommon_27 rfl ?_
      have h0 : ma_r n y.2.1 s = mt_cd n s := Classical.byContradiction fun q => hc10 ((hp7.2.1 q).trans nI_0)
      have h1 : ma_r n y.2.2 s = mt_cd n s := Classical.byContradiction fun q => hc23 ((hp20.2.1 q).trans nI_0)
      exact wb_zret ((w, u7, u20)) hx hb hr hk rfl hAe (⟨fun _ => rfl, fun q => absurd ⟨h0, h1⟩ q, ⟨hI.1, hp7.2.2, hp20.2.2⟩⟩) hP hD hS nd_CB_isCommon_31
theorem nd_CB_commonBound_0 : decode nc_CB_commonBound 0 = .ok (.aload_n 0, 1) := by decide +kernel
theorem nd_CB_commonBound_1 : decode nc_CB_commonBound 1 = .ok (.getfield 25, 3) := by decide +kernel
theorem nd_CB_commonBound_4 : decode nc_CB_commonBound 4 = .ok (.iconst 0, 1) := by decide +kernel
theorem nd_CB_commonBound_5 : decode nc_CB_commonBound 5 = .ok (.aaload, 1) := by decide +kernel
theorem nd_CB_commonBound_6 : decode nc_CB_commonBound 6 = .ok (.iload_n 1, 1) := by decide +kernel
theorem nd_CB_commonBound_7 : decode nc_CB_commonBound 7 = .ok (.invokevirtual 76, 3) := by decide +kernel
theorem nd_CB_commonBound_10 : decode nc_CB_commonBound 10 = .ok (.aload_n 0, 1) := by decide +kernel
theorem nd_CB_commonBound_11 : decode nc_CB_commonBound 11 = .ok (.getfield 25, 3) := by decide +kernel
theorem nd_CB_commonBound_14 : decode nc_CB_commonBound 14 = .ok (.iconst 1, 1) := by decide +kernel
theorem nd_CB_commonBound_15 : decode nc_CB_commonBound 15 = .ok (.aaload, 1) := by decide +kernel
theorem nd_CB_commonBound_16 : decode nc_CB_commonBound 16 = .ok (.aload_n 0, 1) := by decide +kernel
theorem nd_CB_commonBound_17 : decode nc_CB_commonBound 17 = .ok (.getfield 13, 3) := by decide +kernel
theorem nd_CB_commonBound_20 : decode nc_CB_commonBound 20 = .ok (.iload_n 1, 1) := by decide +kernel
theorem nd_CB_commonBound_21 : decode nc_CB_commonBound 21 = .ok (.iconst (-1), 1) := by decide +kernel
theorem nd_CB_commonBound_22 : decode nc_CB_commonBound 22 = .ok (.ixor, 1) := by decide +kernel
theorem nd_CB_commonBound_23 : decode nc_CB_commonBound 23 = .ok (.iand, 1) := by decide +kernel
theorem nd_CB_commonBound_24 : decode nc_CB_commonBound 24 = .ok (.invokevirtual 76, 3) := by decide +kernel
theorem nd_CB_commonBound_27 : decode nc_CB_commonBound 27 = .ok (.iadd, 1) := by decide +kernel
theorem nd_CB_commonBound_28 : decode nc_CB_commonBound 28 = .ok (.ireturn, 1) := by decide +kernel
set_option maxRecDepth 20000 in
theorem c_CB_commonBound (l : Launch) (D : va_G) (cI cG cM : ClassId)  (q : Nat → Nat) (n : Nat) (hn1 : 1 ≤ n) (hn : n ≤ 10) (mr : Nat → Option Nat) (a0 a1 : ma_A) (hm0 : mr 0 = some (a0.1 0)) (hm1 : mr 1 = some (a1.1 0)) (w : Nat → Int32) (t0 t1 : ma_S) (y : cb_Y) (hI : cb_I n y (w, t0, t1)) (s : Nat) (hs : s < 2 ^ n) (sz : Nat) : wb_Mi l ny_CB_commonBound nc_CB_commonBound 2 (some .int) ({ frames := 5, cells := 0, slots := 0, locals := 112 }) D (ty_all cI cG cM) (cw_ cI cG cM q n mr a0 a1 (w, t0, t1)) sz [.ref (q 0), .int (nI (s))] (fun (v : Int32) (u : cb_S) => v = nI (ma_r n y.2.1 s + ma_r n y.2.2 (mt_co n s)) ∧ cb_I n y u) (fun u : cb_S => cw_ cI cG cM q n mr a0 a1 u) := by
  refine wb_start (S := cb_S) (by decide) (Nat.le_of_ble_eq_true rfl) ?_
  intro p e0 s0 m below meth c ls A hx hb hr hml htg hown hk hP hK hN hl hAe hsz hD hA
  have hl : lv_has ls 2 [(0, .ref (q 0)), (1, .int (nI (s)))] := hl
  have hP : va_P D cl_all ([((q 0), .inr (0, [.int (nI (n)), .int (nI (2 ^ n - 1)), .ref (q 1), .ref (q 2)])), ((q 1), .inl (cI, n, .inl w)), ((q 2), .inl (cM, 2, .inr (.inr (.inr (.inr mr)))))] ++ (mw_ cI cG a0 n t0 ++ (mw_ cI cG a1 n t1 ++ []))) s0.heap := hP
  have hD : va_D A ([((q 0), .inr (0, [.int (nI (n)), .int (nI (2 ^ n - 1)), .ref (q 1), .ref (q 2)])), ((q 1), .inl (cI, n, .inl w)), ((q 2), .inl (cM, 2, .inr (.inr (.inr (.inr mr)))))] ++ (mw_ cI cG a0 n t0 ++ (mw_ cI cG a1 n t1 ++ []))) := hD
  have hS : va_S A s0.heap s0.heap [] := va_S.rf
  have hRf : 5 ≤ ({ frames := 5, cells := 0, slots := 0, locals := 112 } : Room).frames := Nat.le_refl _
  have hRl : 112 ≤ ({ frames := 5, cells := 0, slots := 0, locals := 112 } : Room).locals := Nat.le_refl _
  have hCS : 0 ≤ ({ frames := 5, cells := 0, slots := 0, locals := 112 } : Room).cells ∧ 0 ≤ ({ frames := 5, cells := 0, slots := 0, locals := 112 } : Room).slots := ⟨Nat.zero_le _, Nat.zero_le _⟩
  have h2n : 2 ^ n ≤ 1024 := Nat.pow_le_pow_right (by omega) hn
  have h2p : 1 ≤ 2 ^ n := Nat.one_le_two_pow
  have hI0 : ma_I n y.2.1 t0 := hI.2.1
  have hI1 : ma_I n y.2.2 t1 := hI.2.2
  refine lv_aload_n hx hb nd_CB_commonBound_0 rfl (lv_at hl 0 rfl) ?_
  refine va_get (D := D) (C := nr_CB) (T := nt_CB) (N := 4) hx hb htg tf_CB hown hK hP 0 rfl rfl 3 (by decide) (htg _ tm_125) (fun _ h => h) rfl nd_CB_commonBound_1 ?_
  refine wi_ic hx hb (a := 0) nd_CB_commonBound_4 ?_
  refine wi_aald (v := (a0.1 0)) hx hb hK hP 2 2 rfl rfl rfl (by omega) (by omega) (hm0) nd_CB_commonBound_5 ?_
  refine lv_iload_n hx hb nd_CB_commonBound_6 rfl (lv_at hl 1 rfl) ?_
  refine wd_Vi (C := nr_MA) (n := 1) (X := [((q 0), .inr (0, [.int (nI (n)), .int (nI (2 ^ n - 1)), .ref (q 1), .ref (q 2)])), ((q 1), .inl (cI, n, .inl w)), ((q 2), .inl (cM, 2, .inr (.inr (.inr (.inr mr)))))]) (Y := mw_ cI cG a0 n t0) (Z := (mw_ cI cG a1 n t1 ++ [])) hx hb hml hown htg (c_MA_rankOf l D cI cG cM a0 n hn t0.1 t0.2.1 t0.2.2.1 t0.2.2.2.1 t0.2.2.2.2.1 t0.2.2.2.2.2 y.2.1 hI0 s (hs) _) tm_263 tm_314 tm_261 tm_262 tm_2 (by decide +kernel) ⟨⟨Nat.le_trans (by decide) hRf, Nat.le_trans (by decide) hRl⟩, rfl, rfl⟩ hP hD hS hA hK hN (va_recv (q0 := 0) (ci := 1) hK (wm_P (X := [((q 0), .inr (0, [.int (nI (n)), .int (nI (2 ^ n - 1)), .ref (q 1), .ref (q 2)])), ((q 1), .inl (cI, n, .inl w)), ((q 2), .inl (cM, 2, .inr (.inr (.inr (.inr mr)))))]) (Y := mw_ cI cG a0 n t0) (Z := (mw_ cI cG a1 n t1 ++ [])) hP).2.1 rfl rfl) rfl hl.1 rfl (Nat.le_of_ble_eq_true rfl) nd_CB_commonBound_7 hCS (fun v7 u7 H locs hp7 hP hD hS => ?_)
  have hP : va_P D cl_all ([((q 0), .inr (0, [.int (nI (n)), .int (nI (2 ^ n - 1)), .ref (q 1), .ref (q 2)])), ((q 1), .inl (cI, n, .inl w)), ((q 2), .inl (cM, 2, .inr (.inr (.inr (.inr mr)))))] ++ (mw_ cI cG a0 n u7 ++ (mw_ cI cG a1 n t1 ++ []))) H := hP
  have hD : va_D A ([((q 0), .inr (0, [.int (nI (n)), .int (nI (2 ^ n - 1)), .ref (q 1), .ref (q 2)])), ((q 1), .inl (cI, n, .inl w)), ((q 2), .inl (cM, 2, .inr (.inr (.inr (.inr mr)))))] ++ (mw_ cI cG a0 n u7 ++ (mw_ cI cG a1 n t1 ++ []))) := hD
  refine wi_top hp7.1 ?_
  refine lv_aload_n hx hb nd_CB_commonBound_10 rfl (lv_at hl 0 rfl) ?_
  refine va_get (D := D) (C := nr_CB) (T := nt_CB) (N := 4) hx hb htg tf_CB hown hK hP 0 rfl rfl 3 (by decide) (htg _ tm_125) (fun _ h => h) rfl nd_CB_commonBound_11 ?_
  refine wi_ic hx hb (a := 1) nd_CB_commonBound_14 ?_
  refine wi_aald (v := (a1.1 0)) hx hb hK hP 2 2 rfl rfl rfl (by omega) (by omega) (hm1) nd_CB_commonBound_15 ?_
  refine lv_aload_n hx hb nd_CB_commonBound_16 rfl (lv_at hl 0 rfl) ?_
  refine va_get (D := D) (C := nr_CB) (T := nt_CB) (N := 4) hx hb htg tf_CB hown hK hP 0 rfl rfl 1 (by decide) (htg _ tm_123) (fun _ h => h) rfl nd_CB_commonBound_17 ?_
  refine lv_iload_n hx hb nd_CB_commonBound_20 rfl (lv_at hl 1 rfl) ?_
  refine lv_iconst (v := -1) hx hb nd_CB_commonBound_21 (by decide) ?_
  refine lv_ixor hx hb nd_CB_commonBound_22 ?_
  refine lv_iand hx hb nd_CB_commonBound_23 ?_
  refine wi_top (bs_co hs (by omega)) ?_
  rw [← List.append_assoc] at hP hD
  refine wd_Vi (C := nr_MA) (n := 1) (X := ([((q 0), .inr (0, [.int (nI (n)), .int (nI (2 ^ n - 1)), .ref (q 1), .ref (q 2)])), ((q 1), .inl (cI, n, .inl w)), ((q 2), .inl (cM, 2, .inr (.inr (.inr (.inr mr)))))] ++ mw_ cI cG a0 n u7)) (Y := mw_ cI cG a1 n t1) (Z := []) hx hb hml hown htg (c_MA_rankOf l D cI cG cM a1 n hn t1.1 t1.2.1 t1.2.2.1 t1.2.2.2.1 t1.2.2.2.2.1 t1.2.2.2.2.2 y.2.2 hI1 (mt_co n s) (mt_colt hs) _) tm_263 tm_314 tm_261 tm_262 tm_2 (by decide +kernel) ⟨⟨Nat.le_trans (by decide) hRf, Nat.le_trans (by decide) hRl⟩, rfl, rfl⟩ hP hD hS hA hK hN (va_recv (q0 := 0) (ci := 1) hK (wm_P (X := ([((q 0), .inr (0, [.int (nI (n)), .int (nI (2 ^ n - 1)), .ref (q 1), .ref (q 2)])), ((q 1), .inl (cI, n, .inl w)), ((q 2), .inl (cM, 2, .inr (.inr (.inr (.inr mr)))))] ++ mw_ cI cG a0 n u7)) (Y := mw_ cI cG a1 n t1) (Z := []) hP).2.1 rfl rfl) rfl hl.1 rfl (Nat.le_of_ble_eq_true rfl) nd_CB_commonBound_24 hCS (fun v24 u24 H locs hp24 hP hD hS => ?_)
  rw [List.append_assoc] at hP hD
  have hP : va_P D cl_all ([((q 0), .inr (0, [.int (nI (n)), .int (nI (2 ^ n - 1)), .ref (q 1), .ref (q 2)])), ((q 1), .inl (cI, n, .inl w)), ((q 2), .inl (cM, 2, .inr (.inr (.inr (.inr mr)))))] ++ (mw_ cI cG a0 n u7 ++ (mw_ cI cG a1 n u24 ++ []))) H := hP
  have hD : va_D A ([((q 0), .inr (0, [.int (nI (n)), .int (nI (2 ^ n - 1)), .ref (q 1), .ref (q 2)])), ((q 1), .inl (cI, n, .inl w)), ((q 2), .inl (cM, 2, .inr (.inr (.inr (.inr mr)))))] ++ (mw_ cI cG a0 n u7 ++ (mw_ cI cG a1 n u24 ++ []))) := hD
  refine wi_top hp24.1 ?_
  refine wi_iadd hx hb nd_CB_commonBound_27 ?_
  exact wb_iret ((w, u7, u24)) hx hb hr hk hAe (⟨rfl, ⟨hI.1, hp7.2, hp24.2⟩⟩) hP hD hS nd_CB_commonBound_28
theorem nd_CB_jointBound_0 : decode nc_CB_jointBound 0 = .ok (.aload_n 0, 1) := by decide +kernel
theorem nd_CB_jointBound_1 : decode nc_CB_jointBound 1 = .ok (.getfield 25, 3) := by decide +kernel
theorem nd_CB_jointBound_4 : decode nc_CB_jointBound 4 = .ok (.iconst 0, 1) := by decide +kernel
theorem nd_CB_jointBound_5 : decode nc_CB_jointBound 5 = .ok (.aaload, 1) := by decide +kernel
theorem nd_CB_jointBound_6 : decode nc_CB_jointBound 6 = .ok (.iload_n 1, 1) := by decide +kernel
theorem nd_CB_jointBound_7 : decode nc_CB_jointBound 7 = .ok (.invokevirtual 76, 3) := by decide +kernel
theorem nd_CB_jointBound_10 : decode nc_CB_jointBound 10 = .ok (.aload_n 0, 1) := by decide +kernel
theorem nd_CB_jointBound_11 : decode nc_CB_jointBound 11 = .ok (.getfield 25, 3) := by decide +kernel
theorem nd_CB_jointBound_14 : decode nc_CB_jointBound 14 = .ok (.iconst 1, 1) := by decide +kernel
theorem nd_CB_jointBound_15 : decode nc_CB_jointBound 15 = .ok (.aaload, 1) := by decide +kernel
theorem nd_CB_jointBound_16 : decode nc_CB_jointBound 16 = .ok (.iload_n 1, 1) := by decide +kernel
theorem nd_CB_jointBound_17 : decode nc_CB_jointBound 17 = .ok (.invokevirtual 76, 3) := by decide +kernel
theorem nd_CB_jointBound_20 : decode nc_CB_jointBound 20 = .ok (.iadd, 1) := by decide +kernel
theorem nd_CB_jointBound_21 : decode nc_CB_jointBound 21 = .ok (.aload_n 0, 1) := by decide +kernel
theorem nd_CB_jointBound_22 : decode nc_CB_jointBound 22 = .ok (.getfield 9, 3) := by decide +kernel
theorem nd_CB_jointBound_25 : decode nc_CB_jointBound 25 = .ok (.iadd, 1) := by decide +kernel
theorem nd_CB_jointBound_26 : decode nc_CB_jointBound 26 = .ok (.iload_n 1, 1) := by decide +kernel
theorem nd_CB_jointBound_27 : decode nc_CB_jointBound 27 = .ok (.invokestatic 86, 3) := by decide +kernel
theorem nd_CB_jointBound_30 : decode nc_CB_jointBound 30 = .ok (.isub, 1) := by decide +kernel
theorem nd_CB_jointBound_31 : decode nc_CB_jointBound 31 = .ok (.ireturn, 1) := by decide +kernel
set_option maxRecDepth 20000 in
theorem c_CB_jointBound (l : Launch) (D : va_G) (cI cG cM : ClassId)  (q : Nat → Nat) (n : Nat) (hn1 : 1 ≤ n) (hn : n ≤ 10) (mr : Nat → Option Nat) (a0 a1 : ma_A) (hm0 : mr 0 = some (a0.1 0)) (hm1 : mr 1 = some (a1.1 0)) (w : Nat → Int32) (t0 t1 : ma_S) (y : cb_Y) (hI : cb_I n y (w, t0, t1)) (s : Nat) (hs : s < 2 ^ n) (sz : Nat) : wb_Mi l ny_CB_jointBound nc_CB_jointBound 2 (some .int) ({ frames := 5, cells := 0, slots := 0, locals := 112 }) D (ty_all cI cG cM) (cw_ cI cG cM q n mr a0 a1 (w, t0, t1)) sz [.ref (q 0), .int (nI (s))] (fun (v : Int32) (u : cb_S) => v = nI (ma_r n y.2.1 s + ma_r n y.2.2 s + (n - mt_cd n s)) ∧ cb_I n y u) (fun u : cb_S => cw_ cI cG cM q n mr a0 a1 u) := by
  refine wb_start (S := cb_S) (by decide) (Nat.le_of_ble_eq_true rfl) ?_
  intro p e0 s0 m below meth c ls A hx hb hr hml htg hown hk hP hK hN hl hAe hsz hD hA
  have hl : lv_has ls 2 [(0, .ref (q 0)), (1, .int (nI (s)))] := hl
  have hP : va_P D cl_all ([((q 0), .inr (0, [.int (nI (n)), .int (nI (2 ^ n - 1)), .ref (q 1), .ref (q 2)])), ((q 1), .inl (cI, n, .inl w)), ((q 2), .inl (cM, 2, .inr (.inr (.inr (.inr mr)))))] ++ (mw_ cI cG a0 n t0 ++ (mw_ cI cG a1 n t1 ++ []))) s0.heap := hP
  have hD : va_D A ([((q 0), .inr (0, [.int (nI (n)), .int (nI (2 ^ n - 1)), .ref (q 1), .ref (q 2)])), ((q 1), .inl (cI, n, .inl w)), ((q 2), .inl (cM, 2, .inr (.inr (.inr (.inr mr)))))] ++ (mw_ cI cG a0 n t0 ++ (mw_ cI cG a1 n t1 ++ []))) := hD
  have hS : va_S A s0.heap s0.heap [] := va_S.rf
  have hRf : 5 ≤ ({ frames := 5, cells := 0, slots := 0, locals := 112 } : Room).frames := Nat.le_refl _
  have hRl : 112 ≤ ({ frames := 5, cells := 0, slots := 0, locals := 112 } : Room).locals := Nat.le_refl _
  have hCS : 0 ≤ ({ frames := 5, cells := 0, slots := 0, locals := 112 } : Room).cells ∧ 0 ≤ ({ frames := 5, cells := 0, slots := 0, locals := 112 } : Room).slots := ⟨Nat.zero_le _, Nat.zero_le _⟩
  have h2n : 2 ^ n ≤ 1024 := Nat.pow_le_pow_right (by omega) hn
  have h2p : 1 ≤ 2 ^ n := Nat.one_le_two_pow
  have hI0 : ma_I n y.2.1 t0 := hI.2.1
  have hI1 : ma_I n y.2.2 t1 := hI.2.2
  refine lv_aload_n hx hb nd_CB_jointBound_0 rfl (lv_at hl 0 rfl) ?_
  refine va_get (D := D) (C := nr_CB) (T := nt_CB) (N := 4) hx hb htg tf_CB hown hK hP 0 rfl rfl 3 (by decide) (htg _ tm_125) (fun _ h => h) rfl nd_CB_jointBound_1 ?_
  refine wi_ic hx hb (a := 0) nd_CB_jointBound_4 ?_
  refine wi_aald (v := (a0.1 0)) hx hb hK hP 2 2 rfl rfl rfl (by omega) (by omega) (hm0) nd_CB_jointBound_5 ?_
  refine lv_iload_n hx hb nd_CB_jointBound_6 rfl (lv_at hl 1 rfl) ?_
  refine wd_Vi (C := nr_MA) (n := 1) (X := [((q 0), .inr (0, [.int (nI (n)), .int (nI (2 ^ n - 1)), .ref (q 1), .ref (q 2)])), ((q 1), .inl (cI, n, .inl w)), ((q 2), .inl (cM, 2, .inr (.inr (.inr (.inr mr)))))]) (Y := mw_ cI cG a0 n t0) (Z := (mw_ cI cG a1 n t1 ++ [])) hx hb hml hown htg (c_MA_rankOf l D cI cG cM a0 n hn t0.1 t0.2.1 t0.2.2.1 t0.2.2.2.1 t0.2.2.2.2.1 t0.2.2.2.2.2 y.2.1 hI0 s (hs) _) tm_263 tm_314 tm_261 tm_262 tm_2 (by decide +kernel) ⟨⟨Nat.le_trans (by decide) hRf, Nat.le_trans (by decide) hRl⟩, rfl, rfl⟩ hP hD hS hA hK hN (va_recv (q0 := 0) (ci := 1) hK (wm_P (X := [((q 0), .inr (0, [.int (nI (n)), .int (nI (2 ^ n - 1)), .ref (q 1), .ref (q 2)])), ((q 1), .inl (cI, n, .inl w)), ((q 2), .inl (cM, 2, .inr (.inr (.inr (.inr mr)))))]) (Y := mw_ cI cG a0 n t0) (Z := (mw_ cI cG a1 n t1 ++ [])) hP).2.1 rfl rfl) rfl hl.1 rfl (Nat.le_of_ble_eq_true rfl) nd_CB_jointBound_7 hCS (fun v7 u7 H locs hp7 hP hD hS => ?_)
  have hP : va_P D cl_all ([((q 0), .inr (0, [.int (nI (n)), .int (nI (2 ^ n - 1)), .ref (q 1), .ref (q 2)])), ((q 1), .inl (cI, n, .inl w)), ((q 2), .inl (cM, 2, .inr (.inr (.inr (.inr mr)))))] ++ (mw_ cI cG a0 n u7 ++ (mw_ cI cG a1 n t1 ++ []))) H := hP
  have hD : va_D A ([((q 0), .inr (0, [.int (nI (n)), .int (nI (2 ^ n - 1)), .ref (q 1), .ref (q 2)])), ((q 1), .inl (cI, n, .inl w)), ((q 2), .inl (cM, 2, .inr (.inr (.inr (.inr mr)))))] ++ (mw_ cI cG a0 n u7 ++ (mw_ cI cG a1 n t1 ++ []))) := hD
  refine wi_top hp7.1 ?_
  refine lv_aload_n hx hb nd_CB_jointBound_10 rfl (lv_at hl 0 rfl) ?_
  refine va_get (D := D) (C := nr_CB) (T := nt_CB) (N := 4) hx hb htg tf_CB hown hK hP 0 rfl rfl 3 (by decide) (htg _ tm_125) (fun _ h => h) rfl nd_CB_jointBound_11 ?_
  refine wi_ic hx hb (a := 1) nd_CB_jointBound_14 ?_
  refine wi_aald (v := (a1.1 0)) hx hb hK hP 2 2 rfl rfl rfl (by omega) (by omega) (hm1) nd_CB_jointBound_15 ?_
  refine lv_iload_n hx hb nd_CB_jointBound_16 rfl (lv_at hl 1 rfl) ?_
  rw [← List.append_assoc] at hP hD
  refine wd_Vi (C := nr_MA) (n := 1) (X := ([((q 0), .inr (0, [.int (nI (n)), .int (nI (2 ^ n - 1)), .ref (q 1), .ref (q 2)])), ((q 1), .inl (cI, n, .inl w)), ((q 2), .inl (cM, 2, .inr (.inr (.inr (.inr mr)))))] ++ mw_ cI cG a0 n u7)) (Y := mw_ cI cG a1 n t1) (Z := []) hx hb hml hown htg (c_MA_rankOf l D cI cG cM a1 n hn t1.1 t1.2.1 t1.2.2.1 t1.2.2.2.1 t1.2.2.2.2.1 t1.2.2.2.2.2 y.2.2 hI1 s (hs) _) tm_263 tm_314 tm_261 tm_262 tm_2 (by decide +kernel) ⟨⟨Nat.le_trans (by decide) hRf, Nat.le_trans (by decide) hRl⟩, rfl, rfl⟩ hP hD hS hA hK hN (va_recv (q0 := 0) (ci := 1) hK (wm_P (X := ([((q 0), .inr (0, [.int (nI (n)), .int (nI (2 ^ n - 1)), .ref (q 1), .ref (q 2)])), ((q 1), .inl (cI, n, .inl w)), ((q 2), .inl (cM, 2, .inr (.inr (.inr (.inr mr)))))] ++ mw_ cI cG a0 n u7)) (Y := mw_ cI cG a1 n t1) (Z := []) hP).2.1 rfl rfl) rfl hl.1 rfl (Nat.le_of_ble_eq_true rfl) nd_CB_jointBound_17 hCS (fun v17 u17 H locs hp17 hP hD hS => ?_)
  rw [List.append_assoc] at hP hD
  have hP : va_P D cl_all ([((q 0), .inr (0, [.int (nI (n)), .int (nI (2 ^ n - 1)), .ref (q 1), .ref (q 2)])), ((q 1), .inl (cI, n, .inl w)), ((q 2), .inl (cM, 2, .inr (.inr (.inr (.inr mr)))))] ++ (mw_ cI cG a0 n u7 ++ (mw_ cI cG a1 n u17 ++ []))) H := hP
  have hD : va_D A ([((q 0), .inr (0, [.int (nI (n)), .int (nI (2 ^ n - 1)), .ref (q 1), .ref (q 2)])), ((q 1), .inl (cI, n, .inl w)), ((q 2), .inl (cM, 2, .inr (.inr (.inr (.inr mr)))))] ++ (mw_ cI cG a0 n u7 ++ (mw_ cI cG a1 n u17 ++ []))) := hD
  refine wi_top hp17.1 ?_
  refine wi_iadd hx hb nd_CB_jointBound_20 ?_
  refine lv_aload_n hx hb nd_CB_jointBound_21 rfl (lv_at hl 0 rfl) ?_
  refine va_get (D := D) (C := nr_CB) (T := nt_CB) (N := 4) hx hb htg tf_CB hown hK hP 0 rfl rfl 0 (by decide) (htg _ tm_122) (fun _ h => h) rfl nd_CB_jointBound_22 ?_
  refine wi_iadd hx hb nd_CB_jointBound_25 ?_
  refine lv_iload_n hx hb nd_CB_jointBound_26 rfl (lv_at hl 1 rfl) ?_
  refine wc_S (n := 1) hx hb hml hown htg (c_IN_bitCount l D _ s (by omega)) tm_304 tm_336 tm_303 tm_12 (by decide +kernel) ⟨⟨Nat.le_trans (by decide) hRf, Nat.le_trans (by decide) hRl⟩, rfl, rfl⟩ (wa_pre wa_nil hK hN) rfl hl.1 rfl (Nat.le_of_ble_eq_true rfl) nd_CB_jointBound_27 hCS ?_
  have hcd27 := mt_cd_le 10 s
  have hcl := mt_cd_le n s
  rw [bs_cd10 hn hs] at hcd27
  refine wi_top (congrArg (fun z => nI z) (bs_cd10 hn hs)) ?_
  refine wi_isub hx hb (by omega) nd_CB_jointBound_30 ?_
  refine wi_top (congrArg nI (show ma_r n y.2.1 s + ma_r n y.2.2 s + n - mt_cd n s = ma_r n y.2.1 s + ma_r n y.2.2 s + (n - mt_cd n s) by omega)) ?_
  exact wb_iret ((w, u7, u17)) hx hb hr hk hAe (⟨rfl, ⟨hI.1, hp7.2, hp17.2⟩⟩) hP hD hS nd_CB_jointBound_31
end
section
/-! The class: the questions with loops. -/
def sn_ (r : Nat → Nat) (s : Nat) : Nat → Nat
  | 0 => 0
  | k + 1 => if r (s ||| 2 ^ k) = r s then sn_ r s k ||| 2 ^ k else sn_ r s k
theorem sn_bit (r : Nat → Nat) (s : Nat) : ∀ k i, (sn_ r s k).testBit i = (decide (i < k) && decide (r (s ||| 2 ^ i) = r s)) := by
  intro k
  induction k with
  | zero => intro i; simp [sn_]
  | succ k ih =>
    intro i
    simp only [sn_]
    by_cases q : r (s ||| 2 ^ k) = r s
    · rw [if_pos q, Nat.testBit_or, mt_two, ih]
      by_cases h1 : i = k
      · subst h1; simp [q]
      · by_cases h2 : i < k
        · simp [h2, show i < k + 1 by omega, show ¬ k = i by omega]
        · simp [h2, show ¬ i < k + 1 by omega, show ¬ k = i by omega]
    · rw [if_neg q, ih]
      by_cases h1 : i = k
      · subst h1; simp [q]
      · by_cases h2 : i < k
        · simp [h2, show i < k + 1 by omega]
        · simp [h2, show ¬ i < k + 1 by omega]
theorem sn_all {n : Nat} {r : Nat → Nat} {s : Nat} (hs : s < 2 ^ n) : s ||| sn_ r s n = sn_ r s n := by
  apply Nat.eq_of_testBit_eq
  intro i
  rw [Nat.testBit_or, sn_bit]
  cases hb : s.testBit i with
  | false => simp
  | true => rw [mt_or_in hb]; simp [mt_lt hs hb]
def cq_ (r : Nat → Nat) (n s e : Nat) : Nat → Nat
  | 0 => 2 ^ e
  | k + 1 => if s.testBit k = true ∧ r ((s ||| 2 ^ e) ^^^ 2 ^ k) = mt_cd n ((s ||| 2 ^ e) ^^^ 2 ^ k) then cq_ r n s e k ||| 2 ^ k else cq_ r n s e k
noncomputable def sp_span (n : Nat) (y : cb_Y) (wh s : Int32) : Int32 := if sw_ wh && sr_ s (nI (2 ^ n - 1)) then nI (sn_ (ma_r n (cb_m y (tn_ wh))) (tn_ s) n) else -1
noncomputable def sp_circuit (n : Nat) (y : cb_Y) (wh s e : Int32) : Int32 := if sw_ wh && sr_ s (nI (2 ^ n - 1)) && sz_ n e then (if (tn_ s).testBit (tn_ e) = true ∨ ¬ ma_r n (cb_m y (tn_ wh)) (tn_ s) = mt_cd n (tn_ s) ∨ ma_r n (cb_m y (tn_ wh)) (tn_ s ||| 2 ^ tn_ e) = mt_cd n (tn_ s ||| 2 ^ tn_ e) then nI 0 else nI (cq_ (ma_r n (cb_m y (tn_ wh))) n (tn_ s) (tn_ e) n)) else -1
def gb_ (n : Nat) (w : Nat → Int32) (r : Nat → Nat) : Nat → Nat × Nat
  | 0 => (0, 0)
  | k + 1 => ((gb_ n w r k).1 ||| 2 ^ ms_F w (gb_ n w r k).1 n, if r ((gb_ n w r k).2 ||| 2 ^ ms_F w (gb_ n w r k).1 n) = mt_cd n ((gb_ n w r k).2 ||| 2 ^ ms_F w (gb_ n w r k).1 n) then (gb_ n w r k).2 ||| 2 ^ ms_F w (gb_ n w r k).1 n else (gb_ n w r k).2)
theorem gb_lt {n : Nat} (h1 : 1 ≤ n) (w : Nat → Int32) (r : Nat → Nat) : ∀ k, (gb_ n w r k).1 < 2 ^ n ∧ (gb_ n w r k).2 < 2 ^ n := by
  intro k
  induction k with
  | zero => exact ⟨Nat.two_pow_pos n, Nat.two_pow_pos n⟩
  | succ k ih =>
    have hF := ms_F_lt w (gb_ n w r k).1 n h1
    refine ⟨mt_orlt ih.1 hF, ?_⟩
    simp only [gb_]
    split
    · exact mt_orlt ih.2 hF
    · exact ih.2
noncomputable def sp_best (n : Nat) (y : cb_Y) (wh : Int32) : Int32 := if sw_ wh then nI (gb_ n y.1 (ma_r n (cb_m y (tn_ wh))) n).2 else -1
noncomputable def co_ (n : Nat) (y : cb_Y) (s : Nat) : Bool := decide (ma_r n y.2.1 s = mt_cd n s) && decide (ma_r n y.2.2 s = mt_cd n s)
noncomputable def cm_ (n : Nat) (y : cb_Y) (k : Int32) : Nat → Option Nat
  | 0 => none
  | s + 1 => if nI (mt_cd 10 s) = k ∧ co_ n y s = true then (match cm_ n y k s with | none => some s | some b => if ms_W y.1 n s ≤ ms_W y.1 n b then some b else some s) else cm_ n y k s
def oi_ (o : Option Nat) : Int32 := match o with | none => -2 | some b => nI b
theorem cm_lt (n : Nat) (y : cb_Y) (k : Int32) : ∀ s b, cm_ n y k s = some b → b < s := by
  intro s
  induction s with
  | zero => intro b h; simp [cm_] at h
  | succ s ih =>
    intro b h
    simp only [cm_] at h
    split at h
    · split at h
      · simp at h; omega
      · rename_i c hc
        split at h
        · simp at h; have := ih c hc; omega
        · simp at h; omega
    · have := ih b h; omega
noncomputable def sp_common (n : Nat) (y : cb_Y) (k : Int32) : Int32 := oi_ (cm_ n y k (2 ^ n))
noncomputable def lg_ (n : Nat) (y : cb_Y) : Nat → Nat
  | 0 => 0
  | s + 1 => if lg_ n y s < mt_cd 10 s ∧ co_ n y s = true then mt_cd 10 s else lg_ n y s
theorem lg_le (n : Nat) (y : cb_Y) (s : Nat) : lg_ n y s ≤ 10 := by
  induction s with
  | zero => simp [lg_]
  | succ s ih => simp only [lg_]; split; exact mt_cd_le 10 s; exact ih
noncomputable def h1_ (n : Nat) (y : cb_Y) (s : Nat) : Nat := ma_r n y.2.1 s + ma_r n y.2.2 (mt_co n s)
noncomputable def h2_ (n : Nat) (y : cb_Y) (s : Nat) : Nat := ma_r n y.2.1 s + ma_r n y.2.2 s + (n - mt_cd n s)
theorem h1_le {n : Nat} (hn : n ≤ 10) {y : cb_Y} (h0 : ma_v n y.2.1) (h1 : ma_v n y.2.2) {s : Nat} (hs : s < 2 ^ n) : h1_ n y s ≤ 30 := by
  have a := mt_le_cd (ma_M h0) hs
  have b := mt_le_cd (ma_M h1) (mt_colt hs)
  have c := mt_cd_le n s
  have d := mt_cd_le n (mt_co n s)
  unfold h1_; omega
theorem h2_le {n : Nat} (hn : n ≤ 10) {y : cb_Y} (h0 : ma_v n y.2.1) (h1 : ma_v n y.2.2) {s : Nat} (hs : s < 2 ^ n) : h2_ n y s ≤ 30 := by
  have a := mt_le_cd (ma_M h0) hs
  have b := mt_le_cd (ma_M h1) hs
  have c := mt_cd_le n s
  unfold h2_; omega
def fi_ (h : Nat → Nat) : Nat → Nat
  | 0 => 0
  | k + 1 => if h (k + 1) < h (fi_ h k) then k + 1 else fi_ h k
theorem fi_le (h : Nat → Nat) (k : Nat) : fi_ h k ≤ k := by
  induction k with
  | zero => exact Nat.le_refl _
  | succ k ih => simp only [fi_]; split <;> omega
theorem nd_CB_span_0 : decode nc_CB_span 0 = .ok (.iload_n 1, 1) := by decide +kernel
theorem nd_CB_span_1 : decode nc_CB_span 1 = .ok (.invokestatic 29, 3) := by decide +kernel
theorem nd_CB_span_4 : decode nc_CB_span 4 = .ok (.ifCond .eq 11, 3) := by decide +kernel
theorem nd_CB_span_7 : decode nc_CB_span 7 = .ok (.aload_n 0, 1) := by decide +kernel
theorem nd_CB_span_8 : decode nc_CB_span 8 = .ok (.iload_n 2, 1) := by decide +kernel
theorem nd_CB_span_9 : decode nc_CB_span 9 = .ok (.invokevirtual 70, 3) := by decide +kernel
theorem nd_CB_span_12 : decode nc_CB_span 12 = .ok (.ifCond .ne 5, 3) := by decide +kernel
theorem nd_CB_span_15 : decode nc_CB_span 15 = .ok (.iconst (-1), 1) := by decide +kernel
theorem nd_CB_span_16 : decode nc_CB_span 16 = .ok (.ireturn, 1) := by decide +kernel
theorem nd_CB_span_17 : decode nc_CB_span 17 = .ok (.aload_n 0, 1) := by decide +kernel
theorem nd_CB_span_18 : decode nc_CB_span 18 = .ok (.getfield 25, 3) := by decide +kernel
theorem nd_CB_span_21 : decode nc_CB_span 21 = .ok (.iload_n 1, 1) := by decide +kernel
theorem nd_CB_span_22 : decode nc_CB_span 22 = .ok (.aaload, 1) := by decide +kernel
theorem nd_CB_span_23 : decode nc_CB_span 23 = .ok (.astore_n 3, 1) := by decide +kernel
theorem nd_CB_span_24 : decode nc_CB_span 24 = .ok (.iload_n 2, 1) := by decide +kernel
theorem nd_CB_span_25 : decode nc_CB_span 25 = .ok (.istore 4, 2) := by decide +kernel
theorem nd_CB_span_27 : decode nc_CB_span 27 = .ok (.iconst 0, 1) := by decide +kernel
theorem nd_CB_span_28 : decode nc_CB_span 28 = .ok (.istore 5, 2) := by decide +kernel
theorem nd_CB_span_30 : decode nc_CB_span 30 = .ok (.iload 5, 2) := by decide +kernel
theorem nd_CB_span_32 : decode nc_CB_span 32 = .ok (.aload_n 0, 1) := by decide +kernel
theorem nd_CB_span_33 : decode nc_CB_span 33 = .ok (.getfield 9, 3) := by decide +kernel
theorem nd_CB_span_36 : decode nc_CB_span 36 = .ok (.if_icmp .ge 36, 3) := by decide +kernel
theorem nd_CB_span_39 : decode nc_CB_span 39 = .ok (.aload_n 3, 1) := by decide +kernel
theorem nd_CB_span_40 : decode nc_CB_span 40 = .ok (.iload_n 2, 1) := by decide +kernel
theorem nd_CB_span_41 : decode nc_CB_span 41 = .ok (.iconst 1, 1) := by decide +kernel
theorem nd_CB_span_42 : decode nc_CB_span 42 = .ok (.iload 5, 2) := by decide +kernel
theorem nd_CB_span_44 : decode nc_CB_span 44 = .ok (.ishl, 1) := by decide +kernel
theorem nd_CB_span_45 : decode nc_CB_span 45 = .ok (.ior, 1) := by decide +kernel
theorem nd_CB_span_46 : decode nc_CB_span 46 = .ok (.invokevirtual 76, 3) := by decide +kernel
theorem nd_CB_span_49 : decode nc_CB_span 49 = .ok (.aload_n 3, 1) := by decide +kernel
theorem nd_CB_span_50 : decode nc_CB_span 50 = .ok (.iload_n 2, 1) := by decide +kernel
theorem nd_CB_span_51 : decode nc_CB_span 51 = .ok (.invokevirtual 76, 3) := by decide +kernel
theorem nd_CB_span_54 : decode nc_CB_span 54 = .ok (.if_icmp .ne 12, 3) := by decide +kernel
theorem nd_CB_span_57 : decode nc_CB_span 57 = .ok (.iload 4, 2) := by decide +kernel
theorem nd_CB_span_59 : decode nc_CB_span 59 = .ok (.iconst 1, 1) := by decide +kernel
theorem nd_CB_span_60 : decode nc_CB_span 60 = .ok (.iload 5, 2) := by decide +kernel
theorem nd_CB_span_62 : decode nc_CB_span 62 = .ok (.ishl, 1) := by decide +kernel
theorem nd_CB_span_63 : decode nc_CB_span 63 = .ok (.ior, 1) := by decide +kernel
theorem nd_CB_span_64 : decode nc_CB_span 64 = .ok (.istore 4, 2) := by decide +kernel
theorem nd_CB_span_66 : decode nc_CB_span 66 = .ok (.iinc 5 1, 3) := by decide +kernel
theorem nd_CB_span_69 : decode nc_CB_span 69 = .ok (.goto (-39), 3) := by decide +kernel
theorem nd_CB_span_72 : decode nc_CB_span 72 = .ok (.iload 4, 2) := by decide +kernel
theorem nd_CB_span_74 : decode nc_CB_span 74 = .ok (.ireturn, 1) := by decide +kernel
set_option maxRecDepth 20000 in
theorem lp_CB_span0 {p : Program} {l : Launch} {e0 : Env} {R : Room} {s0 : State} {m : MethodId} {args : Array Value} {below : List Frame} {meth : Method} {c : Code} {cells slots : Nat} {Q : State → Prop} {D : va_G} {A : Nat → Prop} (cI cG cM : ClassId) (q : Nat → Nat) (n : Nat) (hn1 : 1 ≤ n) (hn : n ≤ 10) (mr : Nat → Option Nat) (a0 a1 : ma_A) (hm0 : mr 0 = some (a0.1 0)) (hm1 : mr 1 = some (a1.1 0)) (w : Nat → Int32) (y : cb_Y) (hWy : ∀ e, e < n → w e = y.1 e) (s : Nat) (hs : s < 2 ^ n)  (hx : p.tables.exec = Jvm.exec) (hb : c.code = nc_CB_span) (hml : c.maxLocals = 6) (htg : ∀ w ∈ tg_, w.before args s0 = true) (hown : s0.vm.findClass ny_CB_span.cls = some m.cls) (hK : va_K D cl_all (ty_all cI cG cM) s0) (hN : tn_K s0) (hA : ∀ q : Nat, s0.heap.size ≤ q → A q) (hRf : 5 ≤ R.frames) (hRl : 112 ≤ R.locals) (hCS : cells ≤ R.cells ∧ slots ≤ R.slots) (kx : ∀ (ls : Array Slot) (H : Heap) (locs : List Loc) (t0 : ma_S) (t1 : ma_S), (ma_I n y.2.1 t0) → (ma_I n y.2.2 t1) → lv_has ls 6 [(4, .int (nI (sn_ (ma_r n y.2.1) s n)))] → va_P D cl_all ([((q 0), .inr (0, [.int (nI (n)), .int (nI (2 ^ n - 1)), .ref (q 1), .ref (q 2)])), ((q 1), .inl (cI, n, .inl w)), ((q 2), .inl (cM, 2, .inr (.inr (.inr (.inr mr)))))] ++ (mw_ cI cG a0 n t0 ++ (mw_ cI cG a1 n t1 ++ []))) H → va_D A ([((q 0), .inr (0, [.int (nI (n)), .int (nI (2 ^ n - 1)), .ref (q 1), .ref (q 2)])), ((q 1), .inl (cI, n, .inl w)), ((q 2), .inl (cM, 2, .inr (.inr (.inr (.inr mr)))))] ++ (mw_ cI cG a0 n t0 ++ (mw_ cI cG a1 n t1 ++ []))) → va_S A s0.heap H locs → W p l e0 R s0 m args below meth c H locs cells slots Q (F0 m 72 ls [])) : ∀ (f : Nat) (e : Nat) (t0 : ma_S) (t1 : ma_S) (ls : Array Slot) (H : Heap) (locs : List Loc), n - e < f → (e ≤ n) → (ma_I n y.2.1 t0) → (ma_I n y.2.2 t1) → lv_has ls 6 [(5, .int (nI (e))), (4, .int (nI (s ||| sn_ (ma_r n y.2.1) s e))), (3, .ref (a0.1 0)), (0, .ref (q 0)), (2, .int (nI (s)))] → va_P D cl_all ([((q 0), .inr (0, [.int (nI (n)), .int (nI (2 ^ n - 1)), .ref (q 1), .ref (q 2)])), ((q 1), .inl (cI, n, .inl w)), ((q 2), .inl (cM, 2, .inr (.inr (.inr (.inr mr)))))] ++ (mw_ cI cG a0 n t0 ++ (mw_ cI cG a1 n t1 ++ []))) H → va_D A ([((q 0), .inr (0, [.int (nI (n)), .int (nI (2 ^ n - 1)), .ref (q 1), .ref (q 2)])), ((q 1), .inl (cI, n, .inl w)), ((q 2), .inl (cM, 2, .inr (.inr (.inr (.inr mr)))))] ++ (mw_ cI cG a0 n t0 ++ (mw_ cI cG a1 n t1 ++ []))) → va_S A s0.heap H locs → W p l e0 R s0 m args below meth c H locs cells slots Q (F0 m 30 ls []) := by
  intro f
  induction f with
  | zero => intro e t0 t1 ls H locs hfu; omega
  | succ f ih =>
    intro e t0 t1 ls H locs hfu he hI0 hI1 hl hP hD hS
    have h2n : 2 ^ n ≤ 1024 := Nat.pow_le_pow_right (by omega) hn
    have h2p : 1 ≤ 2 ^ n := Nat.one_le_two_pow
    refine lv_iload hx hb nd_CB_span_30 (lv_at hl 0 rfl) ?_
    refine lv_aload_n hx hb nd_CB_span_32 rfl (lv_at hl 3 rfl) ?_
    refine va_get (D := D) (C := nr_CB) (T := nt_CB) (N := 4) hx hb htg tf_CB hown hK hP 0 rfl rfl 0 (by decide) (htg _ tm_122) (fun _ h => h) rfl nd_CB_span_33 ?_
    refine wi_icmp_ge (tgt := 72) hx hb (by omega) (by omega) nd_CB_span_36 rfl (fun hc36 => ?_) (fun hc36 => ?_)
    · have hl : lv_has ls 6 [(4, .int (nI (s ||| sn_ (ma_r n y.2.1) s e)))] := lv_sub hl [1] rfl
      have hen : e = n := by omega
      exact kx ls H locs t0 t1 hI0 hI1 (by rw [← sn_all hs]; simpa only [hen] using hl) hP hD hS
    · refine lv_aload_n hx hb nd_CB_span_39 rfl (lv_at hl 2 rfl) ?_
      refine lv_iload_n hx hb nd_CB_span_40 rfl (lv_at hl 4 rfl) ?_
      refine wi_ic hx hb (a := 1) nd_CB_span_41 ?_
      refine lv_iload hx hb nd_CB_span_42 (lv_at hl 0 rfl) ?_
      refine wi_ishl1 hx hb (by omega) nd_CB_span_44 ?_
      refine wi_ior hx hb nd_CB_span_45 ?_
      refine wd_Vi (C := nr_MA) (n := 1) (X := [((q 0), .inr (0, [.int (nI (n)), .int (nI (2 ^ n - 1)), .ref (q 1), .ref (q 2)])), ((q 1), .inl (cI, n, .inl w)), ((q 2), .inl (cM, 2, .inr (.inr (.inr (.inr mr)))))]) (Y := mw_ cI cG a0 n t0) (Z := (mw_ cI cG a1 n t1 ++ [])) hx hb hml hown htg (c_MA_rankOf l D cI cG cM a0 n hn t0.1 t0.2.1 t0.2.2.1 t0.2.2.2.1 t0.2.2.2.2.1 t0.2.2.2.2.2 y.2.1 hI0 (s ||| (2 ^ e)) (mt_orlt hs (by omega)) _) tm_263 tm_314 tm_261 tm_262 tm_2 (by decide +kernel) ⟨⟨Nat.le_trans (by decide) hRf, Nat.le_trans (by decide) hRl⟩, rfl, rfl⟩ hP hD hS hA hK hN (va_recv (q0 := 0) (ci := 1) hK (wm_P (X := [((q 0), .inr (0, [.int (nI (n)), .int (nI (2 ^ n - 1)), .ref (q 1), .ref (q 2)])), ((q 1), .inl (cI, n, .inl w)), ((q 2), .inl (cM, 2, .inr (.inr (.inr (.inr mr)))))]) (Y := mw_ cI cG a0 n t0) (Z := (mw_ cI cG a1 n t1 ++ [])) hP).2.1 rfl rfl) rfl hl.1 rfl (Nat.le_of_ble_eq_true rfl) nd_CB_span_46 hCS (fun v46 u46 H locs hp46 hP hD hS => ?_)
      have hP : va_P D cl_all ([((q 0), .inr (0, [.int (nI (n)), .int (nI (2 ^ n - 1)), .ref (q 1), .ref (q 2)])), ((q 1), .inl (cI, n, .inl w)), ((q 2), .inl (cM, 2, .inr (.inr (.inr (.inr mr)))))] ++ (mw_ cI cG a0 n u46 ++ (mw_ cI cG a1 n t1 ++ []))) H := hP
      have hD : va_D A ([((q 0), .inr (0, [.int (nI (n)), .int (nI (2 ^ n - 1)), .ref (q 1), .ref (q 2)])), ((q 1), .inl (cI, n, .inl w)), ((q 2), .inl (cM, 2, .inr (.inr (.inr (.inr mr)))))] ++ (mw_ cI cG a0 n u46 ++ (mw_ cI cG a1 n t1 ++ []))) := hD
      refine wi_top hp46.1 ?_
      have hbd46 : ma_r n y.2.1 (s ||| (2 ^ e)) ≤ 10 := Nat.le_trans (mt_le_cd (ma_M hI0.1) (mt_orlt hs (by omega))) (Nat.le_trans (mt_cd_le n _) hn)
      refine lv_aload_n hx hb nd_CB_span_49 rfl (lv_at hl 2 rfl) ?_
      refine lv_iload_n hx hb nd_CB_span_50 rfl (lv_at hl 4 rfl) ?_
      refine wd_Vi (C := nr_MA) (n := 1) (X := [((q 0), .inr (0, [.int (nI (n)), .int (nI (2 ^ n - 1)), .ref (q 1), .ref (q 2)])), ((q 1), .inl (cI, n, .inl w)), ((q 2), .inl (cM, 2, .inr (.inr (.inr (.inr mr)))))]) (Y := mw_ cI cG a0 n u46) (Z := (mw_ cI cG a1 n t1 ++ [])) hx hb hml hown htg (c_MA_rankOf l D cI cG cM a0 n hn u46.1 u46.2.1 u46.2.2.1 u46.2.2.2.1 u46.2.2.2.2.1 u46.2.2.2.2.2 y.2.1 hp46.2 s (hs) _) tm_263 tm_314 tm_261 tm_262 tm_2 (by decide +kernel) ⟨⟨Nat.le_trans (by decide) hRf, Nat.le_trans (by decide) hRl⟩, rfl, rfl⟩ hP hD hS hA hK hN (va_recv (q0 := 0) (ci := 1) hK (wm_P (X := [((q 0), .inr (0, [.int (nI (n)), .int (nI (2 ^ n - 1)), .ref (q 1), .ref (q 2)])), ((q 1), .inl (cI, n, .inl w)), ((q 2), .inl (cM, 2, .inr (.inr (.inr (.inr mr)))))]) (Y := mw_ cI cG a0 n u46) (Z := (mw_ cI cG a1 n t1 ++ [])) hP).2.1 rfl rfl) rfl hl.1 rfl (Nat.le_of_ble_eq_true rfl) nd_CB_span_51 hCS (fun v51 u51 H locs hp51 hP hD hS => ?_)
      have hP : va_P D cl_all ([((q 0), .inr (0, [.int (nI (n)), .int (nI (2 ^ n - 1)), .ref (q 1), .ref (q 2)])), ((q 1), .inl (cI, n, .inl w)), ((q 2), .inl (cM, 2, .inr (.inr (.inr (.inr mr)))))] ++ (mw_ cI cG a0 n u51 ++ (mw_ cI cG a1 n t1 ++ []))) H := hP
      have hD : va_D A ([((q 0), .inr (0, [.int (nI (n)), .int (nI (2 ^ n - 1)), .ref (q 1), .ref (q 2)])), ((q 1), .inl (cI, n, .inl w)), ((q 2), .inl (cM, 2, .inr (.inr (.inr (.inr mr)))))] ++ (mw_ cI cG a0 n u51 ++ (mw_ cI cG a1 n t1 ++ []))) := hD
      refine wi_top hp51.1 ?_
      have hbd51 : ma_r n y.2.1 s ≤ 10 := Nat.le_trans (mt_le_cd (ma_M hI0.1) (hs)) (Nat.le_trans (mt_cd_le n _) hn)
      refine wi_icmp_ne (tgt := 66) hx hb (by omega) (by omega) nd_CB_span_54 rfl (fun hc54 => ?_) (fun hc54 => ?_)
      · refine lv_iinc (k := 0) (v := nI (e + 1)) hx hb nd_CB_span_66 hl rfl (wi_inc _ 1) (by decide) rfl (fun ls hl => ?_)
        have hl : lv_has ls 6 [(5, .int (nI (e + 1))), (4, .int (nI (s ||| sn_ (ma_r n y.2.1) s e))), (3, .ref (a0.1 0)), (0, .ref (q 0)), (2, .int (nI (s)))] := hl
        refine lv_goto (tgt := 30) hx hb nd_CB_span_69 rfl ?_
        have hl : lv_has ls 6 [(5, .int (nI (e + 1))), (4, .int (nI (s ||| sn_ (ma_r n y.2.1) s e))), (3, .ref (a0.1 0)), (0, .ref (q 0)), (2, .int (nI (s)))] := lv_sub hl [0, 1, 2, 3, 4] rfl
        have hsn : sn_ (ma_r n y.2.1) s (e + 1) = sn_ (ma_r n y.2.1) s e := if_neg hc54
        exact ih (e + 1) u51 t1 ls H locs (by omega) (by omega) hp51.2 hI1 (by rw [hsn]; exact hl) hP hD hS
      · refine lv_iload hx hb nd_CB_span_57 (lv_at hl 1 rfl) ?_
        refine wi_ic hx hb (a := 1) nd_CB_span_59 ?_
        refine lv_iload hx hb nd_CB_span_60 (lv_at hl 0 rfl) ?_
        refine wi_ishl1 hx hb (by omega) nd_CB_span_62 ?_
        refine wi_ior hx hb nd_CB_span_63 ?_
        refine lv_istore hx hb nd_CB_span_64 hl (by decide) rfl (fun ls hl => ?_)
        have hl : lv_has ls 6 [(4, .int (nI ((s ||| sn_ (ma_r n y.2.1) s e) ||| (2 ^ e)))), (5, .int (nI (e))), (3, .ref (a0.1 0)), (0, .ref (q 0)), (2, .int (nI (s)))] := hl
        refine lv_iinc (k := 1) (v := nI (e + 1)) hx hb nd_CB_span_66 hl rfl (wi_inc _ 1) (by decide) rfl (fun ls hl => ?_)
        have hl : lv_has ls 6 [(5, .int (nI (e + 1))), (4, .int (nI ((s ||| sn_ (ma_r n y.2.1) s e) ||| (2 ^ e)))), (3, .ref (a0.1 0)), (0, .ref (q 0)), (2, .int (nI (s)))] := hl
        refine lv_goto (tgt := 30) hx hb nd_CB_span_69 rfl ?_
        have hl : lv_has ls 6 [(5, .int (nI (e + 1))), (4, .int (nI ((s ||| sn_ (ma_r n y.2.1) s e) ||| (2 ^ e)))), (3, .ref (a0.1 0)), (0, .ref (q 0)), (2, .int (nI (s)))] := lv_sub hl [0, 1, 2, 3, 4] rfl
        have hsn : sn_ (ma_r n y.2.1) s (e + 1) = sn_ (ma_r n y.2.1) s e ||| 2 ^ e := if_pos hc54
        exact ih (e + 1) u51 t1 ls H locs (by omega) (by omega) hp51.2 hI1 (by rw [hsn, ← Nat.or_assoc]; exact hl) hP hD hS
set_option maxRecDepth 20000 in
theorem lp_CB_span1 {p : Program} {l : Launch} {e0 : Env} {R : Room} {s0 : State} {m : MethodId} {args : Array Value} {below : List Frame} {meth : Method} {c : Code} {cells slots : Nat} {Q : State → Prop} {D : va_G} {A : Nat → Prop} (cI cG cM : ClassId) (q : Nat → Nat) (n : Nat) (hn1 : 1 ≤ n) (hn : n ≤ 10) (mr : Nat → Option Nat) (a0 a1 : ma_A) (hm0 : mr 0 = some (a0.1 0)) (hm1 : mr 1 = some (a1.1 0)) (w : Nat → Int32) (y : cb_Y) (hWy : ∀ e, e < n → w e = y.1 e) (s : Nat) (hs : s < 2 ^ n)  (hx : p.tables.exec = Jvm.exec) (hb : c.code = nc_CB_span) (hml : c.maxLocals = 6) (htg : ∀ w ∈ tg_, w.before args s0 = true) (hown : s0.vm.findClass ny_CB_span.cls = some m.cls) (hK : va_K D cl_all (ty_all cI cG cM) s0) (hN : tn_K s0) (hA : ∀ q : Nat, s0.heap.size ≤ q → A q) (hRf : 5 ≤ R.frames) (hRl : 112 ≤ R.locals) (hCS : cells ≤ R.cells ∧ slots ≤ R.slots) (kx : ∀ (ls : Array Slot) (H : Heap) (locs : List Loc) (t0 : ma_S) (t1 : ma_S), (ma_I n y.2.1 t0) → (ma_I n y.2.2 t1) → lv_has ls 6 [(4, .int (nI (sn_ (ma_r n y.2.2) s n)))] → va_P D cl_all ([((q 0), .inr (0, [.int (nI (n)), .int (nI (2 ^ n - 1)), .ref (q 1), .ref (q 2)])), ((q 1), .inl (cI, n, .inl w)), ((q 2), .inl (cM, 2, .inr (.inr (.inr (.inr mr)))))] ++ (mw_ cI cG a0 n t0 ++ (mw_ cI cG a1 n t1 ++ []))) H → va_D A ([((q 0), .inr (0, [.int (nI (n)), .int (nI (2 ^ n - 1)), .ref (q 1), .ref (q 2)])), ((q 1), .inl (cI, n, .inl w)), ((q 2), .inl (cM, 2, .inr (.inr (.inr (.inr mr)))))] ++ (mw_ cI cG a0 n t0 ++ (mw_ cI cG a1 n t1 ++ []))) → va_S A s0.heap H locs → W p l e0 R s0 m args below meth c H locs cells slots Q (F0 m 72 ls [])) : ∀ (f : Nat) (e : Nat) (t0 : ma_S) (t1 : ma_S) (ls : Array Slot) (H : Heap) (locs : List Loc), n - e < f → (e ≤ n) → (ma_I n y.2.1 t0) → (ma_I n y.2.2 t1) → lv_has ls 6 [(5, .int (nI (e))), (4, .int (nI (s ||| sn_ (ma_r n y.2.2) s e))), (3, .ref (a1.1 0)), (0, .ref (q 0)), (2, .int (nI (s)))] → va_P D cl_all ([((q 0), .inr (0, [.int (nI (n)), .int (nI (2 ^ n - 1)), .ref (q 1), .ref (q 2)])), ((q 1), .inl (cI, n, .inl w)), ((q 2), .inl (cM, 2, .inr (.inr (.inr (.inr mr)))))] ++ (mw_ cI cG a0 n t0 ++ (mw_ cI cG a1 n t1 ++ []))) H → va_D A ([((q 0), .inr (0, [.int (nI (n)), .int (nI (2 ^ n - 1)), .ref (q 1), .ref (q 2)])), ((q 1), .inl (cI, n, .inl w)), ((q 2), .inl (cM, 2, .inr (.inr (.inr (.inr mr)))))] ++ (mw_ cI cG a0 n t0 ++ (mw_ cI cG a1 n t1 ++ []))) → va_S A s0.heap H locs → W p l e0 R s0 m args below meth c H locs cells slots Q (F0 m 30 ls []) := by
  intro f
  induction f with
  | zero => intro e t0 t1 ls H locs hfu; omega
  | succ f ih =>
    intro e t0 t1 ls H locs hfu he hI0 hI1 hl hP hD hS
    have h2n : 2 ^ n ≤ 1024 := Nat.pow_le_pow_right (by omega) hn
    have h2p : 1 ≤ 2 ^ n := Nat.one_le_two_pow
    refine lv_iload hx hb nd_CB_span_30 (lv_at hl 0 rfl) ?_
    refine lv_aload_n hx hb nd_CB_span_32 rfl (lv_at hl 3 rfl) ?_
    refine va_get (D := D) (C := nr_CB) (T := nt_CB) (N := 4) hx hb htg tf_CB hown hK hP 0 rfl rfl 0 (by decide) (htg _ tm_122) (fun _ h => h) rfl nd_CB_span_33 ?_
    refine wi_icmp_ge (tgt := 72) hx hb (by omega) (by omega) nd_CB_span_36 rfl (fun hc36 => ?_) (fun hc36 => ?_)
    · have hl : lv_has ls 6 [(4, .int (nI (s ||| sn_ (ma_r n y.2.2) s e)))] := lv_sub hl [1] rfl
      have hen : e = n := by omega
      exact kx ls H locs t0 t1 hI0 hI1 (by rw [← sn_all hs]; simpa only [hen] using hl) hP hD hS
    · refine lv_aload_n hx hb nd_CB_span_39 rfl (lv_at hl 2 rfl) ?_
      refine lv_iload_n hx hb nd_CB_span_40 rfl (lv_at hl 4 rfl) ?_
      refine wi_ic hx hb (a := 1) nd_CB_span_41 ?_
      refine lv_iload hx hb nd_CB_span_42 (lv_at hl 0 rfl) ?_
      refine wi_ishl1 hx hb (by omega) nd_CB_span_44 ?_
      refine wi_ior hx hb nd_CB_span_45 ?_
      rw [← List.append_assoc] at hP hD
      refine wd_Vi (C := nr_MA) (n := 1) (X := ([((q 0), .inr (0, [.int (nI (n)), .int (nI (2 ^ n - 1)), .ref (q 1), .ref (q 2)])), ((q 1), .inl (cI, n, .inl w)), ((q 2), .inl (cM, 2, .inr (.inr (.inr (.inr mr)))))] ++ mw_ cI cG a0 n t0)) (Y := mw_ cI cG a1 n t1) (Z := []) hx hb hml hown htg (c_MA_rankOf l D cI cG cM a1 n hn t1.1 t1.2.1 t1.2.2.1 t1.2.2.2.1 t1.2.2.2.2.1 t1.2.2.2.2.2 y.2.2 hI1 (s ||| (2 ^ e)) (mt_orlt hs (by omega)) _) tm_263 tm_314 tm_261 tm_262 tm_2 (by decide +kernel) ⟨⟨Nat.le_trans (by decide) hRf, Nat.le_trans (by decide) hRl⟩, rfl, rfl⟩ hP hD hS hA hK hN (va_recv (q0 := 0) (ci := 1) hK (wm_P (X := ([((q 0), .inr (0, [.int (nI (n)), .int (nI (2 ^ n - 1)), .ref (q 1), .ref (q 2)])), ((q 1), .inl (cI, n, .inl w)), ((q 2), .inl (cM, 2, .inr (.inr (.inr (.inr mr)))))] ++ mw_ cI cG a0 n t0)) (Y := mw_ cI cG a1 n t1) (Z := []) hP).2.1 rfl rfl) rfl hl.1 rfl (Nat.le_of_ble_eq_true rfl) nd_CB_span_46 hCS (fun v46 u46 H locs hp46 hP hD hS => ?_)
      rw [List.append_assoc] at hP hD
      have hP : va_P D cl_all ([((q 0), .inr (0, [.int (nI (n)), .int (nI (2 ^ n - 1)), .ref (q 1), .ref (q 2)])), ((q 1), .inl (cI, n, .inl w)), ((q 2), .inl (cM, 2, .inr (.inr (.inr (.inr mr)))))] ++ (mw_ cI cG a0 n t0 ++ (mw_ cI cG a1 n u46 ++ []))) H := hP
      have hD : va_D A ([((q 0), .inr (0, [.int (nI (n)), .int (nI (2 ^ n - 1)), .ref (q 1), .ref (q 2)])), ((q 1), .inl (cI, n, .inl w)), ((q 2), .inl (cM, 2, .inr (.inr (.inr (.inr mr)))))] ++ (mw_ cI cG a0 n t0 ++ (mw_ cI cG a1 n u46 ++ []))) := hD
      refine wi_top hp46.1 ?_
      have hbd46 : ma_r n y.2.2 (s ||| (2 ^ e)) ≤ 10 := Nat.le_trans (mt_le_cd (ma_M hI1.1) (mt_orlt hs (by omega))) (Nat.le_trans (mt_cd_le n _) hn)
      refine lv_aload_n hx hb nd_CB_span_49 rfl (lv_at hl 2 rfl) ?_
      refine lv_iload_n hx hb nd_CB_span_50 rfl (lv_at hl 4 rfl) ?_
      rw [← List.append_assoc] at hP hD
      refine wd_Vi (C := nr_MA) (n := 1) (X := ([((q 0), .inr (0, [.int (nI (n)), .int (nI (2 ^ n - 1)), .ref (q 1), .ref (q 2)])), ((q 1), .inl (cI, n, .inl w)), ((q 2), .inl (cM, 2, .inr (.inr (.inr (.inr mr)))))] ++ mw_ cI cG a0 n t0)) (Y := mw_ cI cG a1 n u46) (Z := []) hx hb hml hown htg (c_MA_rankOf l D cI cG cM a1 n hn u46.1 u46.2.1 u46.2.2.1 u46.2.2.2.1 u46.2.2.2.2.1 u46.2.2.2.2.2 y.2.2 hp46.2 s (hs) _) tm_263 tm_314 tm_261 tm_262 tm_2 (by decide +kernel) ⟨⟨Nat.le_trans (by decide) hRf, Nat.le_trans (by decide) hRl⟩, rfl, rfl⟩ hP hD hS hA hK hN (va_recv (q0 := 0) (ci := 1) hK (wm_P (X := ([((q 0), .inr (0, [.int (nI (n)), .int (nI (2 ^ n - 1)), .ref (q 1), .ref (q 2)])), ((q 1), .inl (cI, n, .inl w)), ((q 2), .inl (cM, 2, .inr (.inr (.inr (.inr mr)))))] ++ mw_ cI cG a0 n t0)) (Y := mw_ cI cG a1 n u46) (Z := []) hP).2.1 rfl rfl) rfl hl.1 rfl (Nat.le_of_ble_eq_true rfl) nd_CB_span_51 hCS (fun v51 u51 H locs hp51 hP hD hS => ?_)
      rw [List.append_assoc] at hP hD
      have hP : va_P D cl_all ([((q 0), .inr (0, [.int (nI (n)), .int (nI (2 ^ n - 1)), .ref (q 1), .ref (q 2)])), ((q 1), .inl (cI, n, .inl w)), ((q 2), .inl (cM, 2, .inr (.inr (.inr (.inr mr)))))] ++ (mw_ cI cG a0 n t0 ++ (mw_ cI cG a1 n u51 ++ []))) H := hP
      have hD : va_D A ([((q 0), .inr (0, [.int (nI (n)), .int (nI (2 ^ n - 1)), .ref (q 1), .ref (q 2)])), ((q 1), .inl (cI, n, .inl w)), ((q 2), .inl (cM, 2, .inr (.inr (.inr (.inr mr)))))] ++ (mw_ cI cG a0 n t0 ++ (mw_ cI cG a1 n u51 ++ []))) := hD
      refine wi_top hp51.1 ?_
      have hbd51 : ma_r n y.2.2 s ≤ 10 := Nat.le_trans (mt_le_cd (ma_M hI1.1) (hs)) (Nat.le_trans (mt_cd_le n _) hn)
      refine wi_icmp_ne (tgt := 66) hx hb (by omega) (by omega) nd_CB_span_54 rfl (fun hc54 => ?_) (fun hc54 => ?_)
      · refine lv_iinc (k := 0) (v := nI (e + 1)) hx hb nd_CB_span_66 hl rfl (wi_inc _ 1) (by decide) rfl (fun ls hl => ?_)
        have hl : lv_has ls 6 [(5, .int (nI (e + 1))), (4, .int (nI (s ||| sn_ (ma_r n y.2.2) s e))), (3, .ref (a1.1 0)), (0, .ref (q 0)), (2, .int (nI (s)))] := hl
        refine lv_goto (tgt := 30) hx hb nd_CB_span_69 rfl ?_
        have hl : lv_has ls 6 [(5, .int (nI (e + 1))), (4, .int (nI (s ||| sn_ (ma_r n y.2.2) s e))), (3, .ref (a1.1 0)), (0, .ref (q 0)), (2, .int (nI (s)))] := lv_sub hl [0, 1, 2, 3, 4] rfl
        have hsn : sn_ (ma_r n y.2.2) s (e + 1) = sn_ (ma_r n y.2.2) s e := if_neg hc54
        exact ih (e + 1) t0 u51 ls H locs (by omega) (by omega) hI0 hp51.2 (by rw [hsn]; exact hl) hP hD hS
      · refine lv_iload hx hb nd_CB_span_57 (lv_at hl 1 rfl) ?_
        refine wi_ic hx hb (a := 1) nd_CB_span_59 ?_
        refine lv_iload hx hb nd_CB_span_60 (lv_at hl 0 rfl) ?_
        refine wi_ishl1 hx hb (by omega) nd_CB_span_62 ?_
        refine wi_ior hx hb nd_CB_span_63 ?_
        refine lv_istore hx hb nd_CB_span_64 hl (by decide) rfl (fun ls hl => ?_)
        have hl : lv_has ls 6 [(4, .int (nI ((s ||| sn_ (ma_r n y.2.2) s e) ||| (2 ^ e)))), (5, .int (nI (e))), (3, .ref (a1.1 0)), (0, .ref (q 0)), (2, .int (nI (s)))] := hl
        refine lv_iinc (k := 1) (v := nI (e + 1)) hx hb nd_CB_span_66 hl rfl (wi_inc _ 1) (by decide) rfl (fun ls hl => ?_)
        have hl : lv_has ls 6 [(5, .int (nI (e + 1))), (4, .int (nI ((s ||| sn_ (ma_r n y.2.2) s e) ||| (2 ^ e)))), (3, .ref (a1.1 0)), (0, .ref (q 0)), (2, .int (nI (s)))] := hl
        refine lv_goto (tgt := 30) hx hb nd_CB_span_69 rfl ?_
        have hl : lv_has ls 6 [(5, .int (nI (e + 1))), (4, .int (nI ((s ||| sn_ (ma_r n y.2.2) s e) ||| (2 ^ e)))), (3, .ref (a1.1 0)), (0, .ref (q 0)), (2, .int (nI (s)))] := lv_sub hl [0, 1, 2, 3, 4] rfl
        have hsn : sn_ (ma_r n y.2.2) s (e + 1) = sn_ (ma_r n y.2.2) s e ||| 2 ^ e := if_pos hc54
        exact ih (e + 1) t0 u51 ls H locs (by omega) (by omega) hI0 hp51.2 (by rw [hsn, ← Nat.or_assoc]; exact hl) hP hD hS
set_option maxRecDepth 20000 in
theorem c_CB_span (l : Launch) (D : va_G) (cI cG cM : ClassId)  (q : Nat → Nat) (n : Nat) (hn1 : 1 ≤ n) (hn : n ≤ 10) (mr : Nat → Option Nat) (a0 a1 : ma_A) (hm0 : mr 0 = some (a0.1 0)) (hm1 : mr 1 = some (a1.1 0)) (w : Nat → Int32) (t0 t1 : ma_S) (y : cb_Y) (hI : cb_I n y (w, t0, t1)) (wh s : Int32) (sz : Nat) : wb_Mi l ny_CB_span nc_CB_span 6 (some .int) ({ frames := 5, cells := 0, slots := 0, locals := 112 }) D (ty_all cI cG cM) (cw_ cI cG cM q n mr a0 a1 (w, t0, t1)) sz [.ref (q 0), .int (wh), .int (s)] (fun (v : Int32) (u : cb_S) => v = sp_span n y wh s ∧ cb_I n y u) (fun u : cb_S => cw_ cI cG cM q n mr a0 a1 u) := by
  refine wb_start (S := cb_S) (by decide) (Nat.le_of_ble_eq_true rfl) ?_
  intro p e0 s0 m below meth c ls A hx hb hr hml htg hown hk hP hK hN hl hAe hsz hD hA
  have hl : lv_has ls 6 [(0, .ref (q 0)), (1, .int (wh)), (2, .int (s))] := hl
  have hP : va_P D cl_all ([((q 0), .inr (0, [.int (nI (n)), .int (nI (2 ^ n - 1)), .ref (q 1), .ref (q 2)])), ((q 1), .inl (cI, n, .inl w)), ((q 2), .inl (cM, 2, .inr (.inr (.inr (.inr mr)))))] ++ (mw_ cI cG a0 n t0 ++ (mw_ cI cG a1 n t1 ++ []))) s0.heap := hP
  have hD : va_D A ([((q 0), .inr (0, [.int (nI (n)), .int (nI (2 ^ n - 1)), .ref (q 1), .ref (q 2)])), ((q 1), .inl (cI, n, .inl w)), ((q 2), .inl (cM, 2, .inr (.inr (.inr (.inr mr)))))] ++ (mw_ cI cG a0 n t0 ++ (mw_ cI cG a1 n t1 ++ []))) := hD
  have hS : va_S A s0.heap s0.heap [] := va_S.rf
  have hRf : 5 ≤ ({ frames := 5, cells := 0, slots := 0, locals := 112 } : Room).frames := Nat.le_refl _
  have hRl : 112 ≤ ({ frames := 5, cells := 0, slots := 0, locals := 112 } : Room).locals := Nat.le_refl _
  have hCS : 0 ≤ ({ frames := 5, cells := 0, slots := 0, locals := 112 } : Room).cells ∧ 0 ≤ ({ frames := 5, cells := 0, slots := 0, locals := 112 } : Room).slots := ⟨Nat.zero_le _, Nat.zero_le _⟩
  have h2n : 2 ^ n ≤ 1024 := Nat.pow_le_pow_right (by omega) hn
  have h2p : 1 ≤ 2 ^ n := Nat.one_le_two_pow
  have hI0 : ma_I n y.2.1 t0 := hI.2.1
  have hI1 : ma_I n y.2.2 t1 := hI.2.2
  refine lv_iload_n hx hb nd_CB_span_0 rfl (lv_at hl 1 rfl) ?_
  rcases sm_which wh with hw1 | hw1 | hw1
  · subst hw1
    refine wc_S (n := 1) hx hb hml hown htg (c_CB_isMatroid l D _ (nI 0) (nI 1) (fun _ => rfl) (fun h => absurd (Or.inl nI_0) h)) tm_141 tm_139 tm_140 tm_1 (by decide +kernel) ⟨⟨Nat.le_trans (by decide) hRf, Nat.le_trans (by decide) hRl⟩, rfl, rfl⟩ (wa_pre wa_nil hK hN) rfl hl.1 rfl (Nat.le_of_ble_eq_true rfl) nd_CB_span_1 hCS ?_
    refine wi_if_eq (tgt := 15) hx hb (by decide) nd_CB_span_4 rfl (fun h => absurd h (by decide)) (fun _ => ?_)
    refine lv_aload_n hx hb nd_CB_span_7 rfl (lv_at hl 0 rfl) ?_
    refine lv_iload_n hx hb nd_CB_span_8 rfl (lv_at hl 2 rfl) ?_
    by_cases hq9 : ¬ s < 0 ∧ ¬ nI (2 ^ n - 1) < s
    · obtain ⟨s1, h_s1, rfl⟩ := sm_upto (by omega) hq9
      refine wc_V (C := nr_CB) (n := 1) hx hb hml hown htg (c_CB_isSet l D _ (q 0) (q 1) (q 2) n (nI s1) (nI 1) (fun _ => rfl) (fun h => absurd hq9 h)) tm_255 tm_252 tm_254 tp_3 tm_1 (by decide +kernel) ⟨⟨Nat.le_trans (by decide) hRf, Nat.le_trans (by decide) hRl⟩, rfl, rfl⟩ (wa_pre (hP.sub [0] rfl) hK hN) (va_recv (q0 := 0) (ci := 0) hK hP rfl rfl) rfl hl.1 rfl (Nat.le_of_ble_eq_true rfl) nd_CB_span_9 hCS ?_
      refine wi_if_ne (tgt := 17) hx hb (by decide) nd_CB_span_12 rfl (fun _ => ?_) (fun h => absurd h (by decide))
      refine lv_aload_n hx hb nd_CB_span_17 rfl (lv_at hl 0 rfl) ?_
      refine va_get (D := D) (C := nr_CB) (T := nt_CB) (N := 4) hx hb htg tf_CB hown hK hP 0 rfl rfl 3 (by decide) (htg _ tm_125) (fun _ h => h) rfl nd_CB_span_18 ?_
      refine lv_iload_n hx hb nd_CB_span_21 rfl (lv_at hl 1 rfl) ?_
      refine wi_aald (v := (a0.1 0)) hx hb hK hP 2 2 rfl rfl rfl (by omega) (by omega) (hm0) nd_CB_span_22 ?_
      refine lv_astore_n hx hb nd_CB_span_23 rfl hl (by decide) rfl (fun ls hl => ?_)
      have hl : lv_has ls 6 [(3, .ref (a0.1 0)), (0, .ref (q 0)), (1, .int (nI (0))), (2, .int (nI (s1)))] := hl
      refine lv_iload_n hx hb nd_CB_span_24 rfl (lv_at hl 3 rfl) ?_
      refine lv_istore hx hb nd_CB_span_25 hl (by decide) rfl (fun ls hl => ?_)
      have hl : lv_has ls 6 [(4, .int (nI (s1))), (3, .ref (a0.1 0)), (0, .ref (q 0)), (1, .int (nI (0))), (2, .int (nI (s1)))] := hl
      refine wi_ic hx hb (a := 0) nd_CB_span_27 ?_
      refine lv_istore hx hb nd_CB_span_28 hl (by decide) rfl (fun ls hl => ?_)
      have hl : lv_has ls 6 [(5, .int (nI (0))), (4, .int (nI (s1))), (3, .ref (a0.1 0)), (0, .ref (q 0)), (1, .int (nI (0))), (2, .int (nI (s1)))] := hl
      have hl : lv_has ls 6 [(5, .int (nI (0))), (4, .int (nI (s1))), (3, .ref (a0.1 0)), (0, .ref (q 0)), (2, .int (nI (s1)))] := lv_sub hl [0, 1, 2, 3, 5] rfl
      refine lp_CB_span0 cI cG cM q n hn1 hn mr a0 a1 hm0 hm1 w y (fun e he => (hI.1 e he).1) s1 (by omega) hx hb hml htg hown hK hN hA hRf hRl hCS (fun ls H locs t0 t1 hI0 hI1 hl hP hD hS => ?_) (n + 1) 0 t0 t1 ls s0.heap [] (by omega) (by omega) hI0 hI1 (by simpa [sn_] using hl) hP hD hS
      refine lv_iload hx hb nd_CB_span_72 (lv_at hl 0 rfl) ?_
      have hsp : sp_span n y (nI 0) (nI s1) = nI (sn_ (ma_r n y.2.1) s1 n) := by unfold sp_span; simp only [sw_0, sr_t h_s1 (show 2 ^ n - 1 < 2 ^ 31 by omega), tn_0, tn_nI (show s1 < 2 ^ 31 by omega)]; simp [cb_m]
      exact wb_iret (w, t0, t1) hx hb hr hk hAe (by rw [hsp]; exact ⟨rfl, hI.1, hI0, hI1⟩) hP hD hS nd_CB_span_74
    · refine wc_V (C := nr_CB) (n := 1) hx hb hml hown htg (c_CB_isSet l D _ (q 0) (q 1) (q 2) n s (nI 0) (fun h => absurd h hq9) (fun _ => rfl)) tm_255 tm_252 tm_254 tp_3 tm_1 (by decide +kernel) ⟨⟨Nat.le_trans (by decide) hRf, Nat.le_trans (by decide) hRl⟩, rfl, rfl⟩ (wa_pre (hP.sub [0] rfl) hK hN) (va_recv (q0 := 0) (ci := 0) hK hP rfl rfl) rfl hl.1 rfl (Nat.le_of_ble_eq_true rfl) nd_CB_span_9 hCS ?_
      refine wi_if_ne (tgt := 17) hx hb (by decide) nd_CB_span_12 rfl (fun h => absurd h (by decide)) (fun _ => ?_)
      refine lv_iconst (v := -1) hx hb nd_CB_span_15 (by decide) ?_
      have hsp : sp_span n y (nI (0)) s = -1 := by unfold sp_span; simp [sr_f hq9]
      exact wb_iret (w, t0, t1) hx hb hr hk hAe (by rw [hsp]; exact ⟨rfl, hI⟩) hP hD hS nd_CB_span_16
  · subst hw1
    refine wc_S (n := 1) hx hb hml hown htg (c_CB_isMatroid l D _ (nI 1) (nI 1) (fun _ => rfl) (fun h => absurd (Or.inr rfl) h)) tm_141 tm_139 tm_140 tm_1 (by decide +kernel) ⟨⟨Nat.le_trans (by decide) hRf, Nat.le_trans (by decide) hRl⟩, rfl, rfl⟩ (wa_pre wa_nil hK hN) rfl hl.1 rfl (Nat.le_of_ble_eq_true rfl) nd_CB_span_1 hCS ?_
    refine wi_if_eq (tgt := 15) hx hb (by decide) nd_CB_span_4 rfl (fun h => absurd h (by decide)) (fun _ => ?_)
    refine lv_aload_n hx hb nd_CB_span_7 rfl (lv_at hl 0 rfl) ?_
    refine lv_iload_n hx hb nd_CB_span_8 rfl (lv_at hl 2 rfl) ?_
    by_cases hq9 : ¬ s < 0 ∧ ¬ nI (2 ^ n - 1) < s
    · obtain ⟨s1, h_s1, rfl⟩ := sm_upto (by omega) hq9
      refine wc_V (C := nr_CB) (n := 1) hx hb hml hown htg (c_CB_isSet l D _ (q 0) (q 1) (q 2) n (nI s1) (nI 1) (fun _ => rfl) (fun h => absurd hq9 h)) tm_255 tm_252 tm_254 tp_3 tm_1 (by decide +kernel) ⟨⟨Nat.le_trans (by decide) hRf, Nat.le_trans (by decide) hRl⟩, rfl, rfl⟩ (wa_pre (hP.sub [0] rfl) hK hN) (va_recv (q0 := 0) (ci := 0) hK hP rfl rfl) rfl hl.1 rfl (Nat.le_of_ble_eq_true rfl) nd_CB_span_9 hCS ?_
      refine wi_if_ne (tgt := 17) hx hb (by decide) nd_CB_span_12 rfl (fun _ => ?_) (fun h => absurd h (by decide))
      refine lv_aload_n hx hb nd_CB_span_17 rfl (lv_at hl 0 rfl) ?_
      refine va_get (D := D) (C := nr_CB) (T := nt_CB) (N := 4) hx hb htg tf_CB hown hK hP 0 rfl rfl 3 (by decide) (htg _ tm_125) (fun _ h => h) rfl nd_CB_span_18 ?_
      refine lv_iload_n hx hb nd_CB_span_21 rfl (lv_at hl 1 rfl) ?_
      refine wi_aald (v := (a1.1 0)) hx hb hK hP 2 2 rfl rfl rfl (by omega) (by omega) (hm1) nd_CB_span_22 ?_
      refine lv_astore_n hx hb nd_CB_span_23 rfl hl (by decide) rfl (fun ls hl => ?_)
      have hl : lv_has ls 6 [(3, .ref (a1.1 0)), (0, .ref (q 0)), (1, .int (nI (1))), (2, .int (nI (s1)))] := hl
      refine lv_iload_n hx hb nd_CB_span_24 rfl (lv_at hl 3 rfl) ?_
      refine lv_istore hx hb nd_CB_span_25 hl (by decide) rfl (fun ls hl => ?_)
      have hl : lv_has ls 6 [(4, .int (nI (s1))), (3, .ref (a1.1 0)), (0, .ref (q 0)), (1, .int (nI (1))), (2, .int (nI (s1)))] := hl
      refine wi_ic hx hb (a := 0) nd_CB_span_27 ?_
      refine lv_istore hx hb nd_CB_span_28 hl (by decide) rfl (fun ls hl => ?_)
      have hl : lv_has ls 6 [(5, .int (nI (0))), (4, .int (nI (s1))), (3, .ref (a1.1 0)), (0, .ref (q 0)), (1, .int (nI (1))), (2, .int (nI (s1)))] := hl
      have hl : lv_has ls 6 [(5, .int (nI (0))), (4, .int (nI (s1))), (3, .ref (a1.1 0)), (0, .ref (q 0)), (2, .int (nI (s1)))] := lv_sub hl [0, 1, 2, 3, 5] rfl
      refine lp_CB_span1 cI cG cM q n hn1 hn mr a0 a1 hm0 hm1 w y (fun e he => (hI.1 e he).1) s1 (by omega) hx hb hml htg hown hK hN hA hRf hRl hCS (fun ls H locs t0 t1 hI0 hI1 hl hP hD hS => ?_) (n + 1) 0 t0 t1 ls s0.heap [] (by omega) (by omega) hI0 hI1 (by simpa [sn_] using hl) hP hD hS
      refine lv_iload hx hb nd_CB_span_72 (lv_at hl 0 rfl) ?_
      have hsp : sp_span n y (nI 1) (nI s1) = nI (sn_ (ma_r n y.2.2) s1 n) := by unfold sp_span; simp only [sw_1, sr_t h_s1 (show 2 ^ n - 1 < 2 ^ 31 by omega), tn_1, tn_nI (show s1 < 2 ^ 31 by omega)]; simp [cb_m]
      exact wb_iret (w, t0, t1) hx hb hr hk hAe (by rw [hsp]; exact ⟨rfl, hI.1, hI0, hI1⟩) hP hD hS nd_CB_span_74
    · refine wc_V (C := nr_CB) (n := 1) hx hb hml hown htg (c_CB_isSet l D _ (q 0) (q 1) (q 2) n s (nI 0) (fun h => absurd h hq9) (fun _ => rfl)) tm_255 tm_252 tm_254 tp_3 tm_1 (by decide +kernel) ⟨⟨Nat.le_trans (by decide) hRf, Nat.le_trans (by decide) hRl⟩, rfl, rfl⟩ (wa_pre (hP.sub [0] rfl) hK hN) (va_recv (q0 := 0) (ci := 0) hK hP rfl rfl) rfl hl.1 rfl (Nat.le_of_ble_eq_true rfl) nd_CB_span_9 hCS ?_
      refine wi_if_ne (tgt := 17) hx hb (by decide) nd_CB_span_12 rfl (fun h => absurd h (by decide)) (fun _ => ?_)
      refine lv_iconst (v := -1) hx hb nd_CB_span_15 (by decide) ?_
      have hsp : sp_span n y (nI (1)) s = -1 := by unfold sp_span; simp [sr_f hq9]
      exact wb_iret (w, t0, t1) hx hb hr hk hAe (by rw [hsp]; exact ⟨rfl, hI⟩) hP hD hS nd_CB_span_16
  · refine wc_S (n := 1) hx hb hml hown htg (c_CB_isMatroid l D _ wh (nI 0) (fun h => absurd h (fun z => z.elim (fun z => hw1.1 (z.trans nI_0.symm)) hw1.2)) (fun _ => rfl)) tm_141 tm_139 tm_140 tm_1 (by decide +kernel) ⟨⟨Nat.le_trans (by decide) hRf, Nat.le_trans (by decide) hRl⟩, rfl, rfl⟩ (wa_pre wa_nil hK hN) rfl hl.1 rfl (Nat.le_of_ble_eq_true rfl) nd_CB_span_1 hCS ?_
    refine wi_if_eq (tgt := 15) hx hb (by decide) nd_CB_span_4 rfl (fun _ => ?_) (fun h => absurd h (by decide))
    refine lv_iconst (v := -1) hx hb nd_CB_span_15 (by decide) ?_
    have hsp : sp_span n y wh s = -1 := by unfold sp_span; simp [sw_n hw1]
    exact wb_iret (w, t0, t1) hx hb hr hk hAe (by rw [hsp]; exact ⟨rfl, hI⟩) hP hD hS nd_CB_span_16
theorem nd_CB_witness_0 : decode nc_CB_witness 0 = .ok (.iconst 0, 1) := by decide +kernel
theorem nd_CB_witness_1 : decode nc_CB_witness 1 = .ok (.istore_n 1, 1) := by decide +kernel
theorem nd_CB_witness_2 : decode nc_CB_witness 2 = .ok (.aload_n 0, 1) := by decide +kernel
theorem nd_CB_witness_3 : decode nc_CB_witness 3 = .ok (.iload_n 1, 1) := by decide +kernel
theorem nd_CB_witness_4 : decode nc_CB_witness 4 = .ok (.invokevirtual 97, 3) := by decide +kernel
theorem nd_CB_witness_7 : decode nc_CB_witness 7 = .ok (.istore_n 2, 1) := by decide +kernel
theorem nd_CB_witness_8 : decode nc_CB_witness 8 = .ok (.iconst 1, 1) := by decide +kernel
theorem nd_CB_witness_9 : decode nc_CB_witness 9 = .ok (.istore_n 3, 1) := by decide +kernel
theorem nd_CB_witness_10 : decode nc_CB_witness 10 = .ok (.iload_n 3, 1) := by decide +kernel
theorem nd_CB_witness_11 : decode nc_CB_witness 11 = .ok (.aload_n 0, 1) := by decide +kernel
theorem nd_CB_witness_12 : decode nc_CB_witness 12 = .ok (.getfield 13, 3) := by decide +kernel
theorem nd_CB_witness_15 : decode nc_CB_witness 15 = .ok (.if_icmp .gt 27, 3) := by decide +kernel
theorem nd_CB_witness_18 : decode nc_CB_witness 18 = .ok (.aload_n 0, 1) := by decide +kernel
theorem nd_CB_witness_19 : decode nc_CB_witness 19 = .ok (.iload_n 3, 1) := by decide +kernel
theorem nd_CB_witness_20 : decode nc_CB_witness 20 = .ok (.invokevirtual 97, 3) := by decide +kernel
theorem nd_CB_witness_23 : decode nc_CB_witness 23 = .ok (.istore 4, 2) := by decide +kernel
theorem nd_CB_witness_25 : decode nc_CB_witness 25 = .ok (.iload 4, 2) := by decide +kernel
theorem nd_CB_witness_27 : decode nc_CB_witness 27 = .ok (.iload_n 2, 1) := by decide +kernel
theorem nd_CB_witness_28 : decode nc_CB_witness 28 = .ok (.if_icmp .ge 8, 3) := by decide +kernel
theorem nd_CB_witness_31 : decode nc_CB_witness 31 = .ok (.iload_n 3, 1) := by decide +kernel
theorem nd_CB_witness_32 : decode nc_CB_witness 32 = .ok (.istore_n 1, 1) := by decide +kernel
theorem nd_CB_witness_33 : decode nc_CB_witness 33 = .ok (.iload 4, 2) := by decide +kernel
theorem nd_CB_witness_35 : decode nc_CB_witness 35 = .ok (.istore_n 2, 1) := by decide +kernel
theorem nd_CB_witness_36 : decode nc_CB_witness 36 = .ok (.iinc 3 1, 3) := by decide +kernel
theorem nd_CB_witness_39 : decode nc_CB_witness 39 = .ok (.goto (-29), 3) := by decide +kernel
theorem nd_CB_witness_42 : decode nc_CB_witness 42 = .ok (.iload_n 1, 1) := by decide +kernel
theorem nd_CB_witness_43 : decode nc_CB_witness 43 = .ok (.ireturn, 1) := by decide +kernel
set_option maxRecDepth 20000 in
theorem lp_CB_witness {p : Program} {l : Launch} {e0 : Env} {R : Room} {s0 : State} {m : MethodId} {args : Array Value} {below : List Frame} {meth : Method} {c : Code} {cells slots : Nat} {Q : State → Prop} {D : va_G} {A : Nat → Prop} (cI cG cM : ClassId) (q : Nat → Nat) (n : Nat) (hn1 : 1 ≤ n) (hn : n ≤ 10) (mr : Nat → Option Nat) (a0 a1 : ma_A) (hm0 : mr 0 = some (a0.1 0)) (hm1 : mr 1 = some (a1.1 0)) (y : cb_Y)  (hx : p.tables.exec = Jvm.exec) (hb : c.code = nc_CB_witness) (hml : c.maxLocals = 5) (htg : ∀ w ∈ tg_, w.before args s0 = true) (hown : s0.vm.findClass ny_CB_witness.cls = some m.cls) (hK : va_K D cl_all (ty_all cI cG cM) s0) (hN : tn_K s0) (hA : ∀ q : Nat, s0.heap.size ≤ q → A q) (hRf : 6 ≤ R.frames) (hRl : 133 ≤ R.locals) (hCS : cells ≤ R.cells ∧ slots ≤ R.slots) (kx : ∀ (ls : Array Slot) (H : Heap) (locs : List Loc) (w : Nat → Int32) (t0 : ma_S) (t1 : ma_S), (∀ e, e < n → w e = y.1 e ∧ -1000000 ≤ (y.1 e).toInt ∧ (y.1 e).toInt ≤ 1000000) → (ma_I n y.2.1 t0) → (ma_I n y.2.2 t1) → lv_has ls 5 [(1, .int (nI (fi_ (h1_ n y) (2 ^ n - 1))))] → va_P D cl_all ([((q 0), .inr (0, [.int (nI (n)), .int (nI (2 ^ n - 1)), .ref (q 1), .ref (q 2)])), ((q 1), .inl (cI, n, .inl w)), ((q 2), .inl (cM, 2, .inr (.inr (.inr (.inr mr)))))] ++ (mw_ cI cG a0 n t0 ++ (mw_ cI cG a1 n t1 ++ []))) H → va_D A ([((q 0), .inr (0, [.int (nI (n)), .int (nI (2 ^ n - 1)), .ref (q 1), .ref (q 2)])), ((q 1), .inl (cI, n, .inl w)), ((q 2), .inl (cM, 2, .inr (.inr (.inr (.inr mr)))))] ++ (mw_ cI cG a0 n t0 ++ (mw_ cI cG a1 n t1 ++ []))) → va_S A s0.heap H locs → W p l e0 R s0 m args below meth c H locs cells slots Q (F0 m 42 ls [])) : ∀ (f : Nat) (i : Nat) (w : Nat → Int32) (t0 : ma_S) (t1 : ma_S) (ls : Array Slot) (H : Heap) (locs : List Loc), 2 ^ n - i < f → (i ≤ 2 ^ n) → (1 ≤ i) → (∀ e, e < n → w e = y.1 e ∧ -1000000 ≤ (y.1 e).toInt ∧ (y.1 e).toInt ≤ 1000000) → (ma_I n y.2.1 t0) → (ma_I n y.2.2 t1) → lv_has ls 5 [(3, .int (nI (i))), (2, .int (nI (h1_ n y (fi_ (h1_ n y) (i - 1))))), (1, .int (nI (fi_ (h1_ n y) (i - 1)))), (0, .ref (q 0))] → va_P D cl_all ([((q 0), .inr (0, [.int (nI (n)), .int (nI (2 ^ n - 1)), .ref (q 1), .ref (q 2)])), ((q 1), .inl (cI, n, .inl w)), ((q 2), .inl (cM, 2, .inr (.inr (.inr (.inr mr)))))] ++ (mw_ cI cG a0 n t0 ++ (mw_ cI cG a1 n t1 ++ []))) H → va_D A ([((q 0), .inr (0, [.int (nI (n)), .int (nI (2 ^ n - 1)), .ref (q 1), .ref (q 2)])), ((q 1), .inl (cI, n, .inl w)), ((q 2), .inl (cM, 2, .inr (.inr (.inr (.inr mr)))))] ++ (mw_ cI cG a0 n t0 ++ (mw_ cI cG a1 n t1 ++ []))) → va_S A s0.heap H locs → W p l e0 R s0 m args below meth c H locs cells slots Q (F0 m 10 ls []) := by
  intro f
  induction f with
  | zero => intro i w t0 t1 ls H locs hfu; omega
  | succ f ih =>
    intro i w t0 t1 ls H locs hfu hi hi1 hwb hI0 hI1 hl hP hD hS
    have h2n : 2 ^ n ≤ 1024 := Nat.pow_le_pow_right (by omega) hn
    have hfl := fi_le (h1_ n y) (i - 1)
    have hbf := h1_le hn hI0.1 hI1.1 (s := fi_ (h1_ n y) (i - 1)) (by omega)
    refine lv_iload_n hx hb nd_CB_witness_10 rfl (lv_at hl 0 rfl) ?_
    refine lv_aload_n hx hb nd_CB_witness_11 rfl (lv_at hl 3 rfl) ?_
    refine va_get (D := D) (C := nr_CB) (T := nt_CB) (N := 4) hx hb htg tf_CB hown hK hP 0 rfl rfl 1 (by decide) (htg _ tm_123) (fun _ h => h) rfl nd_CB_witness_12 ?_
    refine wi_icmp_gt (tgt := 42) hx hb (by omega) (by omega) nd_CB_witness_15 rfl (fun hc15 => ?_) (fun hc15 => ?_)
    · have hl : lv_has ls 5 [(1, .int (nI (fi_ (h1_ n y) (i - 1))))] := lv_sub hl [2] rfl
      have hin : i = 2 ^ n := by omega
      exact kx ls H locs w t0 t1 hwb hI0 hI1 (by simpa only [hin] using hl) hP hD hS
    · refine lv_aload_n hx hb nd_CB_witness_18 rfl (lv_at hl 3 rfl) ?_
      refine lv_iload_n hx hb nd_CB_witness_19 rfl (lv_at hl 0 rfl) ?_
      refine wd_Vi0 (C := nr_CB) (n := 1) (Y := cw_ cI cG cM q n mr a0 a1 (w, t0, t1)) hx hb hml hown htg (c_CB_commonBound l D cI cG cM q n hn1 hn mr a0 a1 hm0 hm1 w t0 t1 y ⟨hwb, hI0, hI1⟩ i (by omega) _) tm_360 tm_357 tm_359 tp_10 tm_1 (by decide +kernel) ⟨⟨Nat.le_trans (by decide) hRf, Nat.le_trans (by decide) hRl⟩, rfl, rfl⟩ hP hD hS hA hK hN (va_recv (q0 := 0) (ci := 0) hK hP rfl rfl) rfl hl.1 rfl (Nat.le_of_ble_eq_true rfl) nd_CB_witness_20 hCS (fun v20 u20 H locs hp20 hP hD hS => ?_)
      have hP : va_P D cl_all ([((q 0), .inr (0, [.int (nI (n)), .int (nI (2 ^ n - 1)), .ref (q 1), .ref (q 2)])), ((q 1), .inl (cI, n, .inl u20.1)), ((q 2), .inl (cM, 2, .inr (.inr (.inr (.inr mr)))))] ++ (mw_ cI cG a0 n u20.2.1 ++ (mw_ cI cG a1 n u20.2.2 ++ []))) H := hP
      have hD : va_D A ([((q 0), .inr (0, [.int (nI (n)), .int (nI (2 ^ n - 1)), .ref (q 1), .ref (q 2)])), ((q 1), .inl (cI, n, .inl u20.1)), ((q 2), .inl (cM, 2, .inr (.inr (.inr (.inr mr)))))] ++ (mw_ cI cG a0 n u20.2.1 ++ (mw_ cI cG a1 n u20.2.2 ++ []))) := hD
      refine wi_top (show _ = nI (h1_ n y i) from hp20.1) ?_
      have hbd20 := h1_le hn hI0.1 hI1.1 (s := i) (by omega)
      refine lv_istore hx hb nd_CB_witness_23 hl (by decide) rfl (fun ls hl => ?_)
      have hl : lv_has ls 5 [(4, .int (nI (h1_ n y i))), (3, .int (nI (i))), (2, .int (nI (h1_ n y (fi_ (h1_ n y) (i - 1))))), (1, .int (nI (fi_ (h1_ n y) (i - 1)))), (0, .ref (q 0))] := hl
      refine lv_iload hx hb nd_CB_witness_25 (lv_at hl 0 rfl) ?_
      refine lv_iload_n hx hb nd_CB_witness_27 rfl (lv_at hl 2 rfl) ?_
      refine wi_icmp_ge (tgt := 36) hx hb (by omega) (by omega) nd_CB_witness_28 rfl (fun hc28 => ?_) (fun hc28 => ?_)
      · refine lv_iinc (k := 1) (v := nI (i + 1)) hx hb nd_CB_witness_36 hl rfl (wi_inc _ 1) (by decide) rfl (fun ls hl => ?_)
        have hl : lv_has ls 5 [(3, .int (nI (i + 1))), (4, .int (nI (h1_ n y i))), (2, .int (nI (h1_ n y (fi_ (h1_ n y) (i - 1))))), (1, .int (nI (fi_ (h1_ n y) (i - 1)))), (0, .ref (q 0))] := hl
        refine lv_goto (tgt := 10) hx hb nd_CB_witness_39 rfl ?_
        have hl : lv_has ls 5 [(3, .int (nI (i + 1))), (2, .int (nI (h1_ n y (fi_ (h1_ n y) (i - 1))))), (1, .int (nI (fi_ (h1_ n y) (i - 1)))), (0, .ref (q 0))] := lv_sub hl [0, 2, 3, 4] rfl
        have hfi : fi_ (h1_ n y) (i + 1 - 1) = fi_ (h1_ n y) (i - 1) := by rw [show i + 1 - 1 = (i - 1) + 1 by omega]; exact if_neg (by rw [show i - 1 + 1 = i by omega]; omega)
        exact ih (i + 1) u20.1 u20.2.1 u20.2.2 ls H locs (by omega) (by omega) (by omega) hp20.2.1 hp20.2.2.1 hp20.2.2.2 (by rw [hfi]; exact hl) hP hD hS
      · refine lv_iload_n hx hb nd_CB_witness_31 rfl (lv_at hl 1 rfl) ?_
        refine lv_istore_n hx hb nd_CB_witness_32 rfl hl (by decide) rfl (fun ls hl => ?_)
        have hl : lv_has ls 5 [(1, .int (nI (i))), (4, .int (nI (h1_ n y i))), (3, .int (nI (i))), (2, .int (nI (h1_ n y (fi_ (h1_ n y) (i - 1))))), (0, .ref (q 0))] := hl
        refine lv_iload hx hb nd_CB_witness_33 (lv_at hl 1 rfl) ?_
        refine lv_istore_n hx hb nd_CB_witness_35 rfl hl (by decide) rfl (fun ls hl => ?_)
        have hl : lv_has ls 5 [(2, .int (nI (h1_ n y i))), (1, .int (nI (i))), (4, .int (nI (h1_ n y i))), (3, .int (nI (i))), (0, .ref (q 0))] := hl
        refine lv_iinc (k := 3) (v := nI (i + 1)) hx hb nd_CB_witness_36 hl rfl (wi_inc _ 1) (by decide) rfl (fun ls hl => ?_)
        have hl : lv_has ls 5 [(3, .int (nI (i + 1))), (2, .int (nI (h1_ n y i))), (1, .int (nI (i))), (4, .int (nI (h1_ n y i))), (0, .ref (q 0))] := hl
        refine lv_goto (tgt := 10) hx hb nd_CB_witness_39 rfl ?_
        have hl : lv_has ls 5 [(3, .int (nI (i + 1))), (2, .int (nI (h1_ n y i))), (1, .int (nI (i))), (0, .ref (q 0))] := lv_sub hl [0, 1, 2, 4] rfl
        have hfi : fi_ (h1_ n y) (i + 1 - 1) = i := by rw [show i + 1 - 1 = (i - 1) + 1 by omega]; exact (if_pos (by rw [show i - 1 + 1 = i by omega]; omega)).trans (by omega)
        exact ih (i + 1) u20.1 u20.2.1 u20.2.2 ls H locs (by omega) (by omega) (by omega) hp20.2.1 hp20.2.2.1 hp20.2.2.2 (by rw [hfi]; exact hl) hP hD hS
set_option maxRecDepth 20000 in
theorem c_CB_witness (l : Launch) (D : va_G) (cI cG cM : ClassId)  (q : Nat → Nat) (n : Nat) (hn1 : 1 ≤ n) (hn : n ≤ 10) (mr : Nat → Option Nat) (a0 a1 : ma_A) (hm0 : mr 0 = some (a0.1 0)) (hm1 : mr 1 = some (a1.1 0)) (w : Nat → Int32) (t0 t1 : ma_S) (y : cb_Y) (hI : cb_I n y (w, t0, t1))  (sz : Nat) : wb_Mi l ny_CB_witness nc_CB_witness 5 (some .int) ({ frames := 6, cells := 0, slots := 0, locals := 133 }) D (ty_all cI cG cM) (cw_ cI cG cM q n mr a0 a1 (w, t0, t1)) sz [.ref (q 0)] (fun (v : Int32) (u : cb_S) => v = nI (fi_ (h1_ n y) (2 ^ n - 1)) ∧ cb_I n y u) (fun u : cb_S => cw_ cI cG cM q n mr a0 a1 u) := by
  refine wb_start (S := cb_S) (by decide) (Nat.le_of_ble_eq_true rfl) ?_
  intro p e0 s0 m below meth c ls A hx hb hr hml htg hown hk hP hK hN hl hAe hsz hD hA
  have hl : lv_has ls 5 [(0, .ref (q 0))] := hl
  have hP : va_P D cl_all ([((q 0), .inr (0, [.int (nI (n)), .int (nI (2 ^ n - 1)), .ref (q 1), .ref (q 2)])), ((q 1), .inl (cI, n, .inl w)), ((q 2), .inl (cM, 2, .inr (.inr (.inr (.inr mr)))))] ++ (mw_ cI cG a0 n t0 ++ (mw_ cI cG a1 n t1 ++ []))) s0.heap := hP
  have hD : va_D A ([((q 0), .inr (0, [.int (nI (n)), .int (nI (2 ^ n - 1)), .ref (q 1), .ref (q 2)])), ((q 1), .inl (cI, n, .inl w)), ((q 2), .inl (cM, 2, .inr (.inr (.inr (.inr mr)))))] ++ (mw_ cI cG a0 n t0 ++ (mw_ cI cG a1 n t1 ++ []))) := hD
  have hS : va_S A s0.heap s0.heap [] := va_S.rf
  have hRf : 6 ≤ ({ frames := 6, cells := 0, slots := 0, locals := 133 } : Room).frames := Nat.le_refl _
  have hRl : 133 ≤ ({ frames := 6, cells := 0, slots := 0, locals := 133 } : Room).locals := Nat.le_refl _
  have hCS : 0 ≤ ({ frames := 6, cells := 0, slots := 0, locals := 133 } : Room).cells ∧ 0 ≤ ({ frames := 6, cells := 0, slots := 0, locals := 133 } : Room).slots := ⟨Nat.zero_le _, Nat.zero_le _⟩
  have h2n : 2 ^ n ≤ 1024 := Nat.pow_le_pow_right (by omega) hn
  have h2p : 1 ≤ 2 ^ n := Nat.one_le_two_pow
  have hI0 : ma_I n y.2.1 t0 := hI.2.1
  have hI1 : ma_I n y.2.2 t1 := hI.2.2
  have hwb := hI.1
  refine wi_ic hx hb (a := 0) nd_CB_witness_0 ?_
  refine lv_istore_n hx hb nd_CB_witness_1 rfl hl (by decide) rfl (fun ls hl => ?_)
  have hl : lv_has ls 5 [(1, .int (nI (0))), (0, .ref (q 0))] := hl
  refine lv_aload_n hx hb nd_CB_witness_2 rfl (lv_at hl 1 rfl) ?_
  refine lv_iload_n hx hb nd_CB_witness_3 rfl (lv_at hl 0 rfl) ?_
  refine wd_Vi0 (C := nr_CB) (n := 1) (Y := cw_ cI cG cM q n mr a0 a1 (w, t0, t1)) hx hb hml hown htg (c_CB_commonBound l D cI cG cM q n hn1 hn mr a0 a1 hm0 hm1 w t0 t1 y ⟨hwb, hI0, hI1⟩ 0 (by omega) _) tm_360 tm_357 tm_359 tp_10 tm_1 (by decide +kernel) ⟨⟨Nat.le_trans (by decide) hRf, Nat.le_trans (by decide) hRl⟩, rfl, rfl⟩ hP hD hS hA hK hN (va_recv (q0 := 0) (ci := 0) hK hP rfl rfl) rfl hl.1 rfl (Nat.le_of_ble_eq_true rfl) nd_CB_witness_4 hCS (fun v4 u4 H locs hp4 hP hD hS => ?_)
  have hP : va_P D cl_all ([((q 0), .inr (0, [.int (nI (n)), .int (nI (2 ^ n - 1)), .ref (q 1), .ref (q 2)])), ((q 1), .inl (cI, n, .inl u4.1)), ((q 2), .inl (cM, 2, .inr (.inr (.inr (.inr mr)))))] ++ (mw_ cI cG a0 n u4.2.1 ++ (mw_ cI cG a1 n u4.2.2 ++ []))) H := hP
  have hD : va_D A ([((q 0), .inr (0, [.int (nI (n)), .int (nI (2 ^ n - 1)), .ref (q 1), .ref (q 2)])), ((q 1), .inl (cI, n, .inl u4.1)), ((q 2), .inl (cM, 2, .inr (.inr (.inr (.inr mr)))))] ++ (mw_ cI cG a0 n u4.2.1 ++ (mw_ cI cG a1 n u4.2.2 ++ []))) := hD
  refine wi_top (show _ = nI (h1_ n y 0) from hp4.1) ?_
  have hbd4 := h1_le hn hI0.1 hI1.1 (s := 0) (by omega)
  refine lv_istore_n hx hb nd_CB_witness_7 rfl hl (by decide) rfl (fun ls hl => ?_)
  have hl : lv_has ls 5 [(2, .int (nI (h1_ n y 0))), (1, .int (nI (0))), (0, .ref (q 0))] := hl
  refine wi_ic hx hb (a := 1) nd_CB_witness_8 ?_
  refine lv_istore_n hx hb nd_CB_witness_9 rfl hl (by decide) rfl (fun ls hl => ?_)
  have hl : lv_has ls 5 [(3, .int (nI (1))), (2, .int (nI (h1_ n y 0))), (1, .int (nI (0))), (0, .ref (q 0))] := hl
  have hl : lv_has ls 5 [(3, .int (nI (1))), (2, .int (nI (h1_ n y 0))), (1, .int (nI (0))), (0, .ref (q 0))] := lv_sub hl [0, 1, 2, 3] rfl
  refine lp_CB_witness cI cG cM q n hn1 hn mr a0 a1 hm0 hm1 y hx hb hml htg hown hK hN hA hRf hRl hCS (fun ls H locs w t0 t1 hwb hI0 hI1 hl hP hD hS => ?_) (2 ^ n + 1) 1 u4.1 u4.2.1 u4.2.2 ls H locs (by omega) (by omega) (by omega) hp4.2.1 hp4.2.2.1 hp4.2.2.2 hl hP hD hS
  refine lv_iload_n hx hb nd_CB_witness_42 rfl (lv_at hl 0 rfl) ?_
  exact wb_iret (w, t0, t1) hx hb hr hk hAe (⟨rfl, hwb, hI0, hI1⟩) hP hD hS nd_CB_witness_43
theorem nd_CB_jointWitness_0 : decode nc_CB_jointWitness 0 = .ok (.iconst 0, 1) := by decide +kernel
theorem nd_CB_jointWitness_1 : decode nc_CB_jointWitness 1 = .ok (.istore_n 1, 1) := by decide +kernel
theorem nd_CB_jointWitness_2 : decode nc_CB_jointWitness 2 = .ok (.aload_n 0, 1) := by decide +kernel
theorem nd_CB_jointWitness_3 : decode nc_CB_jointWitness 3 = .ok (.iload_n 1, 1) := by decide +kernel
theorem nd_CB_jointWitness_4 : decode nc_CB_jointWitness 4 = .ok (.invokevirtual 104, 3) := by decide +kernel
theorem nd_CB_jointWitness_7 : decode nc_CB_jointWitness 7 = .ok (.istore_n 2, 1) := by decide +kernel
theorem nd_CB_jointWitness_8 : decode nc_CB_jointWitness 8 = .ok (.iconst 1, 1) := by decide +kernel
theorem nd_CB_jointWitness_9 : decode nc_CB_jointWitness 9 = .ok (.istore_n 3, 1) := by decide +kernel
theorem nd_CB_jointWitness_10 : decode nc_CB_jointWitness 10 = .ok (.iload_n 3, 1) := by decide +kernel
theorem nd_CB_jointWitness_11 : decode nc_CB_jointWitness 11 = .ok (.aload_n 0, 1) := by decide +kernel
theorem nd_CB_jointWitness_12 : decode nc_CB_jointWitness 12 = .ok (.getfield 13, 3) := by decide +kernel
theorem nd_CB_jointWitness_15 : decode nc_CB_jointWitness 15 = .ok (.if_icmp .gt 27, 3) := by decide +kernel
theorem nd_CB_jointWitness_18 : decode nc_CB_jointWitness 18 = .ok (.aload_n 0, 1) := by decide +kernel
theorem nd_CB_jointWitness_19 : decode nc_CB_jointWitness 19 = .ok (.iload_n 3, 1) := by decide +kernel
theorem nd_CB_jointWitness_20 : decode nc_CB_jointWitness 20 = .ok (.invokevirtual 104, 3) := by decide +kernel
theorem nd_CB_jointWitness_23 : decode nc_CB_jointWitness 23 = .ok (.istore 4, 2) := by decide +kernel
theorem nd_CB_jointWitness_25 : decode nc_CB_jointWitness 25 = .ok (.iload 4, 2) := by decide +kernel
theorem nd_CB_jointWitness_27 : decode nc_CB_jointWitness 27 = .ok (.iload_n 2, 1) := by decide +kernel
theorem nd_CB_jointWitness_28 : decode nc_CB_jointWitness 28 = .ok (.if_icmp .ge 8, 3) := by decide +kernel
theorem nd_CB_jointWitness_31 : decode nc_CB_jointWitness 31 = .ok (.iload_n 3, 1) := by decide +kernel
theorem nd_CB_jointWitness_32 : decode nc_CB_jointWitness 32 = .ok (.istore_n 1, 1) := by decide +kernel
theorem nd_CB_jointWitness_33 : decode nc_CB_jointWitness 33 = .ok (.iload 4, 2) := by decide +kernel
theorem nd_CB_jointWitness_35 : decode nc_CB_jointWitness 35 = .ok (.istore_n 2, 1) := by decide +kernel
theorem nd_CB_jointWitness_36 : decode nc_CB_jointWitness 36 = .ok (.iinc 3 1, 3) := by decide +kernel
theorem nd_CB_jointWitness_39 : decode nc_CB_jointWitness 39 = .ok (.goto (-29), 3) := by decide +kernel
theorem nd_CB_jointWitness_42 : decode nc_CB_jointWitness 42 = .ok (.iload_n 1, 1) := by decide +kernel
theorem nd_CB_jointWitness_43 : decode nc_CB_jointWitness 43 = .ok (.ireturn, 1) := by decide +kernel
set_option maxRecDepth 20000 in
theorem lp_CB_jointWitness {p : Program} {l : Launch} {e0 : Env} {R : Room} {s0 : State} {m : MethodId} {args : Array Value} {below : List Frame} {meth : Method} {c : Code} {cells slots : Nat} {Q : State → Prop} {D : va_G} {A : Nat → Prop} (cI cG cM : ClassId) (q : Nat → Nat) (n : Nat) (hn1 : 1 ≤ n) (hn : n ≤ 10) (mr : Nat → Option Nat) (a0 a1 : ma_A) (hm0 : mr 0 = some (a0.1 0)) (hm1 : mr 1 = some (a1.1 0)) (y : cb_Y)  (hx : p.tables.exec = Jvm.exec) (hb : c.code = nc_CB_jointWitness) (hml : c.maxLocals = 5) (htg : ∀ w ∈ tg_, w.before args s0 = true) (hown : s0.vm.findClass ny_CB_jointWitness.cls = some m.cls) (hK : va_K D cl_all (ty_all cI cG cM) s0) (hN : tn_K s0) (hA : ∀ q : Nat, s0.heap.size ≤ q → A q) (hRf : 6 ≤ R.frames) (hRl : 133 ≤ R.locals) (hCS : cells ≤ R.cells ∧ slots ≤ R.slots) (kx : ∀ (ls : Array Slot) (H : Heap) (locs : List Loc) (w : Nat → Int32) (t0 : ma_S) (t1 : ma_S), (∀ e, e < n → w e = y.1 e ∧ -1000000 ≤ (y.1 e).toInt ∧ (y.1 e).toInt ≤ 1000000) → (ma_I n y.2.1 t0) → (ma_I n y.2.2 t1) → lv_has ls 5 [(1, .int (nI (fi_ (h2_ n y) (2 ^ n - 1))))] → va_P D cl_all ([((q 0), .inr (0, [.int (nI (n)), .int (nI (2 ^ n - 1)), .ref (q 1), .ref (q 2)])), ((q 1), .inl (cI, n, .inl w)), ((q 2), .inl (cM, 2, .inr (.inr (.inr (.inr mr)))))] ++ (mw_ cI cG a0 n t0 ++ (mw_ cI cG a1 n t1 ++ []))) H → va_D A ([((q 0), .inr (0, [.int (nI (n)), .int (nI (2 ^ n - 1)), .ref (q 1), .ref (q 2)])), ((q 1), .inl (cI, n, .inl w)), ((q 2), .inl (cM, 2, .inr (.inr (.inr (.inr mr)))))] ++ (mw_ cI cG a0 n t0 ++ (mw_ cI cG a1 n t1 ++ []))) → va_S A s0.heap H locs → W p l e0 R s0 m args below meth c H locs cells slots Q (F0 m 42 ls [])) : ∀ (f : Nat) (i : Nat) (w : Nat → Int32) (t0 : ma_S) (t1 : ma_S) (ls : Array Slot) (H : Heap) (locs : List Loc), 2 ^ n - i < f → (i ≤ 2 ^ n) → (1 ≤ i) → (∀ e, e < n → w e = y.1 e ∧ -1000000 ≤ (y.1 e).toInt ∧ (y.1 e).toInt ≤ 1000000) → (ma_I n y.2.1 t0) → (ma_I n y.2.2 t1) → lv_has ls 5 [(3, .int (nI (i))), (2, .int (nI (h2_ n y (fi_ (h2_ n y) (i - 1))))), (1, .int (nI (fi_ (h2_ n y) (i - 1)))), (0, .ref (q 0))] → va_P D cl_all ([((q 0), .inr (0, [.int (nI (n)), .int (nI (2 ^ n - 1)), .ref (q 1), .ref (q 2)])), ((q 1), .inl (cI, n, .inl w)), ((q 2), .inl (cM, 2, .inr (.inr (.inr (.inr mr)))))] ++ (mw_ cI cG a0 n t0 ++ (mw_ cI cG a1 n t1 ++ []))) H → va_D A ([((q 0), .inr (0, [.int (nI (n)), .int (nI (2 ^ n - 1)), .ref (q 1), .ref (q 2)])), ((q 1), .inl (cI, n, .inl w)), ((q 2), .inl (cM, 2, .inr (.inr (.inr (.inr mr)))))] ++ (mw_ cI cG a0 n t0 ++ (mw_ cI cG a1 n t1 ++ []))) → va_S A s0.heap H locs → W p l e0 R s0 m args below meth c H locs cells slots Q (F0 m 10 ls []) := by
  intro f
  induction f with
  | zero => intro i w t0 t1 ls H locs hfu; omega
  | succ f ih =>
    intro i w t0 t1 ls H locs hfu hi hi1 hwb hI0 hI1 hl hP hD hS
    have h2n : 2 ^ n ≤ 1024 := Nat.pow_le_pow_right (by omega) hn
    have hfl := fi_le (h2_ n y) (i - 1)
    have hbf := h2_le hn hI0.1 hI1.1 (s := fi_ (h2_ n y) (i - 1)) (by omega)
    refine lv_iload_n hx hb nd_CB_jointWitness_10 rfl (lv_at hl 0 rfl) ?_
    refine lv_aload_n hx hb nd_CB_jointWitness_11 rfl (lv_at hl 3 rfl) ?_
    refine va_get (D := D) (C := nr_CB) (T := nt_CB) (N := 4) hx hb htg tf_CB hown hK hP 0 rfl rfl 1 (by decide) (htg _ tm_123) (fun _ h => h) rfl nd_CB_jointWitness_12 ?_
    refine wi_icmp_gt (tgt := 42) hx hb (by omega) (by omega) nd_CB_jointWitness_15 rfl (fun hc15 => ?_) (fun hc15 => ?_)
    · have hl : lv_has ls 5 [(1, .int (nI (fi_ (h2_ n y) (i - 1))))] := lv_sub hl [2] rfl
      have hin : i = 2 ^ n := by omega
      exact kx ls H locs w t0 t1 hwb hI0 hI1 (by simpa only [hin] using hl) hP hD hS
    · refine lv_aload_n hx hb nd_CB_jointWitness_18 rfl (lv_at hl 3 rfl) ?_
      refine lv_iload_n hx hb nd_CB_jointWitness_19 rfl (lv_at hl 0 rfl) ?_
      refine wd_Vi0 (C := nr_CB) (n := 1) (Y := cw_ cI cG cM q n mr a0 a1 (w, t0, t1)) hx hb hml hown htg (c_CB_jointBound l D cI cG cM q n hn1 hn mr a0 a1 hm0 hm1 w t0 t1 y ⟨hwb, hI0, hI1⟩ i (by omega) _) tm_372 tm_369 tm_371 tp_11 tm_1 (by decide +kernel) ⟨⟨Nat.le_trans (by decide) hRf, Nat.le_trans (by decide) hRl⟩, rfl, rfl⟩ hP hD hS hA hK hN (va_recv (q0 := 0) (ci := 0) hK hP rfl rfl) rfl hl.1 rfl (Nat.le_of_ble_eq_true rfl) nd_CB_jointWitness_20 hCS (fun v20 u20 H locs hp20 hP hD hS => ?_)
      have hP : va_P D cl_all ([((q 0), .inr (0, [.int (nI (n)), .int (nI (2 ^ n - 1)), .ref (q 1), .ref (q 2)])), ((q 1), .inl (cI, n, .inl u20.1)), ((q 2), .inl (cM, 2, .inr (.inr (.inr (.inr mr)))))] ++ (mw_ cI cG a0 n u20.2.1 ++ (mw_ cI cG a1 n u20.2.2 ++ []))) H := hP
      have hD : va_D A ([((q 0), .inr (0, [.int (nI (n)), .int (nI (2 ^ n - 1)), .ref (q 1), .ref (q 2)])), ((q 1), .inl (cI, n, .inl u20.1)), ((q 2), .inl (cM, 2, .inr (.inr (.inr (.inr mr)))))] ++ (mw_ cI cG a0 n u20.2.1 ++ (mw_ cI cG a1 n u20.2.2 ++ []))) := hD
      refine wi_top (show _ = nI (h2_ n y i) from hp20.1) ?_
      have hbd20 := h2_le hn hI0.1 hI1.1 (s := i) (by omega)
      refine lv_istore hx hb nd_CB_jointWitness_23 hl (by decide) rfl (fun ls hl => ?_)
      have hl : lv_has ls 5 [(4, .int (nI (h2_ n y i))), (3, .int (nI (i))), (2, .int (nI (h2_ n y (fi_ (h2_ n y) (i - 1))))), (1, .int (nI (fi_ (h2_ n y) (i - 1)))), (0, .ref (q 0))] := hl
      refine lv_iload hx hb nd_CB_jointWitness_25 (lv_at hl 0 rfl) ?_
      refine lv_iload_n hx hb nd_CB_jointWitness_27 rfl (lv_at hl 2 rfl) ?_
      refine wi_icmp_ge (tgt := 36) hx hb (by omega) (by omega) nd_CB_jointWitness_28 rfl (fun hc28 => ?_) (fun hc28 => ?_)
      · refine lv_iinc (k := 1) (v := nI (i + 1)) hx hb nd_CB_jointWitness_36 hl rfl (wi_inc _ 1) (by decide) rfl (fun ls hl => ?_)
        have hl : lv_has ls 5 [(3, .int (nI (i + 1))), (4, .int (nI (h2_ n y i))), (2, .int (nI (h2_ n y (fi_ (h2_ n y) (i - 1))))), (1, .int (nI (fi_ (h2_ n y) (i - 1)))), (0, .ref (q 0))] := hl
        refine lv_goto (tgt := 10) hx hb nd_CB_jointWitness_39 rfl ?_
        have hl : lv_has ls 5 [(3, .int (nI (i + 1))), (2, .int (nI (h2_ n y (fi_ (h2_ n y) (i - 1))))), (1, .int (nI (fi_ (h2_ n y) (i - 1)))), (0, .ref (q 0))] := lv_sub hl [0, 2, 3, 4] rfl
        have hfi : fi_ (h2_ n y) (i + 1 - 1) = fi_ (h2_ n y) (i - 1) := by rw [show i + 1 - 1 = (i - 1) + 1 by omega]; exact if_neg (by rw [show i - 1 + 1 = i by omega]; omega)
        exact ih (i + 1) u20.1 u20.2.1 u20.2.2 ls H locs (by omega) (by omega) (by omega) hp20.2.1 hp20.2.2.1 hp20.2.2.2 (by rw [hfi]; exact hl) hP hD hS
      · refine lv_iload_n hx hb nd_CB_jointWitness_31 rfl (lv_at hl 1 rfl) ?_
        refine lv_istore_n hx hb nd_CB_jointWitness_32 rfl hl (by decide) rfl (fun ls hl => ?_)
        have hl : lv_has ls 5 [(1, .int (nI (i))), (4, .int (nI (h2_ n y i))), (3, .int (nI (i))), (2, .int (nI (h2_ n y (fi_ (h2_ n y) (i - 1))))), (0, .ref (q 0))] := hl
        refine lv_iload hx hb nd_CB_jointWitness_33 (lv_at hl 1 rfl) ?_
        refine lv_istore_n hx hb nd_CB_jointWitness_35 rfl hl (by decide) rfl (fun ls hl => ?_)
        have hl : lv_has ls 5 [(2, .int (nI (h2_ n y i))), (1, .int (nI (i))), (4, .int (nI (h2_ n y i))), (3, .int (nI (i))), (0, .ref (q 0))] := hl
        refine lv_iinc (k := 3) (v := nI (i + 1)) hx hb nd_CB_jointWitness_36 hl rfl (wi_inc _ 1) (by decide) rfl (fun ls hl => ?_)
        have hl : lv_has ls 5 [(3, .int (nI (i + 1))), (2, .int (nI (h2_ n y i))), (1, .int (nI (i))), (4, .int (nI (h2_ n y i))), (0, .ref (q 0))] := hl
        refine lv_goto (tgt := 10) hx hb nd_CB_jointWitness_39 rfl ?_
        have hl : lv_has ls 5 [(3, .int (nI (i + 1))), (2, .int (nI (h2_ n y i))), (1, .int (nI (i))), (0, .ref (q 0))] := lv_sub hl [0, 1, 2, 4] rfl
        have hfi : fi_ (h2_ n y) (i + 1 - 1) = i := by rw [show i + 1 - 1 = (i - 1) + 1 by omega]; exact (if_pos (by rw [show i - 1 + 1 = i by omega]; omega)).trans (by omega)
        exact ih (i + 1) u20.1 u20.2.1 u20.2.2 ls H locs (by omega) (by omega) (by omega) hp20.2.1 hp20.2.2.1 hp20.2.2.2 (by rw [hfi]; exact hl) hP hD hS
set_option maxRecDepth 20000 in
theorem c_CB_jointWitness (l : Launch) (D : va_G) (cI cG cM : ClassId)  (q : Nat → Nat) (n : Nat) (hn1 : 1 ≤ n) (hn : n ≤ 10) (mr : Nat → Option Nat) (a0 a1 : ma_A) (hm0 : mr 0 = some (a0.1 0)) (hm1 : mr 1 = some (a1.1 0)) (w : Nat → Int32) (t0 t1 : ma_S) (y : cb_Y) (hI : cb_I n y (w, t0, t1))  (sz : Nat) : wb_Mi l ny_CB_jointWitness nc_CB_jointWitness 5 (some .int) ({ frames := 6, cells := 0, slots := 0, locals := 133 }) D (ty_all cI cG cM) (cw_ cI cG cM q n mr a0 a1 (w, t0, t1)) sz [.ref (q 0)] (fun (v : Int32) (u : cb_S) => v = nI (fi_ (h2_ n y) (2 ^ n - 1)) ∧ cb_I n y u) (fun u : cb_S => cw_ cI cG cM q n mr a0 a1 u) := by
  refine wb_start (S := cb_S) (by decide) (Nat.le_of_ble_eq_true rfl) ?_
  intro p e0 s0 m below meth c ls A hx hb hr hml htg hown hk hP hK hN hl hAe hsz hD hA
  have hl : lv_has ls 5 [(0, .ref (q 0))] := hl
  have hP : va_P D cl_all ([((q 0), .inr (0, [.int (nI (n)), .int (nI (2 ^ n - 1)), .ref (q 1), .ref (q 2)])), ((q 1), .inl (cI, n, .inl w)), ((q 2), .inl (cM, 2, .inr (.inr (.inr (.inr mr)))))] ++ (mw_ cI cG a0 n t0 ++ (mw_ cI cG a1 n t1 ++ []))) s0.heap := hP
  have hD : va_D A ([((q 0), .inr (0, [.int (nI (n)), .int (nI (2 ^ n - 1)), .ref (q 1), .ref (q 2)])), ((q 1), .inl (cI, n, .inl w)), ((q 2), .inl (cM, 2, .inr (.inr (.inr (.inr mr)))))] ++ (mw_ cI cG a0 n t0 ++ (mw_ cI cG a1 n t1 ++ []))) := hD
  have hS : va_S A s0.heap s0.heap [] := va_S.rf
  have hRf : 6 ≤ ({ frames := 6, cells := 0, slots := 0, locals := 133 } : Room).frames := Nat.le_refl _
  have hRl : 133 ≤ ({ frames := 6, cells := 0, slots := 0, locals := 133 } : Room).locals := Nat.le_refl _
  have hCS : 0 ≤ ({ frames := 6, cells := 0, slots := 0, locals := 133 } : Room).cells ∧ 0 ≤ ({ frames := 6, cells := 0, slots := 0, locals := 133 } : Room).slots := ⟨Nat.zero_le _, Nat.zero_le _⟩
  have h2n : 2 ^ n ≤ 1024 := Nat.pow_le_pow_right (by omega) hn
  have h2p : 1 ≤ 2 ^ n := Nat.one_le_two_pow
  have hI0 : ma_I n y.2.1 t0 := hI.2.1
  have hI1 : ma_I n y.2.2 t1 := hI.2.2
  have hwb := hI.1
  refine wi_ic hx hb (a := 0) nd_CB_jointWitness_0 ?_
  refine lv_istore_n hx hb nd_CB_jointWitness_1 rfl hl (by decide) rfl (fun ls hl => ?_)
  have hl : lv_has ls 5 [(1, .int (nI (0))), (0, .ref (q 0))] := hl
  refine lv_aload_n hx hb nd_CB_jointWitness_2 rfl (lv_at hl 1 rfl) ?_
  refine lv_iload_n hx hb nd_CB_jointWitness_3 rfl (lv_at hl 0 rfl) ?_
  refine wd_Vi0 (C := nr_CB) (n := 1) (Y := cw_ cI cG cM q n mr a0 a1 (w, t0, t1)) hx hb hml hown htg (c_CB_jointBound l D cI cG cM q n hn1 hn mr a0 a1 hm0 hm1 w t0 t1 y ⟨hwb, hI0, hI1⟩ 0 (by omega) _) tm_372 tm_369 tm_371 tp_11 tm_1 (by decide +kernel) ⟨⟨Nat.le_trans (by decide) hRf, Nat.le_trans (by decide) hRl⟩, rfl, rfl⟩ hP hD hS hA hK hN (va_recv (q0 := 0) (ci := 0) hK hP rfl rfl) rfl hl.1 rfl (Nat.le_of_ble_eq_true rfl) nd_CB_jointWitness_4 hCS (fun v4 u4 H locs hp4 hP hD hS => ?_)
  have hP : va_P D cl_all ([((q 0), .inr (0, [.int (nI (n)), .int (nI (2 ^ n - 1)), .ref (q 1), .ref (q 2)])), ((q 1), .inl (cI, n, .inl u4.1)), ((q 2), .inl (cM, 2, .inr (.inr (.inr (.inr mr)))))] ++ (mw_ cI cG a0 n u4.2.1 ++ (mw_ cI cG a1 n u4.2.2 ++ []))) H := hP
  have hD : va_D A ([((q 0), .inr (0, [.int (nI (n)), .int (nI (2 ^ n - 1)), .ref (q 1), .ref (q 2)])), ((q 1), .inl (cI, n, .inl u4.1)), ((q 2), .inl (cM, 2, .inr (.inr (.inr (.inr mr)))))] ++ (mw_ cI cG a0 n u4.2.1 ++ (mw_ cI cG a1 n u4.2.2 ++ []))) := hD
  refine wi_top (show _ = nI (h2_ n y 0) from hp4.1) ?_
  have hbd4 := h2_le hn hI0.1 hI1.1 (s := 0) (by omega)
  refine lv_istore_n hx hb nd_CB_jointWitness_7 rfl hl (by decide) rfl (fun ls hl => ?_)
  have hl : lv_has ls 5 [(2, .int (nI (h2_ n y 0))), (1, .int (nI (0))), (0, .ref (q 0))] := hl
  refine wi_ic hx hb (a := 1) nd_CB_jointWitness_8 ?_
  refine lv_istore_n hx hb nd_CB_jointWitness_9 rfl hl (by decide) rfl (fun ls hl => ?_)
  have hl : lv_has ls 5 [(3, .int (nI (1))), (2, .int (nI (h2_ n y 0))), (1, .int (nI (0))), (0, .ref (q 0))] := hl
  have hl : lv_has ls 5 [(3, .int (nI (1))), (2, .int (nI (h2_ n y 0))), (1, .int (nI (0))), (0, .ref (q 0))] := lv_sub hl [0, 1, 2, 3] rfl
  refine lp_CB_jointWitness cI cG cM q n hn1 hn mr a0 a1 hm0 hm1 y hx hb hml htg hown hK hN hA hRf hRl hCS (fun ls H locs w t0 t1 hwb hI0 hI1 hl hP hD hS => ?_) (2 ^ n + 1) 1 u4.1 u4.2.1 u4.2.2 ls H locs (by omega) (by omega) (by omega) hp4.2.1 hp4.2.2.1 hp4.2.2.2 hl hP hD hS
  refine lv_iload_n hx hb nd_CB_jointWitness_42 rfl (lv_at hl 0 rfl) ?_
  exact wb_iret (w, t0, t1) hx hb hr hk hAe (⟨rfl, hwb, hI0, hI1⟩) hP hD hS nd_CB_jointWitness_43
end
