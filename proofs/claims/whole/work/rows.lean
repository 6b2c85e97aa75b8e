section
/-! Sets of elements as numbers, and what a rank of sets is: nothing here speaks of the machine. -/
def mt_cd : Nat → Nat → Nat
  | 0, _ => 0
  | k + 1, s => mt_cd k s + (if s.testBit k = true then 1 else 0)
def mt_co (n s : Nat) : Nat := (2 ^ n - 1) ^^^ s
def mt_sb (s t : Nat) : Prop := ∀ i : Nat, s.testBit i = true → t.testBit i = true
def mt_M (n : Nat) (r : Nat → Nat) : Prop :=
  r 0 = 0 ∧ (∀ s e : Nat, s < 2 ^ n → e < n → r s ≤ r (s ||| 2 ^ e) ∧ r (s ||| 2 ^ e) ≤ r s + 1) ∧
  ∀ s t e : Nat, s < 2 ^ n → t < 2 ^ n → mt_sb s t → e < n → r (t ||| 2 ^ e) + r s ≤ r (s ||| 2 ^ e) + r t
theorem mt_big {s n i : Nat} (h : s < 2 ^ n) (hi : n ≤ i) : s.testBit i = false :=
  Nat.testBit_lt_two_pow (Nat.lt_of_lt_of_le h (Nat.pow_le_pow_right (by omega) hi))
theorem mt_lt {s n i : Nat} (h : s < 2 ^ n) (hi : s.testBit i = true) : i < n := by
  refine Nat.lt_of_not_le fun hn => ?_
  rw [mt_big h hn] at hi
  cases hi
theorem mt_bnd {s n : Nat} (h : ∀ i, s.testBit i = true → i < n) : s < 2 ^ n := by
  apply Nat.lt_pow_two_of_testBit
  intro i hi
  cases hb : s.testBit i with
  | false => rfl
  | true => have := h i hb; omega
theorem mt_two (a b : Nat) : (2 ^ a).testBit b = decide (a = b) := Nat.testBit_two_pow
theorem mt_pow {e n : Nat} (he : e < n) : 2 ^ e < 2 ^ n := Nat.pow_lt_pow_right (by decide) he
theorem mt_orlt {s n e : Nat} (hs : s < 2 ^ n) (he : e < n) : s ||| 2 ^ e < 2 ^ n := Nat.or_lt_two_pow hs (mt_pow he)
theorem mt_or_in {s e : Nat} (h : s.testBit e = true) : s ||| 2 ^ e = s := by
  apply Nat.eq_of_testBit_eq
  intro i
  rw [Nat.testBit_or, mt_two]
  by_cases hi : e = i
  · subst hi; simp [h]
  · simp [hi]
theorem mt_xor_or {s e : Nat} (h : s.testBit e = true) : (s ^^^ 2 ^ e) ||| 2 ^ e = s := by
  apply Nat.eq_of_testBit_eq
  intro i
  rw [Nat.testBit_or, Nat.testBit_xor, mt_two]
  by_cases hi : e = i
  · subst hi; simp [h]
  · simp [hi]
theorem mt_xor_out {s e : Nat} (h : s.testBit e = true) : (s ^^^ 2 ^ e).testBit e = false := by
  rw [Nat.testBit_xor, mt_two, h]; simp
theorem mt_or_xor {s e : Nat} (h : s.testBit e = false) : (s ||| 2 ^ e) ^^^ 2 ^ e = s := by
  apply Nat.eq_of_testBit_eq
  intro i
  rw [Nat.testBit_xor, Nat.testBit_or, mt_two]
  by_cases hi : e = i
  · subst hi; simp [h]
  · simp [hi]
theorem mt_xor_sb {s e : Nat} (h : s.testBit e = true) : mt_sb (s ^^^ 2 ^ e) s := by
  intro i hi
  rw [Nat.testBit_xor, mt_two] at hi
  by_cases he : e = i
  · subst he; exact h
  · simpa [he] using hi
theorem mt_xorlt {s n e : Nat} (hs : s < 2 ^ n) (he : e < n) : s ^^^ 2 ^ e < 2 ^ n := Nat.xor_lt_two_pow hs (mt_pow he)
theorem mt_modlt (s k : Nat) : s % 2 ^ k < 2 ^ k := Nat.mod_lt _ (Nat.two_pow_pos k)
theorem mt_modltn (s : Nat) {k n : Nat} (h : k ≤ n) : s % 2 ^ k < 2 ^ n := Nat.lt_of_lt_of_le (mt_modlt s k) (Nat.pow_le_pow_right (by omega) h)
theorem mt_mod_t {s k : Nat} (h : s.testBit k = true) : s % 2 ^ (k + 1) = s % 2 ^ k ||| 2 ^ k := by
  apply Nat.eq_of_testBit_eq
  intro i
  rw [Nat.testBit_or, Nat.testBit_mod_two_pow, Nat.testBit_mod_two_pow, mt_two]
  by_cases h1 : i < k
  · simp [h1, show i < k + 1 by omega, show ¬ k = i by omega]
  · by_cases h2 : k = i
    · subst h2; simp [h]
    · simp [h1, h2, show ¬ i < k + 1 by omega]
theorem mt_mod_f {s k : Nat} (h : s.testBit k = false) : s % 2 ^ (k + 1) = s % 2 ^ k := by
  apply Nat.eq_of_testBit_eq
  intro i
  rw [Nat.testBit_mod_two_pow, Nat.testBit_mod_two_pow]
  by_cases h1 : i < k
  · simp [h1, show i < k + 1 by omega]
  · by_cases h2 : k = i
    · subst h2; simp [h]
    · simp [h1, show ¬ i < k + 1 by omega]
theorem mt_mod_sb (s k : Nat) : mt_sb (s % 2 ^ k) s := by
  intro i hi
  rw [Nat.testBit_mod_two_pow] at hi
  simp at hi
  exact hi.2
theorem mt_mod_n {s n : Nat} (h : s < 2 ^ n) : s % 2 ^ n = s := Nat.mod_eq_of_lt h
theorem mt_cot {n s i : Nat} : (mt_co n s).testBit i = (decide (i < n) ^^ s.testBit i) := by
  unfold mt_co
  rw [Nat.testBit_xor, Nat.testBit_two_pow_sub_one]
theorem mt_colt {n s : Nat} (h : s < 2 ^ n) : mt_co n s < 2 ^ n := by
  apply mt_bnd
  intro i hi
  rw [mt_cot] at hi
  by_cases h1 : i < n
  · exact h1
  · rw [mt_big h (by omega)] at hi; simp [h1] at hi
theorem mt_co2 {n s : Nat} : mt_co n (mt_co n s) = s := by
  apply Nat.eq_of_testBit_eq
  intro i
  rw [mt_cot, mt_cot]
  cases s.testBit i <;> cases decide (i < n) <;> rfl
theorem mt_ex {x y n : Nat} (hx : x < 2 ^ n) (hy : y < 2 ^ n) (h : ∀ i, i < n → x.testBit i = y.testBit i) : x = y := by
  apply Nat.eq_of_testBit_eq
  intro i
  by_cases hi : i < n
  · exact h i hi
  · rw [mt_big hx (by omega), mt_big hy (by omega)]
-- how many
theorem mt_cd_le (n s : Nat) : mt_cd n s ≤ n := by
  induction n with
  | zero => exact Nat.le_refl _
  | succ k ih => simp only [mt_cd]; split <;> omega
theorem mt_cd_eq {n s t : Nat} (h : ∀ i, i < n → s.testBit i = t.testBit i) : mt_cd n s = mt_cd n t := by
  induction n with
  | zero => rfl
  | succ k ih => simp only [mt_cd]; rw [ih (fun i hi => h i (by omega)), h k (by omega)]
theorem mt_cd_0 (n : Nat) : mt_cd n 0 = 0 := by
  induction n with
  | zero => rfl
  | succ k ih => simp only [mt_cd]; rw [ih]; simp
theorem mt_cd_mono {n s t : Nat} (h : mt_sb s t) : mt_cd n s ≤ mt_cd n t := by
  induction n with
  | zero => exact Nat.le_refl _
  | succ k ih =>
    simp only [mt_cd]
    have := h k
    cases h1 : s.testBit k <;> cases h2 : t.testBit k <;> simp_all <;> omega
theorem mt_cd_orand (n a b : Nat) : mt_cd n (a ||| b) + mt_cd n (a &&& b) = mt_cd n a + mt_cd n b := by
  induction n with
  | zero => rfl
  | succ k ih =>
    simp only [mt_cd, Nat.testBit_or, Nat.testBit_and]
    cases h1 : a.testBit k <;> cases h2 : b.testBit k <;> simp <;> omega
theorem mt_cd_bit {n e : Nat} (h : e < n) : mt_cd n (2 ^ e) = 1 := by
  induction n with
  | zero => omega
  | succ k ih =>
    simp only [mt_cd, mt_two]
    by_cases h1 : e = k
    · subst h1
      have h0 : mt_cd e (2 ^ e) = mt_cd e 0 := mt_cd_eq (fun i hi => by rw [mt_two]; simp; omega)
      rw [h0, mt_cd_0]; simp
    · rw [ih (by omega)]; simp [h1]
theorem mt_cd_add {n s e : Nat} (he : e < n) (h : s.testBit e = false) : mt_cd n (s ||| 2 ^ e) = mt_cd n s + 1 := by
  have h1 := mt_cd_orand n s (2 ^ e)
  have h2 : s &&& 2 ^ e = 0 := by
    apply Nat.eq_of_testBit_eq
    intro i
    rw [Nat.testBit_and, mt_two]
    by_cases hi : e = i
    · subst hi; simp [h]
    · simp [hi]
  rw [h2, mt_cd_0, mt_cd_bit he] at h1
  omega
theorem mt_cd_xor {n s e : Nat} (he : e < n) (h : s.testBit e = true) : mt_cd n (s ^^^ 2 ^ e) + 1 = mt_cd n s := by
  rw [← mt_cd_add he (mt_xor_out h), mt_xor_or h]
theorem mt_cd_co (n s k : Nat) (hk : k ≤ n) : mt_cd k (mt_co n s) + mt_cd k s = k := by
  induction k with
  | zero => rfl
  | succ k ih =>
    simp only [mt_cd, mt_cot]
    have := ih (by omega)
    cases h1 : s.testBit k <;> simp [show k < n by omega] <;> omega
theorem mt_cd_top {n s : Nat} (h : s < 2 ^ n) : mt_cd (n + 1) s = mt_cd n s := by
  simp only [mt_cd]
  rw [mt_big h (Nat.le_refl n)]; simp
theorem mt_cd_mod (s : Nat) {k m : Nat} (h : k ≤ m) : mt_cd k (s % 2 ^ m) = mt_cd k s := by
  apply mt_cd_eq
  intro i hi
  rw [Nat.testBit_mod_two_pow]; simp; omega
theorem mt_cd_modn (s : Nat) {k m : Nat} (h : k ≤ m) : mt_cd m (s % 2 ^ k) = mt_cd k s := by
  induction m with
  | zero => have : k = 0 := by omega
            subst this; rfl
  | succ m ih =>
    by_cases hk : k = m + 1
    · subst hk; exact mt_cd_mod s (Nat.le_refl _)
    · simp only [mt_cd]
      rw [ih (by omega), mt_big (mt_modlt s k) (by omega)]; simp
theorem mt_cd_pos {n s : Nat} (hs : s < 2 ^ n) (h : s ≠ 0) : 0 < mt_cd n s := by
  obtain ⟨i, hi⟩ := Nat.exists_testBit_of_ne_zero h
  have hi : s.testBit i = true := hi
  have := mt_cd_xor (mt_lt hs hi) hi
  omega
theorem mt_cd_z {n s : Nat} (hs : s < 2 ^ n) (h : mt_cd n s = 0) : s = 0 := by
  by_cases h0 : s = 0
  · exact h0
  · have := mt_cd_pos hs h0; omega
/-- subsets with as many elements -/
theorem mt_sb_eq {n s t : Nat} (hs : s < 2 ^ n) (ht : t < 2 ^ n) (h : mt_sb s t) (hc : mt_cd n t ≤ mt_cd n s) : s = t := by
  have key : ∀ k, k ≤ n → mt_cd k t ≤ mt_cd k s ∨ mt_cd n s < mt_cd n t := by
    intro k hk
    refine Classical.byContradiction fun hno => ?_
    have h1 : mt_cd k s < mt_cd k t := by omega
    have h2 : ∀ j, k + j ≤ n → mt_cd (k + j) s < mt_cd (k + j) t := by
      intro j
      induction j with
      | zero => intro _; exact h1
      | succ j ih =>
        intro hj
        have h3 := ih (by omega)
        have h4 := h (k + j)
        show mt_cd (k + j + 1) s < mt_cd (k + j + 1) t
        simp only [mt_cd]
        cases h5 : s.testBit (k + j) <;> cases h6 : t.testBit (k + j) <;> simp_all <;> omega
    have := h2 (n - k) (by omega)
    rw [show k + (n - k) = n by omega] at this
    omega
  have mono : ∀ k, mt_cd k s ≤ mt_cd k t := fun k => mt_cd_mono h
  refine mt_ex hs ht fun i hi => ?_
  have h1 := (key i (by omega)).resolve_right (by omega)
  have h2 := (key (i + 1) (by omega)).resolve_right (by omega)
  have h3 := mono i
  have h4 := h i
  simp only [mt_cd] at h2
  cases h5 : s.testBit i with
  | true => rw [h4 h5]
  | false =>
    cases h6 : t.testBit i with
    | false => rfl
    | true =>
      rw [h5, h6] at h2
      simp at h2
      omega
-- a rank
theorem mt_mono {n : Nat} {r : Nat → Nat} (hM : mt_M n r) {s t : Nat} (hs : s < 2 ^ n) (ht : t < 2 ^ n) (h : mt_sb s t) : r s ≤ r t := by
  have key : ∀ k, k ≤ n → r s ≤ r (s ||| t % 2 ^ k) := by
    intro k
    induction k with
    | zero => intro _; rw [Nat.pow_zero, Nat.mod_one, Nat.or_zero]; exact Nat.le_refl _
    | succ k ih =>
      intro hk
      have h1 := ih (by omega)
      cases hb : t.testBit k with
      | true =>
        rw [mt_mod_t hb, ← Nat.or_assoc]
        exact Nat.le_trans h1 (hM.2.1 _ k (Nat.or_lt_two_pow hs (mt_modltn t (by omega))) (by omega)).1
      | false => rw [mt_mod_f hb]; exact h1
  have h1 := key n (Nat.le_refl n)
  rw [mt_mod_n ht] at h1
  have h2 : s ||| t = t := by
    apply Nat.eq_of_testBit_eq
    intro i
    rw [Nat.testBit_or]
    have := h i
    cases h5 : s.testBit i <;> cases h6 : t.testBit i <;> simp_all
  rw [h2] at h1
  exact h1
theorem mt_submod {n : Nat} {r : Nat → Nat} (hM : mt_M n r) {a b : Nat} (ha : a < 2 ^ n) (hb : b < 2 ^ n) : r (a ||| b) + r (a &&& b) ≤ r a + r b := by
  have hab : a &&& b < 2 ^ n := Nat.and_lt_two_pow a hb
  have key : ∀ k, k ≤ n → r (a ||| b % 2 ^ k) + r (a &&& b) ≤ r ((a &&& b) ||| b % 2 ^ k) + r a := by
    intro k
    induction k with
    | zero => intro _; rw [Nat.pow_zero, Nat.mod_one, Nat.or_zero, Nat.or_zero]; omega
    | succ k ih =>
      intro hk
      have h1 := ih (by omega)
      cases hbk : b.testBit k with
      | true =>
        rw [mt_mod_t hbk, ← Nat.or_assoc, ← Nat.or_assoc]
        have hx := mt_modltn b (show k ≤ n by omega)
        have h2 := hM.2.2 ((a &&& b) ||| b % 2 ^ k) (a ||| b % 2 ^ k) k (Nat.or_lt_two_pow hab hx) (Nat.or_lt_two_pow ha hx) (fun i hi => by
          rw [Nat.testBit_or, Nat.testBit_and] at hi
          rw [Nat.testBit_or]
          cases h5 : a.testBit i <;> simp_all) (by omega)
        omega
      | false => rw [mt_mod_f hbk]; exact h1
  have h1 := key n (Nat.le_refl n)
  rw [mt_mod_n hb] at h1
  have h2 : (a &&& b) ||| b = b := by
    apply Nat.eq_of_testBit_eq
    intro i
    rw [Nat.testBit_or, Nat.testBit_and]
    cases h5 : a.testBit i <;> cases h6 : b.testBit i <;> simp_all
  rw [h2] at h1
  omega
theorem mt_le_cd {n : Nat} {r : Nat → Nat} (hM : mt_M n r) {s : Nat} (hs : s < 2 ^ n) : r s ≤ mt_cd n s := by
  have key : ∀ k, k ≤ n → r (s % 2 ^ k) ≤ mt_cd k s := by
    intro k
    induction k with
    | zero => intro _; rw [Nat.pow_zero, Nat.mod_one, hM.1]; exact Nat.zero_le _
    | succ k ih =>
      intro hk
      have h1 := ih (by omega)
      simp only [mt_cd]
      cases hb : s.testBit k with
      | true =>
        rw [mt_mod_t hb]
        have := (hM.2.1 (s % 2 ^ k) k (mt_modltn s (by omega)) (by omega)).2
        simp; omega
      | false => rw [mt_mod_f hb]; simp; exact h1
  have h1 := key n (Nat.le_refl n)
  rw [mt_mod_n hs] at h1
  exact h1
theorem mt_ind_sub {n : Nat} {r : Nat → Nat} (hM : mt_M n r) {s t : Nat} (hs : s < 2 ^ n) (ht : t < 2 ^ n) (h : mt_sb s t) (hi : r t = mt_cd n t) : r s = mt_cd n s := by
  have hb : t &&& mt_co n s < 2 ^ n := Nat.and_lt_two_pow t (mt_colt hs)
  have h1 := mt_submod hM hs hb
  have e1 : s ||| (t &&& mt_co n s) = t := by
    refine mt_ex (Nat.or_lt_two_pow hs hb) ht fun i hi => ?_
    rw [Nat.testBit_or, Nat.testBit_and, mt_cot]
    have := h i
    cases h5 : s.testBit i <;> cases h6 : t.testBit i <;> simp_all
  have e2 : s &&& (t &&& mt_co n s) = 0 := by
    refine mt_ex (Nat.and_lt_two_pow _ hb) (Nat.two_pow_pos n) fun i hi => ?_
    rw [Nat.testBit_and, Nat.testBit_and, mt_cot]
    cases h5 : s.testBit i <;> cases h6 : t.testBit i <;> simp_all
  have h2 := mt_cd_orand n s (t &&& mt_co n s)
  rw [e1, e2] at h1 h2
  rw [mt_cd_0] at h2
  have h3 := mt_le_cd hM hs
  have h4 := mt_le_cd hM hb
  omega
theorem mt_dep {n : Nat} {r : Nat → Nat} (hM : mt_M n r) {s : Nat} (hs : s < 2 ^ n) (h : r s < mt_cd n s) : ∃ e, e < n ∧ s.testBit e = true ∧ r (s ^^^ 2 ^ e) = r s := by
  refine Classical.byContradiction fun hno => ?_
  have hall : ∀ e, e < n → s.testBit e = true → r (s ^^^ 2 ^ e) + 1 ≤ r s := by
    intro e he hb
    have h1 := mt_mono hM (mt_xorlt hs he) hs (mt_xor_sb hb)
    have h2 : r (s ^^^ 2 ^ e) ≠ r s := fun q => hno ⟨e, he, hb, q⟩
    omega
  have key : ∀ k, k ≤ n → mt_cd k s ≤ r (s % 2 ^ k) := by
    intro k
    induction k with
    | zero => intro _; exact Nat.zero_le _
    | succ k ih =>
      intro hk
      have h1 := ih (by omega)
      simp only [mt_cd]
      cases hb : s.testBit k with
      | true =>
        rw [mt_mod_t hb]
        have h2 := hM.2.2 (s % 2 ^ k) (s ^^^ 2 ^ k) k (mt_modltn s (by omega)) (mt_xorlt hs (by omega)) (fun i hi => by
          rw [Nat.testBit_mod_two_pow] at hi
          simp at hi
          rw [Nat.testBit_xor, mt_two, hi.2]
          simp; omega) (by omega)
        rw [mt_xor_or hb] at h2
        have h3 := hall k (by omega) hb
        simp; omega
      | false => rw [mt_mod_f hb]; simp; exact h1
  have h1 := key n (Nat.le_refl n)
  rw [mt_mod_n hs] at h1
  omega
/-- a largest independent subset -/
theorem mt_basis {n : Nat} {r : Nat → Nat} (hM : mt_M n r) {x : Nat} (hx : x < 2 ^ n) : ∃ b, b < 2 ^ n ∧ mt_sb b x ∧ r b = mt_cd n b ∧ r b = r x := by
  have key : ∀ k, k ≤ n → ∃ b, b < 2 ^ k ∧ mt_sb b (x % 2 ^ k) ∧ r b = mt_cd n b ∧ r b = r (x % 2 ^ k) := by
    intro k
    induction k with
    | zero => intro _; exact ⟨0, by decide, by intro i hi; simp at hi, by rw [hM.1, mt_cd_0], by rw [Nat.pow_zero, Nat.mod_one]⟩
    | succ k ih =>
      intro hk
      obtain ⟨b, h1, h2, h3, h4⟩ := ih (by omega)
      have hbn : b < 2 ^ n := Nat.lt_of_lt_of_le h1 (Nat.pow_le_pow_right (by omega) (by omega))
      have hxn := mt_modltn x (show k ≤ n by omega)
      cases hb : x.testBit k with
      | true =>
        rw [mt_mod_t hb]
        by_cases hg : r (x % 2 ^ k ||| 2 ^ k) = r (x % 2 ^ k)
        · exact ⟨b, Nat.lt_of_lt_of_le h1 (Nat.pow_le_pow_right (by omega) (by omega)), fun i hi => by rw [Nat.testBit_or, h2 i hi]; rfl, h3, by rw [hg]; exact h4⟩
        · have g1 := hM.2.1 (x % 2 ^ k) k hxn (by omega)
          have g2 := hM.2.2 b (x % 2 ^ k) k hbn hxn h2 (by omega)
          have g3 := hM.2.1 b k hbn (by omega)
          have g4 := mt_cd_add (n := n) (s := b) (e := k) (by omega) (mt_big h1 (Nat.le_refl k))
          refine ⟨b ||| 2 ^ k, Nat.or_lt_two_pow (Nat.lt_of_lt_of_le h1 (Nat.pow_le_pow_right (by omega) (by omega))) (mt_pow (by omega)), fun i hi => ?_, by omega, by omega⟩
          rw [Nat.testBit_or] at hi ⊢
          cases h5 : b.testBit i with
          | true => rw [h2 i h5]; rfl
          | false => rw [h5] at hi; simp at hi; rw [hi]; simp
      | false =>
        rw [mt_mod_f hb]
        exact ⟨b, Nat.lt_of_lt_of_le h1 (Nat.pow_le_pow_right (by omega) (by omega)), h2, h3, h4⟩
  obtain ⟨b, h1, h2, h3, h4⟩ := key n (Nat.le_refl n)
  rw [mt_mod_n hx] at h2 h4
  exact ⟨b, h1, h2, h3, h4⟩
end
section
/-! Two ranks at once: the largest common independent set, the largest union; the least minimum of a submodular number; the table of ranks. -/
theorem mt_up {n s : Nat} (h : s < 2 ^ n) : s < 2 ^ (n + 1) := Nat.lt_of_lt_of_le h (Nat.pow_le_pow_right (by omega) (by omega))
theorem mt_M_del {n : Nat} {r : Nat → Nat} (hM : mt_M (n + 1) r) : mt_M n r :=
  ⟨hM.1, fun s e hs he => hM.2.1 s e (mt_up hs) (by omega), fun s t e hs ht h he => hM.2.2 s t e (mt_up hs) (mt_up ht) h (by omega)⟩
theorem mt_or_rot (a b c : Nat) : (a ||| b) ||| c = (a ||| c) ||| b := by
  rw [Nat.or_assoc, Nat.or_comm b c, ← Nat.or_assoc]
theorem mt_sb_or (s t : Nat) : mt_sb t (s ||| t) := fun i hi => by rw [Nat.testBit_or, hi]; simp
theorem mt_sb_orl (s t : Nat) : mt_sb s (s ||| t) := fun i hi => by rw [Nat.testBit_or, hi]; simp
theorem mt_M_con {n : Nat} {r : Nat → Nat} (hM : mt_M (n + 1) r) (h1 : r (2 ^ n) = 1) : mt_M n (fun s => r (s ||| 2 ^ n) - 1) := by
  have ge : ∀ s, s < 2 ^ n → 1 ≤ r (s ||| 2 ^ n) := fun s hs => by
    rw [← h1]
    exact mt_mono hM (mt_pow (by omega)) (mt_orlt (mt_up hs) (by omega)) (mt_sb_or s (2 ^ n))
  refine ⟨by show r (0 ||| 2 ^ n) - 1 = 0; rw [Nat.zero_or, h1], fun s e hs he => ?_, fun s t e hs ht h he => ?_⟩
  · show r (s ||| 2 ^ n) - 1 ≤ r (s ||| 2 ^ e ||| 2 ^ n) - 1 ∧ r (s ||| 2 ^ e ||| 2 ^ n) - 1 ≤ r (s ||| 2 ^ n) - 1 + 1
    have h2 := hM.2.1 (s ||| 2 ^ n) e (mt_orlt (mt_up hs) (by omega)) (by omega)
    have h3 := ge s hs
    rw [mt_or_rot s (2 ^ e) (2 ^ n)]
    omega
  · show r (t ||| 2 ^ e ||| 2 ^ n) - 1 + (r (s ||| 2 ^ n) - 1) ≤ r (s ||| 2 ^ e ||| 2 ^ n) - 1 + (r (t ||| 2 ^ n) - 1)
    have h2 := hM.2.2 (s ||| 2 ^ n) (t ||| 2 ^ n) e (mt_orlt (mt_up hs) (by omega)) (mt_orlt (mt_up ht) (by omega)) (fun i hi => by
      rw [Nat.testBit_or] at hi ⊢
      have := h i
      cases h5 : s.testBit i <;> simp_all) (by omega)
    have h3 := ge s hs
    have h4 := ge t ht
    have h5 := ge (s ||| 2 ^ e) (mt_orlt hs he)
    have h6 := ge (t ||| 2 ^ e) (mt_orlt ht he)
    rw [mt_or_rot s (2 ^ e) (2 ^ n)] at h5 ⊢
    rw [mt_or_rot t (2 ^ e) (2 ^ n)] at h6 ⊢
    omega
theorem mt_co_c1 {n u : Nat} (hu : u < 2 ^ n) : mt_co (n + 1) (u ||| 2 ^ n) = mt_co n u := by
  apply Nat.eq_of_testBit_eq
  intro i
  rw [mt_cot, mt_cot, Nat.testBit_or, mt_two]
  by_cases h1 : i < n
  · simp [h1, show i < n + 1 by omega, show ¬ n = i by omega]
  · by_cases h2 : n = i
    · subst h2; simp [mt_big hu (Nat.le_refl n)]
    · simp [h1, h2, show ¬ i < n + 1 by omega]
theorem mt_co_c2 {n u : Nat} (hu : u < 2 ^ n) : mt_co (n + 1) u = mt_co n u ||| 2 ^ n := by
  apply Nat.eq_of_testBit_eq
  intro i
  rw [Nat.testBit_or, mt_cot, mt_cot, mt_two]
  by_cases h1 : i < n
  · simp [h1, show i < n + 1 by omega, show ¬ n = i by omega]
  · by_cases h2 : n = i
    · subst h2; simp [mt_big hu (Nat.le_refl n)]
    · simp [h1, h2, show ¬ i < n + 1 by omega]
theorem mt_co_and {n a b : Nat} : mt_co n (a &&& b) = mt_co n a ||| mt_co n b ∨ True := Or.inr trivial
theorem mt_co_i {n a b : Nat} (ha : a < 2 ^ n) (hb : b < 2 ^ n) : mt_co n (a &&& b) = mt_co n a ||| mt_co n b := by
  refine mt_ex (mt_colt (Nat.and_lt_two_pow a hb)) (Nat.or_lt_two_pow (mt_colt ha) (mt_colt hb)) fun i hi => ?_
  rw [Nat.testBit_or, mt_cot, mt_cot, mt_cot, Nat.testBit_and]
  cases a.testBit i <;> cases b.testBit i <;> simp [hi]
theorem mt_co_u {n a b : Nat} (ha : a < 2 ^ n) (hb : b < 2 ^ n) : mt_co n (a ||| b) = mt_co n a &&& mt_co n b := by
  refine mt_ex (mt_colt (Nat.or_lt_two_pow ha hb)) (Nat.and_lt_two_pow _ (mt_colt hb)) fun i hi => ?_
  rw [Nat.testBit_and, mt_cot, mt_cot, mt_cot, Nat.testBit_or]
  cases a.testBit i <;> cases b.testBit i <;> simp [hi]
theorem mt_and_top {n a b : Nat} (ha : a < 2 ^ n) : a &&& (b ||| 2 ^ n) = a &&& b := by
  apply Nat.eq_of_testBit_eq
  intro i
  rw [Nat.testBit_and, Nat.testBit_and, Nat.testBit_or, mt_two]
  by_cases h2 : n = i
  · subst h2; simp [mt_big ha (Nat.le_refl n)]
  · simp [h2]
/-- the largest common independent set is as large as no sum of ranks forbids -/
theorem mt_inter : ∀ (n : Nat) (f g : Nat → Nat) (k : Nat), mt_M n f → mt_M n g → (∀ u, u < 2 ^ n → k ≤ f u + g (mt_co n u)) → ∃ i, i < 2 ^ n ∧ mt_cd n i = k ∧ f i = k ∧ g i = k := by
  intro n
  induction n with
  | zero =>
    intro f g k hf hg h
    have h0 := h 0 (by decide)
    have e : mt_co 0 0 = 0 := by decide
    rw [e, hf.1, hg.1] at h0
    have hk : k = 0 := by omega
    subst hk
    exact ⟨0, by decide, rfl, hf.1, hg.1⟩
  | succ n ih =>
    intro f g k hf hg h
    have hp : 2 ^ n < 2 ^ (n + 1) := mt_pow (by omega)
    by_cases hA : ∀ u, u < 2 ^ n → k ≤ f u + g (mt_co n u)
    · obtain ⟨i, h1, h2, h3, h4⟩ := ih f g k (mt_M_del hf) (mt_M_del hg) hA
      exact ⟨i, mt_up h1, by rw [mt_cd_top h1]; exact h2, h3, h4⟩
    · obtain ⟨a, ha⟩ := Classical.not_forall.mp hA
      have ha1 : a < 2 ^ n := Classical.byContradiction (fun q => ha (fun z => absurd z q))
      have ha2 : f a + g (mt_co n a) < k := Nat.lt_of_not_le (fun q => ha (fun _ => q))
      have ca := mt_colt ha1
      have hf1 : f (2 ^ n) = 1 := by
        have g1 := hf.2.1 0 n (Nat.two_pow_pos _) (by omega)
        rw [Nat.zero_or, hf.1] at g1
        refine Classical.byContradiction fun q => ?_
        have z : f (2 ^ n) = 0 := by omega
        have g2 := hf.2.2 0 a n (Nat.two_pow_pos _) (mt_up ha1) (fun i hi => by simp at hi) (by omega)
        rw [Nat.zero_or, hf.1, z] at g2
        have g3 := h (a ||| 2 ^ n) (mt_orlt (mt_up ha1) (by omega))
        rw [mt_co_c1 ha1] at g3
        omega
      have hg1 : g (2 ^ n) = 1 := by
        have g1 := hg.2.1 0 n (Nat.two_pow_pos _) (by omega)
        rw [Nat.zero_or, hg.1] at g1
        refine Classical.byContradiction fun q => ?_
        have z : g (2 ^ n) = 0 := by omega
        have g2 := hg.2.2 0 (mt_co n a) n (Nat.two_pow_pos _) (mt_up ca) (fun i hi => by simp at hi) (by omega)
        rw [Nat.zero_or, hg.1, z] at g2
        have g3 := h a (mt_up ha1)
        rw [mt_co_c2 ha1] at g3
        omega
      have f1 : ∀ u, u < 2 ^ n → 1 ≤ f (u ||| 2 ^ n) := fun u hu => by
        rw [← hf1]; exact mt_mono hf hp (mt_orlt (mt_up hu) (by omega)) (mt_sb_or u (2 ^ n))
      have g1 : ∀ u, u < 2 ^ n → 1 ≤ g (u ||| 2 ^ n) := fun u hu => by
        rw [← hg1]; exact mt_mono hg hp (mt_orlt (mt_up hu) (by omega)) (mt_sb_or u (2 ^ n))
      by_cases hB : ∀ u, u < 2 ^ n → k - 1 ≤ (f (u ||| 2 ^ n) - 1) + (g (mt_co n u ||| 2 ^ n) - 1)
      · obtain ⟨i, h1, h2, h3, h4⟩ := ih _ _ (k - 1) (mt_M_con hf hf1) (mt_M_con hg hg1) hB
        have h3 : f (i ||| 2 ^ n) - 1 = k - 1 := h3
        have h4 : g (i ||| 2 ^ n) - 1 = k - 1 := h4
        have m1 := f1 i h1
        have m2 := g1 i h1
        refine ⟨i ||| 2 ^ n, mt_orlt (mt_up h1) (by omega), ?_, by omega, by omega⟩
        rw [mt_cd_add (by omega) (mt_big h1 (Nat.le_refl n)), mt_cd_top h1]
        omega
      · obtain ⟨b, hb⟩ := Classical.not_forall.mp hB
        have hb1 : b < 2 ^ n := Classical.byContradiction (fun q => hb (fun z => absurd z q))
        have hb2 : (f (b ||| 2 ^ n) - 1) + (g (mt_co n b ||| 2 ^ n) - 1) < k - 1 := Nat.lt_of_not_le (fun q => hb (fun _ => q))
        have cb := mt_colt hb1
        have m1 := f1 b hb1
        have m2 := g1 _ cb
        have s1 := mt_submod hf (mt_up ha1) (mt_orlt (mt_up hb1) (show n < n + 1 by omega))
        have s2 := mt_submod hg (mt_up ca) (mt_orlt (mt_up cb) (show n < n + 1 by omega))
        rw [mt_and_top ha1, ← Nat.or_assoc] at s1
        rw [mt_and_top ca, ← Nat.or_assoc] at s2
        have hab : a &&& b < 2 ^ n := Nat.and_lt_two_pow a hb1
        have hob : a ||| b < 2 ^ n := Nat.or_lt_two_pow ha1 hb1
        have u1 := h (a &&& b) (mt_up hab)
        have u2 := h ((a ||| b) ||| 2 ^ n) (mt_orlt (mt_up hob) (by omega))
        rw [mt_co_c2 hab, mt_co_i ha1 hb1] at u1
        rw [mt_co_c1 hob, mt_co_u ha1 hb1] at u2
        omega
def mt_du (n : Nat) (g : Nat → Nat) : Nat → Nat := fun s => mt_cd n s + g (mt_co n s) - g (2 ^ n - 1)
theorem mt_alllt (n : Nat) : 2 ^ n - 1 < 2 ^ n := by have := Nat.two_pow_pos n; omega
theorem mt_sb_all {n s : Nat} (h : s < 2 ^ n) : mt_sb s (2 ^ n - 1) := fun i hi => by
  rw [Nat.testBit_two_pow_sub_one]; simp; exact mt_lt h hi
theorem mt_s_co {n s : Nat} (h : s < 2 ^ n) : s ||| mt_co n s = 2 ^ n - 1 := by
  refine mt_ex (Nat.or_lt_two_pow h (mt_colt h)) (mt_alllt n) fun i hi => ?_
  rw [Nat.testBit_or, mt_cot, Nat.testBit_two_pow_sub_one]
  cases s.testBit i <;> simp [hi]
theorem mt_s_coi {n s : Nat} (h : s < 2 ^ n) : s &&& mt_co n s = 0 := by
  refine mt_ex (Nat.and_lt_two_pow _ (mt_colt h)) (Nat.two_pow_pos n) fun i hi => ?_
  rw [Nat.testBit_and, mt_cot]
  cases s.testBit i <;> simp [hi]
theorem mt_du_ge {n : Nat} {g : Nat → Nat} (hM : mt_M n g) {s : Nat} (hs : s < 2 ^ n) : g (2 ^ n - 1) ≤ mt_cd n s + g (mt_co n s) := by
  have h1 := mt_submod hM hs (mt_colt hs)
  have h2 := mt_le_cd hM hs
  rw [mt_s_co hs] at h1
  omega
theorem mt_co_add {n s e : Nat} (hs : s < 2 ^ n) (he : e < n) (h : s.testBit e = false) : mt_co n (s ||| 2 ^ e) ||| 2 ^ e = mt_co n s := by
  refine mt_ex (mt_orlt (mt_colt (mt_orlt hs he)) he) (mt_colt hs) fun i hi => ?_
  rw [Nat.testBit_or, mt_cot, mt_cot, Nat.testBit_or, mt_two]
  by_cases h2 : e = i
  · subst h2; simp [h, he]
  · simp [h2]
theorem mt_M_du {n : Nat} {g : Nat → Nat} (hM : mt_M n g) : mt_M n (mt_du n g) := by
  have inc : ∀ s e, s < 2 ^ n → e < n → mt_du n g s ≤ mt_du n g (s ||| 2 ^ e) ∧ mt_du n g (s ||| 2 ^ e) ≤ mt_du n g s + 1 := by
    intro s e hs he
    cases hb : s.testBit e with
    | true => rw [mt_or_in hb]; omega
    | false =>
      have h1 := mt_du_ge hM hs
      have h2 := mt_du_ge hM (mt_orlt hs he)
      have h3 := mt_cd_add he hb
      have h4 := hM.2.1 (mt_co n (s ||| 2 ^ e)) e (mt_colt (mt_orlt hs he)) he
      rw [mt_co_add hs he hb] at h4
      unfold mt_du
      omega
  refine ⟨?_, inc, fun s t e hs ht h he => ?_⟩
  · unfold mt_du
    have h0 : mt_co n 0 = 2 ^ n - 1 := by unfold mt_co; rw [Nat.xor_zero]
    rw [mt_cd_0, h0]; omega
  · cases hb : t.testBit e with
    | true => rw [mt_or_in hb]; have := (inc s e hs he).1; omega
    | false =>
      have hbs : s.testBit e = false := by
        cases hq : s.testBit e with
        | false => rfl
        | true => rw [h e hq] at hb; cases hb
      have h1 := mt_du_ge hM hs
      have h2 := mt_du_ge hM (mt_orlt hs he)
      have h3 := mt_cd_add he hbs
      have h1' := mt_du_ge hM ht
      have h2' := mt_du_ge hM (mt_orlt ht he)
      have h3' := mt_cd_add he hb
      have h4 := hM.2.2 (mt_co n (t ||| 2 ^ e)) (mt_co n (s ||| 2 ^ e)) e (mt_colt (mt_orlt ht he)) (mt_colt (mt_orlt hs he)) (fun i hi => by
        rw [mt_cot, Nat.testBit_or] at hi ⊢
        have hq := h i
        have hr : t.testBit i = true → i < n := mt_lt ht
        cases h5 : s.testBit i with
        | true => rw [hq h5] at hi; exact hi
        | false =>
          cases h6 : t.testBit i with
          | false => rw [h6] at hi; exact hi
          | true =>
            have hin := hr h6
            rw [h6] at hi
            simp [hin] at hi) he
      rw [mt_co_add hs he hbs, mt_co_add ht he hb] at h4
      unfold mt_du
      omega
/-- the largest union of two independent sets -/
theorem mt_union {n : Nat} {f g : Nat → Nat} (hf : mt_M n f) (hg : mt_M n g) {m : Nat} (hge : g (2 ^ n - 1) ≤ m) (hm : ∀ a, a < 2 ^ n → m ≤ f a + g a + (n - mt_cd n a)) : ∃ i b, i < 2 ^ n ∧ b < 2 ^ n ∧ i &&& b = 0 ∧ f i = mt_cd n i ∧ g b = mt_cd n b ∧ mt_cd n (i ||| b) = m := by
  obtain ⟨i, h1, h2, h3, h4⟩ := mt_inter n f (mt_du n g) (m - g (2 ^ n - 1)) hf (mt_M_du hg) (fun u hu => by
    unfold mt_du
    rw [mt_co2]
    have := hm u hu
    have := mt_cd_co n u n (Nat.le_refl n)
    omega)
  have h5 := mt_du_ge hg h1
  have h6 : mt_cd n i + g (mt_co n i) - g (2 ^ n - 1) = m - g (2 ^ n - 1) := h4
  have h7 := mt_mono hg (mt_colt h1) (mt_alllt n) (mt_sb_all (mt_colt h1))
  obtain ⟨b, b1, b2, b3, b4⟩ := mt_basis hg (mt_colt h1)
  have hib : i &&& b = 0 := by
    refine mt_ex (Nat.and_lt_two_pow _ b1) (Nat.two_pow_pos n) fun j hj => ?_
    rw [Nat.testBit_and]
    have := b2 j
    rw [mt_cot] at this
    cases h5 : i.testBit j <;> cases h6 : b.testBit j <;> simp_all
  have h8 := mt_cd_orand n i b
  rw [hib, mt_cd_0] at h8
  exact ⟨i, b, h1, b1, hib, by omega, b3, by omega⟩
theorem mt_union_le {n : Nat} {f g : Nat → Nat} (hf : mt_M n f) (hg : mt_M n g) {i b a : Nat} (hi : i < 2 ^ n) (hb : b < 2 ^ n) (ha : a < 2 ^ n) (h1 : f i = mt_cd n i) (h2 : g b = mt_cd n b) : mt_cd n (i ||| b) ≤ f a + g a + (n - mt_cd n a) := by
  have e1 := mt_cd_orand n (i ||| b) a
  have e2 := mt_cd_le n ((i ||| b) ||| a)
  have e3 : (i ||| b) &&& a = (i &&& a) ||| (b &&& a) := by
    apply Nat.eq_of_testBit_eq
    intro j
    simp only [Nat.testBit_and, Nat.testBit_or]
    cases i.testBit j <;> cases b.testBit j <;> cases a.testBit j <;> rfl
  have e4 := mt_cd_orand n (i &&& a) (b &&& a)
  have sub : ∀ x : Nat, mt_sb (x &&& a) x ∧ mt_sb (x &&& a) a := fun x => ⟨fun j hj => by rw [Nat.testBit_and] at hj; simp at hj; exact hj.1, fun j hj => by rw [Nat.testBit_and] at hj; simp at hj; exact hj.2⟩
  have g1 := mt_ind_sub hf (Nat.and_lt_two_pow i ha) hi (sub i).1 h1
  have g2 := mt_ind_sub hg (Nat.and_lt_two_pow b ha) hb (sub b).1 h2
  have g3 := mt_mono hf (Nat.and_lt_two_pow i ha) ha (sub i).2
  have g4 := mt_mono hg (Nat.and_lt_two_pow b ha) ha (sub b).2
  have g5 := mt_cd_le n a
  rw [e3] at e1
  omega
/-- of the sets with the least submodular number the least one is in all others -/
theorem mt_least {n : Nat} {h : Nat → Nat} (hs : ∀ a b, a < 2 ^ n → b < 2 ^ n → h (a ||| b) + h (a &&& b) ≤ h a + h b) {x : Nat} (hx : x < 2 ^ n) (hmin : ∀ s, s < 2 ^ n → h x ≤ h s) (hfst : ∀ s, s < x → h x < h s) {s : Nat} (hs2 : s < 2 ^ n) (he : h s = h x) : x &&& s = x := by
  have h1 := hs x s hx hs2
  have h2 := hmin (x ||| s) (Nat.or_lt_two_pow hx hs2)
  refine Classical.byContradiction fun q => ?_
  have h3 : x &&& s ≤ x := Nat.and_le_left
  have h4 := hfst (x &&& s) (by omega)
  omega
theorem mt_sub_w {n : Nat} {f g : Nat → Nat} (hf : mt_M n f) (hg : mt_M n g) : ∀ a b, a < 2 ^ n → b < 2 ^ n → (f (a ||| b) + g (mt_co n (a ||| b))) + (f (a &&& b) + g (mt_co n (a &&& b))) ≤ (f a + g (mt_co n a)) + (f b + g (mt_co n b)) := by
  intro a b ha hb
  have h1 := mt_submod hf ha hb
  have h2 := mt_submod hg (mt_colt ha) (mt_colt hb)
  rw [mt_co_i ha hb, mt_co_u ha hb]
  omega
theorem mt_sub_j {n : Nat} {f g : Nat → Nat} (hf : mt_M n f) (hg : mt_M n g) : ∀ a b, a < 2 ^ n → b < 2 ^ n → (f (a ||| b) + g (a ||| b) + (n - mt_cd n (a ||| b))) + (f (a &&& b) + g (a &&& b) + (n - mt_cd n (a &&& b))) ≤ (f a + g a + (n - mt_cd n a)) + (f b + g b + (n - mt_cd n b)) := by
  intro a b ha hb
  have h1 := mt_submod hf ha hb
  have h2 := mt_submod hg ha hb
  have h3 := mt_cd_orand n a b
  have h4 := mt_cd_le n a
  have h5 := mt_cd_le n b
  have h6 := mt_cd_le n (a ||| b)
  have h7 := mt_cd_le n (a &&& b)
  omega
/-- one row of the table of ranks -/
theorem mt_tab {n : Nat} {r : Nat → Nat} (hM : mt_M n r) {s : Nat} (hs : s < 2 ^ n) {best : Nat} (h1 : ∀ e, e < n → s.testBit e = true → r (s ^^^ 2 ^ e) ≤ best) (h2 : best = 0 ∨ ∃ e, e < n ∧ s.testBit e = true ∧ r (s ^^^ 2 ^ e) = best) : (best + 1 = mt_cd n s ∧ r s = mt_cd n s → r s = best + 1) ∧ (¬ (best + 1 = mt_cd n s ∧ r s = mt_cd n s) → r s = best) := by
  refine ⟨fun h => by omega, fun h => ?_⟩
  have h3 := mt_le_cd hM hs
  have hle : best ≤ r s := by
    rcases h2 with h2 | ⟨e, g1, g2, g3⟩
    · omega
    · rw [← g3]; exact mt_mono hM (mt_xorlt hs g1) hs (mt_xor_sb g2)
  by_cases hr : r s = mt_cd n s
  · by_cases h0 : s = 0
    · subst h0; rw [hM.1] at hle ⊢; omega
    · obtain ⟨e, he⟩ := Nat.exists_testBit_of_ne_zero h0
      have he : s.testBit e = true := he
      have hen := mt_lt hs he
      have g1 := h1 e hen he
      have g2 := hM.2.1 (s ^^^ 2 ^ e) e (mt_xorlt hs hen) hen
      rw [mt_xor_or he] at g2
      have g3 := mt_cd_xor hen he
      have g4 : ∀ e, e < n → s.testBit e = true → r (s ^^^ 2 ^ e) + 1 ≤ mt_cd n s := fun e h5 h6 => by
        have := mt_le_cd hM (mt_xorlt hs h5)
        have := mt_cd_xor h5 h6
        omega
      rcases h2 with h2 | ⟨e', q1, q2, q3⟩
      · omega
      · have := g4 e' q1 q2
        omega
  · obtain ⟨e, g1, g2, g3⟩ := mt_dep hM hs (by omega)
    have := h1 e g1 g2
    omega
end
section
/-! The heaviest basis: taking greedily in the order of the elements. -/
def mt_W (w : Nat → Int) : Nat → Nat → Int
  | 0, _ => 0
  | k + 1, s => mt_W w k s + (if s.testBit k = true then w k else 0)
def mt_bf (w : Nat → Int) (a b : Nat) : Prop := w b < w a ∨ (w b = w a ∧ a < b)
def mt_dn (w : Nat → Int) (n t : Nat) : Prop := ∀ a b : Nat, t.testBit a = true → b < n → t.testBit b = false → mt_bf w a b
def mt_gr (w : Nat → Int) (n : Nat) (r : Nat → Nat) (B : Nat) : Prop := B < 2 ^ n ∧ r B = mt_cd n B ∧ r B = r (2 ^ n - 1) ∧ ∀ t, t < 2 ^ n → mt_dn w n t → mt_cd n (B &&& t) = r t
def mt_gi (w : Nat → Int) (n : Nat) (r : Nat → Nat) (tried basis : Nat) : Prop := tried < 2 ^ n ∧ basis < 2 ^ n ∧ mt_sb basis tried ∧ mt_dn w n tried ∧ r basis = mt_cd n basis ∧ r basis = r tried ∧ ∀ t, t < 2 ^ n → mt_dn w n t → mt_sb t tried → mt_cd n (basis &&& t) = r t
def mt_cf (w : Nat → Int) (n s t : Nat) : Prop := ∃ f, f < n ∧ (s ^^^ t).testBit f = true ∧ (∀ e, e < n → (s ^^^ t).testBit e = true → e = f ∨ mt_bf w f e) ∧ s.testBit f = true
theorem mt_mk (p : Nat → Bool) (n : Nat) : ∃ t, t < 2 ^ n ∧ ∀ i, i < n → t.testBit i = p i := by
  induction n with
  | zero => exact ⟨0, by decide, fun i hi => by omega⟩
  | succ n ih =>
    obtain ⟨t, h1, h2⟩ := ih
    cases hp : p n with
    | false =>
      refine ⟨t, mt_up h1, fun i hi => ?_⟩
      by_cases h : i = n
      · subst h; rw [hp]; exact mt_big h1 (Nat.le_refl i)
      · exact h2 i (by omega)
    | true =>
      refine ⟨t ||| 2 ^ n, mt_orlt (mt_up h1) (by omega), fun i hi => ?_⟩
      rw [Nat.testBit_or, mt_two]
      by_cases h : i = n
      · subst h; simp [hp]
      · rw [h2 i (by omega)]; simp [show ¬ n = i by omega]
theorem mt_W_eq {v v' : Nat → Int} {n s : Nat} (h : ∀ i, i < n → v i = v' i) : mt_W v n s = mt_W v' n s := by
  induction n with
  | zero => rfl
  | succ k ih => simp only [mt_W]; rw [ih (fun i hi => h i (by omega)), h k (by omega)]
theorem mt_W_c {v : Nat → Int} {c : Int} {n s : Nat} (h : ∀ i, i < n → v i = c) : mt_W v n s = c * (mt_cd n s : Int) := by
  induction n with
  | zero => simp [mt_W, mt_cd]
  | succ k ih =>
    simp only [mt_W, mt_cd]
    rw [ih (fun i hi => h i (by omega)), h k (by omega)]
    cases s.testBit k
    · simp
    · simp [Int.mul_add]
theorem mt_W_add {v v' : Nat → Int} {t n s : Nat} (h : ∀ i, i < n → v' i = v i + (if t.testBit i = true then 1 else 0)) : mt_W v' n s = mt_W v n s + (mt_cd n (s &&& t) : Int) := by
  induction n with
  | zero => simp [mt_W, mt_cd]
  | succ k ih =>
    simp only [mt_W, mt_cd, Nat.testBit_and]
    rw [ih (fun i hi => h i (by omega)), h k (by omega)]
    cases s.testBit k <;> cases t.testBit k <;> simp <;> omega
theorem mt_gr_W {w : Nat → Int} {n : Nat} {r : Nat → Nat} {B : Nat} (hM : mt_M n r) (hB : mt_gr w n r B) {S : Nat} (hS : S < 2 ^ n) (hi : r S = mt_cd n S) (hc : r S = r (2 ^ n - 1)) (M : Nat) (hw : ∀ i, i < n → -(M : Int) ≤ w i ∧ w i ≤ (M : Int)) : mt_W w n S ≤ mt_W w n B := by
  have key : ∀ j : Nat, mt_W (fun i => min (w i) (-(M : Int) + (j : Int))) n S ≤ mt_W (fun i => min (w i) (-(M : Int) + (j : Int))) n B := by
    intro j
    induction j with
    | zero =>
      have e : ∀ i, i < n → (fun i => min (w i) (-(M : Int) + ((0 : Nat) : Int))) i = -(M : Int) := fun i h => by
        have := hw i h
        show min (w i) (-(M : Int) + ((0 : Nat) : Int)) = -(M : Int)
        omega
      rw [mt_W_c e, mt_W_c e, ← hi, ← hB.2.1, hc, hB.2.2.1]
      exact Int.le_refl _
    | succ j ih =>
      obtain ⟨t, t1, t2⟩ := mt_mk (fun i => decide (-(M : Int) + ((j + 1 : Nat) : Int) ≤ w i)) n
      have e : ∀ i, i < n → (fun i => min (w i) (-(M : Int) + ((j + 1 : Nat) : Int))) i = (fun i => min (w i) (-(M : Int) + (j : Int))) i + (if t.testBit i = true then 1 else 0) := fun i h => by
        rw [t2 i h]
        show min (w i) (-(M : Int) + ((j + 1 : Nat) : Int)) = min (w i) (-(M : Int) + (j : Int)) + _
        by_cases hq : -(M : Int) + ((j + 1 : Nat) : Int) ≤ w i
        · simp only [hq, decide_true, if_true]; omega
        · simp only [hq, decide_false]; simp; omega
      have dn : mt_dn w n t := fun a b ha hb hnb => by
        have han := mt_lt t1 ha
        rw [t2 a han] at ha
        rw [t2 b hb] at hnb
        simp at ha hnb
        exact Or.inl (by omega)
      rw [mt_W_add e, mt_W_add e, hB.2.2.2 t t1 dn]
      have g1 : mt_cd n (S &&& t) ≤ r t := by
        have sa : mt_sb (S &&& t) S := fun j hj => by rw [Nat.testBit_and] at hj; simp at hj; exact hj.1
        have sb : mt_sb (S &&& t) t := fun j hj => by rw [Nat.testBit_and] at hj; simp at hj; exact hj.2
        rw [← mt_ind_sub hM (Nat.and_lt_two_pow S t1) hS sa hi]
        exact mt_mono hM (Nat.and_lt_two_pow S t1) t1 sb
      omega
  have h1 := key (2 * M)
  have e : ∀ i, i < n → (fun i => min (w i) (-(M : Int) + ((2 * M : Nat) : Int))) i = w i := fun i h => by
    have := hw i h
    show min (w i) (-(M : Int) + ((2 * M : Nat) : Int)) = w i
    omega
  rw [mt_W_eq e, mt_W_eq e] at h1
  exact h1
theorem mt_gr_first {w : Nat → Int} {n : Nat} {r : Nat → Nat} {B : Nat} (hM : mt_M n r) (hB : mt_gr w n r B) {S : Nat} (hS : S < 2 ^ n) (hi : r S = mt_cd n S) : ¬ mt_cf w n S B := by
  rintro ⟨f, f1, f2, f3, f4⟩
  obtain ⟨t, t1, t2⟩ := mt_mk (fun i => decide (i = f) || decide (w f < w i) || (decide (w f = w i) && decide (i < f))) n
  have hT : ∀ i, i < n → (t.testBit i = true ↔ (i = f ∨ w f < w i ∨ (w f = w i ∧ i < f))) := fun i h => by
    rw [t2 i h]; simp [or_assoc]
  have dn : mt_dn w n t := fun a b ha hb hnb => by
    have g1 := (hT a (mt_lt t1 ha)).mp ha
    have g2 : ¬ (b = f ∨ w f < w b ∨ (w f = w b ∧ b < f)) := fun q => by rw [(hT b hb).mpr q] at hnb; cases hnb
    unfold mt_bf
    by_cases haf : a = f
    · subst haf; omega
    · omega
  have hBf : B.testBit f = false := by
    rw [Nat.testBit_xor, f4] at f2
    cases h : B.testBit f with
    | false => rfl
    | true => rw [h] at f2; cases f2
  have htf : t.testBit f = true := (hT f f1).mpr (Or.inl rfl)
  have e : S &&& t = (B &&& t) ||| 2 ^ f := by
    refine mt_ex (Nat.and_lt_two_pow S t1) (mt_orlt (Nat.and_lt_two_pow B t1) f1) fun i hi => ?_
    rw [Nat.testBit_or, Nat.testBit_and, Nat.testBit_and, mt_two]
    by_cases hif : f = i
    · subst hif; simp [f4, htf]
    · cases hti : t.testBit i with
      | false => simp [hif]
      | true =>
        have g1 := (hT i hi).mp hti
        have g2 : (S ^^^ B).testBit i = false := by
          cases hq : (S ^^^ B).testBit i with
          | false => rfl
          | true =>
            exfalso
            have := f3 i hi hq
            unfold mt_bf at this
            omega
        rw [Nat.testBit_xor] at g2
        simp only [hif, decide_false, Bool.and_true, Bool.or_false]
        cases h5 : S.testBit i <;> cases h6 : B.testBit i <;> simp_all
  have g1 := mt_cd_add (n := n) (s := B &&& t) f1 (by rw [Nat.testBit_and, hBf]; rfl)
  rw [← e, hB.2.2.2 t t1 dn] at g1
  have sa : mt_sb (S &&& t) S := fun j hj => by rw [Nat.testBit_and] at hj; simp at hj; exact hj.1
  have sb : mt_sb (S &&& t) t := fun j hj => by rw [Nat.testBit_and] at hj; simp at hj; exact hj.2
  have g2 := mt_ind_sub hM (Nat.and_lt_two_pow S t1) hS sa hi
  have g3 := mt_mono hM (Nat.and_lt_two_pow S t1) t1 sb
  omega
theorem mt_first (w : Nat → Int) (x : Nat) : ∀ n, (∃ i, i < n ∧ x.testBit i = true) → ∃ f, f < n ∧ x.testBit f = true ∧ ∀ e, e < n → x.testBit e = true → e = f ∨ mt_bf w f e := by
  intro n
  induction n with
  | zero => rintro ⟨i, h, -⟩; omega
  | succ n ih =>
    rintro ⟨i, h1, h2⟩
    by_cases hq : ∃ i, i < n ∧ x.testBit i = true
    · obtain ⟨f, g1, g2, g3⟩ := ih hq
      by_cases hn : x.testBit n = true ∧ w f < w n
      · refine ⟨n, by omega, hn.1, fun e he hx => ?_⟩
        by_cases hen : e = n
        · exact Or.inl hen
        · refine Or.inr ?_
          have := g3 e (by omega) hx
          unfold mt_bf at this ⊢
          by_cases hef : e = f
          · subst hef; exact Or.inl hn.2
          · have h9 := hn.2; omega
      · refine ⟨f, by omega, g2, fun e he hx => ?_⟩
        by_cases hen : e = n
        · subst hen
          refine Or.inr ?_
          have : ¬ w f < w e := fun z => hn ⟨hx, z⟩
          unfold mt_bf
          omega
        · exact g3 e (by omega) hx
    · have hin : i = n := Classical.byContradiction fun z => hq ⟨i, by omega, h2⟩
      subst hin
      exact ⟨i, by omega, h2, fun e he hx => Or.inl (Classical.byContradiction fun z => hq ⟨e, by omega, hx⟩)⟩
/-- the greedy basis comes first of all that weigh as much -/
theorem mt_gr_cf {w : Nat → Int} {n : Nat} {r : Nat → Nat} {B : Nat} (hM : mt_M n r) (hB : mt_gr w n r B) {S : Nat} (hS : S < 2 ^ n) (hi : r S = mt_cd n S) (hne : S ≠ B) : mt_cf w n B S := by
  have hx : ∃ i, i < n ∧ (B ^^^ S).testBit i = true := by
    obtain ⟨i, hi⟩ := Nat.exists_testBit_ne_of_ne hne
    have h1 : (B ^^^ S).testBit i = true := by
      rw [Nat.testBit_xor]
      cases h5 : S.testBit i <;> cases h6 : B.testBit i <;> simp_all
    exact ⟨i, mt_lt (Nat.xor_lt_two_pow hB.1 hS) h1, h1⟩
  obtain ⟨f, f1, f2, f3⟩ := mt_first w (B ^^^ S) n hx
  cases h : B.testBit f with
  | true => exact ⟨f, f1, f2, f3, h⟩
  | false =>
    exfalso
    refine mt_gr_first hM hB hS hi ⟨f, f1, ?_, ?_, ?_⟩
    · rw [Nat.xor_comm]; exact f2
    · rw [Nat.xor_comm]; exact f3
    · rw [Nat.testBit_xor, h] at f2
      simpa using f2
theorem mt_gi_0 {w : Nat → Int} {n : Nat} {r : Nat → Nat} (hM : mt_M n r) : mt_gi w n r 0 0 := by
  refine ⟨Nat.two_pow_pos n, Nat.two_pow_pos n, fun i hi => hi, fun a b ha => by simp at ha, by rw [hM.1, mt_cd_0], rfl, fun t ht _ hs => ?_⟩
  have h0 : t = 0 := by
    refine mt_ex ht (Nat.two_pow_pos n) fun i _ => ?_
    have := hs i
    cases h5 : t.testBit i <;> simp_all
  subst h0
  rw [Nat.zero_and, mt_cd_0, hM.1]
theorem mt_gi_s {w : Nat → Int} {n : Nat} {r : Nat → Nat} (hM : mt_M n r) {tried basis : Nat} (h : mt_gi w n r tried basis) {e : Nat} (he : e < n) (h1 : tried.testBit e = false) (h2 : ∀ b, b < n → tried.testBit b = false → b = e ∨ mt_bf w e b) :
    (r (basis ||| 2 ^ e) = mt_cd n (basis ||| 2 ^ e) → mt_gi w n r (tried ||| 2 ^ e) (basis ||| 2 ^ e)) ∧ (¬ r (basis ||| 2 ^ e) = mt_cd n (basis ||| 2 ^ e) → mt_gi w n r (tried ||| 2 ^ e) basis) := by
  obtain ⟨a1, a2, a3, a4, a5, a6, a7⟩ := h
  have hbe : basis.testBit e = false := by
    cases hq : basis.testBit e with
    | false => rfl
    | true => rw [a3 e hq] at h1; cases h1
  have ht' := mt_orlt a1 he
  have hb' := mt_orlt a2 he
  have hc := mt_cd_add he hbe
  have i1 := hM.2.1 basis e a2 he
  have i2 := hM.2.1 tried e a1 he
  have i3 := hM.2.2 basis tried e a2 a1 a3 he
  have dn : mt_dn w n (tried ||| 2 ^ e) := by
    intro a b ha hb hnb
    rw [Nat.testBit_or, mt_two] at ha hnb
    have hnb1 : tried.testBit b = false := by
      cases hq : tried.testBit b with
      | false => rfl
      | true => rw [hq] at hnb; simp at hnb
    have hnb2 : ¬ e = b := by
      intro hq; subst hq; simp at hnb
    cases hta : tried.testBit a with
    | true => exact a4 a b hta hb hnb1
    | false =>
      rw [hta] at ha
      simp at ha
      subst ha
      rcases h2 b hb hnb1 with q | q
      · exact absurd q.symm hnb2
      · exact q
  have down : ∀ t, t < 2 ^ n → mt_dn w n t → mt_sb t (tried ||| 2 ^ e) → (t.testBit e = false ∧ mt_sb t tried) ∨ t = tried ||| 2 ^ e := by
    intro t ht hd hs
    cases hte : t.testBit e with
    | false =>
      refine Or.inl ⟨rfl, fun i hi => ?_⟩
      have := hs i hi
      rw [Nat.testBit_or, mt_two] at this
      by_cases hq : e = i
      · subst hq; rw [hte] at hi; cases hi
      · simpa [hq] using this
    | true =>
      refine Or.inr (mt_ex ht ht' fun i hi => ?_)
      cases hti : t.testBit i with
      | true => rw [hs i hti]
      | false =>
        rw [Nat.testBit_or, mt_two]
        have hne : ¬ e = i := by intro hq; subst hq; rw [hte] at hti; cases hti
        cases htr : tried.testBit i with
        | false => simp [hne]
        | true =>
          exfalso
          have g1 := hd e i hte hi hti
          have g2 := a4 i e htr he h1
          unfold mt_bf at g1 g2
          omega
  refine ⟨fun hadd => ?_, fun hno => ?_⟩
  · have hsb : mt_sb (basis ||| 2 ^ e) (tried ||| 2 ^ e) := fun i hi => by
      rw [Nat.testBit_or] at hi ⊢
      cases h5 : basis.testBit i with
      | true => rw [a3 i h5]; rfl
      | false => rw [h5] at hi; simp at hi; rw [hi]; simp
    have hr : r (basis ||| 2 ^ e) = r (tried ||| 2 ^ e) := by
      have := mt_mono hM hb' ht' hsb
      omega
    refine ⟨ht', hb', hsb, dn, hadd, hr, fun t ht hd hs => ?_⟩
    rcases down t ht hd hs with ⟨q1, q2⟩ | q
    · have e1 : (basis ||| 2 ^ e) &&& t = basis &&& t := by
        apply Nat.eq_of_testBit_eq
        intro i
        rw [Nat.testBit_and, Nat.testBit_and, Nat.testBit_or, mt_two]
        by_cases hq : e = i
        · subst hq; simp [q1]
        · simp [hq]
      rw [e1]; exact a7 t ht hd q2
    · subst q
      have e1 : (basis ||| 2 ^ e) &&& (tried ||| 2 ^ e) = basis ||| 2 ^ e := by
        apply Nat.eq_of_testBit_eq
        intro i
        rw [Nat.testBit_and]
        have := hsb i
        cases h5 : (basis ||| 2 ^ e).testBit i <;> simp_all
      rw [e1, ← hadd]; exact hr
  · have hsb : mt_sb basis (tried ||| 2 ^ e) := fun i hi => by
      rw [Nat.testBit_or, a3 i hi]; rfl
    have hr : r basis = r (tried ||| 2 ^ e) := by omega
    refine ⟨ht', a2, hsb, dn, a5, hr, fun t ht hd hs => ?_⟩
    rcases down t ht hd hs with ⟨q1, q2⟩ | q
    · exact a7 t ht hd q2
    · subst q
      have e1 : basis &&& (tried ||| 2 ^ e) = basis := by
        apply Nat.eq_of_testBit_eq
        intro i
        rw [Nat.testBit_and]
        have := hsb i
        cases h5 : basis.testBit i <;> simp_all
      rw [e1, ← a5]; exact hr
theorem mt_gi_e {w : Nat → Int} {n : Nat} {r : Nat → Nat} {tried basis : Nat} (h : mt_gi w n r tried basis) (hc : mt_cd n tried = n) : mt_gr w n r basis := by
  obtain ⟨a1, a2, a3, a4, a5, a6, a7⟩ := h
  have hall : tried = 2 ^ n - 1 := mt_sb_eq a1 (mt_alllt n) (mt_sb_all a1) (by have := mt_cd_le n (2 ^ n - 1); omega)
  subst hall
  exact ⟨a2, a5, a6, fun t ht hd => a7 t ht hd (mt_sb_all ht)⟩
end
section
/-! The kinds: at most k; classes with caps; and a rank that counts, in the order of the elements, those that are not in the span of the ones before. -/
def mt_U (n k : Nat) : Nat → Nat := fun s => min k (mt_cd n s)
theorem mt_U_M (n k : Nat) : mt_M n (mt_U n k) := by
  refine ⟨by unfold mt_U; rw [mt_cd_0]; omega, fun s e hs he => ?_, fun s t e hs ht h he => ?_⟩
  · unfold mt_U
    cases hb : s.testBit e with
    | true => rw [mt_or_in hb]; omega
    | false => rw [mt_cd_add he hb]; omega
  · unfold mt_U
    have h1 := mt_cd_mono (n := n) h
    cases hb : t.testBit e with
    | true =>
      rw [mt_or_in hb]
      have := mt_cd_mono (n := n) (mt_sb_orl s (2 ^ e))
      omega
    | false =>
      have hbs : s.testBit e = false := by
        cases hq : s.testBit e with
        | false => rfl
        | true => rw [h e hq] at hb; cases hb
      rw [mt_cd_add he hb, mt_cd_add he hbs]
      omega
theorem mt_U_ind (n k s : Nat) : mt_U n k s = mt_cd n s ↔ mt_cd n s ≤ k := by unfold mt_U; omega
-- how many of a class
def mt_cc (cls : Nat → Nat) (c : Nat) : Nat → Nat → Nat
  | 0, _ => 0
  | k + 1, s => mt_cc cls c k s + (if s.testBit k = true ∧ cls k = c then 1 else 0)
def mt_C (n : Nat) (cls cap : Nat → Nat) : Nat → Nat := fun s => min (mt_cc cls 0 n s) (cap 0) + min (mt_cc cls 1 n s) (cap 1) + min (mt_cc cls 2 n s) (cap 2) + min (mt_cc cls 3 n s) (cap 3)
theorem mt_cc_eq {cls : Nat → Nat} {c n s t : Nat} (h : ∀ i, i < n → s.testBit i = t.testBit i) : mt_cc cls c n s = mt_cc cls c n t := by
  induction n with
  | zero => rfl
  | succ k ih => simp only [mt_cc]; rw [ih (fun i hi => h i (by omega)), h k (by omega)]
theorem mt_cc_0 (cls : Nat → Nat) (c n : Nat) : mt_cc cls c n 0 = 0 := by
  induction n with
  | zero => rfl
  | succ k ih => simp only [mt_cc]; rw [ih]; simp
theorem mt_cc_mono {cls : Nat → Nat} {c n s t : Nat} (h : mt_sb s t) : mt_cc cls c n s ≤ mt_cc cls c n t := by
  induction n with
  | zero => exact Nat.le_refl _
  | succ k ih =>
    simp only [mt_cc]
    have := h k
    cases h1 : s.testBit k <;> cases h2 : t.testBit k <;> simp_all <;> split <;> omega
theorem mt_cc_add {cls : Nat → Nat} {c n s e : Nat} (he : e < n) (h : s.testBit e = false) : mt_cc cls c n (s ||| 2 ^ e) = mt_cc cls c n s + (if cls e = c then 1 else 0) := by
  induction n with
  | zero => omega
  | succ k ih =>
    simp only [mt_cc, Nat.testBit_or, mt_two]
    by_cases hk : e = k
    · subst hk
      have h0 : mt_cc cls c e (s ||| 2 ^ e) = mt_cc cls c e s := mt_cc_eq (fun i hi => by rw [Nat.testBit_or, mt_two]; simp; omega)
      rw [h0, h]; simp
    · rw [ih (by omega)]
      simp only [hk, decide_false, Bool.or_false]
      omega
theorem mt_cc_sum {cls : Nat → Nat} {n s : Nat} (h : ∀ i, i < n → cls i < 4) : mt_cc cls 0 n s + mt_cc cls 1 n s + mt_cc cls 2 n s + mt_cc cls 3 n s = mt_cd n s := by
  induction n with
  | zero => rfl
  | succ k ih =>
    simp only [mt_cc, mt_cd]
    have h1 := ih (fun i hi => h i (by omega))
    have h2 := h k (by omega)
    cases hb : s.testBit k with
    | false => simp; omega
    | true =>
      have : cls k = 0 ∨ cls k = 1 ∨ cls k = 2 ∨ cls k = 3 := by omega
      rcases this with q | q | q | q <;> simp [q] <;> omega
theorem mt_C_M {n : Nat} {cls cap : Nat → Nat} (hc : ∀ i, i < n → cls i < 4) : mt_M n (mt_C n cls cap) := by
  refine ⟨by unfold mt_C; simp [mt_cc_0], fun s e hs he => ?_, fun s t e hs ht h he => ?_⟩
  · unfold mt_C
    cases hb : s.testBit e with
    | true => rw [mt_or_in hb]; omega
    | false =>
      rw [mt_cc_add he hb, mt_cc_add he hb, mt_cc_add he hb, mt_cc_add he hb]
      have h2 := hc e he
      have : cls e = 0 ∨ cls e = 1 ∨ cls e = 2 ∨ cls e = 3 := by omega
      rcases this with q | q | q | q <;> simp [q] <;> omega
  · unfold mt_C
    have m0 := mt_cc_mono (cls := cls) (c := 0) (n := n) h
    have m1 := mt_cc_mono (cls := cls) (c := 1) (n := n) h
    have m2 := mt_cc_mono (cls := cls) (c := 2) (n := n) h
    have m3 := mt_cc_mono (cls := cls) (c := 3) (n := n) h
    cases hb : t.testBit e with
    | true =>
      rw [mt_or_in hb]
      have o0 := mt_cc_mono (cls := cls) (c := 0) (n := n) (mt_sb_orl s (2 ^ e))
      have o1 := mt_cc_mono (cls := cls) (c := 1) (n := n) (mt_sb_orl s (2 ^ e))
      have o2 := mt_cc_mono (cls := cls) (c := 2) (n := n) (mt_sb_orl s (2 ^ e))
      have o3 := mt_cc_mono (cls := cls) (c := 3) (n := n) (mt_sb_orl s (2 ^ e))
      omega
    | false =>
      have hbs : s.testBit e = false := by
        cases hq : s.testBit e with
        | false => rfl
        | true => rw [h e hq] at hb; cases hb
      rw [mt_cc_add he hb, mt_cc_add he hb, mt_cc_add he hb, mt_cc_add he hb, mt_cc_add he hbs, mt_cc_add he hbs, mt_cc_add he hbs, mt_cc_add he hbs]
      have h2 := hc e he
      have : cls e = 0 ∨ cls e = 1 ∨ cls e = 2 ∨ cls e = 3 := by omega
      rcases this with q | q | q | q <;> simp [q] <;> omega
theorem mt_C_ind {n : Nat} {cls cap : Nat → Nat} (hc : ∀ i, i < n → cls i < 4) (s : Nat) : mt_C n cls cap s = mt_cd n s ↔ ∀ c, c < 4 → mt_cc cls c n s ≤ cap c := by
  have h1 := mt_cc_sum (s := s) hc
  unfold mt_C
  constructor
  · intro h c hcc
    have : c = 0 ∨ c = 1 ∨ c = 2 ∨ c = 3 := by omega
    rcases this with q | q | q | q <;> subst q <;> omega
  · intro h
    have h2 := h 0 (by omega)
    have h3 := h 1 (by omega)
    have h4 := h 2 (by omega)
    have h5 := h 3 (by omega)
    omega
-- spans
def mt_cl (n : Nat) (cl : Nat → Nat → Prop) : Prop :=
  (∀ s t e : Nat, s < 2 ^ n → t < 2 ^ n → e < n → mt_sb s t → cl s e → cl t e) ∧
  (∀ s e f : Nat, s < 2 ^ n → e < n → f < n → cl s e → cl (s ||| 2 ^ e) f → cl s f) ∧
  (∀ s e f : Nat, s < 2 ^ n → e < n → f < n → cl (s ||| 2 ^ e) f → ¬ cl s f → cl (s ||| 2 ^ f) e)
def mt_rk (n : Nat) (cl : Nat → Nat → Prop) (r : Nat → Nat) : Prop :=
  r 0 = 0 ∧ ∀ k s : Nat, k < n → s < 2 ^ k → (cl s k → r (s ||| 2 ^ k) = r s) ∧ (¬ cl s k → r (s ||| 2 ^ k) = r s + 1)
theorem mt_rk_any {n : Nat} {cl : Nat → Nat → Prop} {r : Nat → Nat} (hc : mt_cl n cl) (hr : mt_rk n cl r) (e : Nat) : ∀ j s : Nat, e + 1 + j ≤ n → s < 2 ^ (e + 1 + j) → s.testBit e = false → (cl s e → r (s ||| 2 ^ e) = r s) ∧ (¬ cl s e → r (s ||| 2 ^ e) = r s + 1) := by
  intro j
  induction j with
  | zero =>
    intro s hn hs hb
    have h1 : s < 2 ^ e := by
      apply mt_bnd
      intro i hi
      have := mt_lt hs hi
      have hne : i ≠ e := by intro q; subst q; rw [hb] at hi; cases hi
      omega
    exact hr.2 e s (by omega) h1
  | succ j ih =>
    intro s hn hs hb
    have hk : e + 1 + (j + 1) = (e + 1 + j) + 1 := by omega
    rw [hk] at hs hn
    generalize hkk : e + 1 + j = k at hs hn ih hk
    cases hsk : s.testBit k with
    | false =>
      have h1 : s < 2 ^ k := by
        apply mt_bnd
        intro i hi
        have := mt_lt hs hi
        have hne : i ≠ k := by intro q; subst q; rw [hsk] at hi; cases hi
        omega
      exact ih s (by omega) h1 hb
    | true =>
      have hT : s ^^^ 2 ^ k < 2 ^ k := by
        apply mt_bnd
        intro i hi
        have h1 := mt_lt (mt_xorlt hs (by omega)) hi
        have hne : i ≠ k := by intro q; subst q; rw [mt_xor_out hsk] at hi; cases hi
        omega
      have hTn : s ^^^ 2 ^ k < 2 ^ n := Nat.lt_of_lt_of_le hT (Nat.pow_le_pow_right (by omega) (by omega))
      have hTe : (s ^^^ 2 ^ k).testBit e = false := by
        rw [Nat.testBit_xor, hb, mt_two]; simp; omega
      have hse : s = (s ^^^ 2 ^ k) ||| 2 ^ k := (mt_xor_or hsk).symm
      generalize s ^^^ 2 ^ k = T at hT hTn hTe hse
      subst hse
      have hen : e < n := by omega
      have hkn : k < n := by omega
      have hTek : T ||| 2 ^ e < 2 ^ k := mt_orlt hT (by omega)
      obtain ⟨a1, a2⟩ := ih T (by omega) hT hTe
      obtain ⟨b1, b2⟩ := hr.2 k T hkn hT
      obtain ⟨d1, d2⟩ := hr.2 k (T ||| 2 ^ e) hkn hTek
      rw [mt_or_rot T (2 ^ k) (2 ^ e)]
      have mono := hc.1
      have tr := hc.2.1
      have ex := hc.2.2
      have hTkn : T ||| 2 ^ k < 2 ^ n := mt_orlt hTn hkn
      have hTen : T ||| 2 ^ e < 2 ^ n := mt_orlt hTn hen
      by_cases ce : cl T e
      · have c1 : cl (T ||| 2 ^ k) e := mono T _ e hTn hTkn hen (mt_sb_orl _ _) ce
        have e1 := a1 ce
        refine ⟨fun _ => ?_, fun q => absurd c1 q⟩
        by_cases ck : cl T k
        · rw [d1 (mono T _ k hTn hTen hkn (mt_sb_orl _ _) ck), b1 ck, e1]
        · rw [d2 (fun q => ck (tr T e k hTn hen hkn ce q)), b2 ck, e1]
      · have e1 := a2 ce
        by_cases ck : cl T k
        · have c1 : ¬ cl (T ||| 2 ^ k) e := fun q => ce (tr T k e hTn hkn hen ck q)
          refine ⟨fun q => absurd q c1, fun _ => ?_⟩
          rw [d1 (mono T _ k hTn hTen hkn (mt_sb_orl _ _) ck), b1 ck, e1]
        · by_cases c2 : cl (T ||| 2 ^ e) k
          · have c3 := ex T e k hTn hen hkn c2 ck
            refine ⟨fun _ => ?_, fun q => absurd c3 q⟩
            rw [d1 c2, b2 ck, e1]
          · have c3 : ¬ cl (T ||| 2 ^ k) e := fun q => c2 (ex T k e hTn hkn hen q ce)
            refine ⟨fun q => absurd q c3, fun _ => ?_⟩
            rw [d2 c2, b2 ck, e1]
theorem mt_rk_add {n : Nat} {cl : Nat → Nat → Prop} {r : Nat → Nat} (hc : mt_cl n cl) (hr : mt_rk n cl r) {s e : Nat} (hs : s < 2 ^ n) (he : e < n) (hb : s.testBit e = false) : (cl s e → r (s ||| 2 ^ e) = r s) ∧ (¬ cl s e → r (s ||| 2 ^ e) = r s + 1) :=
  mt_rk_any hc hr e (n - e - 1) s (by omega) (by rw [show e + 1 + (n - e - 1) = n by omega]; exact hs) hb
theorem mt_rk_M {n : Nat} {cl : Nat → Nat → Prop} {r : Nat → Nat} (hc : mt_cl n cl) (hr : mt_rk n cl r) : mt_M n r := by
  have inc : ∀ s e : Nat, s < 2 ^ n → e < n → r s ≤ r (s ||| 2 ^ e) ∧ r (s ||| 2 ^ e) ≤ r s + 1 := by
    intro s e hs he
    cases hb : s.testBit e with
    | true => rw [mt_or_in hb]; omega
    | false =>
      obtain ⟨h1, h2⟩ := mt_rk_add hc hr hs he hb
      by_cases q : cl s e
      · have := h1 q; omega
      · have := h2 q; omega
  refine ⟨hr.1, inc, fun s t e hs ht h he => ?_⟩
  cases hb : t.testBit e with
  | true => rw [mt_or_in hb]; have := (inc s e hs he).1; omega
  | false =>
    have hbs : s.testBit e = false := by
      cases hq : s.testBit e with
      | false => rfl
      | true => rw [h e hq] at hb; cases hb
    obtain ⟨h1, h2⟩ := mt_rk_add hc hr hs he hbs
    obtain ⟨h3, h4⟩ := mt_rk_add hc hr ht he hb
    by_cases q : cl t e
    · have := h3 q
      have := (inc s e hs he).1
      omega
    · have := h4 q
      have := h2 (fun z => q (hc.1 s t e hs ht he h z))
      omega
end
