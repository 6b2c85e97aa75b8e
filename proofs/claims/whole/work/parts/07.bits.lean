/-! Int32's bits against the numbers' own. -/
theorem bs_and (a b : Nat) : nI a &&& nI b = nI (a &&& b) := by
  apply Int32.toBitVec_inj.1
  show BitVec.ofNat 32 a &&& BitVec.ofNat 32 b = BitVec.ofNat 32 (a &&& b)
  apply BitVec.eq_of_getLsbD_eq
  intro i hi
  simp [hi]
theorem bs_or (a b : Nat) : nI a ||| nI b = nI (a ||| b) := by
  apply Int32.toBitVec_inj.1
  show BitVec.ofNat 32 a ||| BitVec.ofNat 32 b = BitVec.ofNat 32 (a ||| b)
  apply BitVec.eq_of_getLsbD_eq
  intro i hi
  simp [hi]
theorem bs_xor (a b : Nat) : nI a ^^^ nI b = nI (a ^^^ b) := by
  apply Int32.toBitVec_inj.1
  show BitVec.ofNat 32 a ^^^ BitVec.ofNat 32 b = BitVec.ofNat 32 (a ^^^ b)
  apply BitVec.eq_of_getLsbD_eq
  intro i hi
  simp [hi]
theorem bs_shl : ∀ e, e < 31 → (1 : Int32) <<< (nI e &&& 31) = nI (2 ^ e) := by decide +kernel
theorem bs_sh31 : ∀ e, e < 32 → ((nI e &&& 31).toBitVec.smod 32).toNat = e := by decide +kernel
theorem bs_shr {s e : Nat} (hs : s < 2 ^ 31) (he : e < 32) : nI s >>> (nI e &&& 31) = nI (s / 2 ^ e) := pk_shrN hs _ e (bs_sh31 e he)
theorem bs_bit {s e : Nat} (hs : s < 2 ^ 31) (he : e < 32) : (nI s >>> (nI e &&& 31)) &&& 1 = nI (if s.testBit e = true then 1 else 0) := by
  rw [bs_shr hs he]
  show nI (s / 2 ^ e) &&& nI 1 = _
  rw [bs_and, Nat.and_one_is_mod, Nat.testBit_eq_decide_div_mod_eq]
  congr 1
  generalize s / 2 ^ e = z
  by_cases h : z % 2 = 1
  · simp [h]
  · simp [h]; omega
theorem bs_bit0 {s e : Nat} (hs : s < 2 ^ 31) (he : e < 32) : (nI s >>> (nI e &&& 31)) &&& 1 = 0 ↔ s.testBit e = false := by
  rw [bs_bit hs he]
  cases s.testBit e
  · simp; exact nI_0
  · simp; exact nI_ne0 (by omega) (by omega)
theorem bs_bit1 {s e : Nat} (hs : s < 2 ^ 31) (he : e < 32) : (nI s >>> (nI e &&& 31)) &&& 1 = 1 ↔ s.testBit e = true := by
  rw [bs_bit hs he]
  cases s.testBit e
  · simp
    intro h
    have := (nI_eq (a := 0) (b := 1) (by omega) (by omega)).mp h
    omega
  · simp; rfl
theorem bs_not {t n : Nat} (x : Nat) (ht : t < 2 ^ n) (hn : n ≤ 31) : nI t &&& (nI x ^^^ (-1)) = nI (t &&& mt_co n (x % 2 ^ n)) := by
  have e : (-1 : Int32) = nI (2 ^ 32 - 1) := by decide
  rw [e, bs_xor, bs_and]
  apply Int32.toBitVec_inj.1
  show BitVec.ofNat 32 _ = BitVec.ofNat 32 _
  apply BitVec.eq_of_getLsbD_eq
  intro i hi
  simp only [BitVec.getLsbD_ofNat, hi, decide_true, Bool.true_and]
  rw [Nat.testBit_and, Nat.testBit_and, Nat.testBit_xor, Nat.testBit_two_pow_sub_one, mt_cot, Nat.testBit_mod_two_pow]
  by_cases h1 : i < n
  · simp [h1, hi]
  · rw [mt_big ht (by omega)]; simp
theorem bs_rm {t n e : Nat} (ht : t < 2 ^ n) (hn : n ≤ 31) (he : e < n) : nI t &&& (nI (2 ^ e) ^^^ (-1)) = nI (if t.testBit e = true then t ^^^ 2 ^ e else t) := by
  rw [bs_not (2 ^ e) ht hn, Nat.mod_eq_of_lt (mt_pow he)]
  congr 1
  apply Nat.eq_of_testBit_eq
  intro i
  rw [Nat.testBit_and, mt_cot, mt_two]
  by_cases hi : e = i
  · subst hi
    cases hb : t.testBit e with
    | false => simp [hb]
    | true => simp [hb, he, mt_xor_out]
  · have h2 : (if t.testBit e = true then t ^^^ 2 ^ e else t).testBit i = t.testBit i := by
      split
      · rw [Nat.testBit_xor, mt_two]; simp [hi]
      · rfl
    rw [h2]
    by_cases h1 : i < n
    · simp [hi, h1]
    · rw [mt_big ht (by omega)]; simp
theorem bs_co {s n : Nat} (hs : s < 2 ^ n) (hn : n ≤ 31) : nI (2 ^ n - 1) &&& (nI s ^^^ (-1)) = nI (mt_co n s) := by
  rw [bs_not s (mt_alllt n) hn, Nat.mod_eq_of_lt hs]
  congr 1
  refine mt_ex (Nat.and_lt_two_pow _ (mt_colt hs)) (mt_colt hs) fun i hi => ?_
  rw [Nat.testBit_and, Nat.testBit_two_pow_sub_one]; simp [hi]
theorem bs_orand : ∀ (N a b : Nat), a < 2 ^ N → (a ||| b) + (a &&& b) = a + b := by
  intro N
  induction N with
  | zero =>
    intro a b ha
    have h0 : a = 0 := by omega
    subst h0
    rw [Nat.zero_or, Nat.zero_and]; omega
  | succ N ih =>
    intro a b ha
    have h1 := ih (a / 2) (b / 2) (by rw [Nat.pow_succ] at ha; omega)
    have e1 : (a ||| b) / 2 = a / 2 ||| b / 2 := Nat.or_div_two
    have e2 : (a &&& b) / 2 = a / 2 &&& b / 2 := Nat.and_div_two
    have e3 : (a ||| b) % 2 = 1 ↔ a % 2 = 1 ∨ b % 2 = 1 := Nat.or_mod_two_eq_one
    have e4 : (a &&& b) % 2 = 1 ↔ a % 2 = 1 ∧ b % 2 = 1 := Nat.and_mod_two_eq_one
    rw [← e1, ← e2] at h1
    omega
theorem bs_disj {a b : Nat} (h : a &&& b = 0) : a ||| b = a + b := by
  have := bs_orand a a b Nat.lt_two_pow_self
  omega
theorem bs_sub {s e : Nat} (hb : s.testBit e = true) : s - 2 ^ e = s ^^^ 2 ^ e := by
  have h1 : (s ^^^ 2 ^ e) + 2 ^ e = s := by
    have h2 : (s ^^^ 2 ^ e) &&& 2 ^ e = 0 := by
      apply Nat.eq_of_testBit_eq
      intro i
      rw [Nat.testBit_and, mt_two]
      by_cases hi : e = i
      · subst hi; simp [mt_xor_out hb]
      · simp [hi]
    have h3 := mt_xor_or hb
    rw [bs_disj h2] at h3
    exact h3
  omega
theorem bs_le {s e : Nat} (hb : s.testBit e = true) : 2 ^ e ≤ s := Nat.ge_two_pow_of_testBit hb
theorem bs_andp {s e : Nat} : s &&& 2 ^ e = if s.testBit e = true then 2 ^ e else 0 := by
  apply Nat.eq_of_testBit_eq
  intro i
  rw [Nat.testBit_and, mt_two]
  by_cases hi : e = i
  · subst hi
    cases hb : s.testBit e <;> simp [hb, mt_two]
  · split
    · rw [mt_two]; simp [hi]
    · simp [hi]
theorem bs_cosub {s n : Nat} (hs : s < 2 ^ n) : 2 ^ n - 1 - s = mt_co n s := by
  have h1 := mt_s_co hs
  rw [bs_disj (mt_s_coi hs)] at h1
  omega
/-- the subsets of a set, from above -/
theorem bs_next : ∀ (N s p t : Nat), s < 2 ^ N → mt_sb p s → mt_sb t s → t < p → t ≤ (p - 1) &&& s := by
  intro N
  induction N with
  | zero =>
    intro s p t hs hp ht h
    have hs0 : s = 0 := by omega
    subst hs0
    have : p = 0 := by
      apply Nat.eq_of_testBit_eq
      intro i
      have := hp i
      cases hq : p.testBit i <;> simp_all
    omega
  | succ N ih =>
    intro s p t hs hp ht h
    have half : ∀ {x y : Nat}, mt_sb x y → mt_sb (x / 2) (y / 2) := fun {x y} hxy i hi => by
      rw [← Nat.testBit_succ] at hi ⊢; exact hxy (i + 1) hi
    have hbit : t % 2 ≤ s % 2 := by
      have := ht 0
      simp at this
      omega
    have hand : ∀ x : Nat, x &&& s = 2 * ((x / 2) &&& (s / 2)) + (x % 2) * (s % 2) := by
      intro x
      have e1 := Nat.div_add_mod (x &&& s) 2
      have e2 : (x &&& s) / 2 = (x / 2) &&& (s / 2) := Nat.and_div_two
      have e3 : (x &&& s) % 2 = (x % 2) * (s % 2) := by
        have h0 : (x &&& s) % 2 = 1 ↔ x % 2 = 1 ∧ s % 2 = 1 := Nat.and_mod_two_eq_one
        have a1 : x % 2 = 0 ∨ x % 2 = 1 := by omega
        have a2 : s % 2 = 0 ∨ s % 2 = 1 := by omega
        rcases a1 with q | q <;> rcases a2 with q2 | q2 <;> rw [q, q2] at h0 ⊢ <;> omega
      rw [e2, e3] at e1
      omega
    by_cases hodd : p % 2 = 1
    · have hps : (p - 1) &&& s = p - 1 := by
        apply Nat.eq_of_testBit_eq
        intro i
        rw [Nat.testBit_and]
        cases i with
        | zero => have : (p - 1) % 2 = 0 := by omega
                  simp [this]
        | succ i =>
          have e : (p - 1).testBit (i + 1) = p.testBit (i + 1) := by
            rw [Nat.testBit_succ, Nat.testBit_succ]
            have : (p - 1) / 2 = p / 2 := by omega
            rw [this]
          rw [e]
          have := hp (i + 1)
          cases hq : p.testBit (i + 1) <;> simp_all
      omega
    · rw [hand]
      have h1 := ih (s / 2) (p / 2) (t / 2) (by rw [Nat.pow_succ] at hs; omega) (half hp) (half ht) (by omega)
      have e1 : (p - 1) / 2 = p / 2 - 1 := by omega
      have e2 : (p - 1) % 2 = 1 := by omega
      rw [e1, e2]
      omega
theorem bs_cd10 {n s : Nat} (hn : n ≤ 10) (hs : s < 2 ^ n) : mt_cd 10 s = mt_cd n s := by
  have key : ∀ j, n + j ≤ 10 → mt_cd (n + j) s = mt_cd n s := by
    intro j
    induction j with
    | zero => intro _; rfl
    | succ j ih =>
      intro hj
      have h1 := ih (by omega)
      have h2 := mt_cd_top (n := n + j) (s := s) (Nat.lt_of_lt_of_le hs (Nat.pow_le_pow_right (by omega) (by omega)))
      show mt_cd (n + j + 1) s = _
      rw [h2, h1]
  have := key (10 - n) (by omega)
  rw [show n + (10 - n) = 10 by omega] at this
  exact this
theorem bs_1024 {n s : Nat} (hn : n ≤ 10) (hs : s < 2 ^ n) : s < 1024 := Nat.lt_of_lt_of_le hs (by
  have := Nat.pow_le_pow_right (show 0 < 2 by omega) hn
  exact this)
