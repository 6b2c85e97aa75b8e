/-! Two ranks at once: the largest common independent set, the largest union; the least minimum of a submodular number; the table of ranks. -/
theorem mt_up {n s : Nat} (h : s < 2 ^ n) : s < 2 ^ (n + 1) := Nat.lt_of_lt_of_le h (Nat.pow_le_pow_right (by omega) (by omega))
theorem mt_M_del {n : Nat} {r : Nat → Nat} (hM : mt_M (n + 1) r) : mt_M n r :=
  ⟨hM.1, fun s e hs he => hM.2.1 s e (mt_up hs) (by omega), fun s t e hs ht h he => hM.2.2 s t e (mt_up hs) (mt_up ht) h (by omega)⟩
theorem mt_or_rot (a b c : Nat) : (a ||| b) ||| c = (a ||| c) ||| b := by
  rw [Nat.or_assoc, Nat.or_comm b c, ← Nat.or_assoc]
theorem mt_sb_or (s t : Nat) : mt_sb t (s ||| t) := fun i hi => by rw [Nat.testBit_or, hi]; simp
theorem mt_sb_orl (s t : Nat) : mt_sb s (s ||| t) := fun i hi => by rw [Nat.testBit_or, hi]; simp
theorem mt_M_con {n : Nat} {r : Nat → Nat} (hM : mt_M (n + 1) r) (h1 : r (2 ^ n) = 1) : mt_M n (fun s => r (s ||| 2 ^ n) - 1) := by
  have ge : ∀ s, s < 2 ^ n → 1 ≤ r (s ||| 2 ^ n) := fun s hs => by
    rw [← h1]
    exact mt_mono hM (mt_pow (by omega)) (mt_orlt (mt_up hs) (by omega)) (mt_sb_or s (2 ^ n))
  refine ⟨by show r (0 ||| 2 ^ n) - 1 = 0; rw [Nat.zero_or, h1], fun s e hs he => ?_, fun s t e hs ht h he => ?_⟩
  · show r (s ||| 2 ^ n) - 1 ≤ r (s ||| 2 ^ e ||| 2 ^ n) - 1 ∧ r (s ||| 2 ^ e ||| 2 ^ n) - 1 ≤ r (s ||| 2 ^ n) - 1 + 1
    have h2 := hM.2.1 (s ||| 2 ^ n) e (mt_orlt (mt_up hs) (by omega)) (by omega)
    have h3 := ge s hs
    rw [mt_or_rot s (2 ^ e) (2 ^ n)]
    omega
  · show r (t ||| 2 ^ e ||| 2 ^ n) - 1 + (r (s ||| 2 ^ n) - 1) ≤ r (s ||| 2 ^ e ||| 2 ^ n) - 1 + (r (t ||| 2 ^ n) - 1)
    have h2 := hM.2.2 (s ||| 2 ^ n) (t ||| 2 ^ n) e (mt_orlt (mt_up hs) (by omega)) (mt_orlt (mt_up ht) (by omega)) (fun i hi => by
      rw [Nat.testBit_or] at hi ⊢
      have := h i
      cases h5 : s.testBit i <;> simp_all) (by omega)
    have h3 := ge s hs
    have h4 := ge t ht
    have h5 := ge (s ||| 2 ^ e) (mt_orlt hs he)
    have h6 := ge (t ||| 2 ^ e) (mt_orlt ht he)
    rw [mt_or_rot s (2 ^ e) (2 ^ n)] at h5 ⊢
    rw [mt_or_rot t (2 ^ e) (2 ^ n)] at h6 ⊢
    omega
theorem mt_co_c1 {n u : Nat} (hu : u < 2 ^ n) : mt_co (n + 1) (u ||| 2 ^ n) = mt_co n u := by
  apply Nat.eq_of_testBit_eq
  intro i
  rw [mt_cot, mt_cot, Nat.testBit_or, mt_two]
  by_cases h1 : i < n
  · simp [h1, show i < n + 1 by omega, show ¬ n = i by omega]
  · by_cases h2 : n = i
    · subst h2; simp [mt_big hu (Nat.le_refl n)]
    · simp [h1, h2, show ¬ i < n + 1 by omega]
theorem mt_co_c2 {n u : Nat} (hu : u < 2 ^ n) : mt_co (n + 1) u = mt_co n u ||| 2 ^ n := by
  apply Nat.eq_of_testBit_eq
  intro i
  rw [Nat.testBit_or, mt_cot, mt_cot, mt_two]
  by_cases h1 : i < n
  · simp [h1, show i < n + 1 by omega, show ¬ n = i by omega]
  · by_cases h2 : n = i
    · subst h2; simp [mt_big hu (Nat.le_refl n)]
    · simp [h1, h2, show ¬ i < n + 1 by omega]
theorem mt_co_and {n a b : Nat} : mt_co n (a &&& b) = mt_co n a ||| mt_co n b ∨ True := Or.inr trivial
theorem mt_co_i {n a b : Nat} (ha : a < 2 ^ n) (hb : b < 2 ^ n) : mt_co n (a &&& b) = mt_co n a ||| mt_co n b := by
  refine mt_ex (mt_colt (Nat.and_lt_two_pow a hb)) (Nat.or_lt_two_pow (mt_colt ha) (mt_colt hb)) fun i hi => ?_
  rw [Nat.testBit_or, mt_cot, mt_cot, mt_cot, Nat.testBit_and]
  cases a.testBit i <;> cases b.testBit i <;> simp [hi]
theorem mt_co_u {n a b : Nat} (ha : a < 2 ^ n) (hb : b < 2 ^ n) : mt_co n (a ||| b) = mt_co n a &&& mt_co n b := by
  refine mt_ex (mt_colt (Nat.or_lt_two_pow ha hb)) (Nat.and_lt_two_pow _ (mt_colt hb)) fun i hi => ?_
  rw [Nat.testBit_and, mt_cot, mt_cot, mt_cot, Nat.testBit_or]
  cases a.testBit i <;> cases b.testBit i <;> simp [hi]
theorem mt_and_top {n a b : Nat} (ha : a < 2 ^ n) : a &&& (b ||| 2 ^ n) = a &&& b := by
  apply Nat.eq_of_testBit_eq
  intro i
  rw [Nat.testBit_and, Nat.testBit_and, Nat.testBit_or, mt_two]
  by_cases h2 : n = i
  · subst h2; simp [mt_big ha (Nat.le_refl n)]
  · simp [h2]
/-- the largest common independent set is as large as no sum of ranks forbids -/
theorem mt_inter : ∀ (n : Nat) (f g : Nat → Nat) (k : Nat), mt_M n f → mt_M n g → (∀ u, u < 2 ^ n → k ≤ f u + g (mt_co n u)) → ∃ i, i < 2 ^ n ∧ mt_cd n i = k ∧ f i = k ∧ g i = k := by
  intro n
  induction n with
  | zero =>
    intro f g k hf hg h
    have h0 := h 0 (by decide)
    have e : mt_co 0 0 = 0 := by decide
    rw [e, hf.1, hg.1] at h0
    have hk : k = 0 := by omega
    subst hk
    exact ⟨0, by decide, rfl, hf.1, hg.1⟩
  | succ n ih =>
    intro f g k hf hg h
    have hp : 2 ^ n < 2 ^ (n + 1) := mt_pow (by omega)
    by_cases hA : ∀ u, u < 2 ^ n → k ≤ f u + g (mt_co n u)
    · obtain ⟨i, h1, h2, h3, h4⟩ := ih f g k (mt_M_del hf) (mt_M_del hg) hA
      exact ⟨i, mt_up h1, by rw [mt_cd_top h1]; exact h2, h3, h4⟩
    · obtain ⟨a, ha⟩ := Classical.not_forall.mp hA
      have ha1 : a < 2 ^ n := Classical.byContradiction (fun q => ha (fun z => absurd z q))
      have ha2 : f a + g (mt_co n a) < k := Nat.lt_of_not_le (fun q => ha (fun _ => q))
      have ca := mt_colt ha1
      have hf1 : f (2 ^ n) = 1 := by
        have g1 := hf.2.1 0 n (Nat.two_pow_pos _) (by omega)
        rw [Nat.zero_or, hf.1] at g1
        refine Classical.byContradiction fun q => ?_
        have z : f (2 ^ n) = 0 := by omega
        have g2 := hf.2.2 0 a n (Nat.two_pow_pos _) (mt_up ha1) (fun i hi => by simp at hi) (by omega)
        rw [Nat.zero_or, hf.1, z] at g2
        have g3 := h (a ||| 2 ^ n) (mt_orlt (mt_up ha1) (by omega))
        rw [mt_co_c1 ha1] at g3
        omega
      have hg1 : g (2 ^ n) = 1 := by
        have g1 := hg.2.1 0 n (Nat.two_pow_pos _) (by omega)
        rw [Nat.zero_or, hg.1] at g1
        refine Classical.byContradiction fun q => ?_
        have z : g (2 ^ n) = 0 := by omega
        have g2 := hg.2.2 0 (mt_co n a) n (Nat.two_pow_pos _) (mt_up ca) (fun i hi => by simp at hi) (by omega)
        rw [Nat.zero_or, hg.1, z] at g2
        have g3 := h a (mt_up ha1)
        rw [mt_co_c2 ha1] at g3
        omega
      have f1 : ∀ u, u < 2 ^ n → 1 ≤ f (u ||| 2 ^ n) := fun u hu => by
        rw [← hf1]; exact mt_mono hf hp (mt_orlt (mt_up hu) (by omega)) (mt_sb_or u (2 ^ n))
      have g1 : ∀ u, u < 2 ^ n → 1 ≤ g (u ||| 2 ^ n) := fun u hu => by
        rw [← hg1]; exact mt_mono hg hp (mt_orlt (mt_up hu) (by omega)) (mt_sb_or u (2 ^ n))
      by_cases hB : ∀ u, u < 2 ^ n → k - 1 ≤ (f (u ||| 2 ^ n) - 1) + (g (mt_co n u ||| 2 ^ n) - 1)
      · obtain ⟨i, h1, h2, h3, h4⟩ := ih _ _ (k - 1) (mt_M_con hf hf1) (mt_M_con hg hg1) hB
        have h3 : f (i ||| 2 ^ n) - 1 = k - 1 := h3
        have h4 : g (i ||| 2 ^ n) - 1 = k - 1 := h4
        have m1 := f1 i h1
        have m2 := g1 i h1
        refine ⟨i ||| 2 ^ n, mt_orlt (mt_up h1) (by omega), ?_, by omega, by omega⟩
        rw [mt_cd_add (by omega) (mt_big h1 (Nat.le_refl n)), mt_cd_top h1]
        omega
      · obtain ⟨b, hb⟩ := Classical.not_forall.mp hB
        have hb1 : b < 2 ^ n := Classical.byContradiction (fun q => hb (fun z => absurd z q))
        have hb2 : (f (b ||| 2 ^ n) - 1) + (g (mt_co n b ||| 2 ^ n) - 1) < k - 1 := Nat.lt_of_not_le (fun q => hb (fun _ => q))
        have cb := mt_colt hb1
        have m1 := f1 b hb1
        have m2 := g1 _ cb
        have s1 := mt_submod hf (mt_up ha1) (mt_orlt (mt_up hb1) (show n < n + 1 by omega))
        have s2 := mt_submod hg (mt_up ca) (mt_orlt (mt_up cb) (show n < n + 1 by omega))
        rw [mt_and_top ha1, ← Nat.or_assoc] at s1
        rw [mt_and_top ca, ← Nat.or_assoc] at s2
        have hab : a &&& b < 2 ^ n := Nat.and_lt_two_pow a hb1
        have hob : a ||| b < 2 ^ n := Nat.or_lt_two_pow ha1 hb1
        have u1 := h (a &&& b) (mt_up hab)
        have u2 := h ((a ||| b) ||| 2 ^ n) (mt_orlt (mt_up hob) (by omega))
        rw [mt_co_c2 hab, mt_co_i ha1 hb1] at u1
        rw [mt_co_c1 hob, mt_co_u ha1 hb1] at u2
        omega
def mt_du (n : Nat) (g : Nat → Nat) : Nat → Nat := fun s => mt_cd n s + g (mt_co n s) - g (2 ^ n - 1)
theorem mt_alllt (n : Nat) : 2 ^ n - 1 < 2 ^ n := by have := Nat.two_pow_pos n; omega
theorem mt_sb_all {n s : Nat} (h : s < 2 ^ n) : mt_sb s (2 ^ n - 1) := fun i hi => by
  rw [Nat.testBit_two_pow_sub_one]; simp; exact mt_lt h hi
theorem mt_s_co {n s : Nat} (h : s < 2 ^ n) : s ||| mt_co n s = 2 ^ n - 1 := by
  refine mt_ex (Nat.or_lt_two_pow h (mt_colt h)) (mt_alllt n) fun i hi => ?_
  rw [Nat.testBit_or, mt_cot, Nat.testBit_two_pow_sub_one]
  cases s.testBit i <;> simp [hi]
theorem mt_s_coi {n s : Nat} (h : s < 2 ^ n) : s &&& mt_co n s = 0 := by
  refine mt_ex (Nat.and_lt_two_pow _ (mt_colt h)) (Nat.two_pow_pos n) fun i hi => ?_
  rw [Nat.testBit_and, mt_cot]
  cases s.testBit i <;> simp [hi]
theorem mt_du_ge {n : Nat} {g : Nat → Nat} (hM : mt_M n g) {s : Nat} (hs : s < 2 ^ n) : g (2 ^ n - 1) ≤ mt_cd n s + g (mt_co n s) := by
  have h1 := mt_submod hM hs (mt_colt hs)
  have h2 := mt_le_cd hM hs
  rw [mt_s_co hs] at h1
  omega
theorem mt_co_add {n s e : Nat} (hs : s < 2 ^ n) (he : e < n) (h : s.testBit e = false) : mt_co n (s ||| 2 ^ e) ||| 2 ^ e = mt_co n s := by
  refine mt_ex (mt_orlt (mt_colt (mt_orlt hs he)) he) (mt_colt hs) fun i hi => ?_
  rw [Nat.testBit_or, mt_cot, mt_cot, Nat.testBit_or, mt_two]
  by_cases h2 : e = i
  · subst h2; simp [h, he]
  · simp [h2]
theorem mt_M_du {n : Nat} {g : Nat → Nat} (hM : mt_M n g) : mt_M n (mt_du n g) := by
  have inc : ∀ s e, s < 2 ^ n → e < n → mt_du n g s ≤ mt_du n g (s ||| 2 ^ e) ∧ mt_du n g (s ||| 2 ^ e) ≤ mt_du n g s + 1 := by
    intro s e hs he
    cases hb : s.testBit e with
    | true => rw [mt_or_in hb]; omega
    | false =>
      have h1 := mt_du_ge hM hs
      have h2 := mt_du_ge hM (mt_orlt hs he)
      have h3 := mt_cd_add he hb
      have h4 := hM.2.1 (mt_co n (s ||| 2 ^ e)) e (mt_colt (mt_orlt hs he)) he
      rw [mt_co_add hs he hb] at h4
      unfold mt_du
      omega
  refine ⟨?_, inc, fun s t e hs ht h he => ?_⟩
  · unfold mt_du
    have h0 : mt_co n 0 = 2 ^ n - 1 := by unfold mt_co; rw [Nat.xor_zero]
    rw [mt_cd_0, h0]; omega
  · cases hb : t.testBit e with
    | true => rw [mt_or_in hb]; have := (inc s e hs he).1; omega
    | false =>
      have hbs : s.testBit e = false := by
        cases hq : s.testBit e with
        | false => rfl
        | true => rw [h e hq] at hb; cases hb
      have h1 := mt_du_ge hM hs
      have h2 := mt_du_ge hM (mt_orlt hs he)
      have h3 := mt_cd_add he hbs
      have h1' := mt_du_ge hM ht
      have h2' := mt_du_ge hM (mt_orlt ht he)
      have h3' := mt_cd_add he hb
      have h4 := hM.2.2 (mt_co n (t ||| 2 ^ e)) (mt_co n (s ||| 2 ^ e)) e (mt_colt (mt_orlt ht he)) (mt_colt (mt_orlt hs he)) (fun i hi => by
        rw [mt_cot, Nat.testBit_or] at hi ⊢
        have hq := h i
        have hr : t.testBit i = true → i < n := mt_lt ht
        cases h5 : s.testBit i with
        | true => rw [hq h5] at hi; exact hi
        | false =>
          cases h6 : t.testBit i with
          | false => rw [h6] at hi; exact hi
          | true =>
            have hin := hr h6
            rw [h6] at hi
            simp [hin] at hi) he
      rw [mt_co_add hs he hbs, mt_co_add ht he hb] at h4
      unfold mt_du
      omega
/-- the largest union of two independent sets -/
theorem mt_union {n : Nat} {f g : Nat → Nat} (hf : mt_M n f) (hg : mt_M n g) {m : Nat} (hge : g (2 ^ n - 1) ≤ m) (hm : ∀ a, a < 2 ^ n → m ≤ f a + g a + (n - mt_cd n a)) : ∃ i b, i < 2 ^ n ∧ b < 2 ^ n ∧ i &&& b = 0 ∧ f i = mt_cd n i ∧ g b = mt_cd n b ∧ mt_cd n (i ||| b) = m := by
  obtain ⟨i, h1, h2, h3, h4⟩ := mt_inter n f (mt_du n g) (m - g (2 ^ n - 1)) hf (mt_M_du hg) (fun u hu => by
    unfold mt_du
    rw [mt_co2]
    have := hm u hu
    have := mt_cd_co n u n (Nat.le_refl n)
    omega)
  have h5 := mt_du_ge hg h1
  have h6 : mt_cd n i + g (mt_co n i) - g (2 ^ n - 1) = m - g (2 ^ n - 1) := h4
  have h7 := mt_mono hg (mt_colt h1) (mt_alllt n) (mt_sb_all (mt_colt h1))
  obtain ⟨b, b1, b2, b3, b4⟩ := mt_basis hg (mt_colt h1)
  have hib : i &&& b = 0 := by
    refine mt_ex (Nat.and_lt_two_pow _ b1) (Nat.two_pow_pos n) fun j hj => ?_
    rw [Nat.testBit_and]
    have := b2 j
    rw [mt_cot] at this
    cases h5 : i.testBit j <;> cases h6 : b.testBit j <;> simp_all
  have h8 := mt_cd_orand n i b
  rw [hib, mt_cd_0] at h8
  exact ⟨i, b, h1, b1, hib, by omega, b3, by omega⟩
theorem mt_union_le {n : Nat} {f g : Nat → Nat} (hf : mt_M n f) (hg : mt_M n g) {i b a : Nat} (hi : i < 2 ^ n) (hb : b < 2 ^ n) (ha : a < 2 ^ n) (h1 : f i = mt_cd n i) (h2 : g b = mt_cd n b) : mt_cd n (i ||| b) ≤ f a + g a + (n - mt_cd n a) := by
  have e1 := mt_cd_orand n (i ||| b) a
  have e2 := mt_cd_le n ((i ||| b) ||| a)
  have e3 : (i ||| b) &&& a = (i &&& a) ||| (b &&& a) := by
    apply Nat.eq_of_testBit_eq
    intro j
    simp only [Nat.testBit_and, Nat.testBit_or]
    cases i.testBit j <;> cases b.testBit j <;> cases a.testBit j <;> rfl
  have e4 := mt_cd_orand n (i &&& a) (b &&& a)
  have sub : ∀ x : Nat, mt_sb (x &&& a) x ∧ mt_sb (x &&& a) a := fun x => ⟨fun j hj => by rw [Nat.testBit_and] at hj; simp at hj; exact hj.1, fun j hj => by rw [Nat.testBit_and] at hj; simp at hj; exact hj.2⟩
  have g1 := mt_ind_sub hf (Nat.and_lt_two_pow i ha) hi (sub i).1 h1
  have g2 := mt_ind_sub hg (Nat.and_lt_two_pow b ha) hb (sub b).1 h2
  have g3 := mt_mono hf (Nat.and_lt_two_pow i ha) ha (sub i).2
  have g4 := mt_mono hg (Nat.and_lt_two_pow b ha) ha (sub b).2
  have g5 := mt_cd_le n a
  rw [e3] at e1
  omega
/-- of the sets with the least submodular number the least one is in all others -/
theorem mt_least {n : Nat} {h : Nat → Nat} (hs : ∀ a b, a < 2 ^ n → b < 2 ^ n → h (a ||| b) + h (a &&& b) ≤ h a + h b) {x : Nat} (hx : x < 2 ^ n) (hmin : ∀ s, s < 2 ^ n → h x ≤ h s) (hfst : ∀ s, s < x → h x < h s) {s : Nat} (hs2 : s < 2 ^ n) (he : h s = h x) : x &&& s = x := by
  have h1 := hs x s hx hs2
  have h2 := hmin (x ||| s) (Nat.or_lt_two_pow hx hs2)
  refine Classical.byContradiction fun q => ?_
  have h3 : x &&& s ≤ x := Nat.and_le_left
  have h4 := hfst (x &&& s) (by omega)
  omega
theorem mt_sub_w {n : Nat} {f g : Nat → Nat} (hf : mt_M n f) (hg : mt_M n g) : ∀ a b, a < 2 ^ n → b < 2 ^ n → (f (a ||| b) + g (mt_co n (a ||| b))) + (f (a &&& b) + g (mt_co n (a &&& b))) ≤ (f a + g (mt_co n a)) + (f b + g (mt_co n b)) := by
  intro a b ha hb
  have h1 := mt_submod hf ha hb
  have h2 := mt_submod hg (mt_colt ha) (mt_colt hb)
  rw [mt_co_i ha hb, mt_co_u ha hb]
  omega
theorem mt_sub_j {n : Nat} {f g : Nat → Nat} (hf : mt_M n f) (hg : mt_M n g) : ∀ a b, a < 2 ^ n → b < 2 ^ n → (f (a ||| b) + g (a ||| b) + (n - mt_cd n (a ||| b))) + (f (a &&& b) + g (a &&& b) + (n - mt_cd n (a &&& b))) ≤ (f a + g a + (n - mt_cd n a)) + (f b + g b + (n - mt_cd n b)) := by
  intro a b ha hb
  have h1 := mt_submod hf ha hb
  have h2 := mt_submod hg ha hb
  have h3 := mt_cd_orand n a b
  have h4 := mt_cd_le n a
  have h5 := mt_cd_le n b
  have h6 := mt_cd_le n (a ||| b)
  have h7 := mt_cd_le n (a &&& b)
  omega
/-- one row of the table of ranks -/
theorem mt_tab {n : Nat} {r : Nat → Nat} (hM : mt_M n r) {s : Nat} (hs : s < 2 ^ n) {best : Nat} (h1 : ∀ e, e < n → s.testBit e = true → r (s ^^^ 2 ^ e) ≤ best) (h2 : best = 0 ∨ ∃ e, e < n ∧ s.testBit e = true ∧ r (s ^^^ 2 ^ e) = best) : (best + 1 = mt_cd n s ∧ r s = mt_cd n s → r s = best + 1) ∧ (¬ (best + 1 = mt_cd n s ∧ r s = mt_cd n s) → r s = best) := by
  refine ⟨fun h => by omega, fun h => ?_⟩
  have h3 := mt_le_cd hM hs
  have hle : best ≤ r s := by
    rcases h2 with h2 | ⟨e, g1, g2, g3⟩
    · omega
    · rw [← g3]; exact mt_mono hM (mt_xorlt hs g1) hs (mt_xor_sb g2)
  by_cases hr : r s = mt_cd n s
  · by_cases h0 : s = 0
    · subst h0; rw [hM.1] at hle ⊢; omega
    · obtain ⟨e, he⟩ := Nat.exists_testBit_of_ne_zero h0
      have he : s.testBit e = true := he
      have hen := mt_lt hs he
      have g1 := h1 e hen he
      have g2 := hM.2.1 (s ^^^ 2 ^ e) e (mt_xorlt hs hen) hen
      rw [mt_xor_or he] at g2
      have g3 := mt_cd_xor hen he
      have g4 : ∀ e, e < n → s.testBit e = true → r (s ^^^ 2 ^ e) + 1 ≤ mt_cd n s := fun e h5 h6 => by
        have := mt_le_cd hM (mt_xorlt hs h5)
        have := mt_cd_xor h5 h6
        omega
      rcases h2 with h2 | ⟨e', q1, q2, q3⟩
      · omega
      · have := g4 e' q1 q2
        omega
  · obtain ⟨e, g1, g2, g3⟩ := mt_dep hM hs (by omega)
    have := h1 e g1 g2
    omega
