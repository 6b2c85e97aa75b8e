/-! The heaviest basis: taking greedily in the order of the elements. -/
def mt_W (w : Nat → Int) : Nat → Nat → Int
  | 0, _ => 0
  | k + 1, s => mt_W w k s + (if s.testBit k = true then w k else 0)
def mt_bf (w : Nat → Int) (a b : Nat) : Prop := w b < w a ∨ (w b = w a ∧ a < b)
def mt_dn (w : Nat → Int) (n t : Nat) : Prop := ∀ a b : Nat, t.testBit a = true → b < n → t.testBit b = false → mt_bf w a b
def mt_gr (w : Nat → Int) (n : Nat) (r : Nat → Nat) (B : Nat) : Prop := B < 2 ^ n ∧ r B = mt_cd n B ∧ r B = r (2 ^ n - 1) ∧ ∀ t, t < 2 ^ n → mt_dn w n t → mt_cd n (B &&& t) = r t
def mt_gi (w : Nat → Int) (n : Nat) (r : Nat → Nat) (tried basis : Nat) : Prop := tried < 2 ^ n ∧ basis < 2 ^ n ∧ mt_sb basis tried ∧ mt_dn w n tried ∧ r basis = mt_cd n basis ∧ r basis = r tried ∧ ∀ t, t < 2 ^ n → mt_dn w n t → mt_sb t tried → mt_cd n (basis &&& t) = r t
def mt_cf (w : Nat → Int) (n s t : Nat) : Prop := ∃ f, f < n ∧ (s ^^^ t).testBit f = true ∧ (∀ e, e < n → (s ^^^ t).testBit e = true → e = f ∨ mt_bf w f e) ∧ s.testBit f = true
theorem mt_mk (p : Nat → Bool) (n : Nat) : ∃ t, t < 2 ^ n ∧ ∀ i, i < n → t.testBit i = p i := by
  induction n with
  | zero => exact ⟨0, by decide, fun i hi => by omega⟩
  | succ n ih =>
    obtain ⟨t, h1, h2⟩ := ih
    cases hp : p n with
    | false =>
      refine ⟨t, mt_up h1, fun i hi => ?_⟩
      by_cases h : i = n
      · subst h; rw [hp]; exact mt_big h1 (Nat.le_refl i)
      · exact h2 i (by omega)
    | true =>
      refine ⟨t ||| 2 ^ n, mt_orlt (mt_up h1) (by omega), fun i hi => ?_⟩
      rw [Nat.testBit_or, mt_two]
      by_cases h : i = n
      · subst h; simp [hp]
      · rw [h2 i (by omega)]; simp [show ¬ n = i by omega]
theorem mt_W_eq {v v' : Nat → Int} {n s : Nat} (h : ∀ i, i < n → v i = v' i) : mt_W v n s = mt_W v' n s := by
  induction n with
  | zero => rfl
  | succ k ih => simp only [mt_W]; rw [ih (fun i hi => h i (by omega)), h k (by omega)]
theorem mt_W_c {v : Nat → Int} {c : Int} {n s : Nat} (h : ∀ i, i < n → v i = c) : mt_W v n s = c * (mt_cd n s : Int) := by
  induction n with
  | zero => simp [mt_W, mt_cd]
  | succ k ih =>
    simp only [mt_W, mt_cd]
    rw [ih (fun i hi => h i (by omega)), h k (by omega)]
    cases s.testBit k
    · simp
    · simp [Int.mul_add]
theorem mt_W_add {v v' : Nat → Int} {t n s : Nat} (h : ∀ i, i < n → v' i = v i + (if t.testBit i = true then 1 else 0)) : mt_W v' n s = mt_W v n s + (mt_cd n (s &&& t) : Int) := by
  induction n with
  | zero => simp [mt_W, mt_cd]
  | succ k ih =>
    simp only [mt_W, mt_cd, Nat.testBit_and]
    rw [ih (fun i hi => h i (by omega)), h k (by omega)]
    cases s.testBit k <;> cases t.testBit k <;> simp <;> omega
theorem mt_gr_W {w : Nat → Int} {n : Nat} {r : Nat → Nat} {B : Nat} (hM : mt_M n r) (hB : mt_gr w n r B) {S : Nat} (hS : S < 2 ^ n) (hi : r S = mt_cd n S) (hc : r S = r (2 ^ n - 1)) (M : Nat) (hw : ∀ i, i < n → -(M : Int) ≤ w i ∧ w i ≤ (M : Int)) : mt_W w n S ≤ mt_W w n B := by
  have key : ∀ j : Nat, mt_W (fun i => min (w i) (-(M : Int) + (j : Int))) n S ≤ mt_W (fun i => min (w i) (-(M : Int) + (j : Int))) n B := by
    intro j
    induction j with
    | zero =>
      have e : ∀ i, i < n → (fun i => min (w i) (-(M : Int) + ((0 : Nat) : Int))) i = -(M : Int) := fun i h => by
        have := hw i h
        show min (w i) (-(M : Int) + ((0 : Nat) : Int)) = -(M : Int)
        omega
      rw [mt_W_c e, mt_W_c e, ← hi, ← hB.2.1, hc, hB.2.2.1]
      exact Int.le_refl _
    | succ j ih =>
      obtain ⟨t, t1, t2⟩ := mt_mk (fun i => decide (-(M : Int) + ((j + 1 : Nat) : Int) ≤ w i)) n
      have e : ∀ i, i < n → (fun i => min (w i) (-(M : Int) + ((j + 1 : Nat) : Int))) i = (fun i => min (w i) (-(M : Int) + (j : Int))) i + (if t.testBit i = true then 1 else 0) := fun i h => by
        rw [t2 i h]
        show min (w i) (-(M : Int) + ((j + 1 : Nat) : Int)) = min (w i) (-(M : Int) + (j : Int)) + _
        by_cases hq : -(M : Int) + ((j + 1 : Nat) : Int) ≤ w i
        · simp only [hq, decide_true, if_true]; omega
        · simp only [hq, decide_false]; simp; omega
      have dn : mt_dn w n t := fun a b ha hb hnb => by
        have han := mt_lt t1 ha
        rw [t2 a han] at ha
        rw [t2 b hb] at hnb
        simp at ha hnb
        exact Or.inl (by omega)
      rw [mt_W_add e, mt_W_add e, hB.2.2.2 t t1 dn]
      have g1 : mt_cd n (S &&& t) ≤ r t := by
        have sa : mt_sb (S &&& t) S := fun j hj => by rw [Nat.testBit_and] at hj; simp at hj; exact hj.1
        have sb : mt_sb (S &&& t) t := fun j hj => by rw [Nat.testBit_and] at hj; simp at hj; exact hj.2
        rw [← mt_ind_sub hM (Nat.and_lt_two_pow S t1) hS sa hi]
        exact mt_mono hM (Nat.and_lt_two_pow S t1) t1 sb
      omega
  have h1 := key (2 * M)
  have e : ∀ i, i < n → (fun i => min (w i) (-(M : Int) + ((2 * M : Nat) : Int))) i = w i := fun i h => by
    have := hw i h
    show min (w i) (-(M : Int) + ((2 * M : Nat) : Int)) = w i
    omega
  rw [mt_W_eq e, mt_W_eq e] at h1
  exact h1
theorem mt_gr_first {w : Nat → Int} {n : Nat} {r : Nat → Nat} {B : Nat} (hM : mt_M n r) (hB : mt_gr w n r B) {S : Nat} (hS : S < 2 ^ n) (hi : r S = mt_cd n S) : ¬ mt_cf w n S B := by
  rintro ⟨f, f1, f2, f3, f4⟩
  obtain ⟨t, t1, t2⟩ := mt_mk (fun i => decide (i = f) || decide (w f < w i) || (decide (w f = w i) && decide (i < f))) n
  have hT : ∀ i, i < n → (t.testBit i = true ↔ (i = f ∨ w f < w i ∨ (w f = w i ∧ i < f))) := fun i h => by
    rw [t2 i h]; simp [or_assoc]
  have dn : mt_dn w n t := fun a b ha hb hnb => by
    have g1 := (hT a (mt_lt t1 ha)).mp ha
    have g2 : ¬ (b = f ∨ w f < w b ∨ (w f = w b ∧ b < f)) := fun q => by rw [(hT b hb).mpr q] at hnb; cases hnb
    unfold mt_bf
    by_cases haf : a = f
    · subst haf; omega
    · omega
  have hBf : B.testBit f = false := by
    rw [Nat.testBit_xor, f4] at f2
    cases h : B.testBit f with
    | false => rfl
    | true => rw [h] at f2; cases f2
  have htf : t.testBit f = true := (hT f f1).mpr (Or.inl rfl)
  have e : S &&& t = (B &&& t) ||| 2 ^ f := by
    refine mt_ex (Nat.and_lt_two_pow S t1) (mt_orlt (Nat.and_lt_two_pow B t1) f1) fun i hi => ?_
    rw [Nat.testBit_or, Nat.testBit_and, Nat.testBit_and, mt_two]
    by_cases hif : f = i
    · subst hif; simp [f4, htf]
    · cases hti : t.testBit i with
      | false => simp [hif]
      | true =>
        have g1 := (hT i hi).mp hti
        have g2 : (S ^^^ B).testBit i = false := by
          cases hq : (S ^^^ B).testBit i with
          | false => rfl
          | true =>
            exfalso
            have := f3 i hi hq
            unfold mt_bf at this
            omega
        rw [Nat.testBit_xor] at g2
        simp only [hif, decide_false, Bool.and_true, Bool.or_false]
        cases h5 : S.testBit i <;> cases h6 : B.testBit i <;> simp_all
  have g1 := mt_cd_add (n := n) (s := B &&& t) f1 (by rw [Nat.testBit_and, hBf]; rfl)
  rw [← e, hB.2.2.2 t t1 dn] at g1
  have sa : mt_sb (S &&& t) S := fun j hj => by rw [Nat.testBit_and] at hj; simp at hj; exact hj.1
  have sb : mt_sb (S &&& t) t := fun j hj => by rw [Nat.testBit_and] at hj; simp at hj; exact hj.2
  have g2 := mt_ind_sub hM (Nat.and_lt_two_pow S t1) hS sa hi
  have g3 := mt_mono hM (Nat.and_lt_two_pow S t1) t1 sb
  omega
theorem mt_first (w : Nat → Int) (x : Nat) : ∀ n, (∃ i, i < n ∧ x.testBit i = true) → ∃ f, f < n ∧ x.testBit f = true ∧ ∀ e, e < n → x.testBit e = true → e = f ∨ mt_bf w f e := by
  intro n
  induction n with
  | zero => rintro ⟨i, h, -⟩; omega
  | succ n ih =>
    rintro ⟨i, h1, h2⟩
    by_cases hq : ∃ i, i < n ∧ x.testBit i = true
    · obtain ⟨f, g1, g2, g3⟩ := ih hq
      by_cases hn : x.testBit n = true ∧ w f < w n
      · refine ⟨n, by omega, hn.1, fun e he hx => ?_⟩
        by_cases hen : e = n
        · exact Or.inl hen
        · refine Or.inr ?_
          have := g3 e (by omega) hx
          unfold mt_bf at this ⊢
          by_cases hef : e = f
          · subst hef; exact Or.inl hn.2
          · have h9 := hn.2; omega
      · refine ⟨f, by omega, g2, fun e he hx => ?_⟩
        by_cases hen : e = n
        · subst hen
          refine Or.inr ?_
          have : ¬ w f < w e := fun z => hn ⟨hx, z⟩
          unfold mt_bf
          omega
        · exact g3 e (by omega) hx
    · have hin : i = n := Classical.byContradiction fun z => hq ⟨i, by omega, h2⟩
      subst hin
      exact ⟨i, by omega, h2, fun e he hx => Or.inl (Classical.byContradiction fun z => hq ⟨e, by omega, hx⟩)⟩
/-- the greedy basis comes first of all that weigh as much -/
theorem mt_gr_cf {w : Nat → Int} {n : Nat} {r : Nat → Nat} {B : Nat} (hM : mt_M n r) (hB : mt_gr w n r B) {S : Nat} (hS : S < 2 ^ n) (hi : r S = mt_cd n S) (hne : S ≠ B) : mt_cf w n B S := by
  have hx : ∃ i, i < n ∧ (B ^^^ S).testBit i = true := by
    obtain ⟨i, hi⟩ := Nat.exists_testBit_ne_of_ne hne
    have h1 : (B ^^^ S).testBit i = true := by
      rw [Nat.testBit_xor]
      cases h5 : S.testBit i <;> cases h6 : B.testBit i <;> simp_all
    exact ⟨i, mt_lt (Nat.xor_lt_two_pow hB.1 hS) h1, h1⟩
  obtain ⟨f, f1, f2, f3⟩ := mt_first w (B ^^^ S) n hx
  cases h : B.testBit f with
  | true => exact ⟨f, f1, f2, f3, h⟩
  | false =>
    exfalso
    refine mt_gr_first hM hB hS hi ⟨f, f1, ?_, ?_, ?_⟩
    · rw [Nat.xor_comm]; exact f2
    · rw [Nat.xor_comm]; exact f3
    · rw [Nat.testBit_xor, h] at f2
      simpa using f2
theorem mt_gi_0 {w : Nat → Int} {n : Nat} {r : Nat → Nat} (hM : mt_M n r) : mt_gi w n r 0 0 := by
  refine ⟨Nat.two_pow_pos n, Nat.two_pow_pos n, fun i hi => hi, fun a b ha => by simp at ha, by rw [hM.1, mt_cd_0], rfl, fun t ht _ hs => ?_⟩
  have h0 : t = 0 := by
    refine mt_ex ht (Nat.two_pow_pos n) fun i _ => ?_
    have := hs i
    cases h5 : t.testBit i <;> simp_all
  subst h0
  rw [Nat.zero_and, mt_cd_0, hM.1]
theorem mt_gi_s {w : Nat → Int} {n : Nat} {r : Nat → Nat} (hM : mt_M n r) {tried basis : Nat} (h : mt_gi w n r tried basis) {e : Nat} (he : e < n) (h1 : tried.testBit e = false) (h2 : ∀ b, b < n → tried.testBit b = false → b = e ∨ mt_bf w e b) :
    (r (basis ||| 2 ^ e) = mt_cd n (basis ||| 2 ^ e) → mt_gi w n r (tried ||| 2 ^ e) (basis ||| 2 ^ e)) ∧ (¬ r (basis ||| 2 ^ e) = mt_cd n (basis ||| 2 ^ e) → mt_gi w n r (tried ||| 2 ^ e) basis) := by
  obtain ⟨a1, a2, a3, a4, a5, a6, a7⟩ := h
  have hbe : basis.testBit e = false := by
    cases hq : basis.testBit e with
    | false => rfl
    | true => rw [a3 e hq] at h1; cases h1
  have ht' := mt_orlt a1 he
  have hb' := mt_orlt a2 he
  have hc := mt_cd_add he hbe
  have i1 := hM.2.1 basis e a2 he
  have i2 := hM.2.1 tried e a1 he
  have i3 := hM.2.2 basis tried e a2 a1 a3 he
  have dn : mt_dn w n (tried ||| 2 ^ e) := by
    intro a b ha hb hnb
    rw [Nat.testBit_or, mt_two] at ha hnb
    have hnb1 : tried.testBit b = false := by
      cases hq : tried.testBit b with
      | false => rfl
      | true => rw [hq] at hnb; simp at hnb
    have hnb2 : ¬ e = b := by
      intro hq; subst hq; simp at hnb
    cases hta : tried.testBit a with
    | true => exact a4 a b hta hb hnb1
    | false =>
      rw [hta] at ha
      simp at ha
      subst ha
      rcases h2 b hb hnb1 with q | q
      · exact absurd q.symm hnb2
      · exact q
  have down : ∀ t, t < 2 ^ n → mt_dn w n t → mt_sb t (tried ||| 2 ^ e) → (t.testBit e = false ∧ mt_sb t tried) ∨ t = tried ||| 2 ^ e := by
    intro t ht hd hs
    cases hte : t.testBit e with
    | false =>
      refine Or.inl ⟨rfl, fun i hi => ?_⟩
      have := hs i hi
      rw [Nat.testBit_or, mt_two] at this
      by_cases hq : e = i
      · subst hq; rw [hte] at hi; cases hi
      · simpa [hq] using this
    | true =>
      refine Or.inr (mt_ex ht ht' fun i hi => ?_)
      cases hti : t.testBit i with
      | true => rw [hs i hti]
      | false =>
        rw [Nat.testBit_or, mt_two]
        have hne : ¬ e = i := by intro hq; subst hq; rw [hte] at hti; cases hti
        cases htr : tried.testBit i with
        | false => simp [hne]
        | true =>
          exfalso
          have g1 := hd e i hte hi hti
          have g2 := a4 i e htr he h1
          unfold mt_bf at g1 g2
          omega
  refine ⟨fun hadd => ?_, fun hno => ?_⟩
  · have hsb : mt_sb (basis ||| 2 ^ e) (tried ||| 2 ^ e) := fun i hi => by
      rw [Nat.testBit_or] at hi ⊢
      cases h5 : basis.testBit i with
      | true => rw [a3 i h5]; rfl
      | false => rw [h5] at hi; simp at hi; rw [hi]; simp
    have hr : r (basis ||| 2 ^ e) = r (tried ||| 2 ^ e) := by
      have := mt_mono hM hb' ht' hsb
      omega
    refine ⟨ht', hb', hsb, dn, hadd, hr, fun t ht hd hs => ?_⟩
    rcases down t ht hd hs with ⟨q1, q2⟩ | q
    · have e1 : (basis ||| 2 ^ e) &&& t = basis &&& t := by
        apply Nat.eq_of_testBit_eq
        intro i
        rw [Nat.testBit_and, Nat.testBit_and, Nat.testBit_or, mt_two]
        by_cases hq : e = i
        · subst hq; simp [q1]
        · simp [hq]
      rw [e1]; exact a7 t ht hd q2
    · subst q
      have e1 : (basis ||| 2 ^ e) &&& (tried ||| 2 ^ e) = basis ||| 2 ^ e := by
        apply Nat.eq_of_testBit_eq
        intro i
        rw [Nat.testBit_and]
        have := hsb i
        cases h5 : (basis ||| 2 ^ e).testBit i <;> simp_all
      rw [e1, ← hadd]; exact hr
  · have hsb : mt_sb basis (tried ||| 2 ^ e) := fun i hi => by
      rw [Nat.testBit_or, a3 i hi]; rfl
    have hr : r basis = r (tried ||| 2 ^ e) := by omega
    refine ⟨ht', a2, hsb, dn, a5, hr, fun t ht hd hs => ?_⟩
    rcases down t ht hd hs with ⟨q1, q2⟩ | q
    · exact a7 t ht hd q2
    · subst q
      have e1 : basis &&& (tried ||| 2 ^ e) = basis := by
        apply Nat.eq_of_testBit_eq
        intro i
        rw [Nat.testBit_and]
        have := hsb i
        cases h5 : basis.testBit i <;> simp_all
      rw [e1, ← a5]; exact hr
theorem mt_gi_e {w : Nat → Int} {n : Nat} {r : Nat → Nat} {tried basis : Nat} (h : mt_gi w n r tried basis) (hc : mt_cd n tried = n) : mt_gr w n r basis := by
  obtain ⟨a1, a2, a3, a4, a5, a6, a7⟩ := h
  have hall : tried = 2 ^ n - 1 := mt_sb_eq a1 (mt_alllt n) (mt_sb_all a1) (by have := mt_cd_le n (2 ^ n - 1); omega)
  subst hall
  exact ⟨a2, a5, a6, fun t ht hd => a7 t ht hd (mt_sb_all ht)⟩
