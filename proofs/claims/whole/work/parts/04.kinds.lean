/-! The kinds: at most k; classes with caps; and a rank that counts, in the order of the elements, those that are not in the span of the ones before. -/
def mt_U (n k : Nat) : Nat → Nat := fun s => min k (mt_cd n s)
theorem mt_U_M (n k : Nat) : mt_M n (mt_U n k) := by
  refine ⟨by unfold mt_U; rw [mt_cd_0]; omega, fun s e hs he => ?_, fun s t e hs ht h he => ?_⟩
  · unfold mt_U
    cases hb : s.testBit e with
    | true => rw [mt_or_in hb]; omega
    | false => rw [mt_cd_add he hb]; omega
  · unfold mt_U
    have h1 := mt_cd_mono (n := n) h
    cases hb : t.testBit e with
    | true =>
      rw [mt_or_in hb]
      have := mt_cd_mono (n := n) (mt_sb_orl s (2 ^ e))
      omega
    | false =>
      have hbs : s.testBit e = false := by
        cases hq : s.testBit e with
        | false => rfl
        | true => rw [h e hq] at hb; cases hb
      rw [mt_cd_add he hb, mt_cd_add he hbs]
      omega
theorem mt_U_ind (n k s : Nat) : mt_U n k s = mt_cd n s ↔ mt_cd n s ≤ k := by unfold mt_U; omega
-- how many of a class
def mt_cc (cls : Nat → Nat) (c : Nat) : Nat → Nat → Nat
  | 0, _ => 0
  | k + 1, s => mt_cc cls c k s + (if s.testBit k = true ∧ cls k = c then 1 else 0)
def mt_C (n : Nat) (cls cap : Nat → Nat) : Nat → Nat := fun s => min (mt_cc cls 0 n s) (cap 0) + min (mt_cc cls 1 n s) (cap 1) + min (mt_cc cls 2 n s) (cap 2) + min (mt_cc cls 3 n s) (cap 3)
theorem mt_cc_eq {cls : Nat → Nat} {c n s t : Nat} (h : ∀ i, i < n → s.testBit i = t.testBit i) : mt_cc cls c n s = mt_cc cls c n t := by
  induction n with
  | zero => rfl
  | succ k ih => simp only [mt_cc]; rw [ih (fun i hi => h i (by omega)), h k (by omega)]
theorem mt_cc_0 (cls : Nat → Nat) (c n : Nat) : mt_cc cls c n 0 = 0 := by
  induction n with
  | zero => rfl
  | succ k ih => simp only [mt_cc]; rw [ih]; simp
theorem mt_cc_mono {cls : Nat → Nat} {c n s t : Nat} (h : mt_sb s t) : mt_cc cls c n s ≤ mt_cc cls c n t := by
  induction n with
  | zero => exact Nat.le_refl _
  | succ k ih =>
    simp only [mt_cc]
    have := h k
    cases h1 : s.testBit k <;> cases h2 : t.testBit k <;> simp_all <;> split <;> omega
theorem mt_cc_add {cls : Nat → Nat} {c n s e : Nat} (he : e < n) (h : s.testBit e = false) : mt_cc cls c n (s ||| 2 ^ e) = mt_cc cls c n s + (if cls e = c then 1 else 0) := by
  induction n with
  | zero => omega
  | succ k ih =>
    simp only [mt_cc, Nat.testBit_or, mt_two]
    by_cases hk : e = k
    · subst hk
      have h0 : mt_cc cls c e (s ||| 2 ^ e) = mt_cc cls c e s := mt_cc_eq (fun i hi => by rw [Nat.testBit_or, mt_two]; simp; omega)
      rw [h0, h]; simp
    · rw [ih (by omega)]
      simp only [hk, decide_false, Bool.or_false]
      omega
theorem mt_cc_sum {cls : Nat → Nat} {n s : Nat} (h : ∀ i, i < n → cls i < 4) : mt_cc cls 0 n s + mt_cc cls 1 n s + mt_cc cls 2 n s + mt_cc cls 3 n s = mt_cd n s := by
  induction n with
  | zero => rfl
  | succ k ih =>
    simp only [mt_cc, mt_cd]
    have h1 := ih (fun i hi => h i (by omega))
    have h2 := h k (by omega)
    cases hb : s.testBit k with
    | false => simp; omega
    | true =>
      have : cls k = 0 ∨ cls k = 1 ∨ cls k = 2 ∨ cls k = 3 := by omega
      rcases this with q | q | q | q <;> simp [q] <;> omega
theorem mt_C_M {n : Nat} {cls cap : Nat → Nat} (hc : ∀ i, i < n → cls i < 4) : mt_M n (mt_C n cls cap) := by
  refine ⟨by unfold mt_C; simp [mt_cc_0], fun s e hs he => ?_, fun s t e hs ht h he => ?_⟩
  · unfold mt_C
    cases hb : s.testBit e with
    | true => rw [mt_or_in hb]; omega
    | false =>
      rw [mt_cc_add he hb, mt_cc_add he hb, mt_cc_add he hb, mt_cc_add he hb]
      have h2 := hc e he
      have : cls e = 0 ∨ cls e = 1 ∨ cls e = 2 ∨ cls e = 3 := by omega
      rcases this with q | q | q | q <;> simp [q] <;> omega
  · unfold mt_C
    have m0 := mt_cc_mono (cls := cls) (c := 0) (n := n) h
    have m1 := mt_cc_mono (cls := cls) (c := 1) (n := n) h
    have m2 := mt_cc_mono (cls := cls) (c := 2) (n := n) h
    have m3 := mt_cc_mono (cls := cls) (c := 3) (n := n) h
    cases hb : t.testBit e with
    | true =>
      rw [mt_or_in hb]
      have o0 := mt_cc_mono (cls := cls) (c := 0) (n := n) (mt_sb_orl s (2 ^ e))
      have o1 := mt_cc_mono (cls := cls) (c := 1) (n := n) (mt_sb_orl s (2 ^ e))
      have o2 := mt_cc_mono (cls := cls) (c := 2) (n := n) (mt_sb_orl s (2 ^ e))
      have o3 := mt_cc_mono (cls := cls) (c := 3) (n := n) (mt_sb_orl s (2 ^ e))
      omega
    | false =>
      have hbs : s.testBit e = false := by
        cases hq : s.testBit e with
        | false => rfl
        | true => rw [h e hq] at hb; cases hb
      rw [mt_cc_add he hb, mt_cc_add he hb, mt_cc_add he hb, mt_cc_add he hb, mt_cc_add he hbs, mt_cc_add he hbs, mt_cc_add he hbs, mt_cc_add he hbs]
      have h2 := hc e he
      have : cls e = 0 ∨ cls e = 1 ∨ cls e = 2 ∨ cls e = 3 := by omega
      rcases this with q | q | q | q <;> simp [q] <;> omega
theorem mt_C_ind {n : Nat} {cls cap : Nat → Nat} (hc : ∀ i, i < n → cls i < 4) (s : Nat) : mt_C n cls cap s = mt_cd n s ↔ ∀ c, c < 4 → mt_cc cls c n s ≤ cap c := by
  have h1 := mt_cc_sum (s := s) hc
  unfold mt_C
  constructor
  · intro h c hcc
    have : c = 0 ∨ c = 1 ∨ c = 2 ∨ c = 3 := by omega
    rcases this with q | q | q | q <;> subst q <;> omega
  · intro h
    have h2 := h 0 (by omega)
    have h3 := h 1 (by omega)
    have h4 := h 2 (by omega)
    have h5 := h 3 (by omega)
    omega
-- spans
def mt_cl (n : Nat) (cl : Nat → Nat → Prop) : Prop :=
  (∀ s t e : Nat, s < 2 ^ n → t < 2 ^ n → e < n → mt_sb s t → cl s e → cl t e) ∧
  (∀ s e f : Nat, s < 2 ^ n → e < n → f < n → cl s e → cl (s ||| 2 ^ e) f → cl s f) ∧
  (∀ s e f : Nat, s < 2 ^ n → e < n → f < n → cl (s ||| 2 ^ e) f → ¬ cl s f → cl (s ||| 2 ^ f) e)
def mt_rk (n : Nat) (cl : Nat → Nat → Prop) (r : Nat → Nat) : Prop :=
  r 0 = 0 ∧ ∀ k s : Nat, k < n → s < 2 ^ k → (cl s k → r (s ||| 2 ^ k) = r s) ∧ (¬ cl s k → r (s ||| 2 ^ k) = r s + 1)
theorem mt_rk_any {n : Nat} {cl : Nat → Nat → Prop} {r : Nat → Nat} (hc : mt_cl n cl) (hr : mt_rk n cl r) (e : Nat) : ∀ j s : Nat, e + 1 + j ≤ n → s < 2 ^ (e + 1 + j) → s.testBit e = false → (cl s e → r (s ||| 2 ^ e) = r s) ∧ (¬ cl s e → r (s ||| 2 ^ e) = r s + 1) := by
  intro j
  induction j with
  | zero =>
    intro s hn hs hb
    have h1 : s < 2 ^ e := by
      apply mt_bnd
      intro i hi
      have := mt_lt hs hi
      have hne : i ≠ e := by intro q; subst q; rw [hb] at hi; cases hi
      omega
    exact hr.2 e s (by omega) h1
  | succ j ih =>
    intro s hn hs hb
    have hk : e + 1 + (j + 1) = (e + 1 + j) + 1 := by omega
    rw [hk] at hs hn
    generalize hkk : e + 1 + j = k at hs hn ih hk
    cases hsk : s.testBit k with
    | false =>
      have h1 : s < 2 ^ k := by
        apply mt_bnd
        intro i hi
        have := mt_lt hs hi
        have hne : i ≠ k := by intro q; subst q; rw [hsk] at hi; cases hi
        omega
      exact ih s (by omega) h1 hb
    | true =>
      have hT : s ^^^ 2 ^ k < 2 ^ k := by
        apply mt_bnd
        intro i hi
        have h1 := mt_lt (mt_xorlt hs (by omega)) hi
        have hne : i ≠ k := by intro q; subst q; rw [mt_xor_out hsk] at hi; cases hi
        omega
      have hTn : s ^^^ 2 ^ k < 2 ^ n := Nat.lt_of_lt_of_le hT (Nat.pow_le_pow_right (by omega) (by omega))
      have hTe : (s ^^^ 2 ^ k).testBit e = false := by
        rw [Nat.testBit_xor, hb, mt_two]; simp; omega
      have hse : s = (s ^^^ 2 ^ k) ||| 2 ^ k := (mt_xor_or hsk).symm
      generalize s ^^^ 2 ^ k = T at hT hTn hTe hse
      subst hse
      have hen : e < n := by omega
      have hkn : k < n := by omega
      have hTek : T ||| 2 ^ e < 2 ^ k := mt_orlt hT (by omega)
      obtain ⟨a1, a2⟩ := ih T (by omega) hT hTe
      obtain ⟨b1, b2⟩ := hr.2 k T hkn hT
      obtain ⟨d1, d2⟩ := hr.2 k (T ||| 2 ^ e) hkn hTek
      rw [mt_or_rot T (2 ^ k) (2 ^ e)]
      have mono := hc.1
      have tr := hc.2.1
      have ex := hc.2.2
      have hTkn : T ||| 2 ^ k < 2 ^ n := mt_orlt hTn hkn
      have hTen : T ||| 2 ^ e < 2 ^ n := mt_orlt hTn hen
      by_cases ce : cl T e
      · have c1 : cl (T ||| 2 ^ k) e := mono T _ e hTn hTkn hen (mt_sb_orl _ _) ce
        have e1 := a1 ce
        refine ⟨fun _ => ?_, fun q => absurd c1 q⟩
        by_cases ck : cl T k
        · rw [d1 (mono T _ k hTn hTen hkn (mt_sb_orl _ _) ck), b1 ck, e1]
        · rw [d2 (fun q => ck (tr T e k hTn hen hkn ce q)), b2 ck, e1]
      · have e1 := a2 ce
        by_cases ck : cl T k
        · have c1 : ¬ cl (T ||| 2 ^ k) e := fun q => ce (tr T k e hTn hkn hen ck q)
          refine ⟨fun q => absurd q c1, fun _ => ?_⟩
          rw [d1 (mono T _ k hTn hTen hkn (mt_sb_orl _ _) ck), b1 ck, e1]
        · by_cases c2 : cl (T ||| 2 ^ e) k
          · have c3 := ex T e k hTn hen hkn c2 ck
            refine ⟨fun _ => ?_, fun q => absurd c3 q⟩
            rw [d1 c2, b2 ck, e1]
          · have c3 : ¬ cl (T ||| 2 ^ k) e := fun q => c2 (ex T k e hTn hkn hen q ce)
            refine ⟨fun q => absurd q c3, fun _ => ?_⟩
            rw [d2 c2, b2 ck, e1]
theorem mt_rk_add {n : Nat} {cl : Nat → Nat → Prop} {r : Nat → Nat} (hc : mt_cl n cl) (hr : mt_rk n cl r) {s e : Nat} (hs : s < 2 ^ n) (he : e < n) (hb : s.testBit e = false) : (cl s e → r (s ||| 2 ^ e) = r s) ∧ (¬ cl s e → r (s ||| 2 ^ e) = r s + 1) :=
  mt_rk_any hc hr e (n - e - 1) s (by omega) (by rw [show e + 1 + (n - e - 1) = n by omega]; exact hs) hb
theorem mt_rk_M {n : Nat} {cl : Nat → Nat → Prop} {r : Nat → Nat} (hc : mt_cl n cl) (hr : mt_rk n cl r) : mt_M n r := by
  have inc : ∀ s e : Nat, s < 2 ^ n → e < n → r s ≤ r (s ||| 2 ^ e) ∧ r (s ||| 2 ^ e) ≤ r s + 1 := by
    intro s e hs he
    cases hb : s.testBit e with
    | true => rw [mt_or_in hb]; omega
    | false =>
      obtain ⟨h1, h2⟩ := mt_rk_add hc hr hs he hb
      by_cases q : cl s e
      · have := h1 q; omega
      · have := h2 q; omega
  refine ⟨hr.1, inc, fun s t e hs ht h he => ?_⟩
  cases hb : t.testBit e with
  | true => rw [mt_or_in hb]; have := (inc s e hs he).1; omega
  | false =>
    have hbs : s.testBit e = false := by
      cases hq : s.testBit e with
      | false => rfl
      | true => rw [h e hq] at hb; cases hb
    obtain ⟨h1, h2⟩ := mt_rk_add hc hr hs he hbs
    obtain ⟨h3, h4⟩ := mt_rk_add hc hr ht he hb
    by_cases q : cl t e
    · have := h3 q
      have := (inc s e hs he).1
      omega
    · have := h4 q
      have := h2 (fun z => q (hc.1 s t e hs ht he h z))
      omega
