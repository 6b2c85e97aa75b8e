/-! The graphic kind: joining groups of vertices counts the rank; taking away edges with a loose end tells the independent sets. -/
def mg_cl (n : Nat) (fr to : Nat → Nat) (s e : Nat) : Prop := ∀ X : Nat → Bool, (∀ i, i < n → s.testBit i = true → X (fr i) = X (to i)) → X (fr e) = X (to e)
theorem mg_cl_ok (n : Nat) (fr to : Nat → Nat) : mt_cl n (mg_cl n fr to) := by
  have grow : ∀ (s e : Nat) (X : Nat → Bool), (∀ i, i < n → s.testBit i = true → X (fr i) = X (to i)) → X (fr e) = X (to e) → ∀ i, i < n → (s ||| 2 ^ e).testBit i = true → X (fr i) = X (to i) := by
    intro s e X h1 h2 i hi hb
    rw [Nat.testBit_or, mt_two] at hb
    by_cases hq : e = i
    · subst hq; exact h2
    · simp [hq] at hb; exact h1 i hi hb
  refine ⟨fun s t e hs ht he hst h X hX => h X (fun i hi hb => hX i hi (hst i hb)), fun s e f hs he hf h1 h2 X hX => h2 X (grow s e X hX (h1 X hX)), fun s e f hs he hf h1 h2 X hX => ?_⟩
  have hXs : ∀ i, i < n → s.testBit i = true → X (fr i) = X (to i) := fun i hi hb => hX i hi (mt_sb_orl s _ i hb)
  have hXf : X (fr f) = X (to f) := hX f hf (by rw [Nat.testBit_or, mt_two]; simp)
  refine Classical.byContradiction fun hXe => ?_
  obtain ⟨Y, hY⟩ := Classical.not_forall.mp h2
  have hYs : ∀ i, i < n → s.testBit i = true → Y (fr i) = Y (to i) := Classical.byContradiction (fun q => hY (fun z => absurd z q))
  have hYf : ¬ Y (fr f) = Y (to f) := fun q => hY (fun _ => q)
  have hYe : ¬ Y (fr e) = Y (to e) := fun q => hYf (h1 Y (grow s e Y hYs q))
  have h3 := h1 (fun v => X v ^^ Y v) (grow s e (fun v => X v ^^ Y v) (fun i hi hb => by
    show (X (fr i) ^^ Y (fr i)) = (X (to i) ^^ Y (to i))
    rw [hXs i hi hb, hYs i hi hb]) (by
    show (X (fr e) ^^ Y (fr e)) = (X (to e) ^^ Y (to e))
    cases h5 : X (fr e) <;> cases h6 : X (to e) <;> cases h7 : Y (fr e) <;> cases h8 : Y (to e) <;> simp_all))
  have h3 : (X (fr f) ^^ Y (fr f)) = (X (to f) ^^ Y (to f)) := h3
  rw [hXf] at h3
  apply hYf
  cases h6 : X (to f) <;> cases h7 : Y (fr f) <;> cases h8 : Y (to f) <;> simp_all
def mg_gl (fr to : Nat → Nat) : Nat → Nat → (Nat → Nat) × Nat
  | 0, _ => (fun v => v, 0)
  | k + 1, s =>
    if s.testBit k = true ∧ (mg_gl fr to k s).1 (fr k) ≠ (mg_gl fr to k s).1 (to k) then
      (fun v => if (mg_gl fr to k s).1 v = (mg_gl fr to k s).1 (to k) then (mg_gl fr to k s).1 (fr k) else (mg_gl fr to k s).1 v, (mg_gl fr to k s).2 + 1)
    else mg_gl fr to k s
def mg_r (n : Nat) (fr to : Nat → Nat) : Nat → Nat := fun s => (mg_gl fr to n s).2
theorem mg_gl_eq {fr to : Nat → Nat} {k s t : Nat} (h : ∀ i, i < k → s.testBit i = t.testBit i) : mg_gl fr to k s = mg_gl fr to k t := by
  induction k with
  | zero => rfl
  | succ k ih => simp only [mg_gl]; rw [ih (fun i hi => h i (by omega)), h k (by omega)]
theorem mg_gl_top {fr to : Nat → Nat} {k n s : Nat} (hk : k ≤ n) (h : ∀ i, k ≤ i → i < n → s.testBit i = false) : mg_gl fr to n s = mg_gl fr to k s := by
  induction n with
  | zero => have : k = 0 := by omega
            subst this; rfl
  | succ n ih =>
    by_cases hq : k = n + 1
    · subst hq; rfl
    · rw [← ih (by omega) (fun i h1 h2 => h i h1 (by omega))]
      simp only [mg_gl]
      rw [h n (by omega) (by omega)]; simp
theorem mg_gl_0 {fr to : Nat → Nat} (k : Nat) : (mg_gl fr to k 0).2 = 0 := by
  induction k with
  | zero => rfl
  | succ k ih => simp only [mg_gl]; simp [ih]
theorem mg_gl_lab (fr to : Nat → Nat) (s : Nat) : ∀ k u v : Nat, (mg_gl fr to k s).1 u = (mg_gl fr to k s).1 v ↔ ∀ X : Nat → Bool, (∀ i, i < k → s.testBit i = true → X (fr i) = X (to i)) → X u = X v := by
  intro k
  induction k with
  | zero =>
    intro u v
    constructor
    · intro h X _
      have h : u = v := h
      rw [h]
    · intro h
      have := h (fun w => decide (w = u)) (fun i hi => by omega)
      simp at this
      show u = v
      exact this.symm
  | succ k ih =>
    intro u v
    by_cases hc : s.testBit k = true ∧ (mg_gl fr to k s).1 (fr k) ≠ (mg_gl fr to k s).1 (to k)
    · simp only [mg_gl, if_pos hc]
      generalize hL : (mg_gl fr to k s).1 = L at hc ih ⊢
      obtain ⟨hb, hne⟩ := hc
      constructor
      · intro h X hX
        have hXk : ∀ i, i < k → s.testBit i = true → X (fr i) = X (to i) := fun i hi hbi => hX i (by omega) hbi
        have hXe : X (fr k) = X (to k) := hX k (by omega) hb
        by_cases h1 : L u = L (to k) <;> by_cases h2 : L v = L (to k) <;> simp [h1, h2] at h
        · rw [(ih u (to k)).mp h1 X hXk, (ih v (to k)).mp h2 X hXk]
        · rw [(ih u (to k)).mp h1 X hXk, ← hXe, (ih (fr k) v).mp h X hXk]
        · rw [(ih v (to k)).mp h2 X hXk, ← hXe, (ih u (fr k)).mp h X hXk]
        · exact (ih u v).mp h X hXk
      · intro h
        have h1 := h (fun w => decide ((if L w = L (to k) then L (fr k) else L w) = (if L u = L (to k) then L (fr k) else L u))) (fun i hi hbi => by
          by_cases hik : i = k
          · subst hik
            simp [hne]
          · have : L (fr i) = L (to i) := (ih (fr i) (to i)).mpr (fun X hX => hX i (by omega) hbi)
            simp [this])
        simp at h1
        exact h1.symm
    · simp only [mg_gl, if_neg hc]
      constructor
      · intro h X hX
        exact (ih u v).mp h X (fun i hi hbi => hX i (by omega) hbi)
      · intro h
        refine (ih u v).mpr (fun X hX => h X (fun i hi hbi => ?_))
        by_cases hik : i = k
        · subst hik
          have h2 : (mg_gl fr to i s).1 (fr i) = (mg_gl fr to i s).1 (to i) := Classical.byContradiction (fun q => hc ⟨hbi, q⟩)
          exact (ih (fr i) (to i)).mp h2 X hX
        · exact hX i (by omega) hbi
theorem mg_r_rk (n : Nat) (fr to : Nat → Nat) : mt_rk n (mg_cl n fr to) (mg_r n fr to) := by
  refine ⟨mg_gl_0 n, fun k s hk hs => ?_⟩
  have h1 : mg_gl fr to n (s ||| 2 ^ k) = mg_gl fr to (k + 1) (s ||| 2 ^ k) := mg_gl_top (by omega) (fun i g1 g2 => by
    rw [Nat.testBit_or, mt_two, mt_big hs (by omega)]; simp; omega)
  have h2 : mg_gl fr to n s = mg_gl fr to k s := mg_gl_top (by omega) (fun i g1 g2 => mt_big hs g1)
  have h3 : mg_gl fr to k (s ||| 2 ^ k) = mg_gl fr to k s := mg_gl_eq (fun i hi => by
    rw [Nat.testBit_or, mt_two]; simp; omega)
  have h4 : (s ||| 2 ^ k).testBit k = true := by rw [Nat.testBit_or, mt_two]; simp
  have h5 : (mg_gl fr to k s).1 (fr k) = (mg_gl fr to k s).1 (to k) ↔ mg_cl n fr to s k := by
    rw [mg_gl_lab]
    constructor
    · intro h X hX
      exact h X (fun i hi hb => hX i (by omega) hb)
    · intro h X hX
      exact h X (fun i hi hb => hX i (mt_lt hs hb) hb)
  unfold mg_r
  rw [h1, h2]
  simp only [mg_gl]
  rw [h3]
  constructor
  · intro hq
    rw [if_neg (fun z => z.2 (h5.mpr hq))]
  · intro hq
    rw [if_pos ⟨h4, fun z => hq (h5.mp z)⟩]
theorem mg_r_M (n : Nat) (fr to : Nat → Nat) : mt_M n (mg_r n fr to) := mt_rk_M (mg_cl_ok n fr to) (mg_r_rk n fr to)
-- how many ends at a vertex
def mg_dg (fr to : Nat → Nat) (v : Nat) : Nat → Nat → Nat
  | 0, _ => 0
  | k + 1, s => mg_dg fr to v k s + (if s.testBit k = true then (if fr k = v then 1 else 0) + (if to k = v then 1 else 0) else 0)
theorem mg_dg_eq {fr to : Nat → Nat} {v n s t : Nat} (h : ∀ i, i < n → s.testBit i = t.testBit i) : mg_dg fr to v n s = mg_dg fr to v n t := by
  induction n with
  | zero => rfl
  | succ k ih => simp only [mg_dg]; rw [ih (fun i hi => h i (by omega)), h k (by omega)]
theorem mg_dg_out {fr to : Nat → Nat} {v n s k : Nat} (hk : k < n) (hb : s.testBit k = true) : mg_dg fr to v n s = mg_dg fr to v n (s ^^^ 2 ^ k) + ((if fr k = v then 1 else 0) + (if to k = v then 1 else 0)) := by
  induction n with
  | zero => omega
  | succ n ih =>
    simp only [mg_dg, Nat.testBit_xor, mt_two]
    by_cases hq : k = n
    · subst hq
      have h0 : mg_dg fr to v k s = mg_dg fr to v k (s ^^^ 2 ^ k) := mg_dg_eq (fun i hi => by
        rw [Nat.testBit_xor, mt_two]; simp [show ¬ k = i by omega])
      rw [h0, hb]; simp
    · rw [ih (by omega)]
      simp only [hq, decide_false, Bool.xor_false]
      omega
theorem mg_dg_pos {fr to : Nat → Nat} {v n s i : Nat} (hi : i < n) (hb : s.testBit i = true) (h : fr i = v ∨ to i = v) : 1 ≤ mg_dg fr to v n s := by
  rw [mg_dg_out hi hb]
  rcases h with h | h <;> simp [h] <;> omega
theorem mg_dg_wit {fr to : Nat → Nat} {v n s : Nat} (h : 1 ≤ mg_dg fr to v n s) : ∃ i, i < n ∧ s.testBit i = true ∧ (fr i = v ∨ to i = v) := by
  induction n with
  | zero => simp [mg_dg] at h
  | succ k ih =>
    simp only [mg_dg] at h
    by_cases hq : 1 ≤ mg_dg fr to v k s
    · obtain ⟨i, h1, h2⟩ := ih hq
      exact ⟨i, by omega, h2⟩
    · cases hb : s.testBit k with
      | false => rw [hb] at h; simp at h; omega
      | true =>
        rw [hb] at h
        refine ⟨k, by omega, hb, ?_⟩
        by_cases h1 : fr k = v
        · exact Or.inl h1
        · by_cases h2 : to k = v
          · exact Or.inr h2
          · simp [h1, h2] at h; omega
def mg_pe (d fr to : Nat → Nat) : Nat → Nat → Nat
  | 0, s => s
  | k + 1, s => if (mg_pe d fr to k s).testBit k = true ∧ (d (fr k) = 1 ∨ d (to k) = 1) then mg_pe d fr to k s ^^^ 2 ^ k else mg_pe d fr to k s
theorem mg_pe_bit {d fr to : Nat → Nat} {s : Nat} : ∀ k i : Nat, (mg_pe d fr to k s).testBit i = (s.testBit i && !(decide (i < k) && (decide (d (fr i) = 1) || decide (d (to i) = 1)))) := by
  intro k
  induction k with
  | zero => intro i; simp [mg_pe]
  | succ k ih =>
    intro i
    simp only [mg_pe]
    have hk := ih k
    simp at hk
    split
    · rename_i hc
      rw [Nat.testBit_xor, mt_two, ih i]
      by_cases hik : k = i
      · subst hik
        rw [hk] at hc
        have : decide (d (fr k) = 1) || decide (d (to k) = 1) := by simpa using hc.2
        simp [hc.1, this]
      · by_cases h1 : i < k
        · simp [hik, h1, show i < k + 1 by omega]
        · simp [hik, h1, show ¬ i < k + 1 by omega]
    · rename_i hc
      rw [ih i]
      by_cases hik : k = i
      · subst hik
        rw [hk] at hc
        cases hb : s.testBit k with
        | false => simp
        | true =>
          have : ¬ (d (fr k) = 1 ∨ d (to k) = 1) := fun z => hc ⟨hb, z⟩
          have h1 : ¬ d (fr k) = 1 := fun z => this (Or.inl z)
          have h2 : ¬ d (to k) = 1 := fun z => this (Or.inr z)
          simp [h1, h2]
      · by_cases h1 : i < k
        · simp [h1, show i < k + 1 by omega]
        · simp [h1, show ¬ i < k + 1 by omega]
def mg_ro (n : Nat) (fr to : Nat → Nat) (s : Nat) : Nat := mg_pe (fun v => mg_dg fr to v n s) fr to n s
def mg_it (n : Nat) (fr to : Nat → Nat) : Nat → Nat → Nat
  | 0, s => s
  | j + 1, s => mg_ro n fr to (mg_it n fr to j s)
theorem mg_ro_bit {n : Nat} {fr to : Nat → Nat} {s i : Nat} (hi : i < n) : (mg_ro n fr to s).testBit i = true ↔ s.testBit i = true ∧ ¬ (mg_dg fr to (fr i) n s = 1 ∨ mg_dg fr to (to i) n s = 1) := by
  unfold mg_ro
  rw [mg_pe_bit]
  simp [hi]
theorem mg_ro_sb {n : Nat} {fr to : Nat → Nat} {s : Nat} : mt_sb (mg_ro n fr to s) s := by
  intro i hi
  unfold mg_ro at hi
  rw [mg_pe_bit] at hi
  simp at hi
  exact hi.1
theorem mg_sb_lt {n s t : Nat} (h : mt_sb s t) (ht : t < 2 ^ n) : s < 2 ^ n := mt_bnd (fun i hi => mt_lt ht (h i hi))
theorem mg_loose {n : Nat} {fr to : Nat → Nat} {s k v : Nat} (hk : k < n) (hb : s.testBit k = true) (hv : fr k = v ∨ to k = v) (hd : mg_dg fr to v n s = 1) : ¬ (fr k = v ∧ to k = v) ∧ ∀ i, i < n → s.testBit i = true → i ≠ k → fr i ≠ v ∧ to i ≠ v := by
  have h1 := mg_dg_out (fr := fr) (to := to) (v := v) hk hb
  rw [hd] at h1
  refine ⟨fun q => ?_, fun i hi hbi hne => ?_⟩
  · simp [q.1, q.2] at h1
  · have h2 : ¬ 1 ≤ mg_dg fr to v n (s ^^^ 2 ^ k) := by
      rcases hv with q | q <;> simp [q] at h1 <;> omega
    have hb2 : (s ^^^ 2 ^ k).testBit i = true := by
      rw [Nat.testBit_xor, mt_two, hbi]; simp; omega
    exact ⟨fun q => h2 (mg_dg_pos hi hb2 (Or.inl q)), fun q => h2 (mg_dg_pos hi hb2 (Or.inr q))⟩
theorem mg_ro_ind {n : Nat} {fr to : Nat → Nat} {s : Nat} (hs : s < 2 ^ n) : mg_r n fr to s = mt_cd n s ↔ mg_r n fr to (mg_ro n fr to s) = mt_cd n (mg_ro n fr to s) := by
  have hM := mg_r_M n fr to
  have hro := mg_sb_lt (mg_ro_sb (n := n) (fr := fr) (to := to) (s := s)) hs
  constructor
  · exact fun h => mt_ind_sub hM hro hs mg_ro_sb h
  · intro h
    have key : ∀ k, k ≤ n → mg_r n fr to (mg_ro n fr to s ||| s % 2 ^ k) = mt_cd n (mg_ro n fr to s ||| s % 2 ^ k) := by
      intro k
      induction k with
      | zero => intro _; rw [Nat.pow_zero, Nat.mod_one, Nat.or_zero]; exact h
      | succ k ih =>
        intro hk
        have h1 := ih (by omega)
        cases hb : s.testBit k with
        | false => rw [mt_mod_f hb]; exact h1
        | true =>
          rw [mt_mod_t hb, ← Nat.or_assoc]
          have hl : mg_ro n fr to s ||| s % 2 ^ k < 2 ^ n := Nat.or_lt_two_pow hro (mt_modltn s (by omega))
          have hsub : mt_sb (mg_ro n fr to s ||| s % 2 ^ k) s := by
            intro i hi
            rw [Nat.testBit_or] at hi
            cases hq : (mg_ro n fr to s).testBit i with
            | true => exact mg_ro_sb i hq
            | false => rw [hq] at hi; simp at hi; exact hi.2
          cases hq : (mg_ro n fr to s ||| s % 2 ^ k).testBit k with
          | true => rw [mt_or_in hq]; exact h1
          | false =>
            have hrk : ¬ (mg_ro n fr to s).testBit k = true := fun z => by rw [Nat.testBit_or, z] at hq; simp at hq
            have hlf : mg_dg fr to (fr k) n s = 1 ∨ mg_dg fr to (to k) n s = 1 := Classical.byContradiction fun z => hrk ((mg_ro_bit (by omega)).mpr ⟨hb, z⟩)
            have hncl : ¬ mg_cl n fr to (mg_ro n fr to s ||| s % 2 ^ k) k := by
              have gen : ∀ v, (fr k = v ∨ to k = v) → mg_dg fr to v n s = 1 → ¬ mg_cl n fr to (mg_ro n fr to s ||| s % 2 ^ k) k := by
                intro v hv hd hcl
                obtain ⟨g1, g2⟩ := mg_loose (show k < n by omega) hb hv hd
                have := hcl (fun w => decide (w = v)) (fun i hi hbi => by
                  have hne : i ≠ k := by intro z; subst z; rw [hq] at hbi; cases hbi
                  obtain ⟨q1, q2⟩ := g2 i hi (hsub i hbi) hne
                  simp [q1, q2])
                rcases hv with q | q
                · have q2 : ¬ to k = v := fun z => g1 ⟨q, z⟩
                  simp [q, q2] at this
                · have q2 : ¬ fr k = v := fun z => g1 ⟨z, q⟩
                  simp [q, q2] at this
              rcases hlf with q | q
              · exact gen _ (Or.inl rfl) q
              · exact gen _ (Or.inr rfl) q
            rw [(mt_rk_add (mg_cl_ok n fr to) (mg_r_rk n fr to) hl (by omega) hq).2 hncl, mt_cd_add (by omega) hq, h1]
    have h1 := key n (Nat.le_refl n)
    rw [mt_mod_n hs] at h1
    have h2 : mg_ro n fr to s ||| s = s := by
      apply Nat.eq_of_testBit_eq
      intro i
      rw [Nat.testBit_or]
      have := mg_ro_sb (n := n) (fr := fr) (to := to) (s := s) i
      cases h5 : (mg_ro n fr to s).testBit i <;> simp_all
    rw [h2] at h1
    exact h1
-- sums over the vertices
def mg_sm (p : Nat → Nat) : Nat → Nat
  | 0 => 0
  | k + 1 => mg_sm p k + p k
theorem mg_sm_le {p q : Nat → Nat} {m : Nat} (h : ∀ v, v < m → p v ≤ q v) : mg_sm p m ≤ mg_sm q m := by
  induction m with
  | zero => exact Nat.le_refl _
  | succ k ih => simp only [mg_sm]; have := ih (fun v hv => h v (by omega)); have := h k (by omega); omega
theorem mg_sm_eq {p q : Nat → Nat} {m : Nat} (h : ∀ v, v < m → p v = q v) : mg_sm p m = mg_sm q m := by
  induction m with
  | zero => rfl
  | succ k ih => simp only [mg_sm]; rw [ih (fun v hv => h v (by omega)), h k (by omega)]
theorem mg_sm_add (p q : Nat → Nat) (m : Nat) : mg_sm (fun v => p v + q v) m = mg_sm p m + mg_sm q m := by
  induction m with
  | zero => rfl
  | succ k ih => simp only [mg_sm]; rw [ih]; omega
theorem mg_sm_0 (m : Nat) : mg_sm (fun _ => 0) m = 0 := by
  induction m with
  | zero => rfl
  | succ k ih => simp only [mg_sm]; rw [ih]
theorem mg_sm_one {x m : Nat} (h : x < m) : mg_sm (fun v => if x = v then 1 else 0) m = 1 := by
  induction m with
  | zero => omega
  | succ k ih =>
    simp only [mg_sm]
    by_cases hq : x = k
    · subst hq
      rw [mg_sm_eq (q := fun _ => 0) (fun v hv => by simp; omega), mg_sm_0]; simp
    · rw [ih (by omega)]; simp [hq]
theorem mg_sm_dg {n s : Nat} {fr to : Nat → Nat} (hf : ∀ i, i < n → fr i < 8 ∧ to i < 8) : mg_sm (fun v => mg_dg fr to v n s) 8 = 2 * mt_cd n s := by
  induction n with
  | zero => simp only [mg_dg, mt_cd]; rw [mg_sm_0]
  | succ k ih =>
    simp only [mg_dg, mt_cd]
    rw [mg_sm_add, ih (fun i hi => hf i (by omega))]
    cases hb : s.testBit k with
    | false => simp [mg_sm_0]
    | true =>
      have e : mg_sm (fun v => if (true = true) then (if fr k = v then 1 else 0) + (if to k = v then 1 else 0) else 0) 8 = mg_sm (fun v => (if fr k = v then 1 else 0) + (if to k = v then 1 else 0)) 8 := mg_sm_eq (fun v hv => by simp)
      rw [e, mg_sm_add, mg_sm_one (hf k (by omega)).1, mg_sm_one (hf k (by omega)).2]
      simp; omega
theorem mg_reps {n s : Nat} {fr to : Nat → Nat} (hf : ∀ i, i < n → fr i < 8 ∧ to i < 8) : ∀ k, k ≤ n → (∀ v, v < 8 → (mg_gl fr to k s).1 v < 8) ∧ (∀ v, (mg_gl fr to k s).1 ((mg_gl fr to k s).1 v) = (mg_gl fr to k s).1 v) ∧ (∀ v, (mg_gl fr to k s).1 v ≠ v → 1 ≤ mg_dg fr to ((mg_gl fr to k s).1 v) n s ∧ 1 ≤ mg_dg fr to v n s) ∧ (mg_gl fr to k s).2 + mg_sm (fun v => if (mg_gl fr to k s).1 v = v then 1 else 0) 8 = 8 := by
  intro k
  induction k with
  | zero =>
    intro _
    exact ⟨fun v hv => hv, fun v => rfl, fun v h => absurd rfl h, by
      show 0 + mg_sm (fun v => if v = v then 1 else 0) 8 = 8
      simp [mg_sm]⟩
  | succ k ih =>
    intro hk
    obtain ⟨h1, h2, h3, h4⟩ := ih (by omega)
    by_cases hc : s.testBit k = true ∧ (mg_gl fr to k s).1 (fr k) ≠ (mg_gl fr to k s).1 (to k)
    · simp only [mg_gl, if_pos hc]
      generalize hL : (mg_gl fr to k s).1 = L at hc h1 h2 h3 h4 ⊢
      generalize (mg_gl fr to k s).2 = j at h4 ⊢
      obtain ⟨hb, hne⟩ := hc
      have ha : 1 ≤ mg_dg fr to (fr k) n s := mg_dg_pos (by omega) hb (Or.inl rfl)
      have hbb : 1 ≤ mg_dg fr to (to k) n s := mg_dg_pos (by omega) hb (Or.inr rfl)
      have hta : 1 ≤ mg_dg fr to (L (fr k)) n s := by
        by_cases q : L (fr k) = fr k
        · rw [q]; exact ha
        · exact (h3 _ q).1
      have htb : 1 ≤ mg_dg fr to (L (to k)) n s := by
        by_cases q : L (to k) = to k
        · rw [q]; exact hbb
        · exact (h3 _ q).1
      refine ⟨fun v hv => ?_, fun v => ?_, fun v hv => ?_, ?_⟩
      · by_cases q : L v = L (to k)
        · simp only [q, if_true]; exact h1 _ (hf k (by omega)).1
        · simp only [q, if_false]; exact h1 v hv
      · by_cases q : L v = L (to k)
        · simp only [q, if_true, h2, hne, if_false]
        · simp only [q, if_false, h2]
      · by_cases q : L v = L (to k)
        · simp only [q, if_true] at hv ⊢
          refine ⟨hta, ?_⟩
          by_cases qv : L v = v
          · rw [← qv, q]; exact htb
          · exact (h3 v qv).2
        · simp only [q, if_false] at hv ⊢
          exact h3 v hv
      · have e : mg_sm (fun v => if L v = v then 1 else 0) 8 = mg_sm (fun v => (if (if L v = L (to k) then L (fr k) else L v) = v then 1 else 0) + (if L (to k) = v then 1 else 0)) 8 := by
          apply mg_sm_eq
          intro v hv
          by_cases q : L v = L (to k)
          · simp only [q, if_true]
            have q2 : ¬ L (fr k) = v := by
              intro z
              apply hne
              rw [← q, ← z, h2]
            by_cases q3 : L (to k) = v
            · simp [q2, q3]
            · simp [q2, q3]
          · simp only [q, if_false]
            have q3 : ¬ L (to k) = v := by
              intro z
              apply q
              rw [← z, h2]
            simp [q3]
        rw [e, mg_sm_add, mg_sm_one (h1 _ (hf k (by omega)).2)] at h4
        omega
    · simp only [mg_gl, if_neg hc]
      exact ⟨h1, h2, h3, h4⟩
theorem mg_ring {n s : Nat} {fr to : Nat → Nat} (hf : ∀ i, i < n → fr i < 8 ∧ to i < 8) (hs : s < 2 ^ n) (h0 : s ≠ 0) (hfix : mg_ro n fr to s = s) : mg_r n fr to s < mt_cd n s := by
  obtain ⟨h1, h2, h3, h4⟩ := mg_reps (s := s) hf n (Nat.le_refl n)
  unfold mg_r
  generalize (mg_gl fr to n s).1 = L at h1 h2 h3 h4
  generalize (mg_gl fr to n s).2 = j at h4 ⊢
  obtain ⟨i, hi⟩ := Nat.exists_testBit_of_ne_zero h0
  have hi : s.testBit i = true := hi
  have hin := mt_lt hs hi
  have ht : 1 ≤ mg_dg fr to (fr i) n s := mg_dg_pos hin hi (Or.inl rfl)
  have hg : 1 ≤ mg_dg fr to (L (fr i)) n s := by
    by_cases q : L (fr i) = fr i
    · rw [q]; exact ht
    · exact (h3 _ q).1
  have hg8 : L (fr i) < 8 := h1 _ (hf i hin).1
  have s1 := mg_sm_dg (s := s) hf
  have s2 : mg_sm (fun v => (if 1 ≤ mg_dg fr to v n s then 1 else 0) + (if 1 ≤ mg_dg fr to v n s then 1 else 0)) 8 ≤ mg_sm (fun v => mg_dg fr to v n s) 8 := by
    apply mg_sm_le
    intro v hv
    by_cases q : 1 ≤ mg_dg fr to v n s
    · simp only [q, if_true]
      obtain ⟨e, e1, e2, e3⟩ := mg_dg_wit q
      have e4 : (mg_ro n fr to s).testBit e = true := by rw [hfix]; exact e2
      have e5 := ((mg_ro_bit e1).mp e4).2
      have e6 : ¬ mg_dg fr to v n s = 1 := by
        rcases e3 with z | z
        · rw [← z]; exact fun w => e5 (Or.inl w)
        · rw [← z]; exact fun w => e5 (Or.inr w)
      omega
    · simp [q]
  have s3 : mg_sm (fun v => (if 1 ≤ mg_dg fr to v n s then 0 else 1) + (if L (fr i) = v then 1 else 0)) 8 ≤ mg_sm (fun v => if L v = v then 1 else 0) 8 := by
    apply mg_sm_le
    intro v hv
    by_cases q : 1 ≤ mg_dg fr to v n s
    · by_cases q2 : L (fr i) = v
      · have : L v = v := by rw [← q2, h2]
        simp [q, q2, this]
      · simp [q, q2]
    · have q3 : L v = v := Classical.byContradiction fun z => q (h3 v z).2
      have q2 : ¬ L (fr i) = v := fun z => q (by rw [← z]; exact hg)
      simp [q, q2, q3]
  have s4 : mg_sm (fun v => (if 1 ≤ mg_dg fr to v n s then 1 else 0) + (if 1 ≤ mg_dg fr to v n s then 0 else 1)) 8 = 8 := by
    rw [mg_sm_eq (q := fun _ => 1) (fun v hv => by by_cases q : 1 ≤ mg_dg fr to v n s <;> simp [q])]
    decide
  rw [mg_sm_add] at s2 s3 s4
  rw [mg_sm_one hg8] at s3
  omega
theorem mg_ind {n s : Nat} {fr to : Nat → Nat} (hf : ∀ i, i < n → fr i < 8 ∧ to i < 8) (hs : s < 2 ^ n) : mg_r n fr to s = mt_cd n s ↔ mg_it n fr to (n + 1) s = 0 := by
  have lt : ∀ j, mg_it n fr to j s < 2 ^ n := by
    intro j
    induction j with
    | zero => exact hs
    | succ j ih => exact mg_sb_lt mg_ro_sb ih
  have eqv : ∀ j, mg_r n fr to s = mt_cd n s ↔ mg_r n fr to (mg_it n fr to j s) = mt_cd n (mg_it n fr to j s) := by
    intro j
    induction j with
    | zero => exact Iff.rfl
    | succ j ih => exact ih.trans (mg_ro_ind (lt j))
  have fall : ∀ j, mt_cd n (mg_it n fr to j s) + j ≤ n ∨ mg_ro n fr to (mg_it n fr to j s) = mg_it n fr to j s := by
    intro j
    induction j with
    | zero => exact Or.inl (mt_cd_le n _)
    | succ j ih =>
      by_cases q : mg_ro n fr to (mg_it n fr to j s) = mg_it n fr to j s
      · refine Or.inr ?_
        show mg_ro n fr to (mg_ro n fr to (mg_it n fr to j s)) = mg_ro n fr to (mg_it n fr to j s)
        rw [q, q]
      · have h1 := ih.resolve_right q
        refine Or.inl ?_
        show mt_cd n (mg_ro n fr to (mg_it n fr to j s)) + (j + 1) ≤ n
        have h2 : ¬ mt_cd n (mg_it n fr to j s) ≤ mt_cd n (mg_ro n fr to (mg_it n fr to j s)) := fun z => q (mt_sb_eq (lt (j + 1)) (lt j) mg_ro_sb z)
        omega
  rw [eqv (n + 1)]
  have hfx := (fall (n + 1)).resolve_left (by omega)
  constructor
  · intro h
    refine Classical.byContradiction fun q => ?_
    have := mg_ring hf (lt (n + 1)) q hfx
    omega
  · intro h
    rw [h, mt_cd_0]
    exact (mg_r_M n fr to).1
