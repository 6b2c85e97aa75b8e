/-! The linear kind: columns of four numbers modulo p; crosswise elimination counts the rank; the minors tell the independent sets. -/
def ml_pr (p : Int) : Prop := ¬ p ∣ 1 ∧ ∀ a b : Int, p ∣ a * b → p ∣ a ∨ p ∣ b
def ml_dt (f x : Nat → Int) : Int := f 0 * x 0 + f 1 * x 1 + f 2 * x 2 + f 3 * x 3
def ml_cl (n : Nat) (p : Int) (col : Nat → Nat → Int) (s e : Nat) : Prop := ∀ f : Nat → Int, (∀ i, i < n → s.testBit i = true → p ∣ ml_dt f (col i)) → p ∣ ml_dt f (col e)
theorem ml_c1 {p a : Int} (h : p ∣ a) (x : Int) : p ∣ x * a := Int.dvd_trans h (Int.dvd_mul_left _ _)
theorem ml_c2 {p a b : Int} (h1 : p ∣ a) (h2 : p ∣ b) (x y : Int) : p ∣ x * a + y * b := Int.dvd_add (ml_c1 h1 x) (ml_c1 h2 y)
theorem ml_cl_ok {n : Nat} {p : Int} (hp : ml_pr p) (col : Nat → Nat → Int) : mt_cl n (ml_cl n p col) := by
  have grow : ∀ (s e : Nat) (X : Nat → Int), (∀ i, i < n → s.testBit i = true → p ∣ ml_dt X (col i)) → p ∣ ml_dt X (col e) → ∀ i, i < n → (s ||| 2 ^ e).testBit i = true → p ∣ ml_dt X (col i) := by
    intro s e X h1 h2 i hi hb
    rw [Nat.testBit_or, mt_two] at hb
    by_cases hq : e = i
    · subst hq; exact h2
    · simp [hq] at hb; exact h1 i hi hb
  refine ⟨fun s t e hs ht he hst h X hX => h X (fun i hi hb => hX i hi (hst i hb)), fun s e f hs he hf h1 h2 X hX => h2 X (grow s e X hX (h1 X hX)), fun s e f hs he hf h1 h2 X hX => ?_⟩
  have hXs : ∀ i, i < n → s.testBit i = true → p ∣ ml_dt X (col i) := fun i hi hb => hX i hi (mt_sb_orl s _ i hb)
  have hXf : p ∣ ml_dt X (col f) := hX f hf (by rw [Nat.testBit_or, mt_two]; simp)
  refine Classical.byContradiction fun hXe => ?_
  obtain ⟨Y, hY⟩ := Classical.not_forall.mp h2
  have hYs : ∀ i, i < n → s.testBit i = true → p ∣ ml_dt Y (col i) := Classical.byContradiction (fun q => hY (fun z => absurd z q))
  have hYf : ¬ p ∣ ml_dt Y (col f) := fun q => hY (fun _ => q)
  have comb : ∀ x : Nat → Int, ml_dt (fun j => ml_dt Y (col e) * X j - ml_dt X (col e) * Y j) x = ml_dt Y (col e) * ml_dt X x + (-ml_dt X (col e)) * ml_dt Y x := by
    intro x
    generalize ml_dt Y (col e) = a
    generalize ml_dt X (col e) = b
    unfold ml_dt
    grind
  have h3 := h1 (fun j => ml_dt Y (col e) * X j - ml_dt X (col e) * Y j) (grow s e (fun j => ml_dt Y (col e) * X j - ml_dt X (col e) * Y j) (fun i hi hb => by
    rw [comb]
    exact ml_c2 (hXs i hi hb) (hYs i hi hb) _ _) (by
    rw [comb]
    have : ml_dt Y (col e) * ml_dt X (col e) + -ml_dt X (col e) * ml_dt Y (col e) = 0 := by grind
    rw [this]
    exact Int.dvd_zero p))
  rw [comb] at h3
  have h4 : p ∣ ml_dt X (col e) * ml_dt Y (col f) := by
    have h5 := ml_c2 h3 hXf (-1) (ml_dt Y (col e))
    have e5 : -1 * (ml_dt Y (col e) * ml_dt X (col f) + -ml_dt X (col e) * ml_dt Y (col f)) + ml_dt Y (col e) * ml_dt X (col f) = ml_dt X (col e) * ml_dt Y (col f) := by grind
    rw [e5] at h5
    exact h5
  rcases hp.2 _ _ h4 with q | q
  · exact hXe q
  · exact hYf q
noncomputable def ml_gk (cl : Nat → Nat → Prop) : Nat → Nat → Nat
  | 0, _ => 0
  | k + 1, s => ml_gk cl k s + @ite Nat (s.testBit k = true ∧ ¬ cl (s % 2 ^ k) k) (Classical.propDecidable _) 1 0
theorem ml_gk_f {cl : Nat → Nat → Prop} {k s : Nat} (h : s.testBit k = false) : ml_gk cl (k + 1) s = ml_gk cl k s := by
  simp only [ml_gk]
  rw [if_neg (fun z => by rw [h] at z; cases z.1), Nat.add_zero]
theorem ml_gk_y {cl : Nat → Nat → Prop} {k s : Nat} (h : cl (s % 2 ^ k) k) : ml_gk cl (k + 1) s = ml_gk cl k s := by
  simp only [ml_gk]
  rw [if_neg (fun z => z.2 h), Nat.add_zero]
theorem ml_gk_n {cl : Nat → Nat → Prop} {k s : Nat} (hb : s.testBit k = true) (h : ¬ cl (s % 2 ^ k) k) : ml_gk cl (k + 1) s = ml_gk cl k s + 1 := by
  simp only [ml_gk]
  rw [if_pos ⟨hb, h⟩]
theorem ml_gk_eq {cl : Nat → Nat → Prop} {k s t : Nat} (h : ∀ i, i < k → s.testBit i = t.testBit i) : ml_gk cl k s = ml_gk cl k t := by
  induction k with
  | zero => rfl
  | succ k ih =>
    have e : s % 2 ^ k = t % 2 ^ k := by
      refine mt_ex (mt_modlt s k) (mt_modlt t k) fun i hi => ?_
      rw [Nat.testBit_mod_two_pow, Nat.testBit_mod_two_pow, h i (by omega)]
    simp only [ml_gk]
    rw [ih (fun i hi => h i (by omega)), h k (by omega), e]
theorem ml_gk_top {cl : Nat → Nat → Prop} {k n s : Nat} (hk : k ≤ n) (h : ∀ i, k ≤ i → i < n → s.testBit i = false) : ml_gk cl n s = ml_gk cl k s := by
  induction n with
  | zero => have : k = 0 := by omega
            subst this; rfl
  | succ n ih =>
    by_cases hq : k = n + 1
    · subst hq; rfl
    · rw [← ih (by omega) (fun i h1 h2 => h i h1 (by omega)), ml_gk_f (h n (by omega) (by omega))]
theorem ml_gk_0 {cl : Nat → Nat → Prop} (k : Nat) : ml_gk cl k 0 = 0 := by
  induction k with
  | zero => rfl
  | succ k ih => rw [ml_gk_f (by simp), ih]
theorem ml_gk_le {cl : Nat → Nat → Prop} (k s : Nat) : ml_gk cl k s ≤ mt_cd k s := by
  induction k with
  | zero => exact Nat.le_refl _
  | succ k ih =>
    simp only [mt_cd]
    cases hb : s.testBit k with
    | false => rw [ml_gk_f hb]; simp; exact ih
    | true =>
      by_cases hc : cl (s % 2 ^ k) k
      · rw [ml_gk_y hc]; simp; omega
      · rw [ml_gk_n hb hc]; simp; exact ih
theorem ml_gk_rk (n : Nat) (cl : Nat → Nat → Prop) : mt_rk n cl (ml_gk cl n) := by
  refine ⟨ml_gk_0 n, fun k s hk hs => ?_⟩
  have h1 : ml_gk cl n (s ||| 2 ^ k) = ml_gk cl (k + 1) (s ||| 2 ^ k) := ml_gk_top (by omega) (fun i g1 g2 => by
    rw [Nat.testBit_or, mt_two, mt_big hs (by omega)]; simp; omega)
  have h2 : ml_gk cl n s = ml_gk cl k s := ml_gk_top (by omega) (fun i g1 g2 => mt_big hs g1)
  have h3 : ml_gk cl k (s ||| 2 ^ k) = ml_gk cl k s := ml_gk_eq (fun i hi => by
    rw [Nat.testBit_or, mt_two]; simp; omega)
  have h4 : (s ||| 2 ^ k).testBit k = true := by rw [Nat.testBit_or, mt_two]; simp
  have h5 : (s ||| 2 ^ k) % 2 ^ k = s := by
    refine mt_ex (mt_modlt _ k) hs fun i hi => ?_
    rw [Nat.testBit_mod_two_pow, Nat.testBit_or, mt_two]; simp [hi]; omega
  rw [h1, h2, ← h3]
  exact ⟨fun q => ml_gk_y (by rw [h5]; exact q), fun q => ml_gk_n h4 (by rw [h5]; exact q)⟩
noncomputable def ml_r (n : Nat) (p : Int) (col : Nat → Nat → Int) : Nat → Nat := ml_gk (ml_cl n p col) n
theorem ml_r_M {n : Nat} {p : Int} (hp : ml_pr p) (col : Nat → Nat → Int) : mt_M n (ml_r n p col) := mt_rk_M (ml_cl_ok hp col) (ml_gk_rk n _)
-- the minors
def ml_sg (Q r : Nat) : Int := if Q.testBit r = true then (if mt_cd 4 (Q >>> (r + 1)) % 2 = 0 then 1 else -1) else 0
def ml_wj (x m : Nat → Int) (Q : Nat) : Int := ml_sg Q 0 * x 0 * m (Q ^^^ 2 ^ 0) + ml_sg Q 1 * x 1 * m (Q ^^^ 2 ^ 1) + ml_sg Q 2 * x 2 * m (Q ^^^ 2 ^ 2) + ml_sg Q 3 * x 3 * m (Q ^^^ 2 ^ 3)
def ml_mn (p : Int) (col : Nat → Nat → Int) : Nat → Nat → Nat → Int
  | 0, _ => fun Q => if Q = 0 then 1 else 0
  | k + 1, s => if s.testBit k = true then fun Q => ml_wj (col k) (ml_mn p col k s) Q % p else ml_mn p col k s
def ml_dm (P Q : Nat) : Prop := mt_cd 4 P ≤ mt_cd 4 Q ∧ mt_cd 4 (P >>> 1) ≤ mt_cd 4 (Q >>> 1) ∧ mt_cd 4 (P >>> 2) ≤ mt_cd 4 (Q >>> 2) ∧ mt_cd 4 (P >>> 3) ≤ mt_cd 4 (Q >>> 3)
def ml_dmb (P Q : Nat) : Bool := decide (mt_cd 4 P ≤ mt_cd 4 Q) && decide (mt_cd 4 (P >>> 1) ≤ mt_cd 4 (Q >>> 1)) && decide (mt_cd 4 (P >>> 2) ≤ mt_cd 4 (Q >>> 2)) && decide (mt_cd 4 (P >>> 3) ≤ mt_cd 4 (Q >>> 3))
theorem ml_dmi (P Q : Nat) : ml_dm P Q ↔ ml_dmb P Q = true := by
  unfold ml_dm ml_dmb
  simp [and_assoc]
theorem ml_d1t : (List.range 16).all (fun P => (List.range 16).all fun Q => (List.range 4).all fun l => (List.range 4).all fun r => (P.testBit l || !(Q.testBit r) || decide (r < l) || !(ml_dmb P (Q ^^^ 2 ^ r)) || ml_dmb (P ||| 2 ^ l) Q)) = true := by decide +kernel
theorem ml_d1 (P : Nat) (hP : P < 16) (Q : Nat) (hQ : Q < 16) (l : Nat) (hl : l < 4) (r : Nat) (hr : r < 4) (h1 : P.testBit l = false) (h2 : Q.testBit r = true) (h3 : l ≤ r) (h4 : ml_dmb P (Q ^^^ 2 ^ r) = true) : ml_dmb (P ||| 2 ^ l) Q = true := by
  have h := List.all_eq_true.mp (List.all_eq_true.mp (List.all_eq_true.mp (List.all_eq_true.mp ml_d1t P (List.mem_range.mpr hP)) Q (List.mem_range.mpr hQ)) l (List.mem_range.mpr hl)) r (List.mem_range.mpr hr)
  rw [h1, h2, h4] at h
  simp [show ¬ r < l by omega] at h
  exact h
theorem ml_d2c : ∀ P, P < 16 → ∀ l, l < 4 → ∀ r, r < 4 → (P.testBit l = false ∧ P.testBit r = true ∧ l < r) → ml_dmb P ((P ||| 2 ^ l) ^^^ 2 ^ r) = false := by decide +kernel
theorem ml_d2 (P : Nat) (hP : P < 16) (l : Nat) (hl : l < 4) (r : Nat) (hr : r < 4) (h1 : P.testBit l = false) (h2 : P.testBit r = true) (h3 : l < r) : ml_dmb P ((P ||| 2 ^ l) ^^^ 2 ^ r) = false := ml_d2c P hP l hl r hr ⟨h1, h2, h3⟩
theorem ml_d3 : ∀ P, P < 16 → ∀ l, l < 4 → P.testBit l = false → (P ||| 2 ^ l) ^^^ 2 ^ l = P ∧ P ||| 2 ^ l < 16 ∧ mt_cd 4 (P ||| 2 ^ l) = mt_cd 4 P + 1 := by decide +kernel
theorem ml_d4 : ∀ Q, Q < 16 → ∀ r, r < 4 → Q ^^^ 2 ^ r < 16 := by decide +kernel
theorem ml_sgv (Q r : Nat) : (Q.testBit r = true → ml_sg Q r = 1 ∨ ml_sg Q r = -1) ∧ (Q.testBit r = false → ml_sg Q r = 0) := by
  unfold ml_sg
  constructor
  · intro h
    simp only [h, if_true]
    split
    · exact Or.inl rfl
    · exact Or.inr rfl
  · intro h
    simp [h]
theorem ml_16 {P : Nat → Prop} (h : P 0 ∧ P 1 ∧ P 2 ∧ P 3 ∧ P 4 ∧ P 5 ∧ P 6 ∧ P 7 ∧ P 8 ∧ P 9 ∧ P 10 ∧ P 11 ∧ P 12 ∧ P 13 ∧ P 14 ∧ P 15) {Q : Nat} (hQ : Q < 16) : P Q := by
  obtain ⟨h0, h1, h2, h3, h4, h5, h6, h7, h8, h9, h10, h11, h12, h13, h14, h15⟩ := h
  have : Q = 0 ∨ Q = 1 ∨ Q = 2 ∨ Q = 3 ∨ Q = 4 ∨ Q = 5 ∨ Q = 6 ∨ Q = 7 ∨ Q = 8 ∨ Q = 9 ∨ Q = 10 ∨ Q = 11 ∨ Q = 12 ∨ Q = 13 ∨ Q = 14 ∨ Q = 15 := by omega
  rcases this with q | q | q | q | q | q | q | q | q | q | q | q | q | q | q | q <;> subst q <;> assumption
/-- the coefficients of a minor, as a number of the last column -/
def ml_ph (m : Nat → Int) (Q : Nat) : Nat → Int := fun r => ml_sg Q r * m (Q ^^^ 2 ^ r)
theorem ml_ph_dt (m x : Nat → Int) (Q : Nat) : ml_dt (ml_ph m Q) x = ml_wj x m Q := by
  unfold ml_dt ml_ph ml_wj
  rw [Int.mul_right_comm (ml_sg Q 0), Int.mul_right_comm (ml_sg Q 1), Int.mul_right_comm (ml_sg Q 2), Int.mul_right_comm (ml_sg Q 3)]
theorem ml_sgt : (List.range 16).all (fun Q => (List.range 4).all fun r => (List.range 4).all fun t => ml_sg Q r * ml_sg (Q ^^^ 2 ^ r) t == - (ml_sg Q t * ml_sg (Q ^^^ 2 ^ t) r)) = true := by decide +kernel
theorem ml_sga {Q r t : Nat} (hQ : Q < 16) (hr : r < 4) (ht : t < 4) : ml_sg Q r * ml_sg (Q ^^^ 2 ^ r) t = - (ml_sg Q t * ml_sg (Q ^^^ 2 ^ t) r) := by
  have h := ml_sgt
  rw [List.all_eq_true] at h
  have h1 := h Q (List.mem_range.mpr hQ)
  rw [List.all_eq_true] at h1
  have h2 := h1 r (List.mem_range.mpr hr)
  rw [List.all_eq_true] at h2
  have h3 := h2 t (List.mem_range.mpr ht)
  exact eq_of_beq h3
theorem ml_key {Q r t : Nat} (hQ : Q < 16) (hr : r < 4) (ht : t < 4) (x y m : Nat → Int) : ml_sg Q r * y r * (ml_sg (Q ^^^ 2 ^ r) t * x t * m (Q ^^^ 2 ^ r ^^^ 2 ^ t)) = -(ml_sg Q t * x t * (ml_sg (Q ^^^ 2 ^ t) r * y r * m (Q ^^^ 2 ^ t ^^^ 2 ^ r))) := by
  have e : Q ^^^ 2 ^ r ^^^ 2 ^ t = Q ^^^ 2 ^ t ^^^ 2 ^ r := by rw [Nat.xor_assoc, Nat.xor_comm (2 ^ r), ← Nat.xor_assoc]
  have h := ml_sga hQ hr ht
  rw [e]
  generalize m (Q ^^^ 2 ^ t ^^^ 2 ^ r) = mm
  generalize x t = xt
  generalize y r = yr
  have e1 : ml_sg Q r * yr * (ml_sg (Q ^^^ 2 ^ r) t * xt * mm) = (ml_sg Q r * ml_sg (Q ^^^ 2 ^ r) t) * (xt * yr * mm) := by grind
  have e2 : ml_sg Q t * xt * (ml_sg (Q ^^^ 2 ^ t) r * yr * mm) = (ml_sg Q t * ml_sg (Q ^^^ 2 ^ t) r) * (xt * yr * mm) := by grind
  rw [e1, e2, h, Int.neg_mul]
theorem ml_anti {Q : Nat} (hQ : Q < 16) (x y m : Nat → Int) : ml_wj y (ml_wj x m) Q = - ml_wj x (ml_wj y m) Q := by
  have k00 := ml_key hQ (r := 0) (t := 0) (by omega) (by omega) x y m
  have k01 := ml_key hQ (r := 0) (t := 1) (by omega) (by omega) x y m
  have k02 := ml_key hQ (r := 0) (t := 2) (by omega) (by omega) x y m
  have k03 := ml_key hQ (r := 0) (t := 3) (by omega) (by omega) x y m
  have k10 := ml_key hQ (r := 1) (t := 0) (by omega) (by omega) x y m
  have k11 := ml_key hQ (r := 1) (t := 1) (by omega) (by omega) x y m
  have k12 := ml_key hQ (r := 1) (t := 2) (by omega) (by omega) x y m
  have k13 := ml_key hQ (r := 1) (t := 3) (by omega) (by omega) x y m
  have k20 := ml_key hQ (r := 2) (t := 0) (by omega) (by omega) x y m
  have k21 := ml_key hQ (r := 2) (t := 1) (by omega) (by omega) x y m
  have k22 := ml_key hQ (r := 2) (t := 2) (by omega) (by omega) x y m
  have k23 := ml_key hQ (r := 2) (t := 3) (by omega) (by omega) x y m
  have k30 := ml_key hQ (r := 3) (t := 0) (by omega) (by omega) x y m
  have k31 := ml_key hQ (r := 3) (t := 1) (by omega) (by omega) x y m
  have k32 := ml_key hQ (r := 3) (t := 2) (by omega) (by omega) x y m
  have k33 := ml_key hQ (r := 3) (t := 3) (by omega) (by omega) x y m
  unfold ml_wj
  simp only [Int.mul_add]
  rw [k00, k01, k02, k03, k10, k11, k12, k13, k20, k21, k22, k23, k30, k31, k32, k33]
  simp only [Int.neg_add]
  ac_rfl
theorem ml_wj_lin {p : Int} {x m m' : Nat → Int} (h : ∀ Q, Q < 16 → p ∣ m Q - m' Q) {Q : Nat} (hQ : Q < 16) : p ∣ ml_wj x m Q - ml_wj x m' Q := by
  have h0 := h _ (ml_d4 Q hQ 0 (by omega))
  have h1 := h _ (ml_d4 Q hQ 1 (by omega))
  have h2 := h _ (ml_d4 Q hQ 2 (by omega))
  have h3 := h _ (ml_d4 Q hQ 3 (by omega))
  have e : ml_wj x m Q - ml_wj x m' Q = (ml_sg Q 0 * x 0 * (m (Q ^^^ 2 ^ 0) - m' (Q ^^^ 2 ^ 0)) + ml_sg Q 1 * x 1 * (m (Q ^^^ 2 ^ 1) - m' (Q ^^^ 2 ^ 1))) + (ml_sg Q 2 * x 2 * (m (Q ^^^ 2 ^ 2) - m' (Q ^^^ 2 ^ 2)) + ml_sg Q 3 * x 3 * (m (Q ^^^ 2 ^ 3) - m' (Q ^^^ 2 ^ 3))) := by
    unfold ml_wj
    simp only [Int.mul_sub]
    omega
  rw [e]
  exact Int.dvd_add (ml_c2 h0 h1 _ _) (ml_c2 h2 h3 _ _)
theorem ml_wj_0 {p : Int} {x m : Nat → Int} (h : ∀ Q, Q < 16 → p ∣ m Q) {Q : Nat} (hQ : Q < 16) : p ∣ ml_wj x m Q := by
  have h0 := h _ (ml_d4 Q hQ 0 (by omega))
  have h1 := h _ (ml_d4 Q hQ 1 (by omega))
  have h2 := h _ (ml_d4 Q hQ 2 (by omega))
  have h3 := h _ (ml_d4 Q hQ 3 (by omega))
  unfold ml_wj
  exact Int.dvd_add (Int.dvd_add (Int.dvd_add (ml_c1 h0 _) (ml_c1 h1 _)) (ml_c1 h2 _)) (ml_c1 h3 _)
-- elimination
def ml_E (p : Int) (piv : Nat → Nat → Int) (x rest : Nat → Int) : Prop := ∃ A : Int, ¬ p ∣ A ∧ ∀ f : Nat → Int, (∀ l, l < 4 → piv l l ≠ 0 → p ∣ ml_dt f (piv l)) → p ∣ ml_dt f rest - A * ml_dt f x
def ml_L (p : Int) (piv : Nat → Nat → Int) (x : Nat → Int) (k : Nat) (rest : Nat → Int) : Prop := (∀ i, i < 4 → 0 ≤ rest i ∧ rest i < p) ∧ (∀ i, i < k → rest i = 0) ∧ ml_E p piv x rest
theorem ml_L_0 {p : Int} (hp : ml_pr p) {piv : Nat → Nat → Int} {x rest : Nat → Int} (hx : ∀ i, i < 4 → 0 ≤ x i ∧ x i < p) (he : ∀ i, i < 4 → rest i = x i) : ml_L p piv x 0 rest := by
  refine ⟨fun i hi => by rw [he i hi]; exact hx i hi, fun i hi => by omega, 1, hp.1, fun f _ => ?_⟩
  have : ml_dt f rest - 1 * ml_dt f x = 0 := by
    unfold ml_dt
    rw [he 0 (by omega), he 1 (by omega), he 2 (by omega), he 3 (by omega)]
    omega
  rw [this]
  exact Int.dvd_zero p
theorem ml_L_z {p : Int} {piv : Nat → Nat → Int} {x rest : Nat → Int} {k : Nat} (h : ml_L p piv x k rest) (hz : rest k = 0) : ml_L p piv x (k + 1) rest :=
  ⟨h.1, fun i hi => by
    by_cases q : i = k
    · rw [q]; exact hz
    · exact h.2.1 i (by omega), h.2.2⟩
theorem ml_L_c {p : Int} (hp : ml_pr p) (h0 : 0 < p) {piv : Nat → Nat → Int} {x rest rest' : Nat → Int} {k : Nat} (hk : k < 4) (h : ml_L p piv x k rest) (hd : piv k k ≠ 0) (hr : 0 ≤ piv k k ∧ piv k k < p) (hz : ∀ i, i < k → piv k i = 0)
    (h' : ∀ i, i < 4 → rest' i = if k ≤ i then (rest i * piv k k - piv k i * rest k) % p else rest i) : ml_L p piv x (k + 1) rest' := by
  obtain ⟨a1, a2, A, a3, a4⟩ := h
  have hcong : ∀ i, i < 4 → p ∣ rest' i - (piv k k * rest i - rest k * piv k i) := by
    intro i hi
    rw [h' i hi]
    by_cases q : k ≤ i
    · rw [if_pos q]
      have e : rest i * piv k k - piv k i * rest k = piv k k * rest i - rest k * piv k i := by rw [Int.mul_comm (rest i), Int.mul_comm (piv k i)]
      rw [e]
      generalize piv k k * rest i - rest k * piv k i = z
      have := Int.emod_add_mul_ediv z p
      exact ⟨-(z / p), by rw [Int.mul_neg]; omega⟩
    · rw [if_neg q, a2 i (by omega), hz i (by omega)]
      simp
  refine ⟨fun i hi => ?_, fun i hi => ?_, piv k k * A, ?_, fun f hf => ?_⟩
  · rw [h' i hi]
    by_cases q : k ≤ i
    · rw [if_pos q]
      exact ⟨Int.emod_nonneg _ (by omega), Int.emod_lt_of_pos _ h0⟩
    · rw [if_neg q]; exact a1 i hi
  · rw [h' i (by omega)]
    by_cases q : k ≤ i
    · have : i = k := by omega
      subst this
      rw [if_pos q, Int.mul_comm (rest i), Int.sub_self, Int.zero_emod]
    · rw [if_neg q]; exact a2 i (by omega)
  · intro q
    rcases hp.2 _ _ q with z | z
    · obtain ⟨c, hc⟩ := z
      have : c = 0 ∨ c ≤ -1 ∨ 1 ≤ c := by omega
      rcases this with w | w | w
      · rw [w] at hc; simp at hc; exact hd hc
      · have : p * c ≤ p * (-1) := Int.mul_le_mul_of_nonneg_left w (by omega)
        omega
      · have : p * 1 ≤ p * c := Int.mul_le_mul_of_nonneg_left w (by omega)
        omega
    · exact a3 z
  · have g1 := a4 f hf
    have g2 := hf k hk hd
    have c0 := hcong 0 (by omega)
    have c1 := hcong 1 (by omega)
    have c2 := hcong 2 (by omega)
    have c3 := hcong 3 (by omega)
    have s1 := Int.dvd_add (ml_c2 c0 c1 (f 0) (f 1)) (ml_c2 c2 c3 (f 2) (f 3))
    have s2 := ml_c2 g1 g2 (piv k k) (-rest k)
    have s3 := Int.dvd_add s1 s2
    have e : ml_dt f rest' - piv k k * A * ml_dt f x = f 0 * (rest' 0 - (piv k k * rest 0 - rest k * piv k 0)) + f 1 * (rest' 1 - (piv k k * rest 1 - rest k * piv k 1)) + (f 2 * (rest' 2 - (piv k k * rest 2 - rest k * piv k 2)) + f 3 * (rest' 3 - (piv k k * rest 3 - rest k * piv k 3))) + (piv k k * (ml_dt f rest - A * ml_dt f x) + -rest k * ml_dt f (piv k)) := by
      generalize ml_dt f x = X
      unfold ml_dt
      grind
    rw [e]
    exact s3
theorem ml_L_4 {p : Int} (hp : ml_pr p) {piv : Nat → Nat → Int} {x rest : Nat → Int} (h : ml_L p piv x 4 rest) (f : Nat → Int) (hf : ∀ l, l < 4 → piv l l ≠ 0 → p ∣ ml_dt f (piv l)) : p ∣ ml_dt f x := by
  obtain ⟨-, a2, A, a3, a4⟩ := h
  have g := a4 f hf
  have e : ml_dt f rest = 0 := by
    unfold ml_dt
    rw [a2 0 (by omega), a2 1 (by omega), a2 2 (by omega), a2 3 (by omega)]
    simp
  rw [e] at g
  have g2 : p ∣ A * ml_dt f x := by
    obtain ⟨c, hc⟩ := g
    exact ⟨-c, by rw [Int.mul_neg]; omega⟩
  rcases hp.2 _ _ g2 with q | q
  · exact absurd q a3
  · exact q
/-- the state of the counting: pivots, and beside them the minors of the chosen columns -/
def ml_G (n : Nat) (p : Int) (col : Nat → Nat → Int) (s k : Nat) (piv : Nat → Nat → Int) (found : Nat) : Prop :=
  ∃ (m : Nat → Int) (P : Nat), P < 16 ∧ mt_cd 4 P = found ∧ ml_gk (ml_cl n p col) k s = found ∧
    (∀ l, l < 4 → (P.testBit l = true ↔ piv l l ≠ 0)) ∧
    (∀ l, l < 4 → P.testBit l = true → (∀ i, i < l → piv l i = 0) ∧ ∀ i, i < 4 → 0 ≤ piv l i ∧ piv l i < p) ∧
    (∀ f : Nat → Int, (∀ i, i < k → s.testBit i = true → p ∣ ml_dt f (col i)) → ∀ l, l < 4 → P.testBit l = true → p ∣ ml_dt f (piv l)) ∧
    (∀ i, i < k → s.testBit i = true → ∀ Q, Q < 16 → p ∣ ml_wj (col i) m Q) ∧
    ¬ p ∣ m P ∧ (∀ Q, Q < 16 → ¬ p ∣ m Q → ml_dmb P Q = true) ∧
    (ml_gk (ml_cl n p col) k s = mt_cd k s → ∀ Q, Q < 16 → p ∣ m Q - ml_mn p col k s Q) ∧
    (ml_gk (ml_cl n p col) k s < mt_cd k s → ∀ Q, Q < 16 → p ∣ ml_mn p col k s Q)
theorem ml_G_0 {n : Nat} {p : Int} (hp : ml_pr p) (col : Nat → Nat → Int) (s : Nat) {piv : Nat → Nat → Int} (hz : ∀ l, l < 4 → piv l l = 0) : ml_G n p col s 0 piv 0 := by
  refine ⟨fun Q => if Q = 0 then 1 else 0, 0, by omega, by decide, rfl, fun l hl => ?_, fun l hl h => by simp at h, fun f _ l hl h => by simp at h, fun i hi => by omega, ?_, fun Q hQ h => ?_, fun _ Q hQ => ?_, fun h => by simp [ml_gk, mt_cd] at h⟩
  · simp [hz l hl]
  · simp; exact hp.1
  · by_cases q : Q = 0
    · subst q; decide
    · simp [q] at h
  · have : (if Q = 0 then (1 : Int) else 0) - ml_mn p col 0 s Q = 0 := by simp [ml_mn]
    rw [this]; exact Int.dvd_zero p
theorem ml_cl_iff {n : Nat} {p : Int} {col : Nat → Nat → Int} {s k : Nat} (hk : k ≤ n) : ml_cl n p col (s % 2 ^ k) k ↔ ∀ f : Nat → Int, (∀ i, i < k → s.testBit i = true → p ∣ ml_dt f (col i)) → p ∣ ml_dt f (col k) := by
  constructor
  · intro h f hf
    refine h f (fun i hi hb => ?_)
    rw [Nat.testBit_mod_two_pow] at hb
    simp at hb
    exact hf i hb.1 hb.2
  · intro h f hf
    refine h f (fun i hi hb => hf i (by omega) ?_)
    rw [Nat.testBit_mod_two_pow]
    simp [hi, hb]
theorem ml_G_f {n : Nat} {p : Int} {col : Nat → Nat → Int} {s k : Nat} {piv : Nat → Nat → Int} {found : Nat} (h : ml_G n p col s k piv found) (hb : s.testBit k = false) : ml_G n p col s (k + 1) piv found := by
  obtain ⟨m, P, a1, a2, a3, a4, a5, a6, a7, a8, a9, a10, a11⟩ := h
  have e1 : mt_cd (k + 1) s = mt_cd k s := by simp only [mt_cd, hb]; simp
  have e2 : ml_mn p col (k + 1) s = ml_mn p col k s := by simp only [ml_mn, hb]; simp
  refine ⟨m, P, a1, a2, by rw [ml_gk_f hb]; exact a3, a4, a5, fun f hf => a6 f (fun i hi hbi => hf i (by omega) hbi), fun i hi hbi => ?_, a8, a9, by rw [ml_gk_f hb, e1, e2]; exact a10, by rw [ml_gk_f hb, e1, e2]; exact a11⟩
  by_cases q : i = k
  · subst q; rw [hb] at hbi; cases hbi
  · exact a7 i (by omega) hbi
theorem ml_emod_dvd {p z : Int} (h : p ∣ z) : p ∣ z % p := by
  obtain ⟨c, hc⟩ := h
  rw [hc, Int.mul_emod_right]
  exact Int.dvd_zero p
theorem ml_emod_sub (p z : Int) : p ∣ z - z % p := by
  have := Int.emod_add_mul_ediv z p
  exact ⟨z / p, by omega⟩
/-- the next column brings nothing new -/
theorem ml_G_y {n : Nat} {p : Int} (hp : ml_pr p) {col : Nat → Nat → Int} {s k : Nat} (hk : k < n) {piv : Nat → Nat → Int} {found : Nat} (h : ml_G n p col s k piv found) (hb : s.testBit k = true)
    (hd : ∀ f : Nat → Int, (∀ l, l < 4 → piv l l ≠ 0 → p ∣ ml_dt f (piv l)) → p ∣ ml_dt f (col k)) : ml_G n p col s (k + 1) piv found := by
  obtain ⟨m, P, a1, a2, a3, a4, a5, a6, a7, a8, a9, a10, a11⟩ := h
  have hcl : ml_cl n p col (s % 2 ^ k) k := (ml_cl_iff (by omega)).mpr (fun f hf => hd f (fun l hl hne => a6 f hf l hl ((a4 l hl).mpr hne)))
  have hw : ∀ Q, Q < 16 → p ∣ ml_wj (col k) m Q := by
    intro Q hQ
    rw [← ml_ph_dt]
    refine hd _ (fun l hl hne => a6 _ (fun i hi hbi => ?_) l hl ((a4 l hl).mpr hne))
    rw [ml_ph_dt]
    exact a7 i hi hbi Q hQ
  have e1 : mt_cd (k + 1) s = mt_cd k s + 1 := by simp only [mt_cd, hb]; simp
  have e2 : ∀ Q, ml_mn p col (k + 1) s Q = ml_wj (col k) (ml_mn p col k s) Q % p := fun Q => by simp only [ml_mn, hb]; simp
  have hle := ml_gk_le (cl := ml_cl n p col) k s
  refine ⟨m, P, a1, a2, by rw [ml_gk_y hcl]; exact a3, a4, a5, fun f hf => a6 f (fun i hi hbi => hf i (by omega) hbi), fun i hi hbi => ?_, a8, a9, fun q => by rw [ml_gk_y hcl, e1] at q; omega, fun _ Q hQ => ?_⟩
  · by_cases q : i = k
    · subst q; exact hw
    · exact a7 i (by omega) hbi
  · rw [e2]
    apply ml_emod_dvd
    by_cases q : ml_gk (ml_cl n p col) k s = mt_cd k s
    · have g1 := ml_wj_lin (x := col k) (a10 q) hQ
      have g2 := hw Q hQ
      have g3 := ml_c2 g2 g1 1 (-1)
      have e : 1 * ml_wj (col k) m Q + -1 * (ml_wj (col k) m Q - ml_wj (col k) (ml_mn p col k s) Q) = ml_wj (col k) (ml_mn p col k s) Q := by omega
      rw [e] at g3
      exact g3
    · exact ml_wj_0 (a11 (by omega)) hQ
theorem ml_not4 {p : Int} {t0 t1 t2 t3 : Int} (h : ¬ p ∣ t0 + t1 + t2 + t3) : ¬ p ∣ t0 ∨ ¬ p ∣ t1 ∨ ¬ p ∣ t2 ∨ ¬ p ∣ t3 := by
  refine Classical.byContradiction fun q => h ?_
  have h0 : p ∣ t0 := Classical.byContradiction fun z => q (Or.inl z)
  have h1 : p ∣ t1 := Classical.byContradiction fun z => q (Or.inr (Or.inl z))
  have h2 : p ∣ t2 := Classical.byContradiction fun z => q (Or.inr (Or.inr (Or.inl z)))
  have h3 : p ∣ t3 := Classical.byContradiction fun z => q (Or.inr (Or.inr (Or.inr z)))
  exact Int.dvd_add (Int.dvd_add (Int.dvd_add h0 h1) h2) h3
theorem ml_term {p a b c : Int} (h : ¬ p ∣ a * b * c) : a ≠ 0 ∧ b ≠ 0 ∧ ¬ p ∣ c := by
  refine ⟨fun q => h ?_, fun q => h ?_, fun q => h (ml_c1 q _)⟩
  · rw [q]; simp
  · rw [q]; simp
theorem ml_nd {p x : Int} (h1 : 0 ≤ x) (h2 : x < p) (h3 : x ≠ 0) : ¬ p ∣ x := by
  rintro ⟨c, hc⟩
  have : c = 0 ∨ c ≤ -1 ∨ 1 ≤ c := by omega
  rcases this with w | w | w
  · rw [w] at hc; simp at hc; exact h3 hc
  · have : p * c ≤ p * (-1) := Int.mul_le_mul_of_nonneg_left w (by omega)
    omega
  · have : p * 1 ≤ p * c := Int.mul_le_mul_of_nonneg_left w (by omega)
    omega
/-- the next column brings a pivot -/
theorem ml_G_n {n : Nat} {p : Int} (hp : ml_pr p) {col : Nat → Nat → Int} {s k : Nat} (hk : k < n) {piv piv' : Nat → Nat → Int} {found l : Nat} {rest : Nat → Int} (h : ml_G n p col s k piv found) (hb : s.testBit k = true)
    (hl : l < 4) (hL : ml_L p piv (col k) l rest) (hne : rest l ≠ 0) (hz : piv l l = 0) (hp1 : ∀ i, i < 4 → piv' l i = rest i) (hp2 : ∀ j, j < 4 → j ≠ l → ∀ i, i < 4 → piv' j i = piv j i) : ml_G n p col s (k + 1) piv' (found + 1) := by
  obtain ⟨m, P, a1, a2, a3, a4, a5, a6, a7, a8, a9, a10, a11⟩ := h
  obtain ⟨b1, b2, A, b3, b4⟩ := hL
  have hPl : P.testBit l = false := by
    cases q : P.testBit l with
    | false => rfl
    | true => exact absurd hz ((a4 l hl).mp q)
  obtain ⟨d1, d2, d3⟩ := ml_d3 P a1 l hl hPl
  have kill : ∀ Q, Q < 16 → p ∣ ml_wj rest m Q - A * ml_wj (col k) m Q := by
    intro Q hQ
    have := b4 (ml_ph m Q) (fun j hj hjn => a6 _ (fun i hi hbi => by rw [ml_ph_dt]; exact a7 i hi hbi Q hQ) j hj ((a4 j hj).mpr hjn))
    rw [ml_ph_dt, ml_ph_dt] at this
    exact this
  have hnd : ¬ p ∣ rest l := ml_nd (b1 l hl).1 (b1 l hl).2 hne
  have main : ¬ p ∣ ml_wj rest m (P ||| 2 ^ l) := by
    intro hdv
    have term : ∀ r, r < 4 → r ≠ l → p ∣ ml_sg (P ||| 2 ^ l) r * rest r * m ((P ||| 2 ^ l) ^^^ 2 ^ r) := by
      intro r hr hrl
      refine Classical.byContradiction fun q => ?_
      obtain ⟨q1, q2, q3⟩ := ml_term q
      have g1 : (P ||| 2 ^ l).testBit r = true := by
        cases z : (P ||| 2 ^ l).testBit r with
        | true => rfl
        | false => exact absurd ((ml_sgv _ _).2 z) q1
      have g2 : P.testBit r = true := by
        rw [Nat.testBit_or, mt_two] at g1
        simpa [show ¬ l = r by omega] using g1
      have g3 : l < r := by
        refine Nat.lt_of_not_le fun z => q2 (b2 r (by omega))
      have g4 := a9 _ (ml_d4 _ d2 r hr) q3
      rw [ml_d2 P a1 l hl r hr hPl g2 g3] at g4
      cases g4
    have tl : p ∣ ml_sg (P ||| 2 ^ l) l * rest l * m ((P ||| 2 ^ l) ^^^ 2 ^ l) := by
      unfold ml_wj at hdv
      have t0 := term 0 (by omega)
      have t1 := term 1 (by omega)
      have t2 := term 2 (by omega)
      have t3 := term 3 (by omega)
      have : l = 0 ∨ l = 1 ∨ l = 2 ∨ l = 3 := by omega
      rcases this with q | q | q | q <;> subst q
      · have z := Int.dvd_sub hdv (Int.dvd_add (Int.dvd_add (t1 (by omega)) (t2 (by omega))) (t3 (by omega)))
        have e : ∀ a b c d : Int, a + b + c + d - (b + c + d) = a := by intros; omega
        rw [e] at z; exact z
      · have z := Int.dvd_sub hdv (Int.dvd_add (Int.dvd_add (t0 (by omega)) (t2 (by omega))) (t3 (by omega)))
        have e : ∀ a b c d : Int, a + b + c + d - (a + c + d) = b := by intros; omega
        rw [e] at z; exact z
      · have z := Int.dvd_sub hdv (Int.dvd_add (Int.dvd_add (t0 (by omega)) (t1 (by omega))) (t3 (by omega)))
        have e : ∀ a b c d : Int, a + b + c + d - (a + b + d) = c := by intros; omega
        rw [e] at z; exact z
      · have z := Int.dvd_sub hdv (Int.dvd_add (Int.dvd_add (t0 (by omega)) (t1 (by omega))) (t2 (by omega)))
        have e : ∀ a b c d : Int, a + b + c + d - (a + b + c) = d := by intros; omega
        rw [e] at z; exact z
    rw [d1] at tl
    have hin : (P ||| 2 ^ l).testBit l = true := by rw [Nat.testBit_or, mt_two]; simp
    rcases hp.2 _ _ tl with q | q
    · rcases (ml_sgv _ _).1 hin with z | z
      · rw [z, Int.one_mul] at q; exact hnd q
      · rw [z] at q
        have : p ∣ rest l := by
          obtain ⟨c, hc⟩ := q
          exact ⟨-c, by rw [Int.mul_neg]; omega⟩
        exact hnd this
    · exact a8 q
  have nz : ∀ Q, Q < 16 → (p ∣ ml_wj (col k) m Q → p ∣ ml_wj rest m Q) ∧ (p ∣ ml_wj rest m Q → p ∣ ml_wj (col k) m Q) := by
    intro Q hQ
    have g := kill Q hQ
    constructor
    · intro q
      have := ml_c2 g q 1 A
      have e : 1 * (ml_wj rest m Q - A * ml_wj (col k) m Q) + A * ml_wj (col k) m Q = ml_wj rest m Q := by omega
      rw [e] at this; exact this
    · intro q
      have := ml_c2 g q (-1) 1
      have e : -1 * (ml_wj rest m Q - A * ml_wj (col k) m Q) + 1 * ml_wj rest m Q = A * ml_wj (col k) m Q := by omega
      rw [e] at this
      rcases hp.2 _ _ this with z | z
      · exact absurd z b3
      · exact z
  have hncl : ¬ ml_cl n p col (s % 2 ^ k) k := by
    intro hcl
    have := (ml_cl_iff (by omega)).mp hcl (ml_ph m (P ||| 2 ^ l)) (fun i hi hbi => by rw [ml_ph_dt]; exact a7 i hi hbi _ d2)
    rw [ml_ph_dt] at this
    exact main ((nz _ d2).1 this)
  have e1 : mt_cd (k + 1) s = mt_cd k s + 1 := by simp only [mt_cd, hb]; simp
  have e2 : ∀ Q, ml_mn p col (k + 1) s Q = ml_wj (col k) (ml_mn p col k s) Q % p := fun Q => by simp only [ml_mn, hb]; simp
  have pl : ∀ j, j < 4 → j ≠ l → P.testBit j = (P ||| 2 ^ l).testBit j := by
    intro j hj hjl
    rw [Nat.testBit_or, mt_two]
    simp [show ¬ l = j by omega]
  have dte : ∀ (f : Nat → Int) (j : Nat), j < 4 → j ≠ l → ml_dt f (piv' j) = ml_dt f (piv j) := by
    intro f j hj hjl
    unfold ml_dt
    rw [hp2 j hj hjl 0 (by omega), hp2 j hj hjl 1 (by omega), hp2 j hj hjl 2 (by omega), hp2 j hj hjl 3 (by omega)]
  have dtl : ∀ f : Nat → Int, ml_dt f (piv' l) = ml_dt f rest := by
    intro f
    unfold ml_dt
    rw [hp1 0 (by omega), hp1 1 (by omega), hp1 2 (by omega), hp1 3 (by omega)]
  refine ⟨ml_wj (col k) m, P ||| 2 ^ l, d2, by rw [d3, a2], by rw [ml_gk_n hb hncl, a3], fun j hj => ?_, fun j hj hPj => ?_, fun f hf j hj hPj => ?_, fun i hi hbi Q hQ => ?_, fun q => main ((nz _ d2).1 q), fun Q hQ q => ?_, fun q Q hQ => ?_, fun q Q hQ => ?_⟩
  · by_cases q : j = l
    · subst q
      rw [hp1 j hj, Nat.testBit_or, mt_two]
      simp [hne]
    · rw [← pl j hj q, hp2 j hj q j hj]
      exact a4 j hj
  · by_cases q : j = l
    · subst q
      exact ⟨fun i hi => by rw [hp1 i (by omega)]; exact b2 i hi, fun i hi => by rw [hp1 i hi]; exact b1 i hi⟩
    · rw [← pl j hj q] at hPj
      obtain ⟨g1, g2⟩ := a5 j hj hPj
      exact ⟨fun i hi => by rw [hp2 j hj q i (by omega)]; exact g1 i hi, fun i hi => by rw [hp2 j hj q i hi]; exact g2 i hi⟩
  · have hf' : ∀ i, i < k → s.testBit i = true → p ∣ ml_dt f (col i) := fun i hi hbi => hf i (by omega) hbi
    by_cases q : j = l
    · subst q
      rw [dtl]
      have g1 := b4 f (fun j hj hjn => a6 f hf' j hj ((a4 j hj).mpr hjn))
      have g2 := hf k (by omega) hb
      have := ml_c2 g1 g2 1 A
      have e : 1 * (ml_dt f rest - A * ml_dt f (col k)) + A * ml_dt f (col k) = ml_dt f rest := by omega
      rw [e] at this
      exact this
    · rw [dte f j hj q]
      rw [← pl j hj q] at hPj
      exact a6 f hf' j hj hPj
  · rw [ml_anti hQ]
    have inner : ∀ Q, Q < 16 → p ∣ ml_wj (col i) m Q ∨ i = k := by
      intro Q hQ
      by_cases q : i = k
      · exact Or.inr q
      · exact Or.inl (a7 i (by omega) hbi Q hQ)
    by_cases q : i = k
    · subst q
      have h2 := ml_anti hQ (col i) (col i) m
      have h3 : ml_wj (col i) (ml_wj (col i) m) Q = 0 := by omega
      rw [h3]; simp
    · have := ml_wj_0 (p := p) (x := col k) (fun Q hQ => (inner Q hQ).resolve_right q) hQ
      obtain ⟨c, hc⟩ := this
      exact ⟨-c, by rw [Int.mul_neg]; omega⟩
  · have g : ¬ p ∣ ml_wj rest m Q := fun z => q ((nz Q hQ).2 z)
    unfold ml_wj at g
    have fin : ∀ r, r < 4 → ¬ p ∣ ml_sg Q r * rest r * m (Q ^^^ 2 ^ r) → ml_dmb (P ||| 2 ^ l) Q = true := by
      intro r hr hq
      obtain ⟨q1, q2, q3⟩ := ml_term hq
      have g1 : Q.testBit r = true := by
        cases z : Q.testBit r with
        | true => rfl
        | false => exact absurd ((ml_sgv _ _).2 z) q1
      have g3 : l ≤ r := Nat.le_of_not_lt fun z => q2 (b2 r z)
      exact ml_d1 P a1 Q hQ l hl r hr hPl g1 g3 (a9 _ (ml_d4 _ hQ r hr) q3)
    rcases ml_not4 g with z | z | z | z
    · exact fin 0 (by omega) z
    · exact fin 1 (by omega) z
    · exact fin 2 (by omega) z
    · exact fin 3 (by omega) z
  · rw [ml_gk_n hb hncl, e1] at q
    rw [e2]
    have g1 := ml_wj_lin (x := col k) (a10 (by omega)) hQ
    have g2 := ml_emod_sub p (ml_wj (col k) (ml_mn p col k s) Q)
    have := Int.dvd_add g1 g2
    have e : ml_wj (col k) m Q - ml_wj (col k) (ml_mn p col k s) Q + (ml_wj (col k) (ml_mn p col k s) Q - ml_wj (col k) (ml_mn p col k s) Q % p) = ml_wj (col k) m Q - ml_wj (col k) (ml_mn p col k s) Q % p := by omega
    rw [e] at this
    exact this
  · rw [ml_gk_n hb hncl, e1] at q
    rw [e2]
    exact ml_emod_dvd (ml_wj_0 (a11 (by omega)) hQ)
/-- every column can be brought to its end -/
theorem ml_run {p : Int} (hp : ml_pr p) (h0 : 0 < p) {piv : Nat → Nat → Int} {x : Nat → Int} (he : ∀ l, l < 4 → piv l l ≠ 0 → (∀ i, i < l → piv l i = 0) ∧ ∀ i, i < 4 → 0 ≤ piv l i ∧ piv l i < p) (hx : ∀ i, i < 4 → 0 ≤ x i ∧ x i < p) :
    (∃ rest, ml_L p piv x 4 rest) ∨ ∃ l rest, l < 4 ∧ ml_L p piv x l rest ∧ rest l ≠ 0 ∧ piv l l = 0 := by
  have key : ∀ k, k ≤ 4 → (∃ rest, ml_L p piv x k rest) ∨ ∃ l rest, l < 4 ∧ ml_L p piv x l rest ∧ rest l ≠ 0 ∧ piv l l = 0 := by
    intro k
    induction k with
    | zero => intro _; exact Or.inl ⟨x, ml_L_0 hp hx (fun _ _ => rfl)⟩
    | succ k ih =>
      intro hk
      rcases ih (by omega) with ⟨rest, h⟩ | h
      · by_cases q : rest k = 0
        · exact Or.inl ⟨rest, ml_L_z h q⟩
        · by_cases q2 : piv k k = 0
          · exact Or.inr ⟨k, rest, by omega, h, q, q2⟩
          · obtain ⟨g1, g2⟩ := he k (by omega) q2
            exact Or.inl ⟨fun i => if k ≤ i then (rest i * piv k k - piv k i * rest k) % p else rest i, ml_L_c hp h0 (by omega) h q2 (g2 k (by omega)) g1 (fun i hi => rfl)⟩
      · exact Or.inr h
  exact key 4 (Nat.le_refl 4)
theorem ml_G_he {n : Nat} {p : Int} {col : Nat → Nat → Int} {s k : Nat} {piv : Nat → Nat → Int} {found : Nat} (h : ml_G n p col s k piv found) : ∀ l, l < 4 → piv l l ≠ 0 → (∀ i, i < l → piv l i = 0) ∧ ∀ i, i < 4 → 0 ≤ piv l i ∧ piv l i < p := by
  obtain ⟨m, P, a1, a2, a3, a4, a5, -⟩ := h
  exact fun l hl hne => a5 l hl ((a4 l hl).mpr hne)
theorem ml_G_ex {n : Nat} {p : Int} (hp : ml_pr p) (h0 : 0 < p) {col : Nat → Nat → Int} (hc : ∀ e, e < n → ∀ i, i < 4 → 0 ≤ col e i ∧ col e i < p) (s : Nat) : ∀ k, k ≤ n → ∃ piv found, ml_G n p col s k piv found := by
  intro k
  induction k with
  | zero => intro _; exact ⟨fun _ _ => 0, 0, ml_G_0 hp col s (fun _ _ => rfl)⟩
  | succ k ih =>
    intro hk
    obtain ⟨piv, found, h⟩ := ih (by omega)
    cases hb : s.testBit k with
    | false => exact ⟨piv, found, ml_G_f h hb⟩
    | true =>
      rcases ml_run hp h0 (x := col k) (ml_G_he h) (hc k (by omega)) with ⟨rest, hL⟩ | ⟨l, rest, hl, hL, hne, hz⟩
      · exact ⟨piv, found, ml_G_y hp (by omega) h hb (fun f hf => ml_L_4 hp hL f hf)⟩
      · exact ⟨fun j => if j = l then rest else piv j, found + 1, ml_G_n hp (by omega) h hb hl hL hne hz (fun i hi => by simp) (fun j hj hjl i hi => by simp [hjl])⟩
/-- four pivots are all there can be -/
theorem ml_G_full {n : Nat} {p : Int} (hp : ml_pr p) (h0 : 0 < p) {col : Nat → Nat → Int} (hc : ∀ e, e < n → ∀ i, i < 4 → 0 ≤ col e i ∧ col e i < p) {s : Nat} {piv : Nat → Nat → Int} : ∀ j k, k + j ≤ n → ml_G n p col s k piv 4 → ml_G n p col s (k + j) piv 4 := by
  intro j
  induction j with
  | zero => intro k _ h; exact h
  | succ j ih =>
    intro k hk h
    have h1 := ih k (by omega) h
    show ml_G n p col s (k + j + 1) piv 4
    cases hb : s.testBit (k + j) with
    | false => exact ml_G_f h1 hb
    | true =>
      rcases ml_run hp h0 (x := col (k + j)) (ml_G_he h1) (hc (k + j) (by omega)) with ⟨rest, hL⟩ | ⟨l, rest, hl, hL, hne, hz⟩
      · exact ml_G_y hp (by omega) h1 hb (fun f hf => ml_L_4 hp hL f hf)
      · exfalso
        obtain ⟨m, P, a1, a2, a3, a4, -⟩ := h1
        have h15 : ∀ P, P < 16 → mt_cd 4 P = 4 → ∀ l, l < 4 → P.testBit l = true := by decide +kernel
        exact (a4 l hl).mp (h15 P a1 a2 l hl) hz
theorem ml_mn_rg {p : Int} (h1 : 1 < p) (col : Nat → Nat → Int) (s : Nat) : ∀ k Q, 0 ≤ ml_mn p col k s Q ∧ ml_mn p col k s Q < p := by
  intro k
  induction k with
  | zero => intro Q; simp only [ml_mn]; split <;> omega
  | succ k ih =>
    intro Q
    simp only [ml_mn]
    split
    · exact ⟨Int.emod_nonneg _ (by omega), Int.emod_lt_of_pos _ (by omega)⟩
    · exact ih Q
theorem ml_ind {n : Nat} {p : Int} (hp : ml_pr p) (h1 : 1 < p) {col : Nat → Nat → Int} (hc : ∀ e, e < n → ∀ i, i < 4 → 0 ≤ col e i ∧ col e i < p) (s : Nat) : ml_r n p col s = mt_cd n s ↔ ∃ Q, Q < 16 ∧ ml_mn p col n s Q ≠ 0 := by
  obtain ⟨piv, found, m, P, a1, a2, a3, a4, a5, a6, a7, a8, a9, a10, a11⟩ := ml_G_ex hp (by omega) hc s n (Nat.le_refl n)
  have hle := ml_gk_le (cl := ml_cl n p col) n s
  unfold ml_r
  constructor
  · intro h
    refine ⟨P, a1, fun q => a8 ?_⟩
    have := a10 h P a1
    rw [q] at this
    simpa using this
  · rintro ⟨Q, hQ, hne⟩
    refine Classical.byContradiction fun q => ?_
    have := a11 (by omega) Q hQ
    have rg := ml_mn_rg h1 col s n Q
    exact ml_nd rg.1 rg.2 hne this
theorem ml_pr_of (q : Nat) (h : ∀ a, a < q → ∀ b, b < q → a * b % q = 0 → a = 0 ∨ b = 0) (h1 : 1 < q) : ml_pr (q : Int) := by
  refine ⟨fun h2 => ?_, fun a b hab => ?_⟩
  · have := Int.le_of_dvd (by omega) h2
    omega
  · have e1 := Int.emod_nonneg a (b := (q : Int)) (by omega)
    have e2 := Int.emod_lt_of_pos a (b := (q : Int)) (by omega)
    have e3 := Int.emod_nonneg b (b := (q : Int)) (by omega)
    have e4 := Int.emod_lt_of_pos b (b := (q : Int)) (by omega)
    have e5 : (a % (q : Int)) * (b % (q : Int)) % (q : Int) = 0 := by
      rw [← Int.mul_emod]; exact Int.emod_eq_zero_of_dvd hab
    obtain ⟨x, hx⟩ := Int.eq_ofNat_of_zero_le e1
    obtain ⟨y, hy⟩ := Int.eq_ofNat_of_zero_le e3
    rw [hx, hy] at e5
    rw [hx] at e2
    rw [hy] at e4
    have e6 : x * y % q = 0 := by
      have : ((x * y % q : Nat) : Int) = 0 := by rw [Int.natCast_emod, Int.natCast_mul]; exact e5
      omega
    rcases h x (by omega) y (by omega) e6 with z | z
    · refine Or.inl (Int.dvd_of_emod_eq_zero ?_)
      rw [hx, z]; rfl
    · refine Or.inr (Int.dvd_of_emod_eq_zero ?_)
      rw [hy, z]; rfl
theorem ml_pr_4 {q : Nat} (h : q = 2 ∨ q = 3 ∨ q = 5 ∨ q = 7) : ml_pr (q : Int) := by
  rcases h with h | h | h | h <;> subst h <;> exact ml_pr_of _ (by decide +kernel) (by decide)
