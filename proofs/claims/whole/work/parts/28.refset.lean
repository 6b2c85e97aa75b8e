/-! The reference: its world, what it stands for; the calls that change it. -/
abbrev rf_S : Type := Nat → Nat → Int32
def rf_ (cI : ClassId) (q : Nat → Nat) (n : Nat) (g : rf_S) : va_W := [(q 0, .inr (6, [.int (nI n), .ref (q 2), .ref (q 3), .ref (q 4), .ref (q 5), .ref (q 6), .ref (q 7), .ref (q 8), .ref (q 9), .ref (q 10), .ref (q 11), .ref (q 12), .ref (q 13), .ref (q 14)])), (q 2, .inl (cI, 10, .inl (g 0))), (q 3, .inl (cI, 2, .inl (g 1))), (q 4, .inl (cI, 2, .inl (g 2))), (q 5, .inl (cI, 2, .inl (g 3))), (q 6, .inl (cI, 20, .inl (g 4))), (q 7, .inl (cI, 20, .inl (g 5))), (q 8, .inl (cI, 20, .inl (g 6))), (q 9, .inl (cI, 8, .inl (g 7))), (q 10, .inl (cI, 80, .inl (g 8))), (q 11, .inl (cI, 8, .inl (g 9))), (q 12, .inl (cI, 16, .inl (g 10))), (q 13, .inl (cI, 16, .inl (g 11))), (q 14, .inl (cI, 2048, .inl (g 12)))]
def rf_m (n j : Nat) (x : ma_T) (g : rf_S) : Prop := g 1 j = nI x.1 ∧ ((x.1 = 0 ∧ g 2 j = nI x.2.1) ∨ (x.1 = 1 ∧ ∀ e, e < n → g 4 (10 * j + e) = nI (x.2.2.1 e) ∧ g 5 (10 * j + e) = nI (x.2.2.2.1 e)) ∨ (x.1 = 2 ∧ (∀ e, e < n → g 6 (10 * j + e) = nI (x.2.2.2.2.1 e)) ∧ ∀ c, c < 4 → g 7 (4 * j + c) = nI (x.2.2.2.2.2.1 c)) ∨ (x.1 = 3 ∧ g 3 j = nI x.2.2.2.2.2.2.1 ∧ ∀ e, e < n → ∀ i, i < 4 → g 8 (40 * j + 4 * e + i) = nI (x.2.2.2.2.2.2.2 e i)))
def rf_I (n : Nat) (y : cb_Y) (g : rf_S) : Prop := (∀ e, e < n → g 0 e = y.1 e ∧ -1000000 ≤ (y.1 e).toInt ∧ (y.1 e).toInt ≤ 1000000) ∧ ∀ j, j < 2 → ma_v n (cb_m y j) ∧ rf_m n j (cb_m y j) g
theorem ma_v3 {n : Nat} {x : ma_T} (h : ma_v n x) : x.1 ≤ 3 := by
  rcases h with ⟨q, -⟩ | ⟨q, -⟩ | ⟨q, -⟩ | ⟨q, -⟩ <;> omega
theorem cb_ms {y : cb_Y} {w j : Nat} {x : ma_T} (hw : w < 2) (hj : j < 2) : cb_m (cb_s y w x) j = if j = w then x else cb_m y j := by
  have h1 : w = 0 ∨ w = 1 := by omega
  have h2 : j = 0 ∨ j = 1 := by omega
  rcases h1 with h1 | h1 <;> rcases h2 with h2 | h2 <;> subst h1 <;> subst h2 <;> rfl
theorem cb_sw {y : cb_Y} {w : Nat} {x : ma_T} : (cb_s y w x).1 = y.1 := by unfold cb_s; split <;> rfl
theorem rf_put {n : Nat} {y : cb_Y} {g g' : rf_S} {w : Nat} {x : ma_T} (hI : rf_I n y g) (hw : w < 2) (h0 : g' 0 = g 0) (hv : ma_v n x) (hx : rf_m n w x g') (hk : ∀ j, j < 2 → ¬ j = w → rf_m n j (cb_m y j) g → rf_m n j (cb_m y j) g') : rf_I n (cb_s y w x) g' := by
  refine ⟨fun e he => by rw [cb_sw, h0]; exact hI.1 e he, fun j hj => ?_⟩
  rw [cb_ms hw hj]
  by_cases q : j = w
  · rw [if_pos q, q]; exact ⟨hv, hx⟩
  · rw [if_neg q]; exact ⟨(hI.2 j hj).1, hk j hj q (hI.2 j hj).2⟩
theorem rf_kept {n j : Nat} {x : ma_T} {g g' : rf_S} (hn : n ≤ 10) (h1 : g' 1 j = g 1 j) (h2 : g' 2 j = g 2 j) (h3 : g' 3 j = g 3 j) (h4 : ∀ e, e < 10 → g' 4 (10 * j + e) = g 4 (10 * j + e)) (h5 : ∀ e, e < 10 → g' 5 (10 * j + e) = g 5 (10 * j + e)) (h6 : ∀ e, e < 10 → g' 6 (10 * j + e) = g 6 (10 * j + e)) (h7 : ∀ e, e < 4 → g' 7 (4 * j + e) = g 7 (4 * j + e)) (h8 : ∀ e, e < 40 → g' 8 (40 * j + e) = g 8 (40 * j + e)) (h : rf_m n j x g) : rf_m n j x g' := by
  refine ⟨h1.trans h.1, ?_⟩
  rcases h.2 with ⟨q, a⟩ | ⟨q, a⟩ | ⟨q, a, b⟩ | ⟨q, a, b⟩
  · exact Or.inl ⟨q, h2.trans a⟩
  · exact Or.inr (Or.inl ⟨q, fun e he => ⟨(h4 e (by omega)).trans (a e he).1, (h5 e (by omega)).trans (a e he).2⟩⟩)
  · exact Or.inr (Or.inr (Or.inl ⟨q, fun e he => (h6 e (by omega)).trans (a e he), fun c hc => (h7 c hc).trans (b c hc)⟩))
  · refine Or.inr (Or.inr (Or.inr ⟨q, h3.trans a, fun e he i hi => ?_⟩))
    have := h8 (4 * e + i) (by omega)
    rw [← Nat.add_assoc] at this
    exact this.trans (b e he i hi)
theorem rf_keep {n : Nat} {y : cb_Y} {g g' : rf_S} (hn : n ≤ 10) (h : ∀ j, j < 9 → g' j = g j) (hI : rf_I n y g) : rf_I n y g' := by
  refine ⟨fun e he => by rw [h 0 (by omega)]; exact hI.1 e he, fun j hj => ⟨(hI.2 j hj).1, ?_⟩⟩
  exact rf_kept hn (by rw [h 1 (by omega)]) (by rw [h 2 (by omega)]) (by rw [h 3 (by omega)]) (fun e _ => by rw [h 4 (by omega)]) (fun e _ => by rw [h 5 (by omega)]) (fun e _ => by rw [h 6 (by omega)]) (fun e _ => by rw [h 7 (by omega)]) (fun e _ => by rw [h 8 (by omega)]) (hI.2 j hj).2
theorem upd_ne {f : Nat → Int32} {i j : Nat} {v : Int32} (h : ¬ j = i) : upd f i v j = f j := by simp [upd, h]
theorem upd_at {f : Nat → Int32} {i : Nat} {v : Int32} : upd f i v i = v := by simp [upd]
theorem upd_if {f : Nat → Int32} {i j : Nat} {v : Int32} : upd f i v j = if j = i then v else f j := rfl
def zz_ (f : Nat → Int32) (a b : Nat) : Nat → Int32 := fun i => if a ≤ i ∧ i < b then nI 0 else f i
theorem zz_0 (f : Nat → Int32) (a : Nat) : zz_ f a a = f := by funext i; unfold zz_; rw [if_neg (by omega)]
theorem zz_s (f : Nat → Int32) {a b : Nat} (h : a ≤ b) : upd (zz_ f a b) b (nI 0) = zz_ f a (b + 1) := by
  funext i
  show (if i = b then nI 0 else (if a ≤ i ∧ i < b then nI 0 else f i)) = (if a ≤ i ∧ i < b + 1 then nI 0 else f i)
  by_cases q : i = b
  · rw [if_pos q, if_pos (by omega)]
  · rw [if_neg q]
    by_cases q2 : a ≤ i ∧ i < b
    · rw [if_pos q2, if_pos (by omega)]
    · rw [if_neg q2, if_neg (by omega)]
theorem zz_in {f : Nat → Int32} {a b i : Nat} (h1 : a ≤ i) (h2 : i < b) : zz_ f a b i = nI 0 := if_pos ⟨h1, h2⟩
theorem zz_out {f : Nat → Int32} {a b i : Nat} (h : i < a ∨ b ≤ i) : zz_ f a b i = f i := if_neg (by omega)
def rb_ (g : rf_S) (w : Nat) (k : Int32) : rf_S := va_up (va_up (va_up (va_up (va_up (va_up g 1 (upd (g 1) w k)) 4 (zz_ (g 4) (10 * w) (10 * w + 10))) 5 (zz_ (g 5) (10 * w) (10 * w + 10))) 6 (zz_ (g 6) (10 * w) (10 * w + 10))) 7 (zz_ (g 7) (4 * w) (4 * w + 4))) 8 (zz_ (g 8) (40 * w) (40 * w + 40))
theorem rb_kept {n j w : Nat} {x : ma_T} {g : rf_S} {k : Int32} (hn : n ≤ 10) (hw : w < 2) (hj : j < 2) (h : ¬ j = w) (hm : rf_m n j x g) : rf_m n j x (rb_ g w k) :=
  rf_kept hn (show upd (g 1) w k j = g 1 j from upd_ne h) rfl rfl (fun e he => show zz_ (g 4) (10 * w) (10 * w + 10) (10 * j + e) = _ from zz_out (by omega)) (fun e he => show zz_ (g 5) (10 * w) (10 * w + 10) (10 * j + e) = _ from zz_out (by omega)) (fun e he => show zz_ (g 6) (10 * w) (10 * w + 10) (10 * j + e) = _ from zz_out (by omega)) (fun e he => show zz_ (g 7) (4 * w) (4 * w + 4) (4 * j + e) = _ from zz_out (by omega)) (fun e he => show zz_ (g 8) (40 * w) (40 * w + 40) (40 * j + e) = _ from zz_out (by omega)) hm
theorem rf_uniform {n : Nat} {y : cb_Y} {g : rf_S} {w k : Nat} (hn : n ≤ 10) (hI : rf_I n y g) (hw : w < 2) (hk : k ≤ 10) : rf_I n (cb_s y w (0, k, (cb_m y w).2.2)) (va_up (va_up g 1 (upd (g 1) w (nI 0))) 2 (upd (g 2) w (nI k))) :=
  rf_put hI hw rfl (Or.inl ⟨rfl, hk⟩) ⟨show upd (g 1) w (nI 0) w = _ from upd_at, Or.inl ⟨rfl, show upd (g 2) w (nI k) w = _ from upd_at⟩⟩ (fun j hj q hm => rf_kept (g := g) hn (show upd (g 1) w (nI 0) j = _ from upd_ne q) (show upd (g 2) w (nI k) j = _ from upd_ne q) rfl (fun _ _ => rfl) (fun _ _ => rfl) (fun _ _ => rfl) (fun _ _ => rfl) (fun _ _ => rfl) hm)
theorem rf_graphic {n : Nat} {y : cb_Y} {g : rf_S} {w : Nat} (hn : n ≤ 10) (hI : rf_I n y g) (hw : w < 2) : rf_I n (cb_s y w (1, (cb_m y w).2.1, (fun _ => 0), (fun _ => 0), (cb_m y w).2.2.2.2)) (rb_ g w (nI 1)) :=
  rf_put hI hw rfl (Or.inr (Or.inl ⟨rfl, fun i _ => ⟨(by decide : 0 < 8), (by decide : 0 < 8)⟩⟩)) ⟨show upd (g 1) w (nI 1) w = _ from upd_at, Or.inr (Or.inl ⟨rfl, fun e he => ⟨show zz_ (g 4) (10 * w) (10 * w + 10) (10 * w + e) = _ from zz_in (by omega) (by omega), show zz_ (g 5) (10 * w) (10 * w + 10) (10 * w + e) = _ from zz_in (by omega) (by omega)⟩⟩)⟩ (fun j hj q hm => rb_kept hn hw hj q hm)
theorem rf_classes {n : Nat} {y : cb_Y} {g : rf_S} {w : Nat} (hn : n ≤ 10) (hI : rf_I n y g) (hw : w < 2) : rf_I n (cb_s y w (2, (cb_m y w).2.1, (cb_m y w).2.2.1, (cb_m y w).2.2.2.1, (fun _ => 0), (fun _ => 0), (cb_m y w).2.2.2.2.2.2)) (rb_ g w (nI 2)) :=
  rf_put hI hw rfl (Or.inr (Or.inr (Or.inl ⟨rfl, fun i _ => (by decide : 0 < 4), fun i _ => (by decide : 0 ≤ 10)⟩))) ⟨show upd (g 1) w (nI 2) w = _ from upd_at, Or.inr (Or.inr (Or.inl ⟨rfl, fun e he => show zz_ (g 6) (10 * w) (10 * w + 10) (10 * w + e) = _ from zz_in (by omega) (by omega), fun e he => show zz_ (g 7) (4 * w) (4 * w + 4) (4 * w + e) = _ from zz_in (by omega) (by omega)⟩))⟩ (fun j hj q hm => rb_kept hn hw hj q hm)
theorem rf_linear {n : Nat} {y : cb_Y} {g : rf_S} {w p : Nat} (hn : n ≤ 10) (hI : rf_I n y g) (hw : w < 2) (hp : p = 2 ∨ p = 3 ∨ p = 5 ∨ p = 7) : rf_I n (cb_s y w (3, (cb_m y w).2.1, (cb_m y w).2.2.1, (cb_m y w).2.2.2.1, (cb_m y w).2.2.2.2.1, (cb_m y w).2.2.2.2.2.1, p, (fun _ _ => 0))) (va_up (rb_ g w (nI 3)) 3 (upd (g 3) w (nI p))) :=
  rf_put hI hw rfl (Or.inr (Or.inr (Or.inr ⟨rfl, hp, fun e _ i _ => (show 0 < p by omega)⟩))) ⟨show upd (g 1) w (nI 3) w = _ from upd_at, Or.inr (Or.inr (Or.inr ⟨rfl, show upd (g 3) w (nI p) w = _ from upd_at, fun e he i hi => show zz_ (g 8) (40 * w) (40 * w + 40) (40 * w + 4 * e + i) = _ from zz_in (by omega) (by omega)⟩))⟩ (fun j hj q hm => rf_kept hn (g := rb_ g w (nI 3)) rfl rfl (show upd (g 3) w (nI p) j = _ from upd_ne q) (fun _ _ => rfl) (fun _ _ => rfl) (fun _ _ => rfl) (fun _ _ => rfl) (fun _ _ => rfl) (rb_kept hn hw hj q hm))
theorem rf_k1 {n j : Nat} {x : ma_T} {g : rf_S} (h : rf_m n j x g) (hk : x.1 = 1) : ∀ e, e < n → g 4 (10 * j + e) = nI (x.2.2.1 e) ∧ g 5 (10 * j + e) = nI (x.2.2.2.1 e) := by
  rcases h.2 with ⟨q, -⟩ | ⟨q, a⟩ | ⟨q, -⟩ | ⟨q, -⟩ <;> first | exact a | omega
theorem rf_k2 {n j : Nat} {x : ma_T} {g : rf_S} (h : rf_m n j x g) (hk : x.1 = 2) : (∀ e, e < n → g 6 (10 * j + e) = nI (x.2.2.2.2.1 e)) ∧ ∀ c, c < 4 → g 7 (4 * j + c) = nI (x.2.2.2.2.2.1 c) := by
  rcases h.2 with ⟨q, -⟩ | ⟨q, -⟩ | ⟨q, a⟩ | ⟨q, -⟩ <;> first | exact a | omega
theorem rf_k3 {n j : Nat} {x : ma_T} {g : rf_S} (h : rf_m n j x g) (hk : x.1 = 3) : g 3 j = nI x.2.2.2.2.2.2.1 ∧ ∀ e, e < n → ∀ i, i < 4 → g 8 (40 * j + 4 * e + i) = nI (x.2.2.2.2.2.2.2 e i) := by
  rcases h.2 with ⟨q, -⟩ | ⟨q, -⟩ | ⟨q, -⟩ | ⟨q, a⟩ <;> first | exact a | omega
theorem rf_k0 {n j : Nat} {x : ma_T} {g : rf_S} (h : rf_m n j x g) (hk : x.1 = 0) : g 2 j = nI x.2.1 := by
  rcases h.2 with ⟨q, a⟩ | ⟨q, -⟩ | ⟨q, -⟩ | ⟨q, -⟩ <;> first | exact a | omega
theorem va_k0 {n : Nat} {x : ma_T} (h : ma_v n x) (hk : x.1 = 0) : x.2.1 ≤ 10 := by
  rcases h with ⟨q, a⟩ | ⟨q, -⟩ | ⟨q, -⟩ | ⟨q, -⟩ <;> first | exact a | omega
theorem va_k1 {n : Nat} {x : ma_T} (h : ma_v n x) (hk : x.1 = 1) : ∀ i, i < n → x.2.2.1 i < 8 ∧ x.2.2.2.1 i < 8 := by
  rcases h with ⟨q, -⟩ | ⟨q, a⟩ | ⟨q, -⟩ | ⟨q, -⟩ <;> first | exact a | omega
theorem va_k2 {n : Nat} {x : ma_T} (h : ma_v n x) (hk : x.1 = 2) : (∀ i, i < n → x.2.2.2.2.1 i < 4) ∧ ∀ c, c < 4 → x.2.2.2.2.2.1 c ≤ 10 := by
  rcases h with ⟨q, -⟩ | ⟨q, -⟩ | ⟨q, a⟩ | ⟨q, -⟩ <;> first | exact a | omega
theorem va_k3 {n : Nat} {x : ma_T} (h : ma_v n x) (hk : x.1 = 3) : (x.2.2.2.2.2.2.1 = 2 ∨ x.2.2.2.2.2.2.1 = 3 ∨ x.2.2.2.2.2.2.1 = 5 ∨ x.2.2.2.2.2.2.1 = 7) ∧ ∀ e, e < n → ∀ i, i < 4 → x.2.2.2.2.2.2.2 e i < x.2.2.2.2.2.2.1 := by
  rcases h with ⟨q, -⟩ | ⟨q, -⟩ | ⟨q, -⟩ | ⟨q, a⟩ <;> first | exact a | omega
theorem rf_edge {n : Nat} {y : cb_Y} {g : rf_S} {w e u v : Nat} (hn : n ≤ 10) (hI : rf_I n y g) (hw : w < 2) (hk : (cb_m y w).1 = 1) (he : e < n) (hu : u ≤ 7) (hv : v ≤ 7) : rf_I n (cb_s y w ((cb_m y w).1, (cb_m y w).2.1, va_up (cb_m y w).2.2.1 e u, va_up (cb_m y w).2.2.2.1 e v, (cb_m y w).2.2.2.2)) (va_up (va_up g 4 (upd (g 4) (10 * w + e) (nI u))) 5 (upd (g 5) (10 * w + e) (nI v))) := by
  have hm := (hI.2 w hw).2
  have hv0 := va_k1 (hI.2 w hw).1 hk
  have h1 := rf_k1 hm hk
  refine rf_put hI hw rfl (Or.inr (Or.inl ⟨hk, fun i hi => ?_⟩)) ⟨hm.1, Or.inr (Or.inl ⟨hk, fun i hi => ?_⟩)⟩ (fun j hj q hm => rf_kept (g := g) hn rfl rfl rfl (fun i hi => show upd (g 4) (10 * w + e) (nI u) (10 * j + i) = _ from upd_ne (by omega)) (fun i hi => show upd (g 5) (10 * w + e) (nI v) (10 * j + i) = _ from upd_ne (by omega)) (fun _ _ => rfl) (fun _ _ => rfl) (fun _ _ => rfl) hm)
  · show va_up (cb_m y w).2.2.1 e u i < 8 ∧ va_up (cb_m y w).2.2.2.1 e v i < 8
    unfold va_up
    by_cases q : i = e
    · rw [if_pos q, if_pos q]; omega
    · rw [if_neg q, if_neg q]; exact hv0 i hi
  · show upd (g 4) (10 * w + e) (nI u) (10 * w + i) = nI (va_up (cb_m y w).2.2.1 e u i) ∧ upd (g 5) (10 * w + e) (nI v) (10 * w + i) = nI (va_up (cb_m y w).2.2.2.1 e v i)
    unfold va_up
    by_cases q : i = e
    · rw [if_pos q, if_pos q, q, upd_at, upd_at]; exact ⟨rfl, rfl⟩
    · rw [if_neg q, if_neg q, upd_ne (by omega), upd_ne (by omega)]; exact h1 i hi
theorem rf_part {n : Nat} {y : cb_Y} {g : rf_S} {w e c : Nat} (hn : n ≤ 10) (hI : rf_I n y g) (hw : w < 2) (hk : (cb_m y w).1 = 2) (he : e < n) (hc : c ≤ 3) : rf_I n (cb_s y w ((cb_m y w).1, (cb_m y w).2.1, (cb_m y w).2.2.1, (cb_m y w).2.2.2.1, va_up (cb_m y w).2.2.2.2.1 e c, (cb_m y w).2.2.2.2.2)) (va_up g 6 (upd (g 6) (10 * w + e) (nI c))) := by
  have hm := (hI.2 w hw).2
  have hv0 := va_k2 (hI.2 w hw).1 hk
  have h1 := rf_k2 hm hk
  refine rf_put hI hw rfl (Or.inr (Or.inr (Or.inl ⟨hk, fun i hi => ?_, hv0.2⟩))) ⟨hm.1, Or.inr (Or.inr (Or.inl ⟨hk, fun i hi => ?_, h1.2⟩))⟩ (fun j hj q hm => rf_kept (g := g) hn rfl rfl rfl (fun _ _ => rfl) (fun _ _ => rfl) (fun i hi => show upd (g 6) (10 * w + e) (nI c) (10 * j + i) = _ from upd_ne (by omega)) (fun _ _ => rfl) (fun _ _ => rfl) hm)
  · show va_up (cb_m y w).2.2.2.2.1 e c i < 4
    unfold va_up
    by_cases q : i = e
    · rw [if_pos q]; omega
    · rw [if_neg q]; exact hv0.1 i hi
  · show upd (g 6) (10 * w + e) (nI c) (10 * w + i) = nI (va_up (cb_m y w).2.2.2.2.1 e c i)
    unfold va_up
    by_cases q : i = e
    · rw [if_pos q, q, upd_at]
    · rw [if_neg q, upd_ne (by omega)]; exact h1.1 i hi
theorem rf_cap {n : Nat} {y : cb_Y} {g : rf_S} {w c k : Nat} (hn : n ≤ 10) (hI : rf_I n y g) (hw : w < 2) (hk : (cb_m y w).1 = 2) (hc : c ≤ 3) (hk9 : k ≤ 10) : rf_I n (cb_s y w ((cb_m y w).1, (cb_m y w).2.1, (cb_m y w).2.2.1, (cb_m y w).2.2.2.1, (cb_m y w).2.2.2.2.1, va_up (cb_m y w).2.2.2.2.2.1 c k, (cb_m y w).2.2.2.2.2.2)) (va_up g 7 (upd (g 7) (4 * w + c) (nI k))) := by
  have hm := (hI.2 w hw).2
  have hv0 := va_k2 (hI.2 w hw).1 hk
  have h1 := rf_k2 hm hk
  refine rf_put hI hw rfl (Or.inr (Or.inr (Or.inl ⟨hk, hv0.1, fun i hi => ?_⟩))) ⟨hm.1, Or.inr (Or.inr (Or.inl ⟨hk, h1.1, fun i hi => ?_⟩))⟩ (fun j hj q hm => rf_kept (g := g) hn rfl rfl rfl (fun _ _ => rfl) (fun _ _ => rfl) (fun _ _ => rfl) (fun i hi => show upd (g 7) (4 * w + c) (nI k) (4 * j + i) = _ from upd_ne (by omega)) (fun _ _ => rfl) hm)
  · show va_up (cb_m y w).2.2.2.2.2.1 c k i ≤ 10
    unfold va_up
    by_cases q : i = c
    · rw [if_pos q]; omega
    · rw [if_neg q]; exact hv0.2 i hi
  · show upd (g 7) (4 * w + c) (nI k) (4 * w + i) = nI (va_up (cb_m y w).2.2.2.2.2.1 c k i)
    unfold va_up
    by_cases q : i = c
    · rw [if_pos q, q, upd_at]
    · rw [if_neg q, upd_ne (by omega)]; exact h1.2 i hi
theorem rf_entry {n : Nat} {y : cb_Y} {g : rf_S} {w e r : Nat} {v : Int32} (hn : n ≤ 10) (hI : rf_I n y g) (hw : w < 2) (hk : (cb_m y w).1 = 3) (he : e < n) (hr : r ≤ 3) : rf_I n (cb_s y w ((cb_m y w).1, (cb_m y w).2.1, (cb_m y w).2.2.1, (cb_m y w).2.2.2.1, (cb_m y w).2.2.2.2.1, (cb_m y w).2.2.2.2.2.1, (cb_m y w).2.2.2.2.2.2.1, va_up (cb_m y w).2.2.2.2.2.2.2 e (va_up ((cb_m y w).2.2.2.2.2.2.2 e) r (fm_ v (cb_m y w).2.2.2.2.2.2.1)))) (va_up g 8 (upd (g 8) (40 * w + 4 * e + r) (nI (fm_ v (cb_m y w).2.2.2.2.2.2.1)))) := by
  have hm := (hI.2 w hw).2
  have hv0 := va_k3 (hI.2 w hw).1 hk
  have h1 := rf_k3 hm hk
  have hfl := fm_lt v (show 0 < (cb_m y w).2.2.2.2.2.2.1 by omega)
  refine rf_put hI hw rfl (Or.inr (Or.inr (Or.inr ⟨hk, hv0.1, fun i hi i2 hi2 => ?_⟩))) ⟨hm.1, Or.inr (Or.inr (Or.inr ⟨hk, h1.1, fun i hi i2 hi2 => ?_⟩))⟩ (fun j hj q hm => rf_kept (g := g) hn rfl rfl rfl (fun _ _ => rfl) (fun _ _ => rfl) (fun _ _ => rfl) (fun _ _ => rfl) (fun i hi => show upd (g 8) (40 * w + 4 * e + r) _ (40 * j + i) = _ from upd_ne (by omega)) hm)
  · show va_up (cb_m y w).2.2.2.2.2.2.2 e (va_up ((cb_m y w).2.2.2.2.2.2.2 e) r (fm_ v (cb_m y w).2.2.2.2.2.2.1)) i i2 < (cb_m y w).2.2.2.2.2.2.1
    unfold va_up
    by_cases q : i = e
    · rw [if_pos q]
      by_cases q2 : i2 = r
      · simp only [q2, if_true]; exact hfl
      · simp only [q2, if_false]; exact hv0.2 e he i2 hi2
    · rw [if_neg q]; exact hv0.2 i hi i2 hi2
  · show upd (g 8) (40 * w + 4 * e + r) _ (40 * w + 4 * i + i2) = nI (va_up (cb_m y w).2.2.2.2.2.2.2 e (va_up ((cb_m y w).2.2.2.2.2.2.2 e) r (fm_ v (cb_m y w).2.2.2.2.2.2.1)) i i2)
    unfold va_up
    by_cases q : i = e
    · rw [if_pos q, q]
      by_cases q2 : i2 = r
      · simp only [q2, if_true, upd_at]
      · simp only [q2, if_false]; rw [upd_ne (by omega)]; exact h1.2 e he i2 hi2
    · rw [if_neg q, upd_ne (by omega)]; exact h1.2 i hi i2 hi2
theorem rm_nn {k p : Nat} (hk : k < 2 ^ 31) (hp : p = 2 ∨ p = 3 ∨ p = 5 ∨ p = 7) : nI k - nI k / nI p * nI p = nI (k % p) := by
  rw [fm_a hp (nI_pos' hk)]
  unfold fm_
  rw [nI_toInt hk]
  rfl
theorem rm_ {x : Int32} {p : Nat} (hp : p = 2 ∨ p = 3 ∨ p = 5 ∨ p = 7) : (x - x / nI p * nI p + nI p) - (x - x / nI p * nI p + nI p) / nI p * nI p = nI (fm_ x p) := by
  have hlt := fm_lt x (show 0 < p by omega)
  by_cases h : 0 ≤ x
  · rw [fm_a hp h, nI_add, rm_nn (by omega) hp, Nat.add_mod_right, Nat.mod_eq_of_lt hlt]
  · by_cases hz : x - x / nI p * nI p = 0
    · rw [fm_b hp h hz, nI_add, rm_nn (by omega) hp, Nat.add_mod_right, Nat.mod_eq_of_lt hlt]
    · rw [fm_c hp h hz, rm_nn (by omega) hp, Nat.mod_eq_of_lt hlt]
theorem rm_nz {p : Nat} (hp : p = 2 ∨ p = 3 ∨ p = 5 ∨ p = 7) : ¬ nI p = 0 := nI_ne0 (by omega) (by omega)
theorem sm_le10 {k : Int32} {b : Nat} (hb : b < 2 ^ 31) (h1 : ¬ k < 0) (h2 : k ≤ nI b) : ∃ k1 : Nat, k1 ≤ b ∧ k = nI k1 := sm_upto hb ⟨h1, Int32.not_lt.mpr h2⟩
theorem sm_gt10 {k : Int32} {b : Nat} (hb : b < 2 ^ 31) (h1 : ¬ k < 0) (h2 : ¬ nI b < k) : ∃ k1 : Nat, k1 ≤ b ∧ k = nI k1 := sm_upto hb ⟨h1, h2⟩
theorem sz_s {x : Int32} {n : Nat} (hn : n ≤ 10) (h : ¬ (¬ x < 0 ∧ ¬ nI (2 ^ n) ≤ x)) : sr_ x (nI (2 ^ n - 1)) = false := by
  have h2n : 2 ^ n ≤ 1024 := Nat.pow_le_pow_right (by omega) hn
  exact sr_f (fun z => h ((sm_el (n := 2 ^ n) Nat.one_le_two_pow (by omega)).mpr z))
theorem nd_CM_become_0 : decode nc_CM_become 0 = .ok (.aload_n 0, 1) := by decide +kernel
theorem nd_CM_become_1 : decode nc_CM_become 1 = .ok (.getfield 13, 3) := by decide +kernel
theorem nd_CM_become_4 : decode nc_CM_become 4 = .ok (.iload_n 1, 1) := by decide +kernel
theorem nd_CM_become_5 : decode nc_CM_become 5 = .ok (.iload_n 2, 1) := by decide +kernel
theorem nd_CM_become_6 : decode nc_CM_become 6 = .ok (.iastore, 1) := by decide +kernel
theorem nd_CM_become_7 : decode nc_CM_become 7 = .ok (.bipush 10, 2) := by decide +kernel
theorem nd_CM_become_9 : decode nc_CM_become 9 = .ok (.iload_n 1, 1) := by decide +kernel
theorem nd_CM_become_10 : decode nc_CM_become 10 = .ok (.imul, 1) := by decide +kernel
theorem nd_CM_become_11 : decode nc_CM_become 11 = .ok (.istore_n 3, 1) := by decide +kernel
theorem nd_CM_become_12 : decode nc_CM_become 12 = .ok (.iload_n 3, 1) := by decide +kernel
theorem nd_CM_become_13 : decode nc_CM_become 13 = .ok (.bipush 10, 2) := by decide +kernel
theorem nd_CM_become_15 : decode nc_CM_become 15 = .ok (.iload_n 1, 1) := by decide +kernel
theorem nd_CM_become_16 : decode nc_CM_become 16 = .ok (.imul, 1) := by decide +kernel
theorem nd_CM_become_17 : decode nc_CM_become 17 = .ok (.bipush 10, 2) := by decide +kernel
theorem nd_CM_become_19 : decode nc_CM_become 19 = .ok (.iadd, 1) := by decide +kernel
theorem nd_CM_become_20 : decode nc_CM_become 20 = .ok (.if_icmp .ge 57, 3) := by decide +kernel
theorem nd_CM_become_23 : decode nc_CM_become 23 = .ok (.aload_n 0, 1) := by decide +kernel
theorem nd_CM_become_24 : decode nc_CM_become 24 = .ok (.getfield 22, 3) := by decide +kernel
theorem nd_CM_become_27 : decode nc_CM_become 27 = .ok (.iload_n 3, 1) := by decide +kernel
theorem nd_CM_become_28 : decode nc_CM_become 28 = .ok (.iconst 0, 1) := by decide +kernel
theorem nd_CM_become_29 : decode nc_CM_become 29 = .ok (.iastore, 1) := by decide +kernel
theorem nd_CM_become_30 : decode nc_CM_become 30 = .ok (.aload_n 0, 1) := by decide +kernel
theorem nd_CM_become_31 : decode nc_CM_become 31 = .ok (.getfield 25, 3) := by decide +kernel
theorem nd_CM_become_34 : decode nc_CM_become 34 = .ok (.iload_n 3, 1) := by decide +kernel
theorem nd_CM_become_35 : decode nc_CM_become 35 = .ok (.iconst 0, 1) := by decide +kernel
theorem nd_CM_become_36 : decode nc_CM_become 36 = .ok (.iastore, 1) := by decide +kernel
theorem nd_CM_become_37 : decode nc_CM_become 37 = .ok (.aload_n 0, 1) := by decide +kernel
theorem nd_CM_become_38 : decode nc_CM_become 38 = .ok (.getfield 28, 3) := by decide +kernel
theorem nd_CM_become_41 : decode nc_CM_become 41 = .ok (.iload_n 3, 1) := by decide +kernel
theorem nd_CM_become_42 : decode nc_CM_become 42 = .ok (.iconst 0, 1) := by decide +kernel
theorem nd_CM_become_43 : decode nc_CM_become 43 = .ok (.iastore, 1) := by decide +kernel
theorem nd_CM_become_44 : decode nc_CM_become 44 = .ok (.iconst 0, 1) := by decide +kernel
theorem nd_CM_become_45 : decode nc_CM_become 45 = .ok (.istore 4, 2) := by decide +kernel
theorem nd_CM_become_47 : decode nc_CM_become 47 = .ok (.iload 4, 2) := by decide +kernel
theorem nd_CM_become_49 : decode nc_CM_become 49 = .ok (.iconst 4, 1) := by decide +kernel
theorem nd_CM_become_50 : decode nc_CM_become 50 = .ok (.if_icmp .ge 21, 3) := by decide +kernel
theorem nd_CM_become_53 : decode nc_CM_become 53 = .ok (.aload_n 0, 1) := by decide +kernel
theorem nd_CM_become_54 : decode nc_CM_become 54 = .ok (.getfield 34, 3) := by decide +kernel
theorem nd_CM_become_57 : decode nc_CM_become 57 = .ok (.iconst 4, 1) := by decide +kernel
theorem nd_CM_become_58 : decode nc_CM_become 58 = .ok (.iload_n 3, 1) := by decide +kernel
theorem nd_CM_become_59 : decode nc_CM_become 59 = .ok (.imul, 1) := by decide +kernel
theorem nd_CM_become_60 : decode nc_CM_become 60 = .ok (.iload 4, 2) := by decide +kernel
theorem nd_CM_become_62 : decode nc_CM_become 62 = .ok (.iadd, 1) := by decide +kernel
theorem nd_CM_become_63 : decode nc_CM_become 63 = .ok (.iconst 0, 1) := by decide +kernel
theorem nd_CM_become_64 : decode nc_CM_become 64 = .ok (.iastore, 1) := by decide +kernel
theorem nd_CM_become_65 : decode nc_CM_become 65 = .ok (.iinc 4 1, 3) := by decide +kernel
theorem nd_CM_become_68 : decode nc_CM_become 68 = .ok (.goto (-21), 3) := by decide +kernel
theorem nd_CM_become_71 : decode nc_CM_become 71 = .ok (.iinc 3 1, 3) := by decide +kernel
theorem nd_CM_become_74 : decode nc_CM_become 74 = .ok (.goto (-62), 3) := by decide +kernel
theorem nd_CM_become_77 : decode nc_CM_become 77 = .ok (.iconst 0, 1) := by decide +kernel
theorem nd_CM_become_78 : decode nc_CM_become 78 = .ok (.istore_n 3, 1) := by decide +kernel
theorem nd_CM_become_79 : decode nc_CM_become 79 = .ok (.iload_n 3, 1) := by decide +kernel
theorem nd_CM_become_80 : decode nc_CM_become 80 = .ok (.iconst 4, 1) := by decide +kernel
theorem nd_CM_become_81 : decode nc_CM_become 81 = .ok (.if_icmp .ge 20, 3) := by decide +kernel
theorem nd_CM_become_84 : decode nc_CM_become 84 = .ok (.aload_n 0, 1) := by decide +kernel
theorem nd_CM_become_85 : decode nc_CM_become 85 = .ok (.getfield 31, 3) := by decide +kernel
theorem nd_CM_become_88 : decode nc_CM_become 88 = .ok (.iconst 4, 1) := by decide +kernel
theorem nd_CM_become_89 : decode nc_CM_become 89 = .ok (.iload_n 1, 1) := by decide +kernel
theorem nd_CM_become_90 : decode nc_CM_become 90 = .ok (.imul, 1) := by decide +kernel
theorem nd_CM_become_91 : decode nc_CM_become 91 = .ok (.iload_n 3, 1) := by decide +kernel
theorem nd_CM_become_92 : decode nc_CM_become 92 = .ok (.iadd, 1) := by decide +kernel
theorem nd_CM_become_93 : decode nc_CM_become 93 = .ok (.iconst 0, 1) := by decide +kernel
theorem nd_CM_become_94 : decode nc_CM_become 94 = .ok (.iastore, 1) := by decide +kernel
theorem nd_CM_become_95 : decode nc_CM_become 95 = .ok (.iinc 3 1, 3) := by decide +kernel
theorem nd_CM_become_98 : decode nc_CM_become 98 = .ok (.goto (-19), 3) := by decide +kernel
theorem nd_CM_become_101 : decode nc_CM_become 101 = .ok (.return_, 1) := by decide +kernel
set_option maxRecDepth 20000 in
theorem lp_CM_become_r {p : Program} {l : Launch} {e0 : Env} {R : Room} {s0 : State} {m : MethodId} {args : Array Value} {below : List Frame} {meth : Method} {c : Code} {cells slots : Nat} {Q : State → Prop} {D : va_G} {A : Nat → Prop} (cI cG cM : ClassId) (q : Nat → Nat) (n : Nat) (hn1 : 1 ≤ n) (hn : n ≤ 10) (g : rf_S) (w e : Nat) (hw : w < 2) (he : 10 * w ≤ e ∧ e < 10 * w + 10)  (hx : p.tables.exec = Jvm.exec) (hb : c.code = nc_CM_become) (hml : c.maxLocals = 5) (htg : ∀ w ∈ tg_, w.before args s0 = true) (hown : s0.vm.findClass ny_CM_become.cls = some m.cls) (hK : va_K D cl_all (ty_all cI cG cM) s0) (hN : tn_K s0) (hA : ∀ q : Nat, s0.heap.size ≤ q → A q) (hRf : 0 ≤ R.frames) (hRl : 0 ≤ R.locals) (hCS : cells ≤ R.cells ∧ slots ≤ R.slots) (kx : ∀ (ls : Array Slot) (H : Heap) (locs : List Loc), lv_has ls 5 [(0, .ref (q 0)), (1, .int (nI (w))), (3, .int (nI (e)))] → va_P D cl_all ([((q 0), .inr (6, [.int (nI (n)), .ref (q 2), .ref (q 3), .ref (q 4), .ref (q 5), .ref (q 6), .ref (q 7), .ref (q 8), .ref (q 9), .ref (q 10), .ref (q 11), .ref (q 12), .ref (q 13), .ref (q 14)])), ((q 2), .inl (cI, 10, .inl (g 0))), ((q 3), .inl (cI, 2, .inl (g 1))), ((q 4), .inl (cI, 2, .inl (g 2))), ((q 5), .inl (cI, 2, .inl (g 3))), ((q 6), .inl (cI, 20, .inl (g 4))), ((q 7), .inl (cI, 20, .inl (g 5))), ((q 8), .inl (cI, 20, .inl (g 6))), ((q 9), .inl (cI, 8, .inl (g 7))), ((q 10), .inl (cI, 80, .inl (zz_ (g 8) (40 * w) (4 * e + 4)))), ((q 11), .inl (cI, 8, .inl (g 9))), ((q 12), .inl (cI, 16, .inl (g 10))), ((q 13), .inl (cI, 16, .inl (g 11))), ((q 14), .inl (cI, 2048, .inl (g 12)))]) H → va_D A ([((q 0), .inr (6, [.int (nI (n)), .ref (q 2), .ref (q 3), .ref (q 4), .ref (q 5), .ref (q 6), .ref (q 7), .ref (q 8), .ref (q 9), .ref (q 10), .ref (q 11), .ref (q 12), .ref (q 13), .ref (q 14)])), ((q 2), .inl (cI, 10, .inl (g 0))), ((q 3), .inl (cI, 2, .inl (g 1))), ((q 4), .inl (cI, 2, .inl (g 2))), ((q 5), .inl (cI, 2, .inl (g 3))), ((q 6), .inl (cI, 20, .inl (g 4))), ((q 7), .inl (cI, 20, .inl (g 5))), ((q 8), .inl (cI, 20, .inl (g 6))), ((q 9), .inl (cI, 8, .inl (g 7))), ((q 10), .inl (cI, 80, .inl (zz_ (g 8) (40 * w) (4 * e + 4)))), ((q 11), .inl (cI, 8, .inl (g 9))), ((q 12), .inl (cI, 16, .inl (g 10))), ((q 13), .inl (cI, 16, .inl (g 11))), ((q 14), .inl (cI, 2048, .inl (g 12)))]) → va_S A s0.heap H locs → W p l e0 R s0 m args below meth c H locs cells slots Q (F0 m 71 ls [])) : ∀ (f : Nat) (r : Nat) (ls : Array Slot) (H : Heap) (locs : List Loc), 4 - r < f → (r ≤ 4) → lv_has ls 5 [(4, .int (nI (r))), (0, .ref (q 0)), (1, .int (nI (w))), (3, .int (nI (e)))] → va_P D cl_all ([((q 0), .inr (6, [.int (nI (n)), .ref (q 2), .ref (q 3), .ref (q 4), .ref (q 5), .ref (q 6), .ref (q 7), .ref (q 8), .ref (q 9), .ref (q 10), .ref (q 11), .ref (q 12), .ref (q 13), .ref (q 14)])), ((q 2), .inl (cI, 10, .inl (g 0))), ((q 3), .inl (cI, 2, .inl (g 1))), ((q 4), .inl (cI, 2, .inl (g 2))), ((q 5), .inl (cI, 2, .inl (g 3))), ((q 6), .inl (cI, 20, .inl (g 4))), ((q 7), .inl (cI, 20, .inl (g 5))), ((q 8), .inl (cI, 20, .inl (g 6))), ((q 9), .inl (cI, 8, .inl (g 7))), ((q 10), .inl (cI, 80, .inl (zz_ (g 8) (40 * w) (4 * e + r)))), ((q 11), .inl (cI, 8, .inl (g 9))), ((q 12), .inl (cI, 16, .inl (g 10))), ((q 13), .inl (cI, 16, .inl (g 11))), ((q 14), .inl (cI, 2048, .inl (g 12)))]) H → va_D A ([((q 0), .inr (6, [.int (nI (n)), .ref (q 2), .ref (q 3), .ref (q 4), .ref (q 5), .ref (q 6), .ref (q 7), .ref (q 8), .ref (q 9), .ref (q 10), .ref (q 11), .ref (q 12), .ref (q 13), .ref (q 14)])), ((q 2), .inl (cI, 10, .inl (g 0))), ((q 3), .inl (cI, 2, .inl (g 1))), ((q 4), .inl (cI, 2, .inl (g 2))), ((q 5), .inl (cI, 2, .inl (g 3))), ((q 6), .inl (cI, 20, .inl (g 4))), ((q 7), .inl (cI, 20, .inl (g 5))), ((q 8), .inl (cI, 20, .inl (g 6))), ((q 9), .inl (cI, 8, .inl (g 7))), ((q 10), .inl (cI, 80, .inl (zz_ (g 8) (40 * w) (4 * e + r)))), ((q 11), .inl (cI, 8, .inl (g 9))), ((q 12), .inl (cI, 16, .inl (g 10))), ((q 13), .inl (cI, 16, .inl (g 11))), ((q 14), .inl (cI, 2048, .inl (g 12)))]) → va_S A s0.heap H locs → W p l e0 R s0 m args below meth c H locs cells slots Q (F0 m 47 ls []) := by
  intro f
  induction f with
  | zero => intro r ls H locs hfu; omega
  | succ f ih =>
    intro r ls H locs hfu hr4 hl hP hD hS
    have h2n : 2 ^ n ≤ 1024 := Nat.pow_le_pow_right (by omega) hn
    have h2p : 1 ≤ 2 ^ n := Nat.one_le_two_pow
    refine lv_iload hx hb nd_CM_become_47 (lv_at hl 0 rfl) ?_
    refine wi_ic hx hb (a := 4) nd_CM_become_49 ?_
    refine wi_icmp_ge (tgt := 71) hx hb (by omega) (by omega) nd_CM_become_50 rfl (fun hc50 => ?_) (fun hc50 => ?_)
    · have hl : lv_has ls 5 [(0, .ref (q 0)), (1, .int (nI (w))), (3, .int (nI (e)))] := lv_sub hl [1, 2, 3] rfl
      rw [show r = 4 by omega] at hP hD
      exact kx ls H locs hl hP hD hS
    · refine lv_aload_n hx hb nd_CM_become_53 rfl (lv_at hl 1 rfl) ?_
      refine va_get (D := D) (C := nr_CM) (T := nt_CM) (N := 14) hx hb htg tf_CM hown hK hP 0 rfl rfl 9 (by decide) (htg _ tm_392) (fun _ h => h) rfl nd_CM_become_54 ?_
      refine wi_ic hx hb (a := 4) nd_CM_become_57 ?_
      refine lv_iload_n hx hb nd_CM_become_58 rfl (lv_at hl 3 rfl) ?_
      refine wi_imul hx hb nd_CM_become_59 ?_
      refine lv_iload hx hb nd_CM_become_60 (lv_at hl 0 rfl) ?_
      refine wi_iadd hx hb nd_CM_become_62 ?_
      refine wi_ic hx hb (a := 0) nd_CM_become_63 ?_
      refine wi_iast hx hb hK hP hD hS 9 0 rfl rfl (by omega) (by omega) nd_CM_become_64 (fun H locs hP hD hS => ?_)
      have hP : va_P D cl_all ([((q 0), .inr (6, [.int (nI (n)), .ref (q 2), .ref (q 3), .ref (q 4), .ref (q 5), .ref (q 6), .ref (q 7), .ref (q 8), .ref (q 9), .ref (q 10), .ref (q 11), .ref (q 12), .ref (q 13), .ref (q 14)])), ((q 2), .inl (cI, 10, .inl (g 0))), ((q 3), .inl (cI, 2, .inl (g 1))), ((q 4), .inl (cI, 2, .inl (g 2))), ((q 5), .inl (cI, 2, .inl (g 3))), ((q 6), .inl (cI, 20, .inl (g 4))), ((q 7), .inl (cI, 20, .inl (g 5))), ((q 8), .inl (cI, 20, .inl (g 6))), ((q 9), .inl (cI, 8, .inl (g 7))), ((q 10), .inl (cI, 80, .inl (upd (zz_ (g 8) (40 * w) (4 * e + r)) ((4 * e) + r) (nI (0))))), ((q 11), .inl (cI, 8, .inl (g 9))), ((q 12), .inl (cI, 16, .inl (g 10))), ((q 13), .inl (cI, 16, .inl (g 11))), ((q 14), .inl (cI, 2048, .inl (g 12)))]) H := hP
      have hD : va_D A ([((q 0), .inr (6, [.int (nI (n)), .ref (q 2), .ref (q 3), .ref (q 4), .ref (q 5), .ref (q 6), .ref (q 7), .ref (q 8), .ref (q 9), .ref (q 10), .ref (q 11), .ref (q 12), .ref (q 13), .ref (q 14)])), ((q 2), .inl (cI, 10, .inl (g 0))), ((q 3), .inl (cI, 2, .inl (g 1))), ((q 4), .inl (cI, 2, .inl (g 2))), ((q 5), .inl (cI, 2, .inl (g 3))), ((q 6), .inl (cI, 20, .inl (g 4))), ((q 7), .inl (cI, 20, .inl (g 5))), ((q 8), .inl (cI, 20, .inl (g 6))), ((q 9), .inl (cI, 8, .inl (g 7))), ((q 10), .inl (cI, 80, .inl (upd (zz_ (g 8) (40 * w) (4 * e + r)) ((4 * e) + r) (nI (0))))), ((q 11), .inl (cI, 8, .inl (g 9))), ((q 12), .inl (cI, 16, .inl (g 10))), ((q 13), .inl (cI, 16, .inl (g 11))), ((q 14), .inl (cI, 2048, .inl (g 12)))]) := hD
      refine lv_iinc (k := 0) (v := nI (r + 1)) hx hb nd_CM_become_65 hl rfl (wi_inc _ 1) (by decide) rfl (fun ls hl => ?_)
      have hl : lv_has ls 5 [(4, .int (nI (r + 1))), (0, .ref (q 0)), (1, .int (nI (w))), (3, .int (nI (e)))] := hl
      refine lv_goto (tgt := 47) hx hb nd_CM_become_68 rfl ?_
      have hl : lv_has ls 5 [(4, .int (nI (r + 1))), (0, .ref (q 0)), (1, .int (nI (w))), (3, .int (nI (e)))] := lv_sub hl [0, 1, 2, 3] rfl
      rw [zz_s (g 8) (by omega)] at hP hD
      exact ih (r + 1) ls H locs (by omega) (by omega) hl hP hD hS
set_option maxRecDepth 20000 in
theorem lp_CM_become_e {p : Program} {l : Launch} {e0 : Env} {R : Room} {s0 : State} {m : MethodId} {args : Array Value} {below : List Frame} {meth : Method} {c : Code} {cells slots : Nat} {Q : State → Prop} {D : va_G} {A : Nat → Prop} (cI cG cM : ClassId) (q : Nat → Nat) (n : Nat) (hn1 : 1 ≤ n) (hn : n ≤ 10) (g : rf_S) (w : Nat) (hw : w < 2)  (hx : p.tables.exec = Jvm.exec) (hb : c.code = nc_CM_become) (hml : c.maxLocals = 5) (htg : ∀ w ∈ tg_, w.before args s0 = true) (hown : s0.vm.findClass ny_CM_become.cls = some m.cls) (hK : va_K D cl_all (ty_all cI cG cM) s0) (hN : tn_K s0) (hA : ∀ q : Nat, s0.heap.size ≤ q → A q) (hRf : 0 ≤ R.frames) (hRl : 0 ≤ R.locals) (hCS : cells ≤ R.cells ∧ slots ≤ R.slots) (kx : ∀ (ls : Array Slot) (H : Heap) (locs : List Loc), lv_has ls 5 [(0, .ref (q 0)), (1, .int (nI (w)))] → va_P D cl_all ([((q 0), .inr (6, [.int (nI (n)), .ref (q 2), .ref (q 3), .ref (q 4), .ref (q 5), .ref (q 6), .ref (q 7), .ref (q 8), .ref (q 9), .ref (q 10), .ref (q 11), .ref (q 12), .ref (q 13), .ref (q 14)])), ((q 2), .inl (cI, 10, .inl (g 0))), ((q 3), .inl (cI, 2, .inl (g 1))), ((q 4), .inl (cI, 2, .inl (g 2))), ((q 5), .inl (cI, 2, .inl (g 3))), ((q 6), .inl (cI, 20, .inl (zz_ (g 4) (10 * w) (10 * w + 10)))), ((q 7), .inl (cI, 20, .inl (zz_ (g 5) (10 * w) (10 * w + 10)))), ((q 8), .inl (cI, 20, .inl (zz_ (g 6) (10 * w) (10 * w + 10)))), ((q 9), .inl (cI, 8, .inl (g 7))), ((q 10), .inl (cI, 80, .inl (zz_ (g 8) (40 * w) (4 * (10 * w + 10))))), ((q 11), .inl (cI, 8, .inl (g 9))), ((q 12), .inl (cI, 16, .inl (g 10))), ((q 13), .inl (cI, 16, .inl (g 11))), ((q 14), .inl (cI, 2048, .inl (g 12)))]) H → va_D A ([((q 0), .inr (6, [.int (nI (n)), .ref (q 2), .ref (q 3), .ref (q 4), .ref (q 5), .ref (q 6), .ref (q 7), .ref (q 8), .ref (q 9), .ref (q 10), .ref (q 11), .ref (q 12), .ref (q 13), .ref (q 14)])), ((q 2), .inl (cI, 10, .inl (g 0))), ((q 3), .inl (cI, 2, .inl (g 1))), ((q 4), .inl (cI, 2, .inl (g 2))), ((q 5), .inl (cI, 2, .inl (g 3))), ((q 6), .inl (cI, 20, .inl (zz_ (g 4) (10 * w) (10 * w + 10)))), ((q 7), .inl (cI, 20, .inl (zz_ (g 5) (10 * w) (10 * w + 10)))), ((q 8), .inl (cI, 20, .inl (zz_ (g 6) (10 * w) (10 * w + 10)))), ((q 9), .inl (cI, 8, .inl (g 7))), ((q 10), .inl (cI, 80, .inl (zz_ (g 8) (40 * w) (4 * (10 * w + 10))))), ((q 11), .inl (cI, 8, .inl (g 9))), ((q 12), .inl (cI, 16, .inl (g 10))), ((q 13), .inl (cI, 16, .inl (g 11))), ((q 14), .inl (cI, 2048, .inl (g 12)))]) → va_S A s0.heap H locs → W p l e0 R s0 m args below meth c H locs cells slots Q (F0 m 77 ls [])) : ∀ (f : Nat) (e : Nat) (ls : Array Slot) (H : Heap) (locs : List Loc), 10 * w + 10 - e < f → (10 * w ≤ e ∧ e ≤ 10 * w + 10) → lv_has ls 5 [(3, .int (nI (e))), (0, .ref (q 0)), (1, .int (nI (w)))] → va_P D cl_all ([((q 0), .inr (6, [.int (nI (n)), .ref (q 2), .ref (q 3), .ref (q 4), .ref (q 5), .ref (q 6), .ref (q 7), .ref (q 8), .ref (q 9), .ref (q 10), .ref (q 11), .ref (q 12), .ref (q 13), .ref (q 14)])), ((q 2), .inl (cI, 10, .inl (g 0))), ((q 3), .inl (cI, 2, .inl (g 1))), ((q 4), .inl (cI, 2, .inl (g 2))), ((q 5), .inl (cI, 2, .inl (g 3))), ((q 6), .inl (cI, 20, .inl (zz_ (g 4) (10 * w) e))), ((q 7), .inl (cI, 20, .inl (zz_ (g 5) (10 * w) e))), ((q 8), .inl (cI, 20, .inl (zz_ (g 6) (10 * w) e))), ((q 9), .inl (cI, 8, .inl (g 7))), ((q 10), .inl (cI, 80, .inl (zz_ (g 8) (40 * w) (4 * e)))), ((q 11), .inl (cI, 8, .inl (g 9))), ((q 12), .inl (cI, 16, .inl (g 10))), ((q 13), .inl (cI, 16, .inl (g 11))), ((q 14), .inl (cI, 2048, .inl (g 12)))]) H → va_D A ([((q 0), .inr (6, [.int (nI (n)), .ref (q 2), .ref (q 3), .ref (q 4), .ref (q 5), .ref (q 6), .ref (q 7), .ref (q 8), .ref (q 9), .ref (q 10), .ref (q 11), .ref (q 12), .ref (q 13), .ref (q 14)])), ((q 2), .inl (cI, 10, .inl (g 0))), ((q 3), .inl (cI, 2, .inl (g 1))), ((q 4), .inl (cI, 2, .inl (g 2))), ((q 5), .inl (cI, 2, .inl (g 3))), ((q 6), .inl (cI, 20, .inl (zz_ (g 4) (10 * w) e))), ((q 7), .inl (cI, 20, .inl (zz_ (g 5) (10 * w) e))), ((q 8), .inl (cI, 20, .inl (zz_ (g 6) (10 * w) e))), ((q 9), .inl (cI, 8, .inl (g 7))), ((q 10), .inl (cI, 80, .inl (zz_ (g 8) (40 * w) (4 * e)))), ((q 11), .inl (cI, 8, .inl (g 9))), ((q 12), .inl (cI, 16, .inl (g 10))), ((q 13), .inl (cI, 16, .inl (g 11))), ((q 14), .inl (cI, 2048, .inl (g 12)))]) → va_S A s0.heap H locs → W p l e0 R s0 m args below meth c H locs cells slots Q (F0 m 12 ls []) := by
  intro f
  induction f with
  | zero => intro e ls H locs hfu; omega
  | succ f ih =>
    intro e ls H locs hfu he hl hP hD hS
    have h2n : 2 ^ n ≤ 1024 := Nat.pow_le_pow_right (by omega) hn
    have h2p : 1 ≤ 2 ^ n := Nat.one_le_two_pow
    refine lv_iload_n hx hb nd_CM_become_12 rfl (lv_at hl 0 rfl) ?_
    refine lv_bipush (v := nI 10) hx hb nd_CM_become_13 (by decide) ?_
    refine lv_iload_n hx hb nd_CM_become_15 rfl (lv_at hl 2 rfl) ?_
    refine wi_imul hx hb nd_CM_become_16 ?_
    refine lv_bipush (v := nI 10) hx hb nd_CM_become_17 (by decide) ?_
    refine wi_iadd hx hb nd_CM_become_19 ?_
    refine wi_icmp_ge (tgt := 77) hx hb (by omega) (by omega) nd_CM_become_20 rfl (fun hc20 => ?_) (fun hc20 => ?_)
    · have hl : lv_has ls 5 [(0, .ref (q 0)), (1, .int (nI (w)))] := lv_sub hl [1, 2] rfl
      rw [show e = 10 * w + 10 by omega] at hP hD
      exact kx ls H locs hl hP hD hS
    · refine lv_aload_n hx hb nd_CM_become_23 rfl (lv_at hl 1 rfl) ?_
      refine va_get (D := D) (C := nr_CM) (T := nt_CM) (N := 14) hx hb htg tf_CM hown hK hP 0 rfl rfl 5 (by decide) (htg _ tm_388) (fun _ h => h) rfl nd_CM_become_24 ?_
      refine lv_iload_n hx hb nd_CM_become_27 rfl (lv_at hl 0 rfl) ?_
      refine wi_ic hx hb (a := 0) nd_CM_become_28 ?_
      refine wi_iast hx hb hK hP hD hS 5 0 rfl rfl (by omega) (by omega) nd_CM_become_29 (fun H locs hP hD hS => ?_)
      have hP : va_P D cl_all ([((q 0), .inr (6, [.int (nI (n)), .ref (q 2), .ref (q 3), .ref (q 4), .ref (q 5), .ref (q 6), .ref (q 7), .ref (q 8), .ref (q 9), .ref (q 10), .ref (q 11), .ref (q 12), .ref (q 13), .ref (q 14)])), ((q 2), .inl (cI, 10, .inl (g 0))), ((q 3), .inl (cI, 2, .inl (g 1))), ((q 4), .inl (cI, 2, .inl (g 2))), ((q 5), .inl (cI, 2, .inl (g 3))), ((q 6), .inl (cI, 20, .inl (upd (zz_ (g 4) (10 * w) e) e (nI (0))))), ((q 7), .inl (cI, 20, .inl (zz_ (g 5) (10 * w) e))), ((q 8), .inl (cI, 20, .inl (zz_ (g 6) (10 * w) e))), ((q 9), .inl (cI, 8, .inl (g 7))), ((q 10), .inl (cI, 80, .inl (zz_ (g 8) (40 * w) (4 * e)))), ((q 11), .inl (cI, 8, .inl (g 9))), ((q 12), .inl (cI, 16, .inl (g 10))), ((q 13), .inl (cI, 16, .inl (g 11))), ((q 14), .inl (cI, 2048, .inl (g 12)))]) H := hP
      have hD : va_D A ([((q 0), .inr (6, [.int (nI (n)), .ref (q 2), .ref (q 3), .ref (q 4), .ref (q 5), .ref (q 6), .ref (q 7), .ref (q 8), .ref (q 9), .ref (q 10), .ref (q 11), .ref (q 12), .ref (q 13), .ref (q 14)])), ((q 2), .inl (cI, 10, .inl (g 0))), ((q 3), .inl (cI, 2, .inl (g 1))), ((q 4), .inl (cI, 2, .inl (g 2))), ((q 5), .inl (cI, 2, .inl (g 3))), ((q 6), .inl (cI, 20, .inl (upd (zz_ (g 4) (10 * w) e) e (nI (0))))), ((q 7), .inl (cI, 20, .inl (zz_ (g 5) (10 * w) e))), ((q 8), .inl (cI, 20, .inl (zz_ (g 6) (10 * w) e))), ((q 9), .inl (cI, 8, .inl (g 7))), ((q 10), .inl (cI, 80, .inl (zz_ (g 8) (40 * w) (4 * e)))), ((q 11), .inl (cI, 8, .inl (g 9))), ((q 12), .inl (cI, 16, .inl (g 10))), ((q 13), .inl (cI, 16, .inl (g 11))), ((q 14), .inl (cI, 2048, .inl (g 12)))]) := hD
      refine lv_aload_n hx hb nd_CM_become_30 rfl (lv_at hl 1 rfl) ?_
      refine va_get (D := D) (C := nr_CM) (T := nt_CM) (N := 14) hx hb htg tf_CM hown hK hP 0 rfl rfl 6 (by decide) (htg _ tm_389) (fun _ h => h) rfl nd_CM_become_31 ?_
      refine lv_iload_n hx hb nd_CM_become_34 rfl (lv_at hl 0 rfl) ?_
      refine wi_ic hx hb (a := 0) nd_CM_become_35 ?_
      refine wi_iast hx hb hK hP hD hS 6 0 rfl rfl (by omega) (by omega) nd_CM_become_36 (fun H locs hP hD hS => ?_)
      have hP : va_P D cl_all ([((q 0), .inr (6, [.int (nI (n)), .ref (q 2), .ref (q 3), .ref (q 4), .ref (q 5), .ref (q 6), .ref (q 7), .ref (q 8), .ref (q 9), .ref (q 10), .ref (q 11), .ref (q 12), .ref (q 13), .ref (q 14)])), ((q 2), .inl (cI, 10, .inl (g 0))), ((q 3), .inl (cI, 2, .inl (g 1))), ((q 4), .inl (cI, 2, .inl (g 2))), ((q 5), .inl (cI, 2, .inl (g 3))), ((q 6), .inl (cI, 20, .inl (upd (zz_ (g 4) (10 * w) e) e (nI (0))))), ((q 7), .inl (cI, 20, .inl (upd (zz_ (g 5) (10 * w) e) e (nI (0))))), ((q 8), .inl (cI, 20, .inl (zz_ (g 6) (10 * w) e))), ((q 9), .inl (cI, 8, .inl (g 7))), ((q 10), .inl (cI, 80, .inl (zz_ (g 8) (40 * w) (4 * e)))), ((q 11), .inl (cI, 8, .inl (g 9))), ((q 12), .inl (cI, 16, .inl (g 10))), ((q 13), .inl (cI, 16, .inl (g 11))), ((q 14), .inl (cI, 2048, .inl (g 12)))]) H := hP
      have hD : va_D A ([((q 0), .inr (6, [.int (nI (n)), .ref (q 2), .ref (q 3), .ref (q 4), .ref (q 5), .ref (q 6), .ref (q 7), .ref (q 8), .ref (q 9), .ref (q 10), .ref (q 11), .ref (q 12), .ref (q 13), .ref (q 14)])), ((q 2), .inl (cI, 10, .inl (g 0))), ((q 3), .inl (cI, 2, .inl (g 1))), ((q 4), .inl (cI, 2, .inl (g 2))), ((q 5), .inl (cI, 2, .inl (g 3))), ((q 6), .inl (cI, 20, .inl (upd (zz_ (g 4) (10 * w) e) e (nI (0))))), ((q 7), .inl (cI, 20, .inl (upd (zz_ (g 5) (10 * w) e) e (nI (0))))), ((q 8), .inl (cI, 20, .inl (zz_ (g 6) (10 * w) e))), ((q 9), .inl (cI, 8, .inl (g 7))), ((q 10), .inl (cI, 80, .inl (zz_ (g 8) (40 * w) (4 * e)))), ((q 11), .inl (cI, 8, .inl (g 9))), ((q 12), .inl (cI, 16, .inl (g 10))), ((q 13), .inl (cI, 16, .inl (g 11))), ((q 14), .inl (cI, 2048, .inl (g 12)))]) := hD
      refine lv_aload_n hx hb nd_CM_become_37 rfl (lv_at hl 1 rfl) ?_
      refine va_get (D := D) (C := nr_CM) (T := nt_CM) (N := 14) hx hb htg tf_CM hown hK hP 0 rfl rfl 7 (by decide) (htg _ tm_390) (fun _ h => h) rfl nd_CM_become_38 ?_
      refine lv_iload_n hx hb nd_CM_become_41 rfl (lv_at hl 0 rfl) ?_
      refine wi_ic hx hb (a := 0) nd_CM_become_42 ?_
      refine wi_iast hx hb hK hP hD hS 7 0 rfl rfl (by omega) (by omega) nd_CM_become_43 (fun H locs hP hD hS => ?_)
      have hP : va_P D cl_all ([((q 0), .inr (6, [.int (nI (n)), .ref (q 2), .ref (q 3), .ref (q 4), .ref (q 5), .ref (q 6), .ref (q 7), .ref (q 8), .ref (q 9), .ref (q 10), .ref (q 11), .ref (q 12), .ref (q 13), .ref (q 14)])), ((q 2), .inl (cI, 10, .inl (g 0))), ((q 3), .inl (cI, 2, .inl (g 1))), ((q 4), .inl (cI, 2, .inl (g 2))), ((q 5), .inl (cI, 2, .inl (g 3))), ((q 6), .inl (cI, 20, .inl (upd (zz_ (g 4) (10 * w) e) e (nI (0))))), ((q 7), .inl (cI, 20, .inl (upd (zz_ (g 5) (10 * w) e) e (nI (0))))), ((q 8), .inl (cI, 20, .inl (upd (zz_ (g 6) (10 * w) e) e (nI (0))))), ((q 9), .inl (cI, 8, .inl (g 7))), ((q 10), .inl (cI, 80, .inl (zz_ (g 8) (40 * w) (4 * e)))), ((q 11), .inl (cI, 8, .inl (g 9))), ((q 12), .inl (cI, 16, .inl (g 10))), ((q 13), .inl (cI, 16, .inl (g 11))), ((q 14), .inl (cI, 2048, .inl (g 12)))]) H := hP
      have hD : va_D A ([((q 0), .inr (6, [.int (nI (n)), .ref (q 2), .ref (q 3), .ref (q 4), .ref (q 5), .ref (q 6), .ref (q 7), .ref (q 8), .ref (q 9), .ref (q 10), .ref (q 11), .ref (q 12), .ref (q 13), .ref (q 14)])), ((q 2), .inl (cI, 10, .inl (g 0))), ((q 3), .inl (cI, 2, .inl (g 1))), ((q 4), .inl (cI, 2, .inl (g 2))), ((q 5), .inl (cI, 2, .inl (g 3))), ((q 6), .inl (cI, 20, .inl (upd (zz_ (g 4) (10 * w) e) e (nI (0))))), ((q 7), .inl (cI, 20, .inl (upd (zz_ (g 5) (10 * w) e) e (nI (0))))), ((q 8), .inl (cI, 20, .inl (upd (zz_ (g 6) (10 * w) e) e (nI (0))))), ((q 9), .inl (cI, 8, .inl (g 7))), ((q 10), .inl (cI, 80, .inl (zz_ (g 8) (40 * w) (4 * e)))), ((q 11), .inl (cI, 8, .inl (g 9))), ((q 12), .inl (cI, 16, .inl (g 10))), ((q 13), .inl (cI, 16, .inl (g 11))), ((q 14), .inl (cI, 2048, .inl (g 12)))]) := hD
      refine wi_ic hx hb (a := 0) nd_CM_become_44 ?_
      refine lv_istore hx hb nd_CM_become_45 hl (by decide) rfl (fun ls hl => ?_)
      have hl : lv_has ls 5 [(4, .int (nI (0))), (3, .int (nI (e))), (0, .ref (q 0)), (1, .int (nI (w)))] := hl
      rw [zz_s (g 4) (by omega), zz_s (g 5) (by omega), zz_s (g 6) (by omega)] at hP hD
      have hl : lv_has ls 5 [(4, .int (nI (0))), (0, .ref (q 0)), (1, .int (nI (w))), (3, .int (nI (e)))] := lv_sub hl [0, 2, 3, 1] rfl
      refine lp_CM_become_r cI cG cM q n hn1 hn (va_up (va_up (va_up g 4 (zz_ (g 4) (10 * w) (e + 1))) 5 (zz_ (g 5) (10 * w) (e + 1))) 6 (zz_ (g 6) (10 * w) (e + 1))) w e hw (by omega) hx hb hml htg hown hK hN hA hRf hRl hCS (fun ls H locs hl hP hD hS => ?_) 5 0 ls H locs (by omega) (by omega) hl hP hD hS
      have hP : va_P D cl_all ([((q 0), .inr (6, [.int (nI (n)), .ref (q 2), .ref (q 3), .ref (q 4), .ref (q 5), .ref (q 6), .ref (q 7), .ref (q 8), .ref (q 9), .ref (q 10), .ref (q 11), .ref (q 12), .ref (q 13), .ref (q 14)])), ((q 2), .inl (cI, 10, .inl (g 0))), ((q 3), .inl (cI, 2, .inl (g 1))), ((q 4), .inl (cI, 2, .inl (g 2))), ((q 5), .inl (cI, 2, .inl (g 3))), ((q 6), .inl (cI, 20, .inl (zz_ (g 4) (10 * w) (e + 1)))), ((q 7), .inl (cI, 20, .inl (zz_ (g 5) (10 * w) (e + 1)))), ((q 8), .inl (cI, 20, .inl (zz_ (g 6) (10 * w) (e + 1)))), ((q 9), .inl (cI, 8, .inl (g 7))), ((q 10), .inl (cI, 80, .inl (zz_ (g 8) (40 * w) (4 * (e + 1))))), ((q 11), .inl (cI, 8, .inl (g 9))), ((q 12), .inl (cI, 16, .inl (g 10))), ((q 13), .inl (cI, 16, .inl (g 11))), ((q 14), .inl (cI, 2048, .inl (g 12)))]) H := hP
      have hD : va_D A ([((q 0), .inr (6, [.int (nI (n)), .ref (q 2), .ref (q 3), .ref (q 4), .ref (q 5), .ref (q 6), .ref (q 7), .ref (q 8), .ref (q 9), .ref (q 10), .ref (q 11), .ref (q 12), .ref (q 13), .ref (q 14)])), ((q 2), .inl (cI, 10, .inl (g 0))), ((q 3), .inl (cI, 2, .inl (g 1))), ((q 4), .inl (cI, 2, .inl (g 2))), ((q 5), .inl (cI, 2, .inl (g 3))), ((q 6), .inl (cI, 20, .inl (zz_ (g 4) (10 * w) (e + 1)))), ((q 7), .inl (cI, 20, .inl (zz_ (g 5) (10 * w) (e + 1)))), ((q 8), .inl (cI, 20, .inl (zz_ (g 6) (10 * w) (e + 1)))), ((q 9), .inl (cI, 8, .inl (g 7))), ((q 10), .inl (cI, 80, .inl (zz_ (g 8) (40 * w) (4 * (e + 1))))), ((q 11), .inl (cI, 8, .inl (g 9))), ((q 12), .inl (cI, 16, .inl (g 10))), ((q 13), .inl (cI, 16, .inl (g 11))), ((q 14), .inl (cI, 2048, .inl (g 12)))]) := hD
      refine lv_iinc (k := 2) (v := nI (e + 1)) hx hb nd_CM_become_71 hl rfl (wi_inc _ 1) (by decide) rfl (fun ls hl => ?_)
      have hl : lv_has ls 5 [(3, .int (nI (e + 1))), (0, .ref (q 0)), (1, .int (nI (w)))] := hl
      refine lv_goto (tgt := 12) hx hb nd_CM_become_74 rfl ?_
      have hl : lv_has ls 5 [(3, .int (nI (e + 1))), (0, .ref (q 0)), (1, .int (nI (w)))] := lv_sub hl [0, 1, 2] rfl
      exact ih (e + 1) ls H locs (by omega) (by omega) hl hP hD hS
set_option maxRecDepth 20000 in
theorem lp_CM_become_c {p : Program} {l : Launch} {e0 : Env} {R : Room} {s0 : State} {m : MethodId} {args : Array Value} {below : List Frame} {meth : Method} {c0 : Code} {cells slots : Nat} {Q : State → Prop} {D : va_G} {A : Nat → Prop} (cI cG cM : ClassId) (q : Nat → Nat) (n : Nat) (hn1 : 1 ≤ n) (hn : n ≤ 10) (g : rf_S) (w : Nat) (hw : w < 2)  (hx : p.tables.exec = Jvm.exec) (hb : c0.code = nc_CM_become) (hml : c0.maxLocals = 5) (htg : ∀ w ∈ tg_, w.before args s0 = true) (hown : s0.vm.findClass ny_CM_become.cls = some m.cls) (hK : va_K D cl_all (ty_all cI cG cM) s0) (hN : tn_K s0) (hA : ∀ q : Nat, s0.heap.size ≤ q → A q) (hRf : 0 ≤ R.frames) (hRl : 0 ≤ R.locals) (hCS : cells ≤ R.cells ∧ slots ≤ R.slots) (kx : ∀ (ls : Array Slot) (H : Heap) (locs : List Loc), lv_has ls 5 [] → va_P D cl_all ([((q 0), .inr (6, [.int (nI (n)), .ref (q 2), .ref (q 3), .ref (q 4), .ref (q 5), .ref (q 6), .ref (q 7), .ref (q 8), .ref (q 9), .ref (q 10), .ref (q 11), .ref (q 12), .ref (q 13), .ref (q 14)])), ((q 2), .inl (cI, 10, .inl (g 0))), ((q 3), .inl (cI, 2, .inl (g 1))), ((q 4), .inl (cI, 2, .inl (g 2))), ((q 5), .inl (cI, 2, .inl (g 3))), ((q 6), .inl (cI, 20, .inl (g 4))), ((q 7), .inl (cI, 20, .inl (g 5))), ((q 8), .inl (cI, 20, .inl (g 6))), ((q 9), .inl (cI, 8, .inl (zz_ (g 7) (4 * w) (4 * w + 4)))), ((q 10), .inl (cI, 80, .inl (g 8))), ((q 11), .inl (cI, 8, .inl (g 9))), ((q 12), .inl (cI, 16, .inl (g 10))), ((q 13), .inl (cI, 16, .inl (g 11))), ((q 14), .inl (cI, 2048, .inl (g 12)))]) H → va_D A ([((q 0), .inr (6, [.int (nI (n)), .ref (q 2), .ref (q 3), .ref (q 4), .ref (q 5), .ref (q 6), .ref (q 7), .ref (q 8), .ref (q 9), .ref (q 10), .ref (q 11), .ref (q 12), .ref (q 13), .ref (q 14)])), ((q 2), .inl (cI, 10, .inl (g 0))), ((q 3), .inl (cI, 2, .inl (g 1))), ((q 4), .inl (cI, 2, .inl (g 2))), ((q 5), .inl (cI, 2, .inl (g 3))), ((q 6), .inl (cI, 20, .inl (g 4))), ((q 7), .inl (cI, 20, .inl (g 5))), ((q 8), .inl (cI, 20, .inl (g 6))), ((q 9), .inl (cI, 8, .inl (zz_ (g 7) (4 * w) (4 * w + 4)))), ((q 10), .inl (cI, 80, .inl (g 8))), ((q 11), .inl (cI, 8, .inl (g 9))), ((q 12), .inl (cI, 16, .inl (g 10))), ((q 13), .inl (cI, 16, .inl (g 11))), ((q 14), .inl (cI, 2048, .inl (g 12)))]) → va_S A s0.heap H locs → W p l e0 R s0 m args below meth c0 H locs cells slots Q (F0 m 101 ls [])) : ∀ (f : Nat) (c : Nat) (ls : Array Slot) (H : Heap) (locs : List Loc), 4 - c < f → (c ≤ 4) → lv_has ls 5 [(3, .int (nI (c))), (0, .ref (q 0)), (1, .int (nI (w)))] → va_P D cl_all ([((q 0), .inr (6, [.int (nI (n)), .ref (q 2), .ref (q 3), .ref (q 4), .ref (q 5), .ref (q 6), .ref (q 7), .ref (q 8), .ref (q 9), .ref (q 10), .ref (q 11), .ref (q 12), .ref (q 13), .ref (q 14)])), ((q 2), .inl (cI, 10, .inl (g 0))), ((q 3), .inl (cI, 2, .inl (g 1))), ((q 4), .inl (cI, 2, .inl (g 2))), ((q 5), .inl (cI, 2, .inl (g 3))), ((q 6), .inl (cI, 20, .inl (g 4))), ((q 7), .inl (cI, 20, .inl (g 5))), ((q 8), .inl (cI, 20, .inl (g 6))), ((q 9), .inl (cI, 8, .inl (zz_ (g 7) (4 * w) (4 * w + c)))), ((q 10), .inl (cI, 80, .inl (g 8))), ((q 11), .inl (cI, 8, .inl (g 9))), ((q 12), .inl (cI, 16, .inl (g 10))), ((q 13), .inl (cI, 16, .inl (g 11))), ((q 14), .inl (cI, 2048, .inl (g 12)))]) H → va_D A ([((q 0), .inr (6, [.int (nI (n)), .ref (q 2), .ref (q 3), .ref (q 4), .ref (q 5), .ref (q 6), .ref (q 7), .ref (q 8), .ref (q 9), .ref (q 10), .ref (q 11), .ref (q 12), .ref (q 13), .ref (q 14)])), ((q 2), .inl (cI, 10, .inl (g 0))), ((q 3), .inl (cI, 2, .inl (g 1))), ((q 4), .inl (cI, 2, .inl (g 2))), ((q 5), .inl (cI, 2, .inl (g 3))), ((q 6), .inl (cI, 20, .inl (g 4))), ((q 7), .inl (cI, 20, .inl (g 5))), ((q 8), .inl (cI, 20, .inl (g 6))), ((q 9), .inl (cI, 8, .inl (zz_ (g 7) (4 * w) (4 * w + c)))), ((q 10), .inl (cI, 80, .inl (g 8))), ((q 11), .inl (cI, 8, .inl (g 9))), ((q 12), .inl (cI, 16, .inl (g 10))), ((q 13), .inl (cI, 16, .inl (g 11))), ((q 14), .inl (cI, 2048, .inl (g 12)))]) → va_S A s0.heap H locs → W p l e0 R s0 m args below meth c0 H locs cells slots Q (F0 m 79 ls []) := by
  intro f
  induction f with
  | zero => intro c ls H locs hfu; omega
  | succ f ih =>
    intro c ls H locs hfu hc hl hP hD hS
    have h2n : 2 ^ n ≤ 1024 := Nat.pow_le_pow_right (by omega) hn
    have h2p : 1 ≤ 2 ^ n := Nat.one_le_two_pow
    refine lv_iload_n hx hb nd_CM_become_79 rfl (lv_at hl 0 rfl) ?_
    refine wi_ic hx hb (a := 4) nd_CM_become_80 ?_
    refine wi_icmp_ge (tgt := 101) hx hb (by omega) (by omega) nd_CM_become_81 rfl (fun hc81 => ?_) (fun hc81 => ?_)
    · rw [show c = 4 by omega] at hP hD
      exact kx ls H locs (lv_sub hl [] rfl) hP hD hS
    · refine lv_aload_n hx hb nd_CM_become_84 rfl (lv_at hl 1 rfl) ?_
      refine va_get (D := D) (C := nr_CM) (T := nt_CM) (N := 14) hx hb htg tf_CM hown hK hP 0 rfl rfl 8 (by decide) (htg _ tm_391) (fun _ h => h) rfl nd_CM_become_85 ?_
      refine wi_ic hx hb (a := 4) nd_CM_become_88 ?_
      refine lv_iload_n hx hb nd_CM_become_89 rfl (lv_at hl 2 rfl) ?_
      refine wi_imul hx hb nd_CM_become_90 ?_
      refine lv_iload_n hx hb nd_CM_become_91 rfl (lv_at hl 0 rfl) ?_
      refine wi_iadd hx hb nd_CM_become_92 ?_
      refine wi_ic hx hb (a := 0) nd_CM_become_93 ?_
      refine wi_iast hx hb hK hP hD hS 8 0 rfl rfl (by omega) (by omega) nd_CM_become_94 (fun H locs hP hD hS => ?_)
      have hP : va_P D cl_all ([((q 0), .inr (6, [.int (nI (n)), .ref (q 2), .ref (q 3), .ref (q 4), .ref (q 5), .ref (q 6), .ref (q 7), .ref (q 8), .ref (q 9), .ref (q 10), .ref (q 11), .ref (q 12), .ref (q 13), .ref (q 14)])), ((q 2), .inl (cI, 10, .inl (g 0))), ((q 3), .inl (cI, 2, .inl (g 1))), ((q 4), .inl (cI, 2, .inl (g 2))), ((q 5), .inl (cI, 2, .inl (g 3))), ((q 6), .inl (cI, 20, .inl (g 4))), ((q 7), .inl (cI, 20, .inl (g 5))), ((q 8), .inl (cI, 20, .inl (g 6))), ((q 9), .inl (cI, 8, .inl (upd (zz_ (g 7) (4 * w) (4 * w + c)) ((4 * w) + c) (nI (0))))), ((q 10), .inl (cI, 80, .inl (g 8))), ((q 11), .inl (cI, 8, .inl (g 9))), ((q 12), .inl (cI, 16, .inl (g 10))), ((q 13), .inl (cI, 16, .inl (g 11))), ((q 14), .inl (cI, 2048, .inl (g 12)))]) H := hP
      have hD : va_D A ([((q 0), .inr (6, [.int (nI (n)), .ref (q 2), .ref (q 3), .ref (q 4), .ref (q 5), .ref (q 6), .ref (q 7), .ref (q 8), .ref (q 9), .ref (q 10), .ref (q 11), .ref (q 12), .ref (q 13), .ref (q 14)])), ((q 2), .inl (cI, 10, .inl (g 0))), ((q 3), .inl (cI, 2, .inl (g 1))), ((q 4), .inl (cI, 2, .inl (g 2))), ((q 5), .inl (cI, 2, .inl (g 3))), ((q 6), .inl (cI, 20, .inl (g 4))), ((q 7), .inl (cI, 20, .inl (g 5))), ((q 8), .inl (cI, 20, .inl (g 6))), ((q 9), .inl (cI, 8, .inl (upd (zz_ (g 7) (4 * w) (4 * w + c)) ((4 * w) + c) (nI (0))))), ((q 10), .inl (cI, 80, .inl (g 8))), ((q 11), .inl (cI, 8, .inl (g 9))), ((q 12), .inl (cI, 16, .inl (g 10))), ((q 13), .inl (cI, 16, .inl (g 11))), ((q 14), .inl (cI, 2048, .inl (g 12)))]) := hD
      refine lv_iinc (k := 0) (v := nI (c + 1)) hx hb nd_CM_become_95 hl rfl (wi_inc _ 1) (by decide) rfl (fun ls hl => ?_)
      have hl : lv_has ls 5 [(3, .int (nI (c + 1))), (0, .ref (q 0)), (1, .int (nI (w)))] := hl
      refine lv_goto (tgt := 79) hx hb nd_CM_become_98 rfl ?_
      have hl : lv_has ls 5 [(3, .int (nI (c + 1))), (0, .ref (q 0)), (1, .int (nI (w)))] := lv_sub hl [0, 1, 2] rfl
      rw [zz_s (g 7) (by omega)] at hP hD
      exact ih (c + 1) ls H locs (by omega) (by omega) hl hP hD hS
set_option maxRecDepth 20000 in
theorem c_CM_become (l : Launch) (D : va_G) (cI cG cM : ClassId)  (q : Nat → Nat) (n : Nat) (hn1 : 1 ≤ n) (hn : n ≤ 10) (g : rf_S) (w : Nat) (hw : w < 2) (k : Int32) (sz : Nat) : wb_Mv l ny_CM_become nc_CM_become 5 ({ frames := 0, cells := 0, slots := 0, locals := 0 }) D (ty_all cI cG cM) (rf_ cI q n g) sz [.ref (q 0), .int (nI (w)), .int (k)] (fun u : rf_S => u = rb_ g w k) (fun u : rf_S => rf_ cI q n u) := by
  refine wb_start (S := rf_S) (by decide) (Nat.le_of_ble_eq_true rfl) ?_
  intro p e0 s0 m below meth c ls A hx hb hr hml htg hown hk hP hK hN hl hAe hsz hD hA
  have hl : lv_has ls 5 [(0, .ref (q 0)), (1, .int (nI (w))), (2, .int (k))] := hl
  have hP : va_P D cl_all ([((q 0), .inr (6, [.int (nI (n)), .ref (q 2), .ref (q 3), .ref (q 4), .ref (q 5), .ref (q 6), .ref (q 7), .ref (q 8), .ref (q 9), .ref (q 10), .ref (q 11), .ref (q 12), .ref (q 13), .ref (q 14)])), ((q 2), .inl (cI, 10, .inl (g 0))), ((q 3), .inl (cI, 2, .inl (g 1))), ((q 4), .inl (cI, 2, .inl (g 2))), ((q 5), .inl (cI, 2, .inl (g 3))), ((q 6), .inl (cI, 20, .inl (g 4))), ((q 7), .inl (cI, 20, .inl (g 5))), ((q 8), .inl (cI, 20, .inl (g 6))), ((q 9), .inl (cI, 8, .inl (g 7))), ((q 10), .inl (cI, 80, .inl (g 8))), ((q 11), .inl (cI, 8, .inl (g 9))), ((q 12), .inl (cI, 16, .inl (g 10))), ((q 13), .inl (cI, 16, .inl (g 11))), ((q 14), .inl (cI, 2048, .inl (g 12)))]) s0.heap := hP
  have hD : va_D A ([((q 0), .inr (6, [.int (nI (n)), .ref (q 2), .ref (q 3), .ref (q 4), .ref (q 5), .ref (q 6), .ref (q 7), .ref (q 8), .ref (q 9), .ref (q 10), .ref (q 11), .ref (q 12), .ref (q 13), .ref (q 14)])), ((q 2), .inl (cI, 10, .inl (g 0))), ((q 3), .inl (cI, 2, .inl (g 1))), ((q 4), .inl (cI, 2, .inl (g 2))), ((q 5), .inl (cI, 2, .inl (g 3))), ((q 6), .inl (cI, 20, .inl (g 4))), ((q 7), .inl (cI, 20, .inl (g 5))), ((q 8), .inl (cI, 20, .inl (g 6))), ((q 9), .inl (cI, 8, .inl (g 7))), ((q 10), .inl (cI, 80, .inl (g 8))), ((q 11), .inl (cI, 8, .inl (g 9))), ((q 12), .inl (cI, 16, .inl (g 10))), ((q 13), .inl (cI, 16, .inl (g 11))), ((q 14), .inl (cI, 2048, .inl (g 12)))]) := hD
  have hS : va_S A s0.heap s0.heap [] := va_S.rf
  have hRf : 0 ≤ ({ frames := 0, cells := 0, slots := 0, locals := 0 } : Room).frames := Nat.le_refl _
  have hRl : 0 ≤ ({ frames := 0, cells := 0, slots := 0, locals := 0 } : Room).locals := Nat.le_refl _
  have hCS : 0 ≤ ({ frames := 0, cells := 0, slots := 0, locals := 0 } : Room).cells ∧ 0 ≤ ({ frames := 0, cells := 0, slots := 0, locals := 0 } : Room).slots := ⟨Nat.zero_le _, Nat.zero_le _⟩
  have h2n : 2 ^ n ≤ 1024 := Nat.pow_le_pow_right (by omega) hn
  have h2p : 1 ≤ 2 ^ n := Nat.one_le_two_pow
  refine lv_aload_n hx hb nd_CM_become_0 rfl (lv_at hl 0 rfl) ?_
  refine va_get (D := D) (C := nr_CM) (T := nt_CM) (N := 14) hx hb htg tf_CM hown hK hP 0 rfl rfl 2 (by decide) (htg _ tm_385) (fun _ h => h) rfl nd_CM_become_1 ?_
  refine lv_iload_n hx hb nd_CM_become_4 rfl (lv_at hl 1 rfl) ?_
  refine lv_iload_n hx hb nd_CM_become_5 rfl (lv_at hl 2 rfl) ?_
  refine wi_iast hx hb hK hP hD hS 2 0 rfl rfl (by omega) (by omega) nd_CM_become_6 (fun H locs hP hD hS => ?_)
  have hP : va_P D cl_all ([((q 0), .inr (6, [.int (nI (n)), .ref (q 2), .ref (q 3), .ref (q 4), .ref (q 5), .ref (q 6), .ref (q 7), .ref (q 8), .ref (q 9), .ref (q 10), .ref (q 11), .ref (q 12), .ref (q 13), .ref (q 14)])), ((q 2), .inl (cI, 10, .inl (g 0))), ((q 3), .inl (cI, 2, .inl (upd (g 1) w k))), ((q 4), .inl (cI, 2, .inl (g 2))), ((q 5), .inl (cI, 2, .inl (g 3))), ((q 6), .inl (cI, 20, .inl (g 4))), ((q 7), .inl (cI, 20, .inl (g 5))), ((q 8), .inl (cI, 20, .inl (g 6))), ((q 9), .inl (cI, 8, .inl (g 7))), ((q 10), .inl (cI, 80, .inl (g 8))), ((q 11), .inl (cI, 8, .inl (g 9))), ((q 12), .inl (cI, 16, .inl (g 10))), ((q 13), .inl (cI, 16, .inl (g 11))), ((q 14), .inl (cI, 2048, .inl (g 12)))]) H := hP
  have hD : va_D A ([((q 0), .inr (6, [.int (nI (n)), .ref (q 2), .ref (q 3), .ref (q 4), .ref (q 5), .ref (q 6), .ref (q 7), .ref (q 8), .ref (q 9), .ref (q 10), .ref (q 11), .ref (q 12), .ref (q 13), .ref (q 14)])), ((q 2), .inl (cI, 10, .inl (g 0))), ((q 3), .inl (cI, 2, .inl (upd (g 1) w k))), ((q 4), .inl (cI, 2, .inl (g 2))), ((q 5), .inl (cI, 2, .inl (g 3))), ((q 6), .inl (cI, 20, .inl (g 4))), ((q 7), .inl (cI, 20, .inl (g 5))), ((q 8), .inl (cI, 20, .inl (g 6))), ((q 9), .inl (cI, 8, .inl (g 7))), ((q 10), .inl (cI, 80, .inl (g 8))), ((q 11), .inl (cI, 8, .inl (g 9))), ((q 12), .inl (cI, 16, .inl (g 10))), ((q 13), .inl (cI, 16, .inl (g 11))), ((q 14), .inl (cI, 2048, .inl (g 12)))]) := hD
  refine lv_bipush (v := nI 10) hx hb nd_CM_become_7 (by decide) ?_
  refine lv_iload_n hx hb nd_CM_become_9 rfl (lv_at hl 1 rfl) ?_
  refine wi_imul hx hb nd_CM_become_10 ?_
  refine lv_istore_n hx hb nd_CM_become_11 rfl hl (by decide) rfl (fun ls hl => ?_)
  have hl : lv_has ls 5 [(3, .int (nI (10 * w))), (0, .ref (q 0)), (1, .int (nI (w))), (2, .int (k))] := hl
  have hl : lv_has ls 5 [(3, .int (nI (10 * w))), (0, .ref (q 0)), (1, .int (nI (w)))] := lv_sub hl [0, 1, 2] rfl
  refine lp_CM_become_e cI cG cM q n hn1 hn (va_up g 1 (upd (g 1) w k)) w hw hx hb hml htg hown hK hN hA hRf hRl hCS (fun ls H locs hl hP hD hS => ?_) 11 (10 * w) ls H locs (by omega) (by omega) hl (show va_P D cl_all [((q 0), .inr (6, [.int (nI (n)), .ref (q 2), .ref (q 3), .ref (q 4), .ref (q 5), .ref (q 6), .ref (q 7), .ref (q 8), .ref (q 9), .ref (q 10), .ref (q 11), .ref (q 12), .ref (q 13), .ref (q 14)])), ((q 2), .inl (cI, 10, .inl (g 0))), ((q 3), .inl (cI, 2, .inl (upd (g 1) w k))), ((q 4), .inl (cI, 2, .inl (g 2))), ((q 5), .inl (cI, 2, .inl (g 3))), ((q 6), .inl (cI, 20, .inl (zz_ (g 4) (10 * w) (10 * w)))), ((q 7), .inl (cI, 20, .inl (zz_ (g 5) (10 * w) (10 * w)))), ((q 8), .inl (cI, 20, .inl (zz_ (g 6) (10 * w) (10 * w)))), ((q 9), .inl (cI, 8, .inl (g 7))), ((q 10), .inl (cI, 80, .inl (zz_ (g 8) (40 * w) (4 * (10 * w))))), ((q 11), .inl (cI, 8, .inl (g 9))), ((q 12), .inl (cI, 16, .inl (g 10))), ((q 13), .inl (cI, 16, .inl (g 11))), ((q 14), .inl (cI, 2048, .inl (g 12)))] H by rw [show 4 * (10 * w) = 40 * w by omega, zz_0, zz_0, zz_0, zz_0]; exact hP) (show va_D A [((q 0), .inr (6, [.int (nI (n)), .ref (q 2), .ref (q 3), .ref (q 4), .ref (q 5), .ref (q 6), .ref (q 7), .ref (q 8), .ref (q 9), .ref (q 10), .ref (q 11), .ref (q 12), .ref (q 13), .ref (q 14)])), ((q 2), .inl (cI, 10, .inl (g 0))), ((q 3), .inl (cI, 2, .inl (upd (g 1) w k))), ((q 4), .inl (cI, 2, .inl (g 2))), ((q 5), .inl (cI, 2, .inl (g 3))), ((q 6), .inl (cI, 20, .inl (zz_ (g 4) (10 * w) (10 * w)))), ((q 7), .inl (cI, 20, .inl (zz_ (g 5) (10 * w) (10 * w)))), ((q 8), .inl (cI, 20, .inl (zz_ (g 6) (10 * w) (10 * w)))), ((q 9), .inl (cI, 8, .inl (g 7))), ((q 10), .inl (cI, 80, .inl (zz_ (g 8) (40 * w) (4 * (10 * w))))), ((q 11), .inl (cI, 8, .inl (g 9))), ((q 12), .inl (cI, 16, .inl (g 10))), ((q 13), .inl (cI, 16, .inl (g 11))), ((q 14), .inl (cI, 2048, .inl (g 12)))] by rw [show 4 * (10 * w) = 40 * w by omega, zz_0, zz_0, zz_0, zz_0]; exact hD) hS
  have hP : va_P D cl_all ([((q 0), .inr (6, [.int (nI (n)), .ref (q 2), .ref (q 3), .ref (q 4), .ref (q 5), .ref (q 6), .ref (q 7), .ref (q 8), .ref (q 9), .ref (q 10), .ref (q 11), .ref (q 12), .ref (q 13), .ref (q 14)])), ((q 2), .inl (cI, 10, .inl (g 0))), ((q 3), .inl (cI, 2, .inl (upd (g 1) w k))), ((q 4), .inl (cI, 2, .inl (g 2))), ((q 5), .inl (cI, 2, .inl (g 3))), ((q 6), .inl (cI, 20, .inl (zz_ (g 4) (10 * w) (10 * w + 10)))), ((q 7), .inl (cI, 20, .inl (zz_ (g 5) (10 * w) (10 * w + 10)))), ((q 8), .inl (cI, 20, .inl (zz_ (g 6) (10 * w) (10 * w + 10)))), ((q 9), .inl (cI, 8, .inl (g 7))), ((q 10), .inl (cI, 80, .inl (zz_ (g 8) (40 * w) (4 * (10 * w + 10))))), ((q 11), .inl (cI, 8, .inl (g 9))), ((q 12), .inl (cI, 16, .inl (g 10))), ((q 13), .inl (cI, 16, .inl (g 11))), ((q 14), .inl (cI, 2048, .inl (g 12)))]) H := hP
  have hD : va_D A ([((q 0), .inr (6, [.int (nI (n)), .ref (q 2), .ref (q 3), .ref (q 4), .ref (q 5), .ref (q 6), .ref (q 7), .ref (q 8), .ref (q 9), .ref (q 10), .ref (q 11), .ref (q 12), .ref (q 13), .ref (q 14)])), ((q 2), .inl (cI, 10, .inl (g 0))), ((q 3), .inl (cI, 2, .inl (upd (g 1) w k))), ((q 4), .inl (cI, 2, .inl (g 2))), ((q 5), .inl (cI, 2, .inl (g 3))), ((q 6), .inl (cI, 20, .inl (zz_ (g 4) (10 * w) (10 * w + 10)))), ((q 7), .inl (cI, 20, .inl (zz_ (g 5) (10 * w) (10 * w + 10)))), ((q 8), .inl (cI, 20, .inl (zz_ (g 6) (10 * w) (10 * w + 10)))), ((q 9), .inl (cI, 8, .inl (g 7))), ((q 10), .inl (cI, 80, .inl (zz_ (g 8) (40 * w) (4 * (10 * w + 10))))), ((q 11), .inl (cI, 8, .inl (g 9))), ((q 12), .inl (cI, 16, .inl (g 10))), ((q 13), .inl (cI, 16, .inl (g 11))), ((q 14), .inl (cI, 2048, .inl (g 12)))]) := hD
  refine wi_ic hx hb (a := 0) nd_CM_become_77 ?_
  refine lv_istore_n hx hb nd_CM_become_78 rfl hl (by decide) rfl (fun ls hl => ?_)
  have hl : lv_has ls 5 [(3, .int (nI (0))), (0, .ref (q 0)), (1, .int (nI (w)))] := hl
  have hl : lv_has ls 5 [(3, .int (nI (0))), (0, .ref (q 0)), (1, .int (nI (w)))] := lv_sub hl [0, 1, 2] rfl
  refine lp_CM_become_c cI cG cM q n hn1 hn (va_up (va_up (va_up (va_up (va_up g 1 (upd (g 1) w k)) 4 (zz_ (g 4) (10 * w) (10 * w + 10))) 5 (zz_ (g 5) (10 * w) (10 * w + 10))) 6 (zz_ (g 6) (10 * w) (10 * w + 10))) 8 (zz_ (g 8) (40 * w) (40 * w + 40))) w hw hx hb hml htg hown hK hN hA hRf hRl hCS (fun ls H locs hl hP hD hS => ?_) 5 0 ls H locs (by omega) (by omega) hl (show va_P D cl_all [((q 0), .inr (6, [.int (nI (n)), .ref (q 2), .ref (q 3), .ref (q 4), .ref (q 5), .ref (q 6), .ref (q 7), .ref (q 8), .ref (q 9), .ref (q 10), .ref (q 11), .ref (q 12), .ref (q 13), .ref (q 14)])), ((q 2), .inl (cI, 10, .inl (g 0))), ((q 3), .inl (cI, 2, .inl (upd (g 1) w k))), ((q 4), .inl (cI, 2, .inl (g 2))), ((q 5), .inl (cI, 2, .inl (g 3))), ((q 6), .inl (cI, 20, .inl (zz_ (g 4) (10 * w) (10 * w + 10)))), ((q 7), .inl (cI, 20, .inl (zz_ (g 5) (10 * w) (10 * w + 10)))), ((q 8), .inl (cI, 20, .inl (zz_ (g 6) (10 * w) (10 * w + 10)))), ((q 9), .inl (cI, 8, .inl (zz_ (g 7) (4 * w) (4 * w + 0)))), ((q 10), .inl (cI, 80, .inl (zz_ (g 8) (40 * w) (40 * w + 40)))), ((q 11), .inl (cI, 8, .inl (g 9))), ((q 12), .inl (cI, 16, .inl (g 10))), ((q 13), .inl (cI, 16, .inl (g 11))), ((q 14), .inl (cI, 2048, .inl (g 12)))] H by rw [show 40 * w + 40 = 4 * (10 * w + 10) by omega, show 4 * w + 0 = 4 * w from rfl, zz_0]; exact hP) (show va_D A [((q 0), .inr (6, [.int (nI (n)), .ref (q 2), .ref (q 3), .ref (q 4), .ref (q 5), .ref (q 6), .ref (q 7), .ref (q 8), .ref (q 9), .ref (q 10), .ref (q 11), .ref (q 12), .ref (q 13), .ref (q 14)])), ((q 2), .inl (cI, 10, .inl (g 0))), ((q 3), .inl (cI, 2, .inl (upd (g 1) w k))), ((q 4), .inl (cI, 2, .inl (g 2))), ((q 5), .inl (cI, 2, .inl (g 3))), ((q 6), .inl (cI, 20, .inl (zz_ (g 4) (10 * w) (10 * w + 10)))), ((q 7), .inl (cI, 20, .inl (zz_ (g 5) (10 * w) (10 * w + 10)))), ((q 8), .inl (cI, 20, .inl (zz_ (g 6) (10 * w) (10 * w + 10)))), ((q 9), .inl (cI, 8, .inl (zz_ (g 7) (4 * w) (4 * w + 0)))), ((q 10), .inl (cI, 80, .inl (zz_ (g 8) (40 * w) (40 * w + 40)))), ((q 11), .inl (cI, 8, .inl (g 9))), ((q 12), .inl (cI, 16, .inl (g 10))), ((q 13), .inl (cI, 16, .inl (g 11))), ((q 14), .inl (cI, 2048, .inl (g 12)))] by rw [show 40 * w + 40 = 4 * (10 * w + 10) by omega, show 4 * w + 0 = 4 * w from rfl, zz_0]; exact hD) hS
  exact wb_vret (rb_ g w k) hx hb hr hk hAe rfl hP hD hS nd_CM_become_101
theorem nd_CM_uniform_0 : decode nc_CM_uniform 0 = .ok (.iload_n 1, 1) := by decide +kernel
theorem nd_CM_uniform_1 : decode nc_CM_uniform 1 = .ok (.invokestatic 53, 3) := by decide +kernel
theorem nd_CM_uniform_4 : decode nc_CM_uniform 4 = .ok (.ifCond .eq 13, 3) := by decide +kernel
theorem nd_CM_uniform_7 : decode nc_CM_uniform 7 = .ok (.iload_n 2, 1) := by decide +kernel
theorem nd_CM_uniform_8 : decode nc_CM_uniform 8 = .ok (.ifCond .lt 9, 3) := by decide +kernel
theorem nd_CM_uniform_11 : decode nc_CM_uniform 11 = .ok (.iload_n 2, 1) := by decide +kernel
theorem nd_CM_uniform_12 : decode nc_CM_uniform 12 = .ok (.bipush 10, 2) := by decide +kernel
theorem nd_CM_uniform_14 : decode nc_CM_uniform 14 = .ok (.if_icmp .le 5, 3) := by decide +kernel
theorem nd_CM_uniform_17 : decode nc_CM_uniform 17 = .ok (.iconst 0, 1) := by decide +kernel
theorem nd_CM_uniform_18 : decode nc_CM_uniform 18 = .ok (.ireturn, 1) := by decide +kernel
theorem nd_CM_uniform_19 : decode nc_CM_uniform 19 = .ok (.aload_n 0, 1) := by decide +kernel
theorem nd_CM_uniform_20 : decode nc_CM_uniform 20 = .ok (.getfield 13, 3) := by decide +kernel
theorem nd_CM_uniform_23 : decode nc_CM_uniform 23 = .ok (.iload_n 1, 1) := by decide +kernel
theorem nd_CM_uniform_24 : decode nc_CM_uniform 24 = .ok (.iconst 0, 1) := by decide +kernel
theorem nd_CM_uniform_25 : decode nc_CM_uniform 25 = .ok (.iastore, 1) := by decide +kernel
theorem nd_CM_uniform_26 : decode nc_CM_uniform 26 = .ok (.aload_n 0, 1) := by decide +kernel
theorem nd_CM_uniform_27 : decode nc_CM_uniform 27 = .ok (.getfield 16, 3) := by decide +kernel
theorem nd_CM_uniform_30 : decode nc_CM_uniform 30 = .ok (.iload_n 1, 1) := by decide +kernel
theorem nd_CM_uniform_31 : decode nc_CM_uniform 31 = .ok (.iload_n 2, 1) := by decide +kernel
theorem nd_CM_uniform_32 : decode nc_CM_uniform 32 = .ok (.iastore, 1) := by decide +kernel
theorem nd_CM_uniform_33 : decode nc_CM_uniform 33 = .ok (.iconst 1, 1) := by decide +kernel
theorem nd_CM_uniform_34 : decode nc_CM_uniform 34 = .ok (.ireturn, 1) := by decide +kernel
set_option maxRecDepth 20000 in
theorem c_CM_uniform (l : Launch) (D : va_G) (cI cG cM : ClassId)  (q : Nat → Nat) (n : Nat) (hn1 : 1 ≤ n) (hn : n ≤ 10) (g : rf_S) (y : cb_Y) (hI : rf_I n y g) (wh k : Int32) (sz : Nat) : wb_Mi l ny_CM_uniform nc_CM_uniform 3 (some .boolean) ({ frames := 1, cells := 0, slots := 0, locals := 20 }) D (ty_all cI cG cM) (rf_ cI q n g) sz [.ref (q 0), .int (wh), .int (k)] (fun (v : Int32) (u : rf_S) => v = (sp_uniform y wh k).1 ∧ rf_I n (sp_uniform y wh k).2 u) (fun u : rf_S => rf_ cI q n u) := by
  refine wb_start (S := rf_S) (by decide) (Nat.le_of_ble_eq_true rfl) ?_
  intro p e0 s0 m below meth c ls A hx hb hr hml htg hown hk hP hK hN hl hAe hsz hD hA
  have hl : lv_has ls 3 [(0, .ref (q 0)), (1, .int (wh)), (2, .int (k))] := hl
  have hP : va_P D cl_all ([((q 0), .inr (6, [.int (nI (n)), .ref (q 2), .ref (q 3), .ref (q 4), .ref (q 5), .ref (q 6), .ref (q 7), .ref (q 8), .ref (q 9), .ref (q 10), .ref (q 11), .ref (q 12), .ref (q 13), .ref (q 14)])), ((q 2), .inl (cI, 10, .inl (g 0))), ((q 3), .inl (cI, 2, .inl (g 1))), ((q 4), .inl (cI, 2, .inl (g 2))), ((q 5), .inl (cI, 2, .inl (g 3))), ((q 6), .inl (cI, 20, .inl (g 4))), ((q 7), .inl (cI, 20, .inl (g 5))), ((q 8), .inl (cI, 20, .inl (g 6))), ((q 9), .inl (cI, 8, .inl (g 7))), ((q 10), .inl (cI, 80, .inl (g 8))), ((q 11), .inl (cI, 8, .inl (g 9))), ((q 12), .inl (cI, 16, .inl (g 10))), ((q 13), .inl (cI, 16, .inl (g 11))), ((q 14), .inl (cI, 2048, .inl (g 12)))]) s0.heap := hP
  have hD : va_D A ([((q 0), .inr (6, [.int (nI (n)), .ref (q 2), .ref (q 3), .ref (q 4), .ref (q 5), .ref (q 6), .ref (q 7), .ref (q 8), .ref (q 9), .ref (q 10), .ref (q 11), .ref (q 12), .ref (q 13), .ref (q 14)])), ((q 2), .inl (cI, 10, .inl (g 0))), ((q 3), .inl (cI, 2, .inl (g 1))), ((q 4), .inl (cI, 2, .inl (g 2))), ((q 5), .inl (cI, 2, .inl (g 3))), ((q 6), .inl (cI, 20, .inl (g 4))), ((q 7), .inl (cI, 20, .inl (g 5))), ((q 8), .inl (cI, 20, .inl (g 6))), ((q 9), .inl (cI, 8, .inl (g 7))), ((q 10), .inl (cI, 80, .inl (g 8))), ((q 11), .inl (cI, 8, .inl (g 9))), ((q 12), .inl (cI, 16, .inl (g 10))), ((q 13), .inl (cI, 16, .inl (g 11))), ((q 14), .inl (cI, 2048, .inl (g 12)))]) := hD
  have hS : va_S A s0.heap s0.heap [] := va_S.rf
  have hRf : 1 ≤ ({ frames := 1, cells := 0, slots := 0, locals := 20 } : Room).frames := Nat.le_refl _
  have hRl : 20 ≤ ({ frames := 1, cells := 0, slots := 0, locals := 20 } : Room).locals := Nat.le_refl _
  have hCS : 0 ≤ ({ frames := 1, cells := 0, slots := 0, locals := 20 } : Room).cells ∧ 0 ≤ ({ frames := 1, cells := 0, slots := 0, locals := 20 } : Room).slots := ⟨Nat.zero_le _, Nat.zero_le _⟩
  have h2n : 2 ^ n ≤ 1024 := Nat.pow_le_pow_right (by omega) hn
  have h2p : 1 ≤ 2 ^ n := Nat.one_le_two_pow
  refine lv_iload_n hx hb nd_CM_uniform_0 rfl (lv_at hl 1 rfl) ?_
  rcases sm_which wh with hw1 | hw1 | hw1
  · subst hw1
    refine wc_S (n := 1) hx hb hml hown htg (c_CM_isWhich l D _ (nI 0) (nI 1) (fun _ => rfl) (fun h => absurd (Or.inl nI_0) h)) tm_432 tm_430 tm_431 tm_9 (by decide +kernel) ⟨⟨Nat.le_trans (by decide) hRf, Nat.le_trans (by decide) hRl⟩, rfl, rfl⟩ (wa_pre wa_nil hK hN) rfl hl.1 rfl (Nat.le_of_ble_eq_true rfl) nd_CM_uniform_1 hCS ?_
    refine wi_if_eq (tgt := 17) hx hb (by decide) nd_CM_uniform_4 rfl (fun h => absurd h (by decide)) (fun _ => ?_)
    refine lv_iload_n hx hb nd_CM_uniform_7 rfl (lv_at hl 2 rfl) ?_
    refine lv_if_lt (tgt := 17) hx hb nd_CM_uniform_8 rfl (fun hc8 => ?_) (fun hc8 => ?_)
    · refine wi_ic hx hb (a := 0) nd_CM_uniform_17 ?_
      have hsp : sp_uniform y (nI (0)) k = (nI 0, y) := by unfold sp_uniform; simp [sr_f (x := k) (b := nI 10) (fun z => z.1 hc8)]
      exact wb_zret (g) hx hb hr hk rfl hAe (by rw [hsp]; exact ⟨rfl, hI⟩) hP hD hS nd_CM_uniform_18
    · refine lv_iload_n hx hb nd_CM_uniform_11 rfl (lv_at hl 2 rfl) ?_
      refine lv_bipush (v := nI 10) hx hb nd_CM_uniform_12 (by decide) ?_
      refine lv_icmp_le (tgt := 19) hx hb nd_CM_uniform_14 rfl (fun hc14 => ?_) (fun hc14 => ?_)
      · refine lv_aload_n hx hb nd_CM_uniform_19 rfl (lv_at hl 0 rfl) ?_
        refine va_get (D := D) (C := nr_CM) (T := nt_CM) (N := 14) hx hb htg tf_CM hown hK hP 0 rfl rfl 2 (by decide) (htg _ tm_385) (fun _ h => h) rfl nd_CM_uniform_20 ?_
        refine lv_iload_n hx hb nd_CM_uniform_23 rfl (lv_at hl 1 rfl) ?_
        refine wi_ic hx hb (a := 0) nd_CM_uniform_24 ?_
        refine wi_iast hx hb hK hP hD hS 2 0 rfl rfl (by omega) (by omega) nd_CM_uniform_25 (fun H locs hP hD hS => ?_)
        have hP : va_P D cl_all ([((q 0), .inr (6, [.int (nI (n)), .ref (q 2), .ref (q 3), .ref (q 4), .ref (q 5), .ref (q 6), .ref (q 7), .ref (q 8), .ref (q 9), .ref (q 10), .ref (q 11), .ref (q 12), .ref (q 13), .ref (q 14)])), ((q 2), .inl (cI, 10, .inl (g 0))), ((q 3), .inl (cI, 2, .inl (upd (g 1) 0 (nI (0))))), ((q 4), .inl (cI, 2, .inl (g 2))), ((q 5), .inl (cI, 2, .inl (g 3))), ((q 6), .inl (cI, 20, .inl (g 4))), ((q 7), .inl (cI, 20, .inl (g 5))), ((q 8), .inl (cI, 20, .inl (g 6))), ((q 9), .inl (cI, 8, .inl (g 7))), ((q 10), .inl (cI, 80, .inl (g 8))), ((q 11), .inl (cI, 8, .inl (g 9))), ((q 12), .inl (cI, 16, .inl (g 10))), ((q 13), .inl (cI, 16, .inl (g 11))), ((q 14), .inl (cI, 2048, .inl (g 12)))]) H := hP
        have hD : va_D A ([((q 0), .inr (6, [.int (nI (n)), .ref (q 2), .ref (q 3), .ref (q 4), .ref (q 5), .ref (q 6), .ref (q 7), .ref (q 8), .ref (q 9), .ref (q 10), .ref (q 11), .ref (q 12), .ref (q 13), .ref (q 14)])), ((q 2), .inl (cI, 10, .inl (g 0))), ((q 3), .inl (cI, 2, .inl (upd (g 1) 0 (nI (0))))), ((q 4), .inl (cI, 2, .inl (g 2))), ((q 5), .inl (cI, 2, .inl (g 3))), ((q 6), .inl (cI, 20, .inl (g 4))), ((q 7), .inl (cI, 20, .inl (g 5))), ((q 8), .inl (cI, 20, .inl (g 6))), ((q 9), .inl (cI, 8, .inl (g 7))), ((q 10), .inl (cI, 80, .inl (g 8))), ((q 11), .inl (cI, 8, .inl (g 9))), ((q 12), .inl (cI, 16, .inl (g 10))), ((q 13), .inl (cI, 16, .inl (g 11))), ((q 14), .inl (cI, 2048, .inl (g 12)))]) := hD
        refine lv_aload_n hx hb nd_CM_uniform_26 rfl (lv_at hl 0 rfl) ?_
        refine va_get (D := D) (C := nr_CM) (T := nt_CM) (N := 14) hx hb htg tf_CM hown hK hP 0 rfl rfl 3 (by decide) (htg _ tm_386) (fun _ h => h) rfl nd_CM_uniform_27 ?_
        refine lv_iload_n hx hb nd_CM_uniform_30 rfl (lv_at hl 1 rfl) ?_
        refine lv_iload_n hx hb nd_CM_uniform_31 rfl (lv_at hl 2 rfl) ?_
        refine wi_iast hx hb hK hP hD hS 3 0 rfl rfl (by omega) (by omega) nd_CM_uniform_32 (fun H locs hP hD hS => ?_)
        have hP : va_P D cl_all ([((q 0), .inr (6, [.int (nI (n)), .ref (q 2), .ref (q 3), .ref (q 4), .ref (q 5), .ref (q 6), .ref (q 7), .ref (q 8), .ref (q 9), .ref (q 10), .ref (q 11), .ref (q 12), .ref (q 13), .ref (q 14)])), ((q 2), .inl (cI, 10, .inl (g 0))), ((q 3), .inl (cI, 2, .inl (upd (g 1) 0 (nI (0))))), ((q 4), .inl (cI, 2, .inl (upd (g 2) 0 k))), ((q 5), .inl (cI, 2, .inl (g 3))), ((q 6), .inl (cI, 20, .inl (g 4))), ((q 7), .inl (cI, 20, .inl (g 5))), ((q 8), .inl (cI, 20, .inl (g 6))), ((q 9), .inl (cI, 8, .inl (g 7))), ((q 10), .inl (cI, 80, .inl (g 8))), ((q 11), .inl (cI, 8, .inl (g 9))), ((q 12), .inl (cI, 16, .inl (g 10))), ((q 13), .inl (cI, 16, .inl (g 11))), ((q 14), .inl (cI, 2048, .inl (g 12)))]) H := hP
        have hD : va_D A ([((q 0), .inr (6, [.int (nI (n)), .ref (q 2), .ref (q 3), .ref (q 4), .ref (q 5), .ref (q 6), .ref (q 7), .ref (q 8), .ref (q 9), .ref (q 10), .ref (q 11), .ref (q 12), .ref (q 13), .ref (q 14)])), ((q 2), .inl (cI, 10, .inl (g 0))), ((q 3), .inl (cI, 2, .inl (upd (g 1) 0 (nI (0))))), ((q 4), .inl (cI, 2, .inl (upd (g 2) 0 k))), ((q 5), .inl (cI, 2, .inl (g 3))), ((q 6), .inl (cI, 20, .inl (g 4))), ((q 7), .inl (cI, 20, .inl (g 5))), ((q 8), .inl (cI, 20, .inl (g 6))), ((q 9), .inl (cI, 8, .inl (g 7))), ((q 10), .inl (cI, 80, .inl (g 8))), ((q 11), .inl (cI, 8, .inl (g 9))), ((q 12), .inl (cI, 16, .inl (g 10))), ((q 13), .inl (cI, 16, .inl (g 11))), ((q 14), .inl (cI, 2048, .inl (g 12)))]) := hD
        refine wi_ic hx hb (a := 1) nd_CM_uniform_33 ?_
        obtain ⟨k1, h_k1, rfl⟩ := sm_le10 (b := 10) (by omega) hc8 hc14
        have hsp : sp_uniform y (nI 0) (nI k1) = (nI 1, cb_s y 0 (0, k1, (cb_m y 0).2.2)) := by unfold sp_uniform; simp only [sw_0, tn_0, sr_t h_k1 (show 10 < 2 ^ 31 by omega), tn_nI (show k1 < 2 ^ 31 by omega)]; simp [hc14]
        exact wb_zret ((va_up (va_up g 1 (upd (g 1) 0 (nI (0)))) 2 (upd (g 2) 0 (nI k1)))) hx hb hr hk rfl hAe (by rw [hsp]; exact ⟨rfl, rf_uniform (w := 0) hn hI (by omega) h_k1⟩) hP hD hS nd_CM_uniform_34
      · refine wi_ic hx hb (a := 0) nd_CM_uniform_17 ?_
        have hsp : sp_uniform y (nI (0)) k = (nI 0, y) := by unfold sp_uniform; simp [sr_f (x := k) (b := nI 10) (fun z => z.2 (Int32.not_le.mp hc14))]
        exact wb_zret (g) hx hb hr hk rfl hAe (by rw [hsp]; exact ⟨rfl, hI⟩) hP hD hS nd_CM_uniform_18
  · subst hw1
    refine wc_S (n := 1) hx hb hml hown htg (c_CM_isWhich l D _ (nI 1) (nI 1) (fun _ => rfl) (fun h => absurd (Or.inr rfl) h)) tm_432 tm_430 tm_431 tm_9 (by decide +kernel) ⟨⟨Nat.le_trans (by decide) hRf, Nat.le_trans (by decide) hRl⟩, rfl, rfl⟩ (wa_pre wa_nil hK hN) rfl hl.1 rfl (Nat.le_of_ble_eq_true rfl) nd_CM_uniform_1 hCS ?_
    refine wi_if_eq (tgt := 17) hx hb (by decide) nd_CM_uniform_4 rfl (fun h => absurd h (by decide)) (fun _ => ?_)
    refine lv_iload_n hx hb nd_CM_uniform_7 rfl (lv_at hl 2 rfl) ?_
    refine lv_if_lt (tgt := 17) hx hb nd_CM_uniform_8 rfl (fun hc8 => ?_) (fun hc8 => ?_)
    · refine wi_ic hx hb (a := 0) nd_CM_uniform_17 ?_
      have hsp : sp_uniform y (nI (1)) k = (nI 0, y) := by unfold sp_uniform; simp [sr_f (x := k) (b := nI 10) (fun z => z.1 hc8)]
      exact wb_zret (g) hx hb hr hk rfl hAe (by rw [hsp]; exact ⟨rfl, hI⟩) hP hD hS nd_CM_uniform_18
    · refine lv_iload_n hx hb nd_CM_uniform_11 rfl (lv_at hl 2 rfl) ?_
      refine lv_bipush (v := nI 10) hx hb nd_CM_uniform_12 (by decide) ?_
      refine lv_icmp_le (tgt := 19) hx hb nd_CM_uniform_14 rfl (fun hc14 => ?_) (fun hc14 => ?_)
      · refine lv_aload_n hx hb nd_CM_uniform_19 rfl (lv_at hl 0 rfl) ?_
        refine va_get (D := D) (C := nr_CM) (T := nt_CM) (N := 14) hx hb htg tf_CM hown hK hP 0 rfl rfl 2 (by decide) (htg _ tm_385) (fun _ h => h) rfl nd_CM_uniform_20 ?_
        refine lv_iload_n hx hb nd_CM_uniform_23 rfl (lv_at hl 1 rfl) ?_
        refine wi_ic hx hb (a := 0) nd_CM_uniform_24 ?_
        refine wi_iast hx hb hK hP hD hS 2 0 rfl rfl (by omega) (by omega) nd_CM_uniform_25 (fun H locs hP hD hS => ?_)
        have hP : va_P D cl_all ([((q 0), .inr (6, [.int (nI (n)), .ref (q 2), .ref (q 3), .ref (q 4), .ref (q 5), .ref (q 6), .ref (q 7), .ref (q 8), .ref (q 9), .ref (q 10), .ref (q 11), .ref (q 12), .ref (q 13), .ref (q 14)])), ((q 2), .inl (cI, 10, .inl (g 0))), ((q 3), .inl (cI, 2, .inl (upd (g 1) 1 (nI (0))))), ((q 4), .inl (cI, 2, .inl (g 2))), ((q 5), .inl (cI, 2, .inl (g 3))), ((q 6), .inl (cI, 20, .inl (g 4))), ((q 7), .inl (cI, 20, .inl (g 5))), ((q 8), .inl (cI, 20, .inl (g 6))), ((q 9), .inl (cI, 8, .inl (g 7))), ((q 10), .inl (cI, 80, .inl (g 8))), ((q 11), .inl (cI, 8, .inl (g 9))), ((q 12), .inl (cI, 16, .inl (g 10))), ((q 13), .inl (cI, 16, .inl (g 11))), ((q 14), .inl (cI, 2048, .inl (g 12)))]) H := hP
        have hD : va_D A ([((q 0), .inr (6, [.int (nI (n)), .ref (q 2), .ref (q 3), .ref (q 4), .ref (q 5), .ref (q 6), .ref (q 7), .ref (q 8), .ref (q 9), .ref (q 10), .ref (q 11), .ref (q 12), .ref (q 13), .ref (q 14)])), ((q 2), .inl (cI, 10, .inl (g 0))), ((q 3), .inl (cI, 2, .inl (upd (g 1) 1 (nI (0))))), ((q 4), .inl (cI, 2, .inl (g 2))), ((q 5), .inl (cI, 2, .inl (g 3))), ((q 6), .inl (cI, 20, .inl (g 4))), ((q 7), .inl (cI, 20, .inl (g 5))), ((q 8), .inl (cI, 20, .inl (g 6))), ((q 9), .inl (cI, 8, .inl (g 7))), ((q 10), .inl (cI, 80, .inl (g 8))), ((q 11), .inl (cI, 8, .inl (g 9))), ((q 12), .inl (cI, 16, .inl (g 10))), ((q 13), .inl (cI, 16, .inl (g 11))), ((q 14), .inl (cI, 2048, .inl (g 12)))]) := hD
        refine lv_aload_n hx hb nd_CM_uniform_26 rfl (lv_at hl 0 rfl) ?_
        refine va_get (D := D) (C := nr_CM) (T := nt_CM) (N := 14) hx hb htg tf_CM hown hK hP 0 rfl rfl 3 (by decide) (htg _ tm_386) (fun _ h => h) rfl nd_CM_uniform_27 ?_
        refine lv_iload_n hx hb nd_CM_uniform_30 rfl (lv_at hl 1 rfl) ?_
        refine lv_iload_n hx hb nd_CM_uniform_31 rfl (lv_at hl 2 rfl) ?_
        refine wi_iast hx hb hK hP hD hS 3 0 rfl rfl (by omega) (by omega) nd_CM_uniform_32 (fun H locs hP hD hS => ?_)
        have hP : va_P D cl_all ([((q 0), .inr (6, [.int (nI (n)), .ref (q 2), .ref (q 3), .ref (q 4), .ref (q 5), .ref (q 6), .ref (q 7), .ref (q 8), .ref (q 9), .ref (q 10), .ref (q 11), .ref (q 12), .ref (q 13), .ref (q 14)])), ((q 2), .inl (cI, 10, .inl (g 0))), ((q 3), .inl (cI, 2, .inl (upd (g 1) 1 (nI (0))))), ((q 4), .inl (cI, 2, .inl (upd (g 2) 1 k))), ((q 5), .inl (cI, 2, .inl (g 3))), ((q 6), .inl (cI, 20, .inl (g 4))), ((q 7), .inl (cI, 20, .inl (g 5))), ((q 8), .inl (cI, 20, .inl (g 6))), ((q 9), .inl (cI, 8, .inl (g 7))), ((q 10), .inl (cI, 80, .inl (g 8))), ((q 11), .inl (cI, 8, .inl (g 9))), ((q 12), .inl (cI, 16, .inl (g 10))), ((q 13), .inl (cI, 16, .inl (g 11))), ((q 14), .inl (cI, 2048, .inl (g 12)))]) H := hP
        have hD : va_D A ([((q 0), .inr (6, [.int (nI (n)), .ref (q 2), .ref (q 3), .ref (q 4), .ref (q 5), .ref (q 6), .ref (q 7), .ref (q 8), .ref (q 9), .ref (q 10), .ref (q 11), .ref (q 12), .ref (q 13), .ref (q 14)])), ((q 2), .inl (cI, 10, .inl (g 0))), ((q 3), .inl (cI, 2, .inl (upd (g 1) 1 (nI (0))))), ((q 4), .inl (cI, 2, .inl (upd (g 2) 1 k))), ((q 5), .inl (cI, 2, .inl (g 3))), ((q 6), .inl (cI, 20, .inl (g 4))), ((q 7), .inl (cI, 20, .inl (g 5))), ((q 8), .inl (cI, 20, .inl (g 6))), ((q 9), .inl (cI, 8, .inl (g 7))), ((q 10), .inl (cI, 80, .inl (g 8))), ((q 11), .inl (cI, 8, .inl (g 9))), ((q 12), .inl (cI, 16, .inl (g 10))), ((q 13), .inl (cI, 16, .inl (g 11))), ((q 14), .inl (cI, 2048, .inl (g 12)))]) := hD
        refine wi_ic hx hb (a := 1) nd_CM_uniform_33 ?_
        obtain ⟨k1, h_k1, rfl⟩ := sm_le10 (b := 10) (by omega) hc8 hc14
        have hsp : sp_uniform y (nI 1) (nI k1) = (nI 1, cb_s y 1 (0, k1, (cb_m y 1).2.2)) := by unfold sp_uniform; simp only [sw_1, tn_1, sr_t h_k1 (show 10 < 2 ^ 31 by omega), tn_nI (show k1 < 2 ^ 31 by omega)]; simp [hc14]
        exact wb_zret ((va_up (va_up g 1 (upd (g 1) 1 (nI (0)))) 2 (upd (g 2) 1 (nI k1)))) hx hb hr hk rfl hAe (by rw [hsp]; exact ⟨rfl, rf_uniform (w := 1) hn hI (by omega) h_k1⟩) hP hD hS nd_CM_uniform_34
      · refine wi_ic hx hb (a := 0) nd_CM_uniform_17 ?_
        have hsp : sp_uniform y (nI (1)) k = (nI 0, y) := by unfold sp_uniform; simp [sr_f (x := k) (b := nI 10) (fun z => z.2 (Int32.not_le.mp hc14))]
        exact wb_zret (g) hx hb hr hk rfl hAe (by rw [hsp]; exact ⟨rfl, hI⟩) hP hD hS nd_CM_uniform_18
  · refine wc_S (n := 1) hx hb hml hown htg (c_CM_isWhich l D _ wh (nI 0) (fun h => absurd h (fun z => z.elim (fun z => hw1.1 (z.trans nI_0.symm)) hw1.2)) (fun _ => rfl)) tm_432 tm_430 tm_431 tm_9 (by decide +kernel) ⟨⟨Nat.le_trans (by decide) hRf, Nat.le_trans (by decide) hRl⟩, rfl, rfl⟩ (wa_pre wa_nil hK hN) rfl hl.1 rfl (Nat.le_of_ble_eq_true rfl) nd_CM_uniform_1 hCS ?_
    refine wi_if_eq (tgt := 17) hx hb (by decide) nd_CM_uniform_4 rfl (fun _ => ?_) (fun h => absurd h (by decide))
    refine wi_ic hx hb (a := 0) nd_CM_uniform_17 ?_
    have hsp : sp_uniform y wh k = (nI 0, y) := by unfold sp_uniform; simp [sw_n hw1]
    exact wb_zret (g) hx hb hr hk rfl hAe (by rw [hsp]; exact ⟨rfl, hI⟩) hP hD hS nd_CM_uniform_18
theorem nd_CM_graphic_0 : decode nc_CM_graphic 0 = .ok (.iload_n 1, 1) := by decide +kernel
theorem nd_CM_graphic_1 : decode nc_CM_graphic 1 = .ok (.invokestatic 53, 3) := by decide +kernel
theorem nd_CM_graphic_4 : decode nc_CM_graphic 4 = .ok (.ifCond .ne 5, 3) := by decide +kernel
theorem nd_CM_graphic_7 : decode nc_CM_graphic 7 = .ok (.iconst 0, 1) := by decide +kernel
theorem nd_CM_graphic_8 : decode nc_CM_graphic 8 = .ok (.ireturn, 1) := by decide +kernel
theorem nd_CM_graphic_9 : decode nc_CM_graphic 9 = .ok (.aload_n 0, 1) := by decide +kernel
theorem nd_CM_graphic_10 : decode nc_CM_graphic 10 = .ok (.iload_n 1, 1) := by decide +kernel
theorem nd_CM_graphic_11 : decode nc_CM_graphic 11 = .ok (.iconst 1, 1) := by decide +kernel
theorem nd_CM_graphic_12 : decode nc_CM_graphic 12 = .ok (.invokevirtual 57, 3) := by decide +kernel
theorem nd_CM_graphic_15 : decode nc_CM_graphic 15 = .ok (.iconst 1, 1) := by decide +kernel
theorem nd_CM_graphic_16 : decode nc_CM_graphic 16 = .ok (.ireturn, 1) := by decide +kernel
set_option maxRecDepth 20000 in
theorem c_CM_graphic (l : Launch) (D : va_G) (cI cG cM : ClassId)  (q : Nat → Nat) (n : Nat) (hn1 : 1 ≤ n) (hn : n ≤ 10) (g : rf_S) (y : cb_Y) (hI : rf_I n y g) (wh : Int32) (sz : Nat) : wb_Mi l ny_CM_graphic nc_CM_graphic 2 (some .boolean) ({ frames := 1, cells := 0, slots := 0, locals := 24 }) D (ty_all cI cG cM) (rf_ cI q n g) sz [.ref (q 0), .int (wh)] (fun (v : Int32) (u : rf_S) => v = (sp_graphic y wh).1 ∧ rf_I n (sp_graphic y wh).2 u) (fun u : rf_S => rf_ cI q n u) := by
  refine wb_start (S := rf_S) (by decide) (Nat.le_of_ble_eq_true rfl) ?_
  intro p e0 s0 m below meth c ls A hx hb hr hml htg hown hk hP hK hN hl hAe hsz hD hA
  have hl : lv_has ls 2 [(0, .ref (q 0)), (1, .int (wh))] := hl
  have hP : va_P D cl_all ([((q 0), .inr (6, [.int (nI (n)), .ref (q 2), .ref (q 3), .ref (q 4), .ref (q 5), .ref (q 6), .ref (q 7), .ref (q 8), .ref (q 9), .ref (q 10), .ref (q 11), .ref (q 12), .ref (q 13), .ref (q 14)])), ((q 2), .inl (cI, 10, .inl (g 0))), ((q 3), .inl (cI, 2, .inl (g 1))), ((q 4), .inl (cI, 2, .inl (g 2))), ((q 5), .inl (cI, 2, .inl (g 3))), ((q 6), .inl (cI, 20, .inl (g 4))), ((q 7), .inl (cI, 20, .inl (g 5))), ((q 8), .inl (cI, 20, .inl (g 6))), ((q 9), .inl (cI, 8, .inl (g 7))), ((q 10), .inl (cI, 80, .inl (g 8))), ((q 11), .inl (cI, 8, .inl (g 9))), ((q 12), .inl (cI, 16, .inl (g 10))), ((q 13), .inl (cI, 16, .inl (g 11))), ((q 14), .inl (cI, 2048, .inl (g 12)))]) s0.heap := hP
  have hD : va_D A ([((q 0), .inr (6, [.int (nI (n)), .ref (q 2), .ref (q 3), .ref (q 4), .ref (q 5), .ref (q 6), .ref (q 7), .ref (q 8), .ref (q 9), .ref (q 10), .ref (q 11), .ref (q 12), .ref (q 13), .ref (q 14)])), ((q 2), .inl (cI, 10, .inl (g 0))), ((q 3), .inl (cI, 2, .inl (g 1))), ((q 4), .inl (cI, 2, .inl (g 2))), ((q 5), .inl (cI, 2, .inl (g 3))), ((q 6), .inl (cI, 20, .inl (g 4))), ((q 7), .inl (cI, 20, .inl (g 5))), ((q 8), .inl (cI, 20, .inl (g 6))), ((q 9), .inl (cI, 8, .inl (g 7))), ((q 10), .inl (cI, 80, .inl (g 8))), ((q 11), .inl (cI, 8, .inl (g 9))), ((q 12), .inl (cI, 16, .inl (g 10))), ((q 13), .inl (cI, 16, .inl (g 11))), ((q 14), .inl (cI, 2048, .inl (g 12)))]) := hD
  have hS : va_S A s0.heap s0.heap [] := va_S.rf
  have hRf : 1 ≤ ({ frames := 1, cells := 0, slots := 0, locals := 24 } : Room).frames := Nat.le_refl _
  have hRl : 24 ≤ ({ frames := 1, cells := 0, slots := 0, locals := 24 } : Room).locals := Nat.le_refl _
  have hCS : 0 ≤ ({ frames := 1, cells := 0, slots := 0, locals := 24 } : Room).cells ∧ 0 ≤ ({ frames := 1, cells := 0, slots := 0, locals := 24 } : Room).slots := ⟨Nat.zero_le _, Nat.zero_le _⟩
  have h2n : 2 ^ n ≤ 1024 := Nat.pow_le_pow_right (by omega) hn
  have h2p : 1 ≤ 2 ^ n := Nat.one_le_two_pow
  refine lv_iload_n hx hb nd_CM_graphic_0 rfl (lv_at hl 1 rfl) ?_
  rcases sm_which wh with hw1 | hw1 | hw1
  · subst hw1
    refine wc_S (n := 1) hx hb hml hown htg (c_CM_isWhich l D _ (nI 0) (nI 1) (fun _ => rfl) (fun h => absurd (Or.inl nI_0) h)) tm_432 tm_430 tm_431 tm_9 (by decide +kernel) ⟨⟨Nat.le_trans (by decide) hRf, Nat.le_trans (by decide) hRl⟩, rfl, rfl⟩ (wa_pre wa_nil hK hN) rfl hl.1 rfl (Nat.le_of_ble_eq_true rfl) nd_CM_graphic_1 hCS ?_
    refine wi_if_ne (tgt := 9) hx hb (by decide) nd_CM_graphic_4 rfl (fun _ => ?_) (fun h => absurd h (by decide))
    refine lv_aload_n hx hb nd_CM_graphic_9 rfl (lv_at hl 0 rfl) ?_
    refine lv_iload_n hx hb nd_CM_graphic_10 rfl (lv_at hl 1 rfl) ?_
    refine wi_ic hx hb (a := 1) nd_CM_graphic_11 ?_
    refine wd_Vv0 (C := nr_CM) (n := 2) (Y := rf_ cI q n g) hx hb hml hown htg (c_CM_become l D cI cG cM q n hn1 hn g 0 (by omega) (nI (1)) _) tm_440 tm_437 tm_439 tp_12 tm_9 (by decide +kernel) ⟨⟨Nat.le_trans (by decide) hRf, Nat.le_trans (by decide) hRl⟩, rfl, rfl⟩ hP hD hS hA hK hN (va_recv (q0 := 0) (ci := 6) hK hP rfl rfl) rfl hl.1 rfl (Nat.le_of_ble_eq_true rfl) nd_CM_graphic_12 hCS (fun u12 H locs hp12 hP hD hS => ?_)
    subst hp12
    have hP : va_P D cl_all ([((q 0), .inr (6, [.int (nI (n)), .ref (q 2), .ref (q 3), .ref (q 4), .ref (q 5), .ref (q 6), .ref (q 7), .ref (q 8), .ref (q 9), .ref (q 10), .ref (q 11), .ref (q 12), .ref (q 13), .ref (q 14)])), ((q 2), .inl (cI, 10, .inl ((rb_ g 0 (nI (1))) 0))), ((q 3), .inl (cI, 2, .inl ((rb_ g 0 (nI (1))) 1))), ((q 4), .inl (cI, 2, .inl ((rb_ g 0 (nI (1))) 2))), ((q 5), .inl (cI, 2, .inl ((rb_ g 0 (nI (1))) 3))), ((q 6), .inl (cI, 20, .inl ((rb_ g 0 (nI (1))) 4))), ((q 7), .inl (cI, 20, .inl ((rb_ g 0 (nI (1))) 5))), ((q 8), .inl (cI, 20, .inl ((rb_ g 0 (nI (1))) 6))), ((q 9), .inl (cI, 8, .inl ((rb_ g 0 (nI (1))) 7))), ((q 10), .inl (cI, 80, .inl ((rb_ g 0 (nI (1))) 8))), ((q 11), .inl (cI, 8, .inl ((rb_ g 0 (nI (1))) 9))), ((q 12), .inl (cI, 16, .inl ((rb_ g 0 (nI (1))) 10))), ((q 13), .inl (cI, 16, .inl ((rb_ g 0 (nI (1))) 11))), ((q 14), .inl (cI, 2048, .inl ((rb_ g 0 (nI (1))) 12)))]) H := hP
    have hD : va_D A ([((q 0), .inr (6, [.int (nI (n)), .ref (q 2), .ref (q 3), .ref (q 4), .ref (q 5), .ref (q 6), .ref (q 7), .ref (q 8), .ref (q 9), .ref (q 10), .ref (q 11), .ref (q 12), .ref (q 13), .ref (q 14)])), ((q 2), .inl (cI, 10, .inl ((rb_ g 0 (nI (1))) 0))), ((q 3), .inl (cI, 2, .inl ((rb_ g 0 (nI (1))) 1))), ((q 4), .inl (cI, 2, .inl ((rb_ g 0 (nI (1))) 2))), ((q 5), .inl (cI, 2, .inl ((rb_ g 0 (nI (1))) 3))), ((q 6), .inl (cI, 20, .inl ((rb_ g 0 (nI (1))) 4))), ((q 7), .inl (cI, 20, .inl ((rb_ g 0 (nI (1))) 5))), ((q 8), .inl (cI, 20, .inl ((rb_ g 0 (nI (1))) 6))), ((q 9), .inl (cI, 8, .inl ((rb_ g 0 (nI (1))) 7))), ((q 10), .inl (cI, 80, .inl ((rb_ g 0 (nI (1))) 8))), ((q 11), .inl (cI, 8, .inl ((rb_ g 0 (nI (1))) 9))), ((q 12), .inl (cI, 16, .inl ((rb_ g 0 (nI (1))) 10))), ((q 13), .inl (cI, 16, .inl ((rb_ g 0 (nI (1))) 11))), ((q 14), .inl (cI, 2048, .inl ((rb_ g 0 (nI (1))) 12)))]) := hD
    refine wi_ic hx hb (a := 1) nd_CM_graphic_15 ?_
    have hsp : sp_graphic y (nI 0)  = (nI 1, cb_s y 0 (1, (cb_m y 0).2.1, (fun _ => 0), (fun _ => 0), (cb_m y 0).2.2.2.2)) := by unfold sp_graphic; simp only [sw_0, tn_0]; simp
    exact wb_zret ((rb_ g 0 (nI (1)))) hx hb hr hk rfl hAe (by rw [hsp]; exact ⟨rfl, rf_graphic (w := 0) hn hI (by omega)⟩) hP hD hS nd_CM_graphic_16
  · subst hw1
    refine wc_S (n := 1) hx hb hml hown htg (c_CM_isWhich l D _ (nI 1) (nI 1) (fun _ => rfl) (fun h => absurd (Or.inr rfl) h)) tm_432 tm_430 tm_431 tm_9 (by decide +kernel) ⟨⟨Nat.le_trans (by decide) hRf, Nat.le_trans (by decide) hRl⟩, rfl, rfl⟩ (wa_pre wa_nil hK hN) rfl hl.1 rfl (Nat.le_of_ble_eq_true rfl) nd_CM_graphic_1 hCS ?_
    refine wi_if_ne (tgt := 9) hx hb (by decide) nd_CM_graphic_4 rfl (fun _ => ?_) (fun h => absurd h (by decide))
    refine lv_aload_n hx hb nd_CM_graphic_9 rfl (lv_at hl 0 rfl) ?_
    refine lv_iload_n hx hb nd_CM_graphic_10 rfl (lv_at hl 1 rfl) ?_
    refine wi_ic hx hb (a := 1) nd_CM_graphic_11 ?_
    refine wd_Vv0 (C := nr_CM) (n := 2) (Y := rf_ cI q n g) hx hb hml hown htg (c_CM_become l D cI cG cM q n hn1 hn g 1 (by omega) (nI (1)) _) tm_440 tm_437 tm_439 tp_12 tm_9 (by decide +kernel) ⟨⟨Nat.le_trans (by decide) hRf, Nat.le_trans (by decide) hRl⟩, rfl, rfl⟩ hP hD hS hA hK hN (va_recv (q0 := 0) (ci := 6) hK hP rfl rfl) rfl hl.1 rfl (Nat.le_of_ble_eq_true rfl) nd_CM_graphic_12 hCS (fun u12 H locs hp12 hP hD hS => ?_)
    subst hp12
    have hP : va_P D cl_all ([((q 0), .inr (6, [.int (nI (n)), .ref (q 2), .ref (q 3), .ref (q 4), .ref (q 5), .ref (q 6), .ref (q 7), .ref (q 8), .ref (q 9), .ref (q 10), .ref (q 11), .ref (q 12), .ref (q 13), .ref (q 14)])), ((q 2), .inl (cI, 10, .inl ((rb_ g 1 (nI (1))) 0))), ((q 3), .inl (cI, 2, .inl ((rb_ g 1 (nI (1))) 1))), ((q 4), .inl (cI, 2, .inl ((rb_ g 1 (nI (1))) 2))), ((q 5), .inl (cI, 2, .inl ((rb_ g 1 (nI (1))) 3))), ((q 6), .inl (cI, 20, .inl ((rb_ g 1 (nI (1))) 4))), ((q 7), .inl (cI, 20, .inl ((rb_ g 1 (nI (1))) 5))), ((q 8), .inl (cI, 20, .inl ((rb_ g 1 (nI (1))) 6))), ((q 9), .inl (cI, 8, .inl ((rb_ g 1 (nI (1))) 7))), ((q 10), .inl (cI, 80, .inl ((rb_ g 1 (nI (1))) 8))), ((q 11), .inl (cI, 8, .inl ((rb_ g 1 (nI (1))) 9))), ((q 12), .inl (cI, 16, .inl ((rb_ g 1 (nI (1))) 10))), ((q 13), .inl (cI, 16, .inl ((rb_ g 1 (nI (1))) 11))), ((q 14), .inl (cI, 2048, .inl ((rb_ g 1 (nI (1))) 12)))]) H := hP
    have hD : va_D A ([((q 0), .inr (6, [.int (nI (n)), .ref (q 2), .ref (q 3), .ref (q 4), .ref (q 5), .ref (q 6), .ref (q 7), .ref (q 8), .ref (q 9), .ref (q 10), .ref (q 11), .ref (q 12), .ref (q 13), .ref (q 14)])), ((q 2), .inl (cI, 10, .inl ((rb_ g 1 (nI (1))) 0))), ((q 3), .inl (cI, 2, .inl ((rb_ g 1 (nI (1))) 1))), ((q 4), .inl (cI, 2, .inl ((rb_ g 1 (nI (1))) 2))), ((q 5), .inl (cI, 2, .inl ((rb_ g 1 (nI (1))) 3))), ((q 6), .inl (cI, 20, .inl ((rb_ g 1 (nI (1))) 4))), ((q 7), .inl (cI, 20, .inl ((rb_ g 1 (nI (1))) 5))), ((q 8), .inl (cI, 20, .inl ((rb_ g 1 (nI (1))) 6))), ((q 9), .inl (cI, 8, .inl ((rb_ g 1 (nI (1))) 7))), ((q 10), .inl (cI, 80, .inl ((rb_ g 1 (nI (1))) 8))), ((q 11), .inl (cI, 8, .inl ((rb_ g 1 (nI (1))) 9))), ((q 12), .inl (cI, 16, .inl ((rb_ g 1 (nI (1))) 10))), ((q 13), .inl (cI, 16, .inl ((rb_ g 1 (nI (1))) 11))), ((q 14), .inl (cI, 2048, .inl ((rb_ g 1 (nI (1))) 12)))]) := hD
    refine wi_ic hx hb (a := 1) nd_CM_graphic_15 ?_
    have hsp : sp_graphic y (nI 1)  = (nI 1, cb_s y 1 (1, (cb_m y 1).2.1, (fun _ => 0), (fun _ => 0), (cb_m y 1).2.2.2.2)) := by unfold sp_graphic; simp only [sw_1, tn_1]; simp
    exact wb_zret ((rb_ g 1 (nI (1)))) hx hb hr hk rfl hAe (by rw [hsp]; exact ⟨rfl, rf_graphic (w := 1) hn hI (by omega)⟩) hP hD hS nd_CM_graphic_16
  · refine wc_S (n := 1) hx hb hml hown htg (c_CM_isWhich l D _ wh (nI 0) (fun h => absurd h (fun z => z.elim (fun z => hw1.1 (z.trans nI_0.symm)) hw1.2)) (fun _ => rfl)) tm_432 tm_430 tm_431 tm_9 (by decide +kernel) ⟨⟨Nat.le_trans (by decide) hRf, Nat.le_trans (by decide) hRl⟩, rfl, rfl⟩ (wa_pre wa_nil hK hN) rfl hl.1 rfl (Nat.le_of_ble_eq_true rfl) nd_CM_graphic_1 hCS ?_
    refine wi_if_ne (tgt := 9) hx hb (by decide) nd_CM_graphic_4 rfl (fun h => absurd h (by decide)) (fun _ => ?_)
    refine wi_ic hx hb (a := 0) nd_CM_graphic_7 ?_
    have hsp : sp_graphic y wh = (nI 0, y) := by unfold sp_graphic; simp [sw_n hw1]
    exact wb_zret (g) hx hb hr hk rfl hAe (by rw [hsp]; exact ⟨rfl, hI⟩) hP hD hS nd_CM_graphic_8
theorem nd_CM_classes_0 : decode nc_CM_classes 0 = .ok (.iload_n 1, 1) := by decide +kernel
theorem nd_CM_classes_1 : decode nc_CM_classes 1 = .ok (.invokestatic 53, 3) := by decide +kernel
theorem nd_CM_classes_4 : decode nc_CM_classes 4 = .ok (.ifCond .ne 5, 3) := by decide +kernel
theorem nd_CM_classes_7 : decode nc_CM_classes 7 = .ok (.iconst 0, 1) := by decide +kernel
theorem nd_CM_classes_8 : decode nc_CM_classes 8 = .ok (.ireturn, 1) := by decide +kernel
theorem nd_CM_classes_9 : decode nc_CM_classes 9 = .ok (.aload_n 0, 1) := by decide +kernel
theorem nd_CM_classes_10 : decode nc_CM_classes 10 = .ok (.iload_n 1, 1) := by decide +kernel
theorem nd_CM_classes_11 : decode nc_CM_classes 11 = .ok (.iconst 2, 1) := by decide +kernel
theorem nd_CM_classes_12 : decode nc_CM_classes 12 = .ok (.invokevirtual 57, 3) := by decide +kernel
theorem nd_CM_classes_15 : decode nc_CM_classes 15 = .ok (.iconst 1, 1) := by decide +kernel
theorem nd_CM_classes_16 : decode nc_CM_classes 16 = .ok (.ireturn, 1) := by decide +kernel
set_option maxRecDepth 20000 in
theorem c_CM_classes (l : Launch) (D : va_G) (cI cG cM : ClassId)  (q : Nat → Nat) (n : Nat) (hn1 : 1 ≤ n) (hn : n ≤ 10) (g : rf_S) (y : cb_Y) (hI : rf_I n y g) (wh : Int32) (sz : Nat) : wb_Mi l ny_CM_classes nc_CM_classes 2 (some .boolean) ({ frames := 1, cells := 0, slots := 0, locals := 24 }) D (ty_all cI cG cM) (rf_ cI q n g) sz [.ref (q 0), .int (wh)] (fun (v : Int32) (u : rf_S) => v = (sp_classes y wh).1 ∧ rf_I n (sp_classes y wh).2 u) (fun u : rf_S => rf_ cI q n u) := by
  refine wb_start (S := rf_S) (by decide) (Nat.le_of_ble_eq_true rfl) ?_
  intro p e0 s0 m below meth c ls A hx hb hr hml htg hown hk hP hK hN hl hAe hsz hD hA
  have hl : lv_has ls 2 [(0, .ref (q 0)), (1, .int (wh))] := hl
  have hP : va_P D cl_all ([((q 0), .inr (6, [.int (nI (n)), .ref (q 2), .ref (q 3), .ref (q 4), .ref (q 5), .ref (q 6), .ref (q 7), .ref (q 8), .ref (q 9), .ref (q 10), .ref (q 11), .ref (q 12), .ref (q 13), .ref (q 14)])), ((q 2), .inl (cI, 10, .inl (g 0))), ((q 3), .inl (cI, 2, .inl (g 1))), ((q 4), .inl (cI, 2, .inl (g 2))), ((q 5), .inl (cI, 2, .inl (g 3))), ((q 6), .inl (cI, 20, .inl (g 4))), ((q 7), .inl (cI, 20, .inl (g 5))), ((q 8), .inl (cI, 20, .inl (g 6))), ((q 9), .inl (cI, 8, .inl (g 7))), ((q 10), .inl (cI, 80, .inl (g 8))), ((q 11), .inl (cI, 8, .inl (g 9))), ((q 12), .inl (cI, 16, .inl (g 10))), ((q 13), .inl (cI, 16, .inl (g 11))), ((q 14), .inl (cI, 2048, .inl (g 12)))]) s0.heap := hP
  have hD : va_D A ([((q 0), .inr (6, [.int (nI (n)), .ref (q 2), .ref (q 3), .ref (q 4), .ref (q 5), .ref (q 6), .ref (q 7), .ref (q 8), .ref (q 9), .ref (q 10), .ref (q 11), .ref (q 12), .ref (q 13), .ref (q 14)])), ((q 2), .inl (cI, 10, .inl (g 0))), ((q 3), .inl (cI, 2, .inl (g 1))), ((q 4), .inl (cI, 2, .inl (g 2))), ((q 5), .inl (cI, 2, .inl (g 3))), ((q 6), .inl (cI, 20, .inl (g 4))), ((q 7), .inl (cI, 20, .inl (g 5))), ((q 8), .inl (cI, 20, .inl (g 6))), ((q 9), .inl (cI, 8, .inl (g 7))), ((q 10), .inl (cI, 80, .inl (g 8))), ((q 11), .inl (cI, 8, .inl (g 9))), ((q 12), .inl (cI, 16, .inl (g 10))), ((q 13), .inl (cI, 16, .inl (g 11))), ((q 14), .inl (cI, 2048, .inl (g 12)))]) := hD
  have hS : va_S A s0.heap s0.heap [] := va_S.rf
  have hRf : 1 ≤ ({ frames := 1, cells := 0, slots := 0, locals := 24 } : Room).frames := Nat.le_refl _
  have hRl : 24 ≤ ({ frames := 1, cells := 0, slots := 0, locals := 24 } : Room).locals := Nat.le_refl _
  have hCS : 0 ≤ ({ frames := 1, cells := 0, slots := 0, locals := 24 } : Room).cells ∧ 0 ≤ ({ frames := 1, cells := 0, slots := 0, locals := 24 } : Room).slots := ⟨Nat.zero_le _, Nat.zero_le _⟩
  have h2n : 2 ^ n ≤ 1024 := Nat.pow_le_pow_right (by omega) hn
  have h2p : 1 ≤ 2 ^ n := Nat.one_le_two_pow
  refine lv_iload_n hx hb nd_CM_classes_0 rfl (lv_at hl 1 rfl) ?_
  rcases sm_which wh with hw1 | hw1 | hw1
  · subst hw1
    refine wc_S (n := 1) hx hb hml hown htg (c_CM_isWhich l D _ (nI 0) (nI 1) (fun _ => rfl) (fun h => absurd (Or.inl nI_0) h)) tm_432 tm_430 tm_431 tm_9 (by decide +kernel) ⟨⟨Nat.le_trans (by decide) hRf, Nat.le_trans (by decide) hRl⟩, rfl, rfl⟩ (wa_pre wa_nil hK hN) rfl hl.1 rfl (Nat.le_of_ble_eq_true rfl) nd_CM_classes_1 hCS ?_
    refine wi_if_ne (tgt := 9) hx hb (by decide) nd_CM_classes_4 rfl (fun _ => ?_) (fun h => absurd h (by decide))
    refine lv_aload_n hx hb nd_CM_classes_9 rfl (lv_at hl 0 rfl) ?_
    refine lv_iload_n hx hb nd_CM_classes_10 rfl (lv_at hl 1 rfl) ?_
    refine wi_ic hx hb (a := 2) nd_CM_classes_11 ?_
    refine wd_Vv0 (C := nr_CM) (n := 2) (Y := rf_ cI q n g) hx hb hml hown htg (c_CM_become l D cI cG cM q n hn1 hn g 0 (by omega) (nI (2)) _) tm_440 tm_437 tm_439 tp_12 tm_9 (by decide +kernel) ⟨⟨Nat.le_trans (by decide) hRf, Nat.le_trans (by decide) hRl⟩, rfl, rfl⟩ hP hD hS hA hK hN (va_recv (q0 := 0) (ci := 6) hK hP rfl rfl) rfl hl.1 rfl (Nat.le_of_ble_eq_true rfl) nd_CM_classes_12 hCS (fun u12 H locs hp12 hP hD hS => ?_)
    subst hp12
    have hP : va_P D cl_all ([((q 0), .inr (6, [.int (nI (n)), .ref (q 2), .ref (q 3), .ref (q 4), .ref (q 5), .ref (q 6), .ref (q 7), .ref (q 8), .ref (q 9), .ref (q 10), .ref (q 11), .ref (q 12), .ref (q 13), .ref (q 14)])), ((q 2), .inl (cI, 10, .inl ((rb_ g 0 (nI (2))) 0))), ((q 3), .inl (cI, 2, .inl ((rb_ g 0 (nI (2))) 1))), ((q 4), .inl (cI, 2, .inl ((rb_ g 0 (nI (2))) 2))), ((q 5), .inl (cI, 2, .inl ((rb_ g 0 (nI (2))) 3))), ((q 6), .inl (cI, 20, .inl ((rb_ g 0 (nI (2))) 4))), ((q 7), .inl (cI, 20, .inl ((rb_ g 0 (nI (2))) 5))), ((q 8), .inl (cI, 20, .inl ((rb_ g 0 (nI (2))) 6))), ((q 9), .inl (cI, 8, .inl ((rb_ g 0 (nI (2))) 7))), ((q 10), .inl (cI, 80, .inl ((rb_ g 0 (nI (2))) 8))), ((q 11), .inl (cI, 8, .inl ((rb_ g 0 (nI (2))) 9))), ((q 12), .inl (cI, 16, .inl ((rb_ g 0 (nI (2))) 10))), ((q 13), .inl (cI, 16, .inl ((rb_ g 0 (nI (2))) 11))), ((q 14), .inl (cI, 2048, .inl ((rb_ g 0 (nI (2))) 12)))]) H := hP
    have hD : va_D A ([((q 0), .inr (6, [.int (nI (n)), .ref (q 2), .ref (q 3), .ref (q 4), .ref (q 5), .ref (q 6), .ref (q 7), .ref (q 8), .ref (q 9), .ref (q 10), .ref (q 11), .ref (q 12), .ref (q 13), .ref (q 14)])), ((q 2), .inl (cI, 10, .inl ((rb_ g 0 (nI (2))) 0))), ((q 3), .inl (cI, 2, .inl ((rb_ g 0 (nI (2))) 1))), ((q 4), .inl (cI, 2, .inl ((rb_ g 0 (nI (2))) 2))), ((q 5), .inl (cI, 2, .inl ((rb_ g 0 (nI (2))) 3))), ((q 6), .inl (cI, 20, .inl ((rb_ g 0 (nI (2))) 4))), ((q 7), .inl (cI, 20, .inl ((rb_ g 0 (nI (2))) 5))), ((q 8), .inl (cI, 20, .inl ((rb_ g 0 (nI (2))) 6))), ((q 9), .inl (cI, 8, .inl ((rb_ g 0 (nI (2))) 7))), ((q 10), .inl (cI, 80, .inl ((rb_ g 0 (nI (2))) 8))), ((q 11), .inl (cI, 8, .inl ((rb_ g 0 (nI (2))) 9))), ((q 12), .inl (cI, 16, .inl ((rb_ g 0 (nI (2))) 10))), ((q 13), .inl (cI, 16, .inl ((rb_ g 0 (nI (2))) 11))), ((q 14), .inl (cI, 2048, .inl ((rb_ g 0 (nI (2))) 12)))]) := hD
    refine wi_ic hx hb (a := 1) nd_CM_classes_15 ?_
    have hsp : sp_classes y (nI 0)  = (nI 1, cb_s y 0 (2, (cb_m y 0).2.1, (cb_m y 0).2.2.1, (cb_m y 0).2.2.2.1, (fun _ => 0), (fun _ => 0), (cb_m y 0).2.2.2.2.2.2)) := by unfold sp_classes; simp only [sw_0, tn_0]; simp
    exact wb_zret ((rb_ g 0 (nI (2)))) hx hb hr hk rfl hAe (by rw [hsp]; exact ⟨rfl, rf_classes (w := 0) hn hI (by omega)⟩) hP hD hS nd_CM_classes_16
  · subst hw1
    refine wc_S (n := 1) hx hb hml hown htg (c_CM_isWhich l D _ (nI 1) (nI 1) (fun _ => rfl) (fun h => absurd (Or.inr rfl) h)) tm_432 tm_430 tm_431 tm_9 (by decide +kernel) ⟨⟨Nat.le_trans (by decide) hRf, Nat.le_trans (by decide) hRl⟩, rfl, rfl⟩ (wa_pre wa_nil hK hN) rfl hl.1 rfl (Nat.le_of_ble_eq_true rfl) nd_CM_classes_1 hCS ?_
    refine wi_if_ne (tgt := 9) hx hb (by decide) nd_CM_classes_4 rfl (fun _ => ?_) (fun h => absurd h (by decide))
    refine lv_aload_n hx hb nd_CM_classes_9 rfl (lv_at hl 0 rfl) ?_
    refine lv_iload_n hx hb nd_CM_classes_10 rfl (lv_at hl 1 rfl) ?_
    refine wi_ic hx hb (a := 2) nd_CM_classes_11 ?_
    refine wd_Vv0 (C := nr_CM) (n := 2) (Y := rf_ cI q n g) hx hb hml hown htg (c_CM_become l D cI cG cM q n hn1 hn g 1 (by omega) (nI (2)) _) tm_440 tm_437 tm_439 tp_12 tm_9 (by decide +kernel) ⟨⟨Nat.le_trans (by decide) hRf, Nat.le_trans (by decide) hRl⟩, rfl, rfl⟩ hP hD hS hA hK hN (va_recv (q0 := 0) (ci := 6) hK hP rfl rfl) rfl hl.1 rfl (Nat.le_of_ble_eq_true rfl) nd_CM_classes_12 hCS (fun u12 H locs hp12 hP hD hS => ?_)
    subst hp12
    have hP : va_P D cl_all ([((q 0), .inr (6, [.int (nI (n)), .ref (q 2), .ref (q 3), .ref (q 4), .ref (q 5), .ref (q 6), .ref (q 7), .ref (q 8), .ref (q 9), .ref (q 10), .ref (q 11), .ref (q 12), .ref (q 13), .ref (q 14)])), ((q 2), .inl (cI, 10, .inl ((rb_ g 1 (nI (2))) 0))), ((q 3), .inl (cI, 2, .inl ((rb_ g 1 (nI (2))) 1))), ((q 4), .inl (cI, 2, .inl ((rb_ g 1 (nI (2))) 2))), ((q 5), .inl (cI, 2, .inl ((rb_ g 1 (nI (2))) 3))), ((q 6), .inl (cI, 20, .inl ((rb_ g 1 (nI (2))) 4))), ((q 7), .inl (cI, 20, .inl ((rb_ g 1 (nI (2))) 5))), ((q 8), .inl (cI, 20, .inl ((rb_ g 1 (nI (2))) 6))), ((q 9), .inl (cI, 8, .inl ((rb_ g 1 (nI (2))) 7))), ((q 10), .inl (cI, 80, .inl ((rb_ g 1 (nI (2))) 8))), ((q 11), .inl (cI, 8, .inl ((rb_ g 1 (nI (2))) 9))), ((q 12), .inl (cI, 16, .inl ((rb_ g 1 (nI (2))) 10))), ((q 13), .inl (cI, 16, .inl ((rb_ g 1 (nI (2))) 11))), ((q 14), .inl (cI, 2048, .inl ((rb_ g 1 (nI (2))) 12)))]) H := hP
    have hD : va_D A ([((q 0), .inr (6, [.int (nI (n)), .ref (q 2), .ref (q 3), .ref (q 4), .ref (q 5), .ref (q 6), .ref (q 7), .ref (q 8), .ref (q 9), .ref (q 10), .ref (q 11), .ref (q 12), .ref (q 13), .ref (q 14)])), ((q 2), .inl (cI, 10, .inl ((rb_ g 1 (nI (2))) 0))), ((q 3), .inl (cI, 2, .inl ((rb_ g 1 (nI (2))) 1))), ((q 4), .inl (cI, 2, .inl ((rb_ g 1 (nI (2))) 2))), ((q 5), .inl (cI, 2, .inl ((rb_ g 1 (nI (2))) 3))), ((q 6), .inl (cI, 20, .inl ((rb_ g 1 (nI (2))) 4))), ((q 7), .inl (cI, 20, .inl ((rb_ g 1 (nI (2))) 5))), ((q 8), .inl (cI, 20, .inl ((rb_ g 1 (nI (2))) 6))), ((q 9), .inl (cI, 8, .inl ((rb_ g 1 (nI (2))) 7))), ((q 10), .inl (cI, 80, .inl ((rb_ g 1 (nI (2))) 8))), ((q 11), .inl (cI, 8, .inl ((rb_ g 1 (nI (2))) 9))), ((q 12), .inl (cI, 16, .inl ((rb_ g 1 (nI (2))) 10))), ((q 13), .inl (cI, 16, .inl ((rb_ g 1 (nI (2))) 11))), ((q 14), .inl (cI, 2048, .inl ((rb_ g 1 (nI (2))) 12)))]) := hD
    refine wi_ic hx hb (a := 1) nd_CM_classes_15 ?_
    have hsp : sp_classes y (nI 1)  = (nI 1, cb_s y 1 (2, (cb_m y 1).2.1, (cb_m y 1).2.2.1, (cb_m y 1).2.2.2.1, (fun _ => 0), (fun _ => 0), (cb_m y 1).2.2.2.2.2.2)) := by unfold sp_classes; simp only [sw_1, tn_1]; simp
    exact wb_zret ((rb_ g 1 (nI (2)))) hx hb hr hk rfl hAe (by rw [hsp]; exact ⟨rfl, rf_classes (w := 1) hn hI (by omega)⟩) hP hD hS nd_CM_classes_16
  · refine wc_S (n := 1) hx hb hml hown htg (c_CM_isWhich l D _ wh (nI 0) (fun h => absurd h (fun z => z.elim (fun z => hw1.1 (z.trans nI_0.symm)) hw1.2)) (fun _ => rfl)) tm_432 tm_430 tm_431 tm_9 (by decide +kernel) ⟨⟨Nat.le_trans (by decide) hRf, Nat.le_trans (by decide) hRl⟩, rfl, rfl⟩ (wa_pre wa_nil hK hN) rfl hl.1 rfl (Nat.le_of_ble_eq_true rfl) nd_CM_classes_1 hCS ?_
    refine wi_if_ne (tgt := 9) hx hb (by decide) nd_CM_classes_4 rfl (fun h => absurd h (by decide)) (fun _ => ?_)
    refine wi_ic hx hb (a := 0) nd_CM_classes_7 ?_
    have hsp : sp_classes y wh = (nI 0, y) := by unfold sp_classes; simp [sw_n hw1]
    exact wb_zret (g) hx hb hr hk rfl hAe (by rw [hsp]; exact ⟨rfl, hI⟩) hP hD hS nd_CM_classes_8
theorem nd_CM_linear_0 : decode nc_CM_linear 0 = .ok (.iload_n 1, 1) := by decide +kernel
theorem nd_CM_linear_1 : decode nc_CM_linear 1 = .ok (.invokestatic 53, 3) := by decide +kernel
theorem nd_CM_linear_4 : decode nc_CM_linear 4 = .ok (.ifCond .eq 24, 3) := by decide +kernel
theorem nd_CM_linear_7 : decode nc_CM_linear 7 = .ok (.iload_n 2, 1) := by decide +kernel
theorem nd_CM_linear_8 : decode nc_CM_linear 8 = .ok (.iconst 2, 1) := by decide +kernel
theorem nd_CM_linear_9 : decode nc_CM_linear 9 = .ok (.if_icmp .eq 21, 3) := by decide +kernel
theorem nd_CM_linear_12 : decode nc_CM_linear 12 = .ok (.iload_n 2, 1) := by decide +kernel
theorem nd_CM_linear_13 : decode nc_CM_linear 13 = .ok (.iconst 3, 1) := by decide +kernel
theorem nd_CM_linear_14 : decode nc_CM_linear 14 = .ok (.if_icmp .eq 16, 3) := by decide +kernel
theorem nd_CM_linear_17 : decode nc_CM_linear 17 = .ok (.iload_n 2, 1) := by decide +kernel
theorem nd_CM_linear_18 : decode nc_CM_linear 18 = .ok (.iconst 5, 1) := by decide +kernel
theorem nd_CM_linear_19 : decode nc_CM_linear 19 = .ok (.if_icmp .eq 11, 3) := by decide +kernel
theorem nd_CM_linear_22 : decode nc_CM_linear 22 = .ok (.iload_n 2, 1) := by decide +kernel
theorem nd_CM_linear_23 : decode nc_CM_linear 23 = .ok (.bipush 7, 2) := by decide +kernel
theorem nd_CM_linear_25 : decode nc_CM_linear 25 = .ok (.if_icmp .eq 5, 3) := by decide +kernel
theorem nd_CM_linear_28 : decode nc_CM_linear 28 = .ok (.iconst 0, 1) := by decide +kernel
theorem nd_CM_linear_29 : decode nc_CM_linear 29 = .ok (.ireturn, 1) := by decide +kernel
theorem nd_CM_linear_30 : decode nc_CM_linear 30 = .ok (.aload_n 0, 1) := by decide +kernel
theorem nd_CM_linear_31 : decode nc_CM_linear 31 = .ok (.iload_n 1, 1) := by decide +kernel
theorem nd_CM_linear_32 : decode nc_CM_linear 32 = .ok (.iconst 3, 1) := by decide +kernel
theorem nd_CM_linear_33 : decode nc_CM_linear 33 = .ok (.invokevirtual 57, 3) := by decide +kernel
theorem nd_CM_linear_36 : decode nc_CM_linear 36 = .ok (.aload_n 0, 1) := by decide +kernel
theorem nd_CM_linear_37 : decode nc_CM_linear 37 = .ok (.getfield 19, 3) := by decide +kernel
theorem nd_CM_linear_40 : decode nc_CM_linear 40 = .ok (.iload_n 1, 1) := by decide +kernel
theorem nd_CM_linear_41 : decode nc_CM_linear 41 = .ok (.iload_n 2, 1) := by decide +kernel
theorem nd_CM_linear_42 : decode nc_CM_linear 42 = .ok (.iastore, 1) := by decide +kernel
theorem nd_CM_linear_43 : decode nc_CM_linear 43 = .ok (.iconst 1, 1) := by decide +kernel
theorem nd_CM_linear_44 : decode nc_CM_linear 44 = .ok (.ireturn, 1) := by decide +kernel
set_option maxRecDepth 20000 in
theorem c_CM_linear (l : Launch) (D : va_G) (cI cG cM : ClassId)  (q : Nat → Nat) (n : Nat) (hn1 : 1 ≤ n) (hn : n ≤ 10) (g : rf_S) (y : cb_Y) (hI : rf_I n y g) (wh p : Int32) (sz : Nat) : wb_Mi l ny_CM_linear nc_CM_linear 3 (some .boolean) ({ frames := 1, cells := 0, slots := 0, locals := 24 }) D (ty_all cI cG cM) (rf_ cI q n g) sz [.ref (q 0), .int (wh), .int (p)] (fun (v : Int32) (u : rf_S) => v = (sp_linear y wh p).1 ∧ rf_I n (sp_linear y wh p).2 u) (fun u : rf_S => rf_ cI q n u) := by
  refine wb_start (S := rf_S) (by decide) (Nat.le_of_ble_eq_true rfl) ?_
  intro p0 e0 s0 m below meth c ls A hx hb hr hml htg hown hk hP hK hN hl hAe hsz hD hA
  have hl : lv_has ls 3 [(0, .ref (q 0)), (1, .int (wh)), (2, .int (p))] := hl
  have hP : va_P D cl_all ([((q 0), .inr (6, [.int (nI (n)), .ref (q 2), .ref (q 3), .ref (q 4), .ref (q 5), .ref (q 6), .ref (q 7), .ref (q 8), .ref (q 9), .ref (q 10), .ref (q 11), .ref (q 12), .ref (q 13), .ref (q 14)])), ((q 2), .inl (cI, 10, .inl (g 0))), ((q 3), .inl (cI, 2, .inl (g 1))), ((q 4), .inl (cI, 2, .inl (g 2))), ((q 5), .inl (cI, 2, .inl (g 3))), ((q 6), .inl (cI, 20, .inl (g 4))), ((q 7), .inl (cI, 20, .inl (g 5))), ((q 8), .inl (cI, 20, .inl (g 6))), ((q 9), .inl (cI, 8, .inl (g 7))), ((q 10), .inl (cI, 80, .inl (g 8))), ((q 11), .inl (cI, 8, .inl (g 9))), ((q 12), .inl (cI, 16, .inl (g 10))), ((q 13), .inl (cI, 16, .inl (g 11))), ((q 14), .inl (cI, 2048, .inl (g 12)))]) s0.heap := hP
  have hD : va_D A ([((q 0), .inr (6, [.int (nI (n)), .ref (q 2), .ref (q 3), .ref (q 4), .ref (q 5), .ref (q 6), .ref (q 7), .ref (q 8), .ref (q 9), .ref (q 10), .ref (q 11), .ref (q 12), .ref (q 13), .ref (q 14)])), ((q 2), .inl (cI, 10, .inl (g 0))), ((q 3), .inl (cI, 2, .inl (g 1))), ((q 4), .inl (cI, 2, .inl (g 2))), ((q 5), .inl (cI, 2, .inl (g 3))), ((q 6), .inl (cI, 20, .inl (g 4))), ((q 7), .inl (cI, 20, .inl (g 5))), ((q 8), .inl (cI, 20, .inl (g 6))), ((q 9), .inl (cI, 8, .inl (g 7))), ((q 10), .inl (cI, 80, .inl (g 8))), ((q 11), .inl (cI, 8, .inl (g 9))), ((q 12), .inl (cI, 16, .inl (g 10))), ((q 13), .inl (cI, 16, .inl (g 11))), ((q 14), .inl (cI, 2048, .inl (g 12)))]) := hD
  have hS : va_S A s0.heap s0.heap [] := va_S.rf
  have hRf : 1 ≤ ({ frames := 1, cells := 0, slots := 0, locals := 24 } : Room).frames := Nat.le_refl _
  have hRl : 24 ≤ ({ frames := 1, cells := 0, slots := 0, locals := 24 } : Room).locals := Nat.le_refl _
  have hCS : 0 ≤ ({ frames := 1, cells := 0, slots := 0, locals := 24 } : Room).cells ∧ 0 ≤ ({ frames := 1, cells := 0, slots := 0, locals := 24 } : Room).slots := ⟨Nat.zero_le _, Nat.zero_le _⟩
  have h2n : 2 ^ n ≤ 1024 := Nat.pow_le_pow_right (by omega) hn
  have h2p : 1 ≤ 2 ^ n := Nat.one_le_two_pow
  refine lv_iload_n hx hb nd_CM_linear_0 rfl (lv_at hl 1 rfl) ?_
  rcases sm_which wh with hw1 | hw1 | hw1
  · subst hw1
    refine wc_S (n := 1) hx hb hml hown htg (c_CM_isWhich l D _ (nI 0) (nI 1) (fun _ => rfl) (fun h => absurd (Or.inl nI_0) h)) tm_432 tm_430 tm_431 tm_9 (by decide +kernel) ⟨⟨Nat.le_trans (by decide) hRf, Nat.le_trans (by decide) hRl⟩, rfl, rfl⟩ (wa_pre wa_nil hK hN) rfl hl.1 rfl (Nat.le_of_ble_eq_true rfl) nd_CM_linear_1 hCS ?_
    refine wi_if_eq (tgt := 28) hx hb (by decide) nd_CM_linear_4 rfl (fun h => absurd h (by decide)) (fun _ => ?_)
    refine lv_iload_n hx hb nd_CM_linear_7 rfl (lv_at hl 2 rfl) ?_
    refine wi_ic hx hb (a := 2) nd_CM_linear_8 ?_
    refine lv_icmp_eq (tgt := 30) hx hb nd_CM_linear_9 rfl (fun hc9 => ?_) (fun hc9 => ?_)
    · refine lv_aload_n hx hb nd_CM_linear_30 rfl (lv_at hl 0 rfl) ?_
      refine lv_iload_n hx hb nd_CM_linear_31 rfl (lv_at hl 1 rfl) ?_
      refine wi_ic hx hb (a := 3) nd_CM_linear_32 ?_
      refine wd_Vv0 (C := nr_CM) (n := 2) (Y := rf_ cI q n g) hx hb hml hown htg (c_CM_become l D cI cG cM q n hn1 hn g 0 (by omega) (nI (3)) _) tm_440 tm_437 tm_439 tp_12 tm_9 (by decide +kernel) ⟨⟨Nat.le_trans (by decide) hRf, Nat.le_trans (by decide) hRl⟩, rfl, rfl⟩ hP hD hS hA hK hN (va_recv (q0 := 0) (ci := 6) hK hP rfl rfl) rfl hl.1 rfl (Nat.le_of_ble_eq_true rfl) nd_CM_linear_33 hCS (fun u33 H locs hp33 hP hD hS => ?_)
      subst hp33
      have hP : va_P D cl_all ([((q 0), .inr (6, [.int (nI (n)), .ref (q 2), .ref (q 3), .ref (q 4), .ref (q 5), .ref (q 6), .ref (q 7), .ref (q 8), .ref (q 9), .ref (q 10), .ref (q 11), .ref (q 12), .ref (q 13), .ref (q 14)])), ((q 2), .inl (cI, 10, .inl ((rb_ g 0 (nI (3))) 0))), ((q 3), .inl (cI, 2, .inl ((rb_ g 0 (nI (3))) 1))), ((q 4), .inl (cI, 2, .inl ((rb_ g 0 (nI (3))) 2))), ((q 5), .inl (cI, 2, .inl ((rb_ g 0 (nI (3))) 3))), ((q 6), .inl (cI, 20, .inl ((rb_ g 0 (nI (3))) 4))), ((q 7), .inl (cI, 20, .inl ((rb_ g 0 (nI (3))) 5))), ((q 8), .inl (cI, 20, .inl ((rb_ g 0 (nI (3))) 6))), ((q 9), .inl (cI, 8, .inl ((rb_ g 0 (nI (3))) 7))), ((q 10), .inl (cI, 80, .inl ((rb_ g 0 (nI (3))) 8))), ((q 11), .inl (cI, 8, .inl ((rb_ g 0 (nI (3))) 9))), ((q 12), .inl (cI, 16, .inl ((rb_ g 0 (nI (3))) 10))), ((q 13), .inl (cI, 16, .inl ((rb_ g 0 (nI (3))) 11))), ((q 14), .inl (cI, 2048, .inl ((rb_ g 0 (nI (3))) 12)))]) H := hP
      have hD : va_D A ([((q 0), .inr (6, [.int (nI (n)), .ref (q 2), .ref (q 3), .ref (q 4), .ref (q 5), .ref (q 6), .ref (q 7), .ref (q 8), .ref (q 9), .ref (q 10), .ref (q 11), .ref (q 12), .ref (q 13), .ref (q 14)])), ((q 2), .inl (cI, 10, .inl ((rb_ g 0 (nI (3))) 0))), ((q 3), .inl (cI, 2, .inl ((rb_ g 0 (nI (3))) 1))), ((q 4), .inl (cI, 2, .inl ((rb_ g 0 (nI (3))) 2))), ((q 5), .inl (cI, 2, .inl ((rb_ g 0 (nI (3))) 3))), ((q 6), .inl (cI, 20, .inl ((rb_ g 0 (nI (3))) 4))), ((q 7), .inl (cI, 20, .inl ((rb_ g 0 (nI (3))) 5))), ((q 8), .inl (cI, 20, .inl ((rb_ g 0 (nI (3))) 6))), ((q 9), .inl (cI, 8, .inl ((rb_ g 0 (nI (3))) 7))), ((q 10), .inl (cI, 80, .inl ((rb_ g 0 (nI (3))) 8))), ((q 11), .inl (cI, 8, .inl ((rb_ g 0 (nI (3))) 9))), ((q 12), .inl (cI, 16, .inl ((rb_ g 0 (nI (3))) 10))), ((q 13), .inl (cI, 16, .inl ((rb_ g 0 (nI (3))) 11))), ((q 14), .inl (cI, 2048, .inl ((rb_ g 0 (nI (3))) 12)))]) := hD
      refine lv_aload_n hx hb nd_CM_linear_36 rfl (lv_at hl 0 rfl) ?_
      refine va_get (D := D) (C := nr_CM) (T := nt_CM) (N := 14) hx hb htg tf_CM hown hK hP 0 rfl rfl 4 (by decide) (htg _ tm_387) (fun _ h => h) rfl nd_CM_linear_37 ?_
      refine lv_iload_n hx hb nd_CM_linear_40 rfl (lv_at hl 1 rfl) ?_
      refine lv_iload_n hx hb nd_CM_linear_41 rfl (lv_at hl 2 rfl) ?_
      refine wi_iast hx hb hK hP hD hS 4 0 rfl rfl (by omega) (by omega) nd_CM_linear_42 (fun H locs hP hD hS => ?_)
      have hP : va_P D cl_all ([((q 0), .inr (6, [.int (nI (n)), .ref (q 2), .ref (q 3), .ref (q 4), .ref (q 5), .ref (q 6), .ref (q 7), .ref (q 8), .ref (q 9), .ref (q 10), .ref (q 11), .ref (q 12), .ref (q 13), .ref (q 14)])), ((q 2), .inl (cI, 10, .inl ((rb_ g 0 (nI (3))) 0))), ((q 3), .inl (cI, 2, .inl ((rb_ g 0 (nI (3))) 1))), ((q 4), .inl (cI, 2, .inl ((rb_ g 0 (nI (3))) 2))), ((q 5), .inl (cI, 2, .inl (upd ((rb_ g 0 (nI (3))) 3) 0 p))), ((q 6), .inl (cI, 20, .inl ((rb_ g 0 (nI (3))) 4))), ((q 7), .inl (cI, 20, .inl ((rb_ g 0 (nI (3))) 5))), ((q 8), .inl (cI, 20, .inl ((rb_ g 0 (nI (3))) 6))), ((q 9), .inl (cI, 8, .inl ((rb_ g 0 (nI (3))) 7))), ((q 10), .inl (cI, 80, .inl ((rb_ g 0 (nI (3))) 8))), ((q 11), .inl (cI, 8, .inl ((rb_ g 0 (nI (3))) 9))), ((q 12), .inl (cI, 16, .inl ((rb_ g 0 (nI (3))) 10))), ((q 13), .inl (cI, 16, .inl ((rb_ g 0 (nI (3))) 11))), ((q 14), .inl (cI, 2048, .inl ((rb_ g 0 (nI (3))) 12)))]) H := hP
      have hD : va_D A ([((q 0), .inr (6, [.int (nI (n)), .ref (q 2), .ref (q 3), .ref (q 4), .ref (q 5), .ref (q 6), .ref (q 7), .ref (q 8), .ref (q 9), .ref (q 10), .ref (q 11), .ref (q 12), .ref (q 13), .ref (q 14)])), ((q 2), .inl (cI, 10, .inl ((rb_ g 0 (nI (3))) 0))), ((q 3), .inl (cI, 2, .inl ((rb_ g 0 (nI (3))) 1))), ((q 4), .inl (cI, 2, .inl ((rb_ g 0 (nI (3))) 2))), ((q 5), .inl (cI, 2, .inl (upd ((rb_ g 0 (nI (3))) 3) 0 p))), ((q 6), .inl (cI, 20, .inl ((rb_ g 0 (nI (3))) 4))), ((q 7), .inl (cI, 20, .inl ((rb_ g 0 (nI (3))) 5))), ((q 8), .inl (cI, 20, .inl ((rb_ g 0 (nI (3))) 6))), ((q 9), .inl (cI, 8, .inl ((rb_ g 0 (nI (3))) 7))), ((q 10), .inl (cI, 80, .inl ((rb_ g 0 (nI (3))) 8))), ((q 11), .inl (cI, 8, .inl ((rb_ g 0 (nI (3))) 9))), ((q 12), .inl (cI, 16, .inl ((rb_ g 0 (nI (3))) 10))), ((q 13), .inl (cI, 16, .inl ((rb_ g 0 (nI (3))) 11))), ((q 14), .inl (cI, 2048, .inl ((rb_ g 0 (nI (3))) 12)))]) := hD
      refine wi_ic hx hb (a := 1) nd_CM_linear_43 ?_
      subst hc9
      have hsp : sp_linear y (nI 0) (nI 2) = (nI 1, cb_s y 0 (3, (cb_m y 0).2.1, (cb_m y 0).2.2.1, (cb_m y 0).2.2.2.1, (cb_m y 0).2.2.2.2.1, (cb_m y 0).2.2.2.2.2.1, 2, (fun _ _ => 0))) := by unfold sp_linear; simp only [sw_0, tn_0, sp_pt (k := 2) (by omega), tn_nI (k := 2) (by omega)]; simp
      exact wb_zret ((va_up (rb_ g 0 (nI (3))) 3 (upd ((rb_ g 0 (nI (3))) 3) 0 (nI 2)))) hx hb hr hk rfl hAe (by rw [hsp]; exact ⟨rfl, rf_linear (w := 0) (p := 2) hn hI (by omega) (by omega)⟩) hP hD hS nd_CM_linear_44
    · refine lv_iload_n hx hb nd_CM_linear_12 rfl (lv_at hl 2 rfl) ?_
      refine wi_ic hx hb (a := 3) nd_CM_linear_13 ?_
      refine lv_icmp_eq (tgt := 30) hx hb nd_CM_linear_14 rfl (fun hc14 => ?_) (fun hc14 => ?_)
      · refine lv_aload_n hx hb nd_CM_linear_30 rfl (lv_at hl 0 rfl) ?_
        refine lv_iload_n hx hb nd_CM_linear_31 rfl (lv_at hl 1 rfl) ?_
        refine wi_ic hx hb (a := 3) nd_CM_linear_32 ?_
        refine wd_Vv0 (C := nr_CM) (n := 2) (Y := rf_ cI q n g) hx hb hml hown htg (c_CM_become l D cI cG cM q n hn1 hn g 0 (by omega) (nI (3)) _) tm_440 tm_437 tm_439 tp_12 tm_9 (by decide +kernel) ⟨⟨Nat.le_trans (by decide) hRf, Nat.le_trans (by decide) hRl⟩, rfl, rfl⟩ hP hD hS hA hK hN (va_recv (q0 := 0) (ci := 6) hK hP rfl rfl) rfl hl.1 rfl (Nat.le_of_ble_eq_true rfl) nd_CM_linear_33 hCS (fun u33 H locs hp33 hP hD hS => ?_)
        subst hp33
        have hP : va_P D cl_all ([((q 0), .inr (6, [.int (nI (n)), .ref (q 2), .ref (q 3), .ref (q 4), .ref (q 5), .ref (q 6), .ref (q 7), .ref (q 8), .ref (q 9), .ref (q 10), .ref (q 11), .ref (q 12), .ref (q 13), .ref (q 14)])), ((q 2), .inl (cI, 10, .inl ((rb_ g 0 (nI (3))) 0))), ((q 3), .inl (cI, 2, .inl ((rb_ g 0 (nI (3))) 1))), ((q 4), .inl (cI, 2, .inl ((rb_ g 0 (nI (3))) 2))), ((q 5), .inl (cI, 2, .inl ((rb_ g 0 (nI (3))) 3))), ((q 6), .inl (cI, 20, .inl ((rb_ g 0 (nI (3))) 4))), ((q 7), .inl (cI, 20, .inl ((rb_ g 0 (nI (3))) 5))), ((q 8), .inl (cI, 20, .inl ((rb_ g 0 (nI (3))) 6))), ((q 9), .inl (cI, 8, .inl ((rb_ g 0 (nI (3))) 7))), ((q 10), .inl (cI, 80, .inl ((rb_ g 0 (nI (3))) 8))), ((q 11), .inl (cI, 8, .inl ((rb_ g 0 (nI (3))) 9))), ((q 12), .inl (cI, 16, .inl ((rb_ g 0 (nI (3))) 10))), ((q 13), .inl (cI, 16, .inl ((rb_ g 0 (nI (3))) 11))), ((q 14), .inl (cI, 2048, .inl ((rb_ g 0 (nI (3))) 12)))]) H := hP
        have hD : va_D A ([((q 0), .inr (6, [.int (nI (n)), .ref (q 2), .ref (q 3), .ref (q 4), .ref (q 5), .ref (q 6), .ref (q 7), .ref (q 8), .ref (q 9), .ref (q 10), .ref (q 11), .ref (q 12), .ref (q 13), .ref (q 14)])), ((q 2), .inl (cI, 10, .inl ((rb_ g 0 (nI (3))) 0))), ((q 3), .inl (cI, 2, .inl ((rb_ g 0 (nI (3))) 1))), ((q 4), .inl (cI, 2, .inl ((rb_ g 0 (nI (3))) 2))), ((q 5), .inl (cI, 2, .inl ((rb_ g 0 (nI (3))) 3))), ((q 6), .inl (cI, 20, .inl ((rb_ g 0 (nI (3))) 4))), ((q 7), .inl (cI, 20, .inl ((rb_ g 0 (nI (3))) 5))), ((q 8), .inl (cI, 20, .inl ((rb_ g 0 (nI (3))) 6))), ((q 9), .inl (cI, 8, .inl ((rb_ g 0 (nI (3))) 7))), ((q 10), .inl (cI, 80, .inl ((rb_ g 0 (nI (3))) 8))), ((q 11), .inl (cI, 8, .inl ((rb_ g 0 (nI (3))) 9))), ((q 12), .inl (cI, 16, .inl ((rb_ g 0 (nI (3))) 10))), ((q 13), .inl (cI, 16, .inl ((rb_ g 0 (nI (3))) 11))), ((q 14), .inl (cI, 2048, .inl ((rb_ g 0 (nI (3))) 12)))]) := hD
        refine lv_aload_n hx hb nd_CM_linear_36 rfl (lv_at hl 0 rfl) ?_
        refine va_get (D := D) (C := nr_CM) (T := nt_CM) (N := 14) hx hb htg tf_CM hown hK hP 0 rfl rfl 4 (by decide) (htg _ tm_387) (fun _ h => h) rfl nd_CM_linear_37 ?_
        refine lv_iload_n hx hb nd_CM_linear_40 rfl (lv_at hl 1 rfl) ?_
        refine lv_iload_n hx hb nd_CM_linear_41 rfl (lv_at hl 2 rfl) ?_
        refine wi_iast hx hb hK hP hD hS 4 0 rfl rfl (by omega) (by omega) nd_CM_linear_42 (fun H locs hP hD hS => ?_)
        have hP : va_P D cl_all ([((q 0), .inr (6, [.int (nI (n)), .ref (q 2), .ref (q 3), .ref (q 4), .ref (q 5), .ref (q 6), .ref (q 7), .ref (q 8), .ref (q 9), .ref (q 10), .ref (q 11), .ref (q 12), .ref (q 13), .ref (q 14)])), ((q 2), .inl (cI, 10, .inl ((rb_ g 0 (nI (3))) 0))), ((q 3), .inl (cI, 2, .inl ((rb_ g 0 (nI (3))) 1))), ((q 4), .inl (cI, 2, .inl ((rb_ g 0 (nI (3))) 2))), ((q 5), .inl (cI, 2, .inl (upd ((rb_ g 0 (nI (3))) 3) 0 p))), ((q 6), .inl (cI, 20, .inl ((rb_ g 0 (nI (3))) 4))), ((q 7), .inl (cI, 20, .inl ((rb_ g 0 (nI (3))) 5))), ((q 8), .inl (cI, 20, .inl ((rb_ g 0 (nI (3))) 6))), ((q 9), .inl (cI, 8, .inl ((rb_ g 0 (nI (3))) 7))), ((q 10), .inl (cI, 80, .inl ((rb_ g 0 (nI (3))) 8))), ((q 11), .inl (cI, 8, .inl ((rb_ g 0 (nI (3))) 9))), ((q 12), .inl (cI, 16, .inl ((rb_ g 0 (nI (3))) 10))), ((q 13), .inl (cI, 16, .inl ((rb_ g 0 (nI (3))) 11))), ((q 14), .inl (cI, 2048, .inl ((rb_ g 0 (nI (3))) 12)))]) H := hP
        have hD : va_D A ([((q 0), .inr (6, [.int (nI (n)), .ref (q 2), .ref (q 3), .ref (q 4), .ref (q 5), .ref (q 6), .ref (q 7), .ref (q 8), .ref (q 9), .ref (q 10), .ref (q 11), .ref (q 12), .ref (q 13), .ref (q 14)])), ((q 2), .inl (cI, 10, .inl ((rb_ g 0 (nI (3))) 0))), ((q 3), .inl (cI, 2, .inl ((rb_ g 0 (nI (3))) 1))), ((q 4), .inl (cI, 2, .inl ((rb_ g 0 (nI (3))) 2))), ((q 5), .inl (cI, 2, .inl (upd ((rb_ g 0 (nI (3))) 3) 0 p))), ((q 6), .inl (cI, 20, .inl ((rb_ g 0 (nI (3))) 4))), ((q 7), .inl (cI, 20, .inl ((rb_ g 0 (nI (3))) 5))), ((q 8), .inl (cI, 20, .inl ((rb_ g 0 (nI (3))) 6))), ((q 9), .inl (cI, 8, .inl ((rb_ g 0 (nI (3))) 7))), ((q 10), .inl (cI, 80, .inl ((rb_ g 0 (nI (3))) 8))), ((q 11), .inl (cI, 8, .inl ((rb_ g 0 (nI (3))) 9))), ((q 12), .inl (cI, 16, .inl ((rb_ g 0 (nI (3))) 10))), ((q 13), .inl (cI, 16, .inl ((rb_ g 0 (nI (3))) 11))), ((q 14), .inl (cI, 2048, .inl ((rb_ g 0 (nI (3))) 12)))]) := hD
        refine wi_ic hx hb (a := 1) nd_CM_linear_43 ?_
        subst hc14
        have hsp : sp_linear y (nI 0) (nI 3) = (nI 1, cb_s y 0 (3, (cb_m y 0).2.1, (cb_m y 0).2.2.1, (cb_m y 0).2.2.2.1, (cb_m y 0).2.2.2.2.1, (cb_m y 0).2.2.2.2.2.1, 3, (fun _ _ => 0))) := by unfold sp_linear; simp only [sw_0, tn_0, sp_pt (k := 3) (by omega), tn_nI (k := 3) (by omega)]; simp
        exact wb_zret ((va_up (rb_ g 0 (nI (3))) 3 (upd ((rb_ g 0 (nI (3))) 3) 0 (nI 3)))) hx hb hr hk rfl hAe (by rw [hsp]; exact ⟨rfl, rf_linear (w := 0) (p := 3) hn hI (by omega) (by omega)⟩) hP hD hS nd_CM_linear_44
      · refine lv_iload_n hx hb nd_CM_linear_17 rfl (lv_at hl 2 rfl) ?_
        refine wi_ic hx hb (a := 5) nd_CM_linear_18 ?_
        refine lv_icmp_eq (tgt := 30) hx hb nd_CM_linear_19 rfl (fun hc19 => ?_) (fun hc19 => ?_)
        · refine lv_aload_n hx hb nd_CM_linear_30 rfl (lv_at hl 0 rfl) ?_
          refine lv_iload_n hx hb nd_CM_linear_31 rfl (lv_at hl 1 rfl) ?_
          refine wi_ic hx hb (a := 3) nd_CM_linear_32 ?_
          refine wd_Vv0 (C := nr_CM) (n := 2) (Y := rf_ cI q n g) hx hb hml hown htg (c_CM_become l D cI cG cM q n hn1 hn g 0 (by omega) (nI (3)) _) tm_440 tm_437 tm_439 tp_12 tm_9 (by decide +kernel) ⟨⟨Nat.le_trans (by decide) hRf, Nat.le_trans (by decide) hRl⟩, rfl, rfl⟩ hP hD hS hA hK hN (va_recv (q0 := 0) (ci := 6) hK hP rfl rfl) rfl hl.1 rfl (Nat.le_of_ble_eq_true rfl) nd_CM_linear_33 hCS (fun u33 H locs hp33 hP hD hS => ?_)
          subst hp33
          have hP : va_P D cl_all ([((q 0), .inr (6, [.int (nI (n)), .ref (q 2), .ref (q 3), .ref (q 4), .ref (q 5), .ref (q 6), .ref (q 7), .ref (q 8), .ref (q 9), .ref (q 10), .ref (q 11), .ref (q 12), .ref (q 13), .ref (q 14)])), ((q 2), .inl (cI, 10, .inl ((rb_ g 0 (nI (3))) 0))), ((q 3), .inl (cI, 2, .inl ((rb_ g 0 (nI (3))) 1))), ((q 4), .inl (cI, 2, .inl ((rb_ g 0 (nI (3))) 2))), ((q 5), .inl (cI, 2, .inl ((rb_ g 0 (nI (3))) 3))), ((q 6), .inl (cI, 20, .inl ((rb_ g 0 (nI (3))) 4))), ((q 7), .inl (cI, 20, .inl ((rb_ g 0 (nI (3))) 5))), ((q 8), .inl (cI, 20, .inl ((rb_ g 0 (nI (3))) 6))), ((q 9), .inl (cI, 8, .inl ((rb_ g 0 (nI (3))) 7))), ((q 10), .inl (cI, 80, .inl ((rb_ g 0 (nI (3))) 8))), ((q 11), .inl (cI, 8, .inl ((rb_ g 0 (nI (3))) 9))), ((q 12), .inl (cI, 16, .inl ((rb_ g 0 (nI (3))) 10))), ((q 13), .inl (cI, 16, .inl ((rb_ g 0 (nI (3))) 11))), ((q 14), .inl (cI, 2048, .inl ((rb_ g 0 (nI (3))) 12)))]) H := hP
          have hD : va_D A ([((q 0), .inr (6, [.int (nI (n)), .ref (q 2), .ref (q 3), .ref (q 4), .ref (q 5), .ref (q 6), .ref (q 7), .ref (q 8), .ref (q 9), .ref (q 10), .ref (q 11), .ref (q 12), .ref (q 13), .ref (q 14)])), ((q 2), .inl (cI, 10, .inl ((rb_ g 0 (nI (3))) 0))), ((q 3), .inl (cI, 2, .inl ((rb_ g 0 (nI (3))) 1))), ((q 4), .inl (cI, 2, .inl ((rb_ g 0 (nI (3))) 2))), ((q 5), .inl (cI, 2, .inl ((rb_ g 0 (nI (3))) 3))), ((q 6), .inl (cI, 20, .inl ((rb_ g 0 (nI (3))) 4))), ((q 7), .inl (cI, 20, .inl ((rb_ g 0 (nI (3))) 5))), ((q 8), .inl (cI, 20, .inl ((rb_ g 0 (nI (3))) 6))), ((q 9), .inl (cI, 8, .inl ((rb_ g 0 (nI (3))) 7))), ((q 10), .inl (cI, 80, .inl ((rb_ g 0 (nI (3))) 8))), ((q 11), .inl (cI, 8, .inl ((rb_ g 0 (nI (3))) 9))), ((q 12), .inl (cI, 16, .inl ((rb_ g 0 (nI (3))) 10))), ((q 13), .inl (cI, 16, .inl ((rb_ g 0 (nI (3))) 11))), ((q 14), .inl (cI, 2048, .inl ((rb_ g 0 (nI (3))) 12)))]) := hD
          refine lv_aload_n hx hb nd_CM_linear_36 rfl (lv_at hl 0 rfl) ?_
          refine va_get (D := D) (C := nr_CM) (T := nt_CM) (N := 14) hx hb htg tf_CM hown hK hP 0 rfl rfl 4 (by decide) (htg _ tm_387) (fun _ h => h) rfl nd_CM_linear_37 ?_
          refine lv_iload_n hx hb nd_CM_linear_40 rfl (lv_at hl 1 rfl) ?_
          refine lv_iload_n hx hb nd_CM_linear_41 rfl (lv_at hl 2 rfl) ?_
          refine wi_iast hx hb hK hP hD hS 4 0 rfl rfl (by omega) (by omega) nd_CM_linear_42 (fun H locs hP hD hS => ?_)
          have hP : va_P D cl_all ([((q 0), .inr (6, [.int (nI (n)), .ref (q 2), .ref (q 3), .ref (q 4), .ref (q 5), .ref (q 6), .ref (q 7), .ref (q 8), .ref (q 9), .ref (q 10), .ref (q 11), .ref (q 12), .ref (q 13), .ref (q 14)])), ((q 2), .inl (cI, 10, .inl ((rb_ g 0 (nI (3))) 0))), ((q 3), .inl (cI, 2, .inl ((rb_ g 0 (nI (3))) 1))), ((q 4), .inl (cI, 2, .inl ((rb_ g 0 (nI (3))) 2))), ((q 5), .inl (cI, 2, .inl (upd ((rb_ g 0 (nI (3))) 3) 0 p))), ((q 6), .inl (cI, 20, .inl ((rb_ g 0 (nI (3))) 4))), ((q 7), .inl (cI, 20, .inl ((rb_ g 0 (nI (3))) 5))), ((q 8), .inl (cI, 20, .inl ((rb_ g 0 (nI (3))) 6))), ((q 9), .inl (cI, 8, .inl ((rb_ g 0 (nI (3))) 7))), ((q 10), .inl (cI, 80, .inl ((rb_ g 0 (nI (3))) 8))), ((q 11), .inl (cI, 8, .inl ((rb_ g 0 (nI (3))) 9))), ((q 12), .inl (cI, 16, .inl ((rb_ g 0 (nI (3))) 10))), ((q 13), .inl (cI, 16, .inl ((rb_ g 0 (nI (3))) 11))), ((q 14), .inl (cI, 2048, .inl ((rb_ g 0 (nI (3))) 12)))]) H := hP
          have hD : va_D A ([((q 0), .inr (6, [.int (nI (n)), .ref (q 2), .ref (q 3), .ref (q 4), .ref (q 5), .ref (q 6), .ref (q 7), .ref (q 8), .ref (q 9), .ref (q 10), .ref (q 11), .ref (q 12), .ref (q 13), .ref (q 14)])), ((q 2), .inl (cI, 10, .inl ((rb_ g 0 (nI (3))) 0))), ((q 3), .inl (cI, 2, .inl ((rb_ g 0 (nI (3))) 1))), ((q 4), .inl (cI, 2, .inl ((rb_ g 0 (nI (3))) 2))), ((q 5), .inl (cI, 2, .inl (upd ((rb_ g 0 (nI (3))) 3) 0 p))), ((q 6), .inl (cI, 20, .inl ((rb_ g 0 (nI (3))) 4))), ((q 7), .inl (cI, 20, .inl ((rb_ g 0 (nI (3))) 5))), ((q 8), .inl (cI, 20, .inl ((rb_ g 0 (nI (3))) 6))), ((q 9), .inl (cI, 8, .inl ((rb_ g 0 (nI (3))) 7))), ((q 10), .inl (cI, 80, .inl ((rb_ g 0 (nI (3))) 8))), ((q 11), .inl (cI, 8, .inl ((rb_ g 0 (nI (3))) 9))), ((q 12), .inl (cI, 16, .inl ((rb_ g 0 (nI (3))) 10))), ((q 13), .inl (cI, 16, .inl ((rb_ g 0 (nI (3))) 11))), ((q 14), .inl (cI, 2048, .inl ((rb_ g 0 (nI (3))) 12)))]) := hD
          refine wi_ic hx hb (a := 1) nd_CM_linear_43 ?_
          subst hc19
          have hsp : sp_linear y (nI 0) (nI 5) = (nI 1, cb_s y 0 (3, (cb_m y 0).2.1, (cb_m y 0).2.2.1, (cb_m y 0).2.2.2.1, (cb_m y 0).2.2.2.2.1, (cb_m y 0).2.2.2.2.2.1, 5, (fun _ _ => 0))) := by unfold sp_linear; simp only [sw_0, tn_0, sp_pt (k := 5) (by omega), tn_nI (k := 5) (by omega)]; simp
          exact wb_zret ((va_up (rb_ g 0 (nI (3))) 3 (upd ((rb_ g 0 (nI (3))) 3) 0 (nI 5)))) hx hb hr hk rfl hAe (by rw [hsp]; exact ⟨rfl, rf_linear (w := 0) (p := 5) hn hI (by omega) (by omega)⟩) hP hD hS nd_CM_linear_44
        · refine lv_iload_n hx hb nd_CM_linear_22 rfl (lv_at hl 2 rfl) ?_
          refine lv_bipush (v := nI 7) hx hb nd_CM_linear_23 (by decide) ?_
          refine lv_icmp_eq (tgt := 30) hx hb nd_CM_linear_25 rfl (fun hc25 => ?_) (fun hc25 => ?_)
          · refine lv_aload_n hx hb nd_CM_linear_30 rfl (lv_at hl 0 rfl) ?_
            refine lv_iload_n hx hb nd_CM_linear_31 rfl (lv_at hl 1 rfl) ?_
            refine wi_ic hx hb (a := 3) nd_CM_linear_32 ?_
            refine wd_Vv0 (C := nr_CM) (n := 2) (Y := rf_ cI q n g) hx hb hml hown htg (c_CM_become l D cI cG cM q n hn1 hn g 0 (by omega) (nI (3)) _) tm_440 tm_437 tm_439 tp_12 tm_9 (by decide +kernel) ⟨⟨Nat.le_trans (by decide) hRf, Nat.le_trans (by decide) hRl⟩, rfl, rfl⟩ hP hD hS hA hK hN (va_recv (q0 := 0) (ci := 6) hK hP rfl rfl) rfl hl.1 rfl (Nat.le_of_ble_eq_true rfl) nd_CM_linear_33 hCS (fun u33 H locs hp33 hP hD hS => ?_)
            subst hp33
            have hP : va_P D cl_all ([((q 0), .inr (6, [.int (nI (n)), .ref (q 2), .ref (q 3), .ref (q 4), .ref (q 5), .ref (q 6), .ref (q 7), .ref (q 8), .ref (q 9), .ref (q 10), .ref (q 11), .ref (q 12), .ref (q 13), .ref (q 14)])), ((q 2), .inl (cI, 10, .inl ((rb_ g 0 (nI (3))) 0))), ((q 3), .inl (cI, 2, .inl ((rb_ g 0 (nI (3))) 1))), ((q 4), .inl (cI, 2, .inl ((rb_ g 0 (nI (3))) 2))), ((q 5), .inl (cI, 2, .inl ((rb_ g 0 (nI (3))) 3))), ((q 6), .inl (cI, 20, .inl ((rb_ g 0 (nI (3))) 4))), ((q 7), .inl (cI, 20, .inl ((rb_ g 0 (nI (3))) 5))), ((q 8), .inl (cI, 20, .inl ((rb_ g 0 (nI (3))) 6))), ((q 9), .inl (cI, 8, .inl ((rb_ g 0 (nI (3))) 7))), ((q 10), .inl (cI, 80, .inl ((rb_ g 0 (nI (3))) 8))), ((q 11), .inl (cI, 8, .inl ((rb_ g 0 (nI (3))) 9))), ((q 12), .inl (cI, 16, .inl ((rb_ g 0 (nI (3))) 10))), ((q 13), .inl (cI, 16, .inl ((rb_ g 0 (nI (3))) 11))), ((q 14), .inl (cI, 2048, .inl ((rb_ g 0 (nI (3))) 12)))]) H := hP
            have hD : va_D A ([((q 0), .inr (6, [.int (nI (n)), .ref (q 2), .ref (q 3), .ref (q 4), .ref (q 5), .ref (q 6), .ref (q 7), .ref (q 8), .ref (q 9), .ref (q 10), .ref (q 11), .ref (q 12), .ref (q 13), .ref (q 14)])), ((q 2), .inl (cI, 10, .inl ((rb_ g 0 (nI (3))) 0))), ((q 3), .inl (cI, 2, .inl ((rb_ g 0 (nI (3))) 1))), ((q 4), .inl (cI, 2, .inl ((rb_ g 0 (nI (3))) 2))), ((q 5), .inl (cI, 2, .inl ((rb_ g 0 (nI (3))) 3))), ((q 6), .inl (cI, 20, .inl ((rb_ g 0 (nI (3))) 4))), ((q 7), .inl (cI, 20, .inl ((rb_ g 0 (nI (3))) 5))), ((q 8), .inl (cI, 20, .inl ((rb_ g 0 (nI (3))) 6))), ((q 9), .inl (cI, 8, .inl ((rb_ g 0 (nI (3))) 7))), ((q 10), .inl (cI, 80, .inl ((rb_ g 0 (nI (3))) 8))), ((q 11), .inl (cI, 8, .inl ((rb_ g 0 (nI (3))) 9))), ((q 12), .inl (cI, 16, .inl ((rb_ g 0 (nI (3))) 10))), ((q 13), .inl (cI, 16, .inl ((rb_ g 0 (nI (3))) 11))), ((q 14), .inl (cI, 2048, .inl ((rb_ g 0 (nI (3))) 12)))]) := hD
            refine lv_aload_n hx hb nd_CM_linear_36 rfl (lv_at hl 0 rfl) ?_
            refine va_get (D := D) (C := nr_CM) (T := nt_CM) (N := 14) hx hb htg tf_CM hown hK hP 0 rfl rfl 4 (by decide) (htg _ tm_387) (fun _ h => h) rfl nd_CM_linear_37 ?_
            refine lv_iload_n hx hb nd_CM_linear_40 rfl (lv_at hl 1 rfl) ?_
            refine lv_iload_n hx hb nd_CM_linear_41 rfl (lv_at hl 2 rfl) ?_
            refine wi_iast hx hb hK hP hD hS 4 0 rfl rfl (by omega) (by omega) nd_CM_linear_42 (fun H locs hP hD hS => ?_)
            have hP : va_P D cl_all ([((q 0), .inr (6, [.int (nI (n)), .ref (q 2), .ref (q 3), .ref (q 4), .ref (q 5), .ref (q 6), .ref (q 7), .ref (q 8), .ref (q 9), .ref (q 10), .ref (q 11), .ref (q 12), .ref (q 13), .ref (q 14)])), ((q 2), .inl (cI, 10, .inl ((rb_ g 0 (nI (3))) 0))), ((q 3), .inl (cI, 2, .inl ((rb_ g 0 (nI (3))) 1))), ((q 4), .inl (cI, 2, .inl ((rb_ g 0 (nI (3))) 2))), ((q 5), .inl (cI, 2, .inl (upd ((rb_ g 0 (nI (3))) 3) 0 p))), ((q 6), .inl (cI, 20, .inl ((rb_ g 0 (nI (3))) 4))), ((q 7), .inl (cI, 20, .inl ((rb_ g 0 (nI (3))) 5))), ((q 8), .inl (cI, 20, .inl ((rb_ g 0 (nI (3))) 6))), ((q 9), .inl (cI, 8, .inl ((rb_ g 0 (nI (3))) 7))), ((q 10), .inl (cI, 80, .inl ((rb_ g 0 (nI (3))) 8))), ((q 11), .inl (cI, 8, .inl ((rb_ g 0 (nI (3))) 9))), ((q 12), .inl (cI, 16, .inl ((rb_ g 0 (nI (3))) 10))), ((q 13), .inl (cI, 16, .inl ((rb_ g 0 (nI (3))) 11))), ((q 14), .inl (cI, 2048, .inl ((rb_ g 0 (nI (3))) 12)))]) H := hP
            have hD : va_D A ([((q 0), .inr (6, [.int (nI (n)), .ref (q 2), .ref (q 3), .ref (q 4), .ref (q 5), .ref (q 6), .ref (q 7), .ref (q 8), .ref (q 9), .ref (q 10), .ref (q 11), .ref (q 12), .ref (q 13), .ref (q 14)])), ((q 2), .inl (cI, 10, .inl ((rb_ g 0 (nI (3))) 0))), ((q 3), .inl (cI, 2, .inl ((rb_ g 0 (nI (3))) 1))), ((q 4), .inl (cI, 2, .inl ((rb_ g 0 (nI (3))) 2))), ((q 5), .inl (cI, 2, .inl (upd ((rb_ g 0 (nI (3))) 3) 0 p))), ((q 6), .inl (cI, 20, .inl ((rb_ g 0 (nI (3))) 4))), ((q 7), .inl (cI, 20, .inl ((rb_ g 0 (nI (3))) 5))), ((q 8), .inl (cI, 20, .inl ((rb_ g 0 (nI (3))) 6))), ((q 9), .inl (cI, 8, .inl ((rb_ g 0 (nI (3))) 7))), ((q 10), .inl (cI, 80, .inl ((rb_ g 0 (nI (3))) 8))), ((q 11), .inl (cI, 8, .inl ((rb_ g 0 (nI (3))) 9))), ((q 12), .inl (cI, 16, .inl ((rb_ g 0 (nI (3))) 10))), ((q 13), .inl (cI, 16, .inl ((rb_ g 0 (nI (3))) 11))), ((q 14), .inl (cI, 2048, .inl ((rb_ g 0 (nI (3))) 12)))]) := hD
            refine wi_ic hx hb (a := 1) nd_CM_linear_43 ?_
            subst hc25
            have hsp : sp_linear y (nI 0) (nI 7) = (nI 1, cb_s y 0 (3, (cb_m y 0).2.1, (cb_m y 0).2.2.1, (cb_m y 0).2.2.2.1, (cb_m y 0).2.2.2.2.1, (cb_m y 0).2.2.2.2.2.1, 7, (fun _ _ => 0))) := by unfold sp_linear; simp only [sw_0, tn_0, sp_pt (k := 7) (by omega), tn_nI (k := 7) (by omega)]; simp
            exact wb_zret ((va_up (rb_ g 0 (nI (3))) 3 (upd ((rb_ g 0 (nI (3))) 3) 0 (nI 7)))) hx hb hr hk rfl hAe (by rw [hsp]; exact ⟨rfl, rf_linear (w := 0) (p := 7) hn hI (by omega) (by omega)⟩) hP hD hS nd_CM_linear_44
          · refine wi_ic hx hb (a := 0) nd_CM_linear_28 ?_
            have hsp : sp_linear y (nI (0)) p = (nI 0, y) := by unfold sp_linear; simp [sp_pf (x := p) (fun z => z.elim hc9 (fun z => z.elim hc14 (fun z => z.elim hc19 hc25)))]
            exact wb_zret (g) hx hb hr hk rfl hAe (by rw [hsp]; exact ⟨rfl, hI⟩) hP hD hS nd_CM_linear_29
  · subst hw1
    refine wc_S (n := 1) hx hb hml hown htg (c_CM_isWhich l D _ (nI 1) (nI 1) (fun _ => rfl) (fun h => absurd (Or.inr rfl) h)) tm_432 tm_430 tm_431 tm_9 (by decide +kernel) ⟨⟨Nat.le_trans (by decide) hRf, Nat.le_trans (by decide) hRl⟩, rfl, rfl⟩ (wa_pre wa_nil hK hN) rfl hl.1 rfl (Nat.le_of_ble_eq_true rfl) nd_CM_linear_1 hCS ?_
    refine wi_if_eq (tgt := 28) hx hb (by decide) nd_CM_linear_4 rfl (fun h => absurd h (by decide)) (fun _ => ?_)
    refine lv_iload_n hx hb nd_CM_linear_7 rfl (lv_at hl 2 rfl) ?_
    refine wi_ic hx hb (a := 2) nd_CM_linear_8 ?_
    refine lv_icmp_eq (tgt := 30) hx hb nd_CM_linear_9 rfl (fun hc9 => ?_) (fun hc9 => ?_)
    · refine lv_aload_n hx hb nd_CM_linear_30 rfl (lv_at hl 0 rfl) ?_
      refine lv_iload_n hx hb nd_CM_linear_31 rfl (lv_at hl 1 rfl) ?_
      refine wi_ic hx hb (a := 3) nd_CM_linear_32 ?_
      refine wd_Vv0 (C := nr_CM) (n := 2) (Y := rf_ cI q n g) hx hb hml hown htg (c_CM_become l D cI cG cM q n hn1 hn g 1 (by omega) (nI (3)) _) tm_440 tm_437 tm_439 tp_12 tm_9 (by decide +kernel) ⟨⟨Nat.le_trans (by decide) hRf, Nat.le_trans (by decide) hRl⟩, rfl, rfl⟩ hP hD hS hA hK hN (va_recv (q0 := 0) (ci := 6) hK hP rfl rfl) rfl hl.1 rfl (Nat.le_of_ble_eq_true rfl) nd_CM_linear_33 hCS (fun u33 H locs hp33 hP hD hS => ?_)
      subst hp33
      have hP : va_P D cl_all ([((q 0), .inr (6, [.int (nI (n)), .ref (q 2), .ref (q 3), .ref (q 4), .ref (q 5), .ref (q 6), .ref (q 7), .ref (q 8), .ref (q 9), .ref (q 10), .ref (q 11), .ref (q 12), .ref (q 13), .ref (q 14)])), ((q 2), .inl (cI, 10, .inl ((rb_ g 1 (nI (3))) 0))), ((q 3), .inl (cI, 2, .inl ((rb_ g 1 (nI (3))) 1))), ((q 4), .inl (cI, 2, .inl ((rb_ g 1 (nI (3))) 2))), ((q 5), .inl (cI, 2, .inl ((rb_ g 1 (nI (3))) 3))), ((q 6), .inl (cI, 20, .inl ((rb_ g 1 (nI (3))) 4))), ((q 7), .inl (cI, 20, .inl ((rb_ g 1 (nI (3))) 5))), ((q 8), .inl (cI, 20, .inl ((rb_ g 1 (nI (3))) 6))), ((q 9), .inl (cI, 8, .inl ((rb_ g 1 (nI (3))) 7))), ((q 10), .inl (cI, 80, .inl ((rb_ g 1 (nI (3))) 8))), ((q 11), .inl (cI, 8, .inl ((rb_ g 1 (nI (3))) 9))), ((q 12), .inl (cI, 16, .inl ((rb_ g 1 (nI (3))) 10))), ((q 13), .inl (cI, 16, .inl ((rb_ g 1 (nI (3))) 11))), ((q 14), .inl (cI, 2048, .inl ((rb_ g 1 (nI (3))) 12)))]) H := hP
      have hD : va_D A ([((q 0), .inr (6, [.int (nI (n)), .ref (q 2), .ref (q 3), .ref (q 4), .ref (q 5), .ref (q 6), .ref (q 7), .ref (q 8), .ref (q 9), .ref (q 10), .ref (q 11), .ref (q 12), .ref (q 13), .ref (q 14)])), ((q 2), .inl (cI, 10, .inl ((rb_ g 1 (nI (3))) 0))), ((q 3), .inl (cI, 2, .inl ((rb_ g 1 (nI (3))) 1))), ((q 4), .inl (cI, 2, .inl ((rb_ g 1 (nI (3))) 2))), ((q 5), .inl (cI, 2, .inl ((rb_ g 1 (nI (3))) 3))), ((q 6), .inl (cI, 20, .inl ((rb_ g 1 (nI (3))) 4))), ((q 7), .inl (cI, 20, .inl ((rb_ g 1 (nI (3))) 5))), ((q 8), .inl (cI, 20, .inl ((rb_ g 1 (nI (3))) 6))), ((q 9), .inl (cI, 8, .inl ((rb_ g 1 (nI (3))) 7))), ((q 10), .inl (cI, 80, .inl ((rb_ g 1 (nI (3))) 8))), ((q 11), .inl (cI, 8, .inl ((rb_ g 1 (nI (3))) 9))), ((q 12), .inl (cI, 16, .inl ((rb_ g 1 (nI (3))) 10))), ((q 13), .inl (cI, 16, .inl ((rb_ g 1 (nI (3))) 11))), ((q 14), .inl (cI, 2048, .inl ((rb_ g 1 (nI (3))) 12)))]) := hD
      refine lv_aload_n hx hb nd_CM_linear_36 rfl (lv_at hl 0 rfl) ?_
      refine va_get (D := D) (C := nr_CM) (T := nt_CM) (N := 14) hx hb htg tf_CM hown hK hP 0 rfl rfl 4 (by decide) (htg _ tm_387) (fun _ h => h) rfl nd_CM_linear_37 ?_
      refine lv_iload_n hx hb nd_CM_linear_40 rfl (lv_at hl 1 rfl) ?_
      refine lv_iload_n hx hb nd_CM_linear_41 rfl (lv_at hl 2 rfl) ?_
      refine wi_iast hx hb hK hP hD hS 4 0 rfl rfl (by omega) (by omega) nd_CM_linear_42 (fun H locs hP hD hS => ?_)
      have hP : va_P D cl_all ([((q 0), .inr (6, [.int (nI (n)), .ref (q 2), .ref (q 3), .ref (q 4), .ref (q 5), .ref (q 6), .ref (q 7), .ref (q 8), .ref (q 9), .ref (q 10), .ref (q 11), .ref (q 12), .ref (q 13), .ref (q 14)])), ((q 2), .inl (cI, 10, .inl ((rb_ g 1 (nI (3))) 0))), ((q 3), .inl (cI, 2, .inl ((rb_ g 1 (nI (3))) 1))), ((q 4), .inl (cI, 2, .inl ((rb_ g 1 (nI (3))) 2))), ((q 5), .inl (cI, 2, .inl (upd ((rb_ g 1 (nI (3))) 3) 1 p))), ((q 6), .inl (cI, 20, .inl ((rb_ g 1 (nI (3))) 4))), ((q 7), .inl (cI, 20, .inl ((rb_ g 1 (nI (3))) 5))), ((q 8), .inl (cI, 20, .inl ((rb_ g 1 (nI (3))) 6))), ((q 9), .inl (cI, 8, .inl ((rb_ g 1 (nI (3))) 7))), ((q 10), .inl (cI, 80, .inl ((rb_ g 1 (nI (3))) 8))), ((q 11), .inl (cI, 8, .inl ((rb_ g 1 (nI (3))) 9))), ((q 12), .inl (cI, 16, .inl ((rb_ g 1 (nI (3))) 10))), ((q 13), .inl (cI, 16, .inl ((rb_ g 1 (nI (3))) 11))), ((q 14), .inl (cI, 2048, .inl ((rb_ g 1 (nI (3))) 12)))]) H := hP
      have hD : va_D A ([((q 0), .inr (6, [.int (nI (n)), .ref (q 2), .ref (q 3), .ref (q 4), .ref (q 5), .ref (q 6), .ref (q 7), .ref (q 8), .ref (q 9), .ref (q 10), .ref (q 11), .ref (q 12), .ref (q 13), .ref (q 14)])), ((q 2), .inl (cI, 10, .inl ((rb_ g 1 (nI (3))) 0))), ((q 3), .inl (cI, 2, .inl ((rb_ g 1 (nI (3))) 1))), ((q 4), .inl (cI, 2, .inl ((rb_ g 1 (nI (3))) 2))), ((q 5), .inl (cI, 2, .inl (upd ((rb_ g 1 (nI (3))) 3) 1 p))), ((q 6), .inl (cI, 20, .inl ((rb_ g 1 (nI (3))) 4))), ((q 7), .inl (cI, 20, .inl ((rb_ g 1 (nI (3))) 5))), ((q 8), .inl (cI, 20, .inl ((rb_ g 1 (nI (3))) 6))), ((q 9), .inl (cI, 8, .inl ((rb_ g 1 (nI (3))) 7))), ((q 10), .inl (cI, 80, .inl ((rb_ g 1 (nI (3))) 8))), ((q 11), .inl (cI, 8, .inl ((rb_ g 1 (nI (3))) 9))), ((q 12), .inl (cI, 16, .inl ((rb_ g 1 (nI (3))) 10))), ((q 13), .inl (cI, 16, .inl ((rb_ g 1 (nI (3))) 11))), ((q 14), .inl (cI, 2048, .inl ((rb_ g 1 (nI (3))) 12)))]) := hD
      refine wi_ic hx hb (a := 1) nd_CM_linear_43 ?_
      subst hc9
      have hsp : sp_linear y (nI 1) (nI 2) = (nI 1, cb_s y 1 (3, (cb_m y 1).2.1, (cb_m y 1).2.2.1, (cb_m y 1).2.2.2.1, (cb_m y 1).2.2.2.2.1, (cb_m y 1).2.2.2.2.2.1, 2, (fun _ _ => 0))) := by unfold sp_linear; simp only [sw_1, tn_1, sp_pt (k := 2) (by omega), tn_nI (k := 2) (by omega)]; simp
      exact wb_zret ((va_up (rb_ g 1 (nI (3))) 3 (upd ((rb_ g 1 (nI (3))) 3) 1 (nI 2)))) hx hb hr hk rfl hAe (by rw [hsp]; exact ⟨rfl, rf_linear (w := 1) (p := 2) hn hI (by omega) (by omega)⟩) hP hD hS nd_CM_linear_44
    · refine lv_iload_n hx hb nd_CM_linear_12 rfl (lv_at hl 2 rfl) ?_
      refine wi_ic hx hb (a := 3) nd_CM_linear_13 ?_
      refine lv_icmp_eq (tgt := 30) hx hb nd_CM_linear_14 rfl (fun hc14 => ?_) (fun hc14 => ?_)
      · refine lv_aload_n hx hb nd_CM_linear_30 rfl (lv_at hl 0 rfl) ?_
        refine lv_iload_n hx hb nd_CM_linear_31 rfl (lv_at hl 1 rfl) ?_
        refine wi_ic hx hb (a := 3) nd_CM_linear_32 ?_
        refine wd_Vv0 (C := nr_CM) (n := 2) (Y := rf_ cI q n g) hx hb hml hown htg (c_CM_become l D cI cG cM q n hn1 hn g 1 (by omega) (nI (3)) _) tm_440 tm_437 tm_439 tp_12 tm_9 (by decide +kernel) ⟨⟨Nat.le_trans (by decide) hRf, Nat.le_trans (by decide) hRl⟩, rfl, rfl⟩ hP hD hS hA hK hN (va_recv (q0 := 0) (ci := 6) hK hP rfl rfl) rfl hl.1 rfl (Nat.le_of_ble_eq_true rfl) nd_CM_linear_33 hCS (fun u33 H locs hp33 hP hD hS => ?_)
        subst hp33
        have hP : va_P D cl_all ([((q 0), .inr (6, [.int (nI (n)), .ref (q 2), .ref (q 3), .ref (q 4), .ref (q 5), .ref (q 6), .ref (q 7), .ref (q 8), .ref (q 9), .ref (q 10), .ref (q 11), .ref (q 12), .ref (q 13), .ref (q 14)])), ((q 2), .inl (cI, 10, .inl ((rb_ g 1 (nI (3))) 0))), ((q 3), .inl (cI, 2, .inl ((rb_ g 1 (nI (3))) 1))), ((q 4), .inl (cI, 2, .inl ((rb_ g 1 (nI (3))) 2))), ((q 5), .inl (cI, 2, .inl ((rb_ g 1 (nI (3))) 3))), ((q 6), .inl (cI, 20, .inl ((rb_ g 1 (nI (3))) 4))), ((q 7), .inl (cI, 20, .inl ((rb_ g 1 (nI (3))) 5))), ((q 8), .inl (cI, 20, .inl ((rb_ g 1 (nI (3))) 6))), ((q 9), .inl (cI, 8, .inl ((rb_ g 1 (nI (3))) 7))), ((q 10), .inl (cI, 80, .inl ((rb_ g 1 (nI (3))) 8))), ((q 11), .inl (cI, 8, .inl ((rb_ g 1 (nI (3))) 9))), ((q 12), .inl (cI, 16, .inl ((rb_ g 1 (nI (3))) 10))), ((q 13), .inl (cI, 16, .inl ((rb_ g 1 (nI (3))) 11))), ((q 14), .inl (cI, 2048, .inl ((rb_ g 1 (nI (3))) 12)))]) H := hP
        have hD : va_D A ([((q 0), .inr (6, [.int (nI (n)), .ref (q 2), .ref (q 3), .ref (q 4), .ref (q 5), .ref (q 6), .ref (q 7), .ref (q 8), .ref (q 9), .ref (q 10), .ref (q 11), .ref (q 12), .ref (q 13), .ref (q 14)])), ((q 2), .inl (cI, 10, .inl ((rb_ g 1 (nI (3))) 0))), ((q 3), .inl (cI, 2, .inl ((rb_ g 1 (nI (3))) 1))), ((q 4), .inl (cI, 2, .inl ((rb_ g 1 (nI (3))) 2))), ((q 5), .inl (cI, 2, .inl ((rb_ g 1 (nI (3))) 3))), ((q 6), .inl (cI, 20, .inl ((rb_ g 1 (nI (3))) 4))), ((q 7), .inl (cI, 20, .inl ((rb_ g 1 (nI (3))) 5))), ((q 8), .inl (cI, 20, .inl ((rb_ g 1 (nI (3))) 6))), ((q 9), .inl (cI, 8, .inl ((rb_ g 1 (nI (3))) 7))), ((q 10), .inl (cI, 80, .inl ((rb_ g 1 (nI (3))) 8))), ((q 11), .inl (cI, 8, .inl ((rb_ g 1 (nI (3))) 9))), ((q 12), .inl (cI, 16, .inl ((rb_ g 1 (nI (3))) 10))), ((q 13), .inl (cI, 16, .inl ((rb_ g 1 (nI (3))) 11))), ((q 14), .inl (cI, 2048, .inl ((rb_ g 1 (nI (3))) 12)))]) := hD
        refine lv_aload_n hx hb nd_CM_linear_36 rfl (lv_at hl 0 rfl) ?_
        refine va_get (D := D) (C := nr_CM) (T := nt_CM) (N := 14) hx hb htg tf_CM hown hK hP 0 rfl rfl 4 (by decide) (htg _ tm_387) (fun _ h => h) rfl nd_CM_linear_37 ?_
        refine lv_iload_n hx hb nd_CM_linear_40 rfl (lv_at hl 1 rfl) ?_
        refine lv_iload_n hx hb nd_CM_linear_41 rfl (lv_at hl 2 rfl) ?_
        refine wi_iast hx hb hK hP hD hS 4 0 rfl rfl (by omega) (by omega) nd_CM_linear_42 (fun H locs hP hD hS => ?_)
        have hP : va_P D cl_all ([((q 0), .inr (6, [.int (nI (n)), .ref (q 2), .ref (q 3), .ref (q 4), .ref (q 5), .ref (q 6), .ref (q 7), .ref (q 8), .ref (q 9), .ref (q 10), .ref (q 11), .ref (q 12), .ref (q 13), .ref (q 14)])), ((q 2), .inl (cI, 10, .inl ((rb_ g 1 (nI (3))) 0))), ((q 3), .inl (cI, 2, .inl ((rb_ g 1 (nI (3))) 1))), ((q 4), .inl (cI, 2, .inl ((rb_ g 1 (nI (3))) 2))), ((q 5), .inl (cI, 2, .inl (upd ((rb_ g 1 (nI (3))) 3) 1 p))), ((q 6), .inl (cI, 20, .inl ((rb_ g 1 (nI (3))) 4))), ((q 7), .inl (cI, 20, .inl ((rb_ g 1 (nI (3))) 5))), ((q 8), .inl (cI, 20, .inl ((rb_ g 1 (nI (3))) 6))), ((q 9), .inl (cI, 8, .inl ((rb_ g 1 (nI (3))) 7))), ((q 10), .inl (cI, 80, .inl ((rb_ g 1 (nI (3))) 8))), ((q 11), .inl (cI, 8, .inl ((rb_ g 1 (nI (3))) 9))), ((q 12), .inl (cI, 16, .inl ((rb_ g 1 (nI (3))) 10))), ((q 13), .inl (cI, 16, .inl ((rb_ g 1 (nI (3))) 11))), ((q 14), .inl (cI, 2048, .inl ((rb_ g 1 (nI (3))) 12)))]) H := hP
        have hD : va_D A ([((q 0), .inr (6, [.int (nI (n)), .ref (q 2), .ref (q 3), .ref (q 4), .ref (q 5), .ref (q 6), .ref (q 7), .ref (q 8), .ref (q 9), .ref (q 10), .ref (q 11), .ref (q 12), .ref (q 13), .ref (q 14)])), ((q 2), .inl (cI, 10, .inl ((rb_ g 1 (nI (3))) 0))), ((q 3), .inl (cI, 2, .inl ((rb_ g 1 (nI (3))) 1))), ((q 4), .inl (cI, 2, .inl ((rb_ g 1 (nI (3))) 2))), ((q 5), .inl (cI, 2, .inl (upd ((rb_ g 1 (nI (3))) 3) 1 p))), ((q 6), .inl (cI, 20, .inl ((rb_ g 1 (nI (3))) 4))), ((q 7), .inl (cI, 20, .inl ((rb_ g 1 (nI (3))) 5))), ((q 8), .inl (cI, 20, .inl ((rb_ g 1 (nI (3))) 6))), ((q 9), .inl (cI, 8, .inl ((rb_ g 1 (nI (3))) 7))), ((q 10), .inl (cI, 80, .inl ((rb_ g 1 (nI (3))) 8))), ((q 11), .inl (cI, 8, .inl ((rb_ g 1 (nI (3))) 9))), ((q 12), .inl (cI, 16, .inl ((rb_ g 1 (nI (3))) 10))), ((q 13), .inl (cI, 16, .inl ((rb_ g 1 (nI (3))) 11))), ((q 14), .inl (cI, 2048, .inl ((rb_ g 1 (nI (3))) 12)))]) := hD
        refine wi_ic hx hb (a := 1) nd_CM_linear_43 ?_
        subst hc14
        have hsp : sp_linear y (nI 1) (nI 3) = (nI 1, cb_s y 1 (3, (cb_m y 1).2.1, (cb_m y 1).2.2.1, (cb_m y 1).2.2.2.1, (cb_m y 1).2.2.2.2.1, (cb_m y 1).2.2.2.2.2.1, 3, (fun _ _ => 0))) := by unfold sp_linear; simp only [sw_1, tn_1, sp_pt (k := 3) (by omega), tn_nI (k := 3) (by omega)]; simp
        exact wb_zret ((va_up (rb_ g 1 (nI (3))) 3 (upd ((rb_ g 1 (nI (3))) 3) 1 (nI 3)))) hx hb hr hk rfl hAe (by rw [hsp]; exact ⟨rfl, rf_linear (w := 1) (p := 3) hn hI (by omega) (by omega)⟩) hP hD hS nd_CM_linear_44
      · refine lv_iload_n hx hb nd_CM_linear_17 rfl (lv_at hl 2 rfl) ?_
        refine wi_ic hx hb (a := 5) nd_CM_linear_18 ?_
        refine lv_icmp_eq (tgt := 30) hx hb nd_CM_linear_19 rfl (fun hc19 => ?_) (fun hc19 => ?_)
        · refine lv_aload_n hx hb nd_CM_linear_30 rfl (lv_at hl 0 rfl) ?_
          refine lv_iload_n hx hb nd_CM_linear_31 rfl (lv_at hl 1 rfl) ?_
          refine wi_ic hx hb (a := 3) nd_CM_linear_32 ?_
          refine wd_Vv0 (C := nr_CM) (n := 2) (Y := rf_ cI q n g) hx hb hml hown htg (c_CM_become l D cI cG cM q n hn1 hn g 1 (by omega) (nI (3)) _) tm_440 tm_437 tm_439 tp_12 tm_9 (by decide +kernel) ⟨⟨Nat.le_trans (by decide) hRf, Nat.le_trans (by decide) hRl⟩, rfl, rfl⟩ hP hD hS hA hK hN (va_recv (q0 := 0) (ci := 6) hK hP rfl rfl) rfl hl.1 rfl (Nat.le_of_ble_eq_true rfl) nd_CM_linear_33 hCS (fun u33 H locs hp33 hP hD hS => ?_)
          subst hp33
          have hP : va_P D cl_all ([((q 0), .inr (6, [.int (nI (n)), .ref (q 2), .ref (q 3), .ref (q 4), .ref (q 5), .ref (q 6), .ref (q 7), .ref (q 8), .ref (q 9), .ref (q 10), .ref (q 11), .ref (q 12), .ref (q 13), .ref (q 14)])), ((q 2), .inl (cI, 10, .inl ((rb_ g 1 (nI (3))) 0))), ((q 3), .inl (cI, 2, .inl ((rb_ g 1 (nI (3))) 1))), ((q 4), .inl (cI, 2, .inl ((rb_ g 1 (nI (3))) 2))), ((q 5), .inl (cI, 2, .inl ((rb_ g 1 (nI (3))) 3))), ((q 6), .inl (cI, 20, .inl ((rb_ g 1 (nI (3))) 4))), ((q 7), .inl (cI, 20, .inl ((rb_ g 1 (nI (3))) 5))), ((q 8), .inl (cI, 20, .inl ((rb_ g 1 (nI (3))) 6))), ((q 9), .inl (cI, 8, .inl ((rb_ g 1 (nI (3))) 7))), ((q 10), .inl (cI, 80, .inl ((rb_ g 1 (nI (3))) 8))), ((q 11), .inl (cI, 8, .inl ((rb_ g 1 (nI (3))) 9))), ((q 12), .inl (cI, 16, .inl ((rb_ g 1 (nI (3))) 10))), ((q 13), .inl (cI, 16, .inl ((rb_ g 1 (nI (3))) 11))), ((q 14), .inl (cI, 2048, .inl ((rb_ g 1 (nI (3))) 12)))]) H := hP
          have hD : va_D A ([((q 0), .inr (6, [.int (nI (n)), .ref (q 2), .ref (q 3), .ref (q 4), .ref (q 5), .ref (q 6), .ref (q 7), .ref (q 8), .ref (q 9), .ref (q 10), .ref (q 11), .ref (q 12), .ref (q 13), .ref (q 14)])), ((q 2), .inl (cI, 10, .inl ((rb_ g 1 (nI (3))) 0))), ((q 3), .inl (cI, 2, .inl ((rb_ g 1 (nI (3))) 1))), ((q 4), .inl (cI, 2, .inl ((rb_ g 1 (nI (3))) 2))), ((q 5), .inl (cI, 2, .inl ((rb_ g 1 (nI (3))) 3))), ((q 6), .inl (cI, 20, .inl ((rb_ g 1 (nI (3))) 4))), ((q 7), .inl (cI, 20, .inl ((rb_ g 1 (nI (3))) 5))), ((q 8), .inl (cI, 20, .inl ((rb_ g 1 (nI (3))) 6))), ((q 9), .inl (cI, 8, .inl ((rb_ g 1 (nI (3))) 7))), ((q 10), .inl (cI, 80, .inl ((rb_ g 1 (nI (3))) 8))), ((q 11), .inl (cI, 8, .inl ((rb_ g 1 (nI (3))) 9))), ((q 12), .inl (cI, 16, .inl ((rb_ g 1 (nI (3))) 10))), ((q 13), .inl (cI, 16, .inl ((rb_ g 1 (nI (3))) 11))), ((q 14), .inl (cI, 2048, .inl ((rb_ g 1 (nI (3))) 12)))]) := hD
          refine lv_aload_n hx hb nd_CM_linear_36 rfl (lv_at hl 0 rfl) ?_
          refine va_get (D := D) (C := nr_CM) (T := nt_CM) (N := 14) hx hb htg tf_CM hown hK hP 0 rfl rfl 4 (by decide) (htg _ tm_387) (fun _ h => h) rfl nd_CM_linear_37 ?_
          refine lv_iload_n hx hb nd_CM_linear_40 rfl (lv_at hl 1 rfl) ?_
          refine lv_iload_n hx hb nd_CM_linear_41 rfl (lv_at hl 2 rfl) ?_
          refine wi_iast hx hb hK hP hD hS 4 0 rfl rfl (by omega) (by omega) nd_CM_linear_42 (fun H locs hP hD hS => ?_)
          have hP : va_P D cl_all ([((q 0), .inr (6, [.int (nI (n)), .ref (q 2), .ref (q 3), .ref (q 4), .ref (q 5), .ref (q 6), .ref (q 7), .ref (q 8), .ref (q 9), .ref (q 10), .ref (q 11), .ref (q 12), .ref (q 13), .ref (q 14)])), ((q 2), .inl (cI, 10, .inl ((rb_ g 1 (nI (3))) 0))), ((q 3), .inl (cI, 2, .inl ((rb_ g 1 (nI (3))) 1))), ((q 4), .inl (cI, 2, .inl ((rb_ g 1 (nI (3))) 2))), ((q 5), .inl (cI, 2, .inl (upd ((rb_ g 1 (nI (3))) 3) 1 p))), ((q 6), .inl (cI, 20, .inl ((rb_ g 1 (nI (3))) 4))), ((q 7), .inl (cI, 20, .inl ((rb_ g 1 (nI (3))) 5))), ((q 8), .inl (cI, 20, .inl ((rb_ g 1 (nI (3))) 6))), ((q 9), .inl (cI, 8, .inl ((rb_ g 1 (nI (3))) 7))), ((q 10), .inl (cI, 80, .inl ((rb_ g 1 (nI (3))) 8))), ((q 11), .inl (cI, 8, .inl ((rb_ g 1 (nI (3))) 9))), ((q 12), .inl (cI, 16, .inl ((rb_ g 1 (nI (3))) 10))), ((q 13), .inl (cI, 16, .inl ((rb_ g 1 (nI (3))) 11))), ((q 14), .inl (cI, 2048, .inl ((rb_ g 1 (nI (3))) 12)))]) H := hP
          have hD : va_D A ([((q 0), .inr (6, [.int (nI (n)), .ref (q 2), .ref (q 3), .ref (q 4), .ref (q 5), .ref (q 6), .ref (q 7), .ref (q 8), .ref (q 9), .ref (q 10), .ref (q 11), .ref (q 12), .ref (q 13), .ref (q 14)])), ((q 2), .inl (cI, 10, .inl ((rb_ g 1 (nI (3))) 0))), ((q 3), .inl (cI, 2, .inl ((rb_ g 1 (nI (3))) 1))), ((q 4), .inl (cI, 2, .inl ((rb_ g 1 (nI (3))) 2))), ((q 5), .inl (cI, 2, .inl (upd ((rb_ g 1 (nI (3))) 3) 1 p))), ((q 6), .inl (cI, 20, .inl ((rb_ g 1 (nI (3))) 4))), ((q 7), .inl (cI, 20, .inl ((rb_ g 1 (nI (3))) 5))), ((q 8), .inl (cI, 20, .inl ((rb_ g 1 (nI (3))) 6))), ((q 9), .inl (cI, 8, .inl ((rb_ g 1 (nI (3))) 7))), ((q 10), .inl (cI, 80, .inl ((rb_ g 1 (nI (3))) 8))), ((q 11), .inl (cI, 8, .inl ((rb_ g 1 (nI (3))) 9))), ((q 12), .inl (cI, 16, .inl ((rb_ g 1 (nI (3))) 10))), ((q 13), .inl (cI, 16, .inl ((rb_ g 1 (nI (3))) 11))), ((q 14), .inl (cI, 2048, .inl ((rb_ g 1 (nI (3))) 12)))]) := hD
          refine wi_ic hx hb (a := 1) nd_CM_linear_43 ?_
          subst hc19
          have hsp : sp_linear y (nI 1) (nI 5) = (nI 1, cb_s y 1 (3, (cb_m y 1).2.1, (cb_m y 1).2.2.1, (cb_m y 1).2.2.2.1, (cb_m y 1).2.2.2.2.1, (cb_m y 1).2.2.2.2.2.1, 5, (fun _ _ => 0))) := by unfold sp_linear; simp only [sw_1, tn_1, sp_pt (k := 5) (by omega), tn_nI (k := 5) (by omega)]; simp
          exact wb_zret ((va_up (rb_ g 1 (nI (3))) 3 (upd ((rb_ g 1 (nI (3))) 3) 1 (nI 5)))) hx hb hr hk rfl hAe (by rw [hsp]; exact ⟨rfl, rf_linear (w := 1) (p := 5) hn hI (by omega) (by omega)⟩) hP hD hS nd_CM_linear_44
        · refine lv_iload_n hx hb nd_CM_linear_22 rfl (lv_at hl 2 rfl) ?_
          refine lv_bipush (v := nI 7) hx hb nd_CM_linear_23 (by decide) ?_
          refine lv_icmp_eq (tgt := 30) hx hb nd_CM_linear_25 rfl (fun hc25 => ?_) (fun hc25 => ?_)
          · refine lv_aload_n hx hb nd_CM_linear_30 rfl (lv_at hl 0 rfl) ?_
            refine lv_iload_n hx hb nd_CM_linear_31 rfl (lv_at hl 1 rfl) ?_
            refine wi_ic hx hb (a := 3) nd_CM_linear_32 ?_
            refine wd_Vv0 (C := nr_CM) (n := 2) (Y := rf_ cI q n g) hx hb hml hown htg (c_CM_become l D cI cG cM q n hn1 hn g 1 (by omega) (nI (3)) _) tm_440 tm_437 tm_439 tp_12 tm_9 (by decide +kernel) ⟨⟨Nat.le_trans (by decide) hRf, Nat.le_trans (by decide) hRl⟩, rfl, rfl⟩ hP hD hS hA hK hN (va_recv (q0 := 0) (ci := 6) hK hP rfl rfl) rfl hl.1 rfl (Nat.le_of_ble_eq_true rfl) nd_CM_linear_33 hCS (fun u33 H locs hp33 hP hD hS => ?_)
            subst hp33
            have hP : va_P D cl_all ([((q 0), .inr (6, [.int (nI (n)), .ref (q 2), .ref (q 3), .ref (q 4), .ref (q 5), .ref (q 6), .ref (q 7), .ref (q 8), .ref (q 9), .ref (q 10), .ref (q 11), .ref (q 12), .ref (q 13), .ref (q 14)])), ((q 2), .inl (cI, 10, .inl ((rb_ g 1 (nI (3))) 0))), ((q 3), .inl (cI, 2, .inl ((rb_ g 1 (nI (3))) 1))), ((q 4), .inl (cI, 2, .inl ((rb_ g 1 (nI (3))) 2))), ((q 5), .inl (cI, 2, .inl ((rb_ g 1 (nI (3))) 3))), ((q 6), .inl (cI, 20, .inl ((rb_ g 1 (nI (3))) 4))), ((q 7), .inl (cI, 20, .inl ((rb_ g 1 (nI (3))) 5))), ((q 8), .inl (cI, 20, .inl ((rb_ g 1 (nI (3))) 6))), ((q 9), .inl (cI, 8, .inl ((rb_ g 1 (nI (3))) 7))), ((q 10), .inl (cI, 80, .inl ((rb_ g 1 (nI (3))) 8))), ((q 11), .inl (cI, 8, .inl ((rb_ g 1 (nI (3))) 9))), ((q 12), .inl (cI, 16, .inl ((rb_ g 1 (nI (3))) 10))), ((q 13), .inl (cI, 16, .inl ((rb_ g 1 (nI (3))) 11))), ((q 14), .inl (cI, 2048, .inl ((rb_ g 1 (nI (3))) 12)))]) H := hP
            have hD : va_D A ([((q 0), .inr (6, [.int (nI (n)), .ref (q 2), .ref (q 3), .ref (q 4), .ref (q 5), .ref (q 6), .ref (q 7), .ref (q 8), .ref (q 9), .ref (q 10), .ref (q 11), .ref (q 12), .ref (q 13), .ref (q 14)])), ((q 2), .inl (cI, 10, .inl ((rb_ g 1 (nI (3))) 0))), ((q 3), .inl (cI, 2, .inl ((rb_ g 1 (nI (3))) 1))), ((q 4), .inl (cI, 2, .inl ((rb_ g 1 (nI (3))) 2))), ((q 5), .inl (cI, 2, .inl ((rb_ g 1 (nI (3))) 3))), ((q 6), .inl (cI, 20, .inl ((rb_ g 1 (nI (3))) 4))), ((q 7), .inl (cI, 20, .inl ((rb_ g 1 (nI (3))) 5))), ((q 8), .inl (cI, 20, .inl ((rb_ g 1 (nI (3))) 6))), ((q 9), .inl (cI, 8, .inl ((rb_ g 1 (nI (3))) 7))), ((q 10), .inl (cI, 80, .inl ((rb_ g 1 (nI (3))) 8))), ((q 11), .inl (cI, 8, .inl ((rb_ g 1 (nI (3))) 9))), ((q 12), .inl (cI, 16, .inl ((rb_ g 1 (nI (3))) 10))), ((q 13), .inl (cI, 16, .inl ((rb_ g 1 (nI (3))) 11))), ((q 14), .inl (cI, 2048, .inl ((rb_ g 1 (nI (3))) 12)))]) := hD
            refine lv_aload_n hx hb nd_CM_linear_36 rfl (lv_at hl 0 rfl) ?_
            refine va_get (D := D) (C := nr_CM) (T := nt_CM) (N := 14) hx hb htg tf_CM hown hK hP 0 rfl rfl 4 (by decide) (htg _ tm_387) (fun _ h => h) rfl nd_CM_linear_37 ?_
            refine lv_iload_n hx hb nd_CM_linear_40 rfl (lv_at hl 1 rfl) ?_
            refine lv_iload_n hx hb nd_CM_linear_41 rfl (lv_at hl 2 rfl) ?_
            refine wi_iast hx hb hK hP hD hS 4 0 rfl rfl (by omega) (by omega) nd_CM_linear_42 (fun H locs hP hD hS => ?_)
            have hP : va_P D cl_all ([((q 0), .inr (6, [.int (nI (n)), .ref (q 2), .ref (q 3), .ref (q 4), .ref (q 5), .ref (q 6), .ref (q 7), .ref (q 8), .ref (q 9), .ref (q 10), .ref (q 11), .ref (q 12), .ref (q 13), .ref (q 14)])), ((q 2), .inl (cI, 10, .inl ((rb_ g 1 (nI (3))) 0))), ((q 3), .inl (cI, 2, .inl ((rb_ g 1 (nI (3))) 1))), ((q 4), .inl (cI, 2, .inl ((rb_ g 1 (nI (3))) 2))), ((q 5), .inl (cI, 2, .inl (upd ((rb_ g 1 (nI (3))) 3) 1 p))), ((q 6), .inl (cI, 20, .inl ((rb_ g 1 (nI (3))) 4))), ((q 7), .inl (cI, 20, .inl ((rb_ g 1 (nI (3))) 5))), ((q 8), .inl (cI, 20, .inl ((rb_ g 1 (nI (3))) 6))), ((q 9), .inl (cI, 8, .inl ((rb_ g 1 (nI (3))) 7))), ((q 10), .inl (cI, 80, .inl ((rb_ g 1 (nI (3))) 8))), ((q 11), .inl (cI, 8, .inl ((rb_ g 1 (nI (3))) 9))), ((q 12), .inl (cI, 16, .inl ((rb_ g 1 (nI (3))) 10))), ((q 13), .inl (cI, 16, .inl ((rb_ g 1 (nI (3))) 11))), ((q 14), .inl (cI, 2048, .inl ((rb_ g 1 (nI (3))) 12)))]) H := hP
            have hD : va_D A ([((q 0), .inr (6, [.int (nI (n)), .ref (q 2), .ref (q 3), .ref (q 4), .ref (q 5), .ref (q 6), .ref (q 7), .ref (q 8), .ref (q 9), .ref (q 10), .ref (q 11), .ref (q 12), .ref (q 13), .ref (q 14)])), ((q 2), .inl (cI, 10, .inl ((rb_ g 1 (nI (3))) 0))), ((q 3), .inl (cI, 2, .inl ((rb_ g 1 (nI (3))) 1))), ((q 4), .inl (cI, 2, .inl ((rb_ g 1 (nI (3))) 2))), ((q 5), .inl (cI, 2, .inl (upd ((rb_ g 1 (nI (3))) 3) 1 p))), ((q 6), .inl (cI, 20, .inl ((rb_ g 1 (nI (3))) 4))), ((q 7), .inl (cI, 20, .inl ((rb_ g 1 (nI (3))) 5))), ((q 8), .inl (cI, 20, .inl ((rb_ g 1 (nI (3))) 6))), ((q 9), .inl (cI, 8, .inl ((rb_ g 1 (nI (3))) 7))), ((q 10), .inl (cI, 80, .inl ((rb_ g 1 (nI (3))) 8))), ((q 11), .inl (cI, 8, .inl ((rb_ g 1 (nI (3))) 9))), ((q 12), .inl (cI, 16, .inl ((rb_ g 1 (nI (3))) 10))), ((q 13), .inl (cI, 16, .inl ((rb_ g 1 (nI (3))) 11))), ((q 14), .inl (cI, 2048, .inl ((rb_ g 1 (nI (3))) 12)))]) := hD
            refine wi_ic hx hb (a := 1) nd_CM_linear_43 ?_
            subst hc25
            have hsp : sp_linear y (nI 1) (nI 7) = (nI 1, cb_s y 1 (3, (cb_m y 1).2.1, (cb_m y 1).2.2.1, (cb_m y 1).2.2.2.1, (cb_m y 1).2.2.2.2.1, (cb_m y 1).2.2.2.2.2.1, 7, (fun _ _ => 0))) := by unfold sp_linear; simp only [sw_1, tn_1, sp_pt (k := 7) (by omega), tn_nI (k := 7) (by omega)]; simp
            exact wb_zret ((va_up (rb_ g 1 (nI (3))) 3 (upd ((rb_ g 1 (nI (3))) 3) 1 (nI 7)))) hx hb hr hk rfl hAe (by rw [hsp]; exact ⟨rfl, rf_linear (w := 1) (p := 7) hn hI (by omega) (by omega)⟩) hP hD hS nd_CM_linear_44
          · refine wi_ic hx hb (a := 0) nd_CM_linear_28 ?_
            have hsp : sp_linear y (nI (1)) p = (nI 0, y) := by unfold sp_linear; simp [sp_pf (x := p) (fun z => z.elim hc9 (fun z => z.elim hc14 (fun z => z.elim hc19 hc25)))]
            exact wb_zret (g) hx hb hr hk rfl hAe (by rw [hsp]; exact ⟨rfl, hI⟩) hP hD hS nd_CM_linear_29
  · refine wc_S (n := 1) hx hb hml hown htg (c_CM_isWhich l D _ wh (nI 0) (fun h => absurd h (fun z => z.elim (fun z => hw1.1 (z.trans nI_0.symm)) hw1.2)) (fun _ => rfl)) tm_432 tm_430 tm_431 tm_9 (by decide +kernel) ⟨⟨Nat.le_trans (by decide) hRf, Nat.le_trans (by decide) hRl⟩, rfl, rfl⟩ (wa_pre wa_nil hK hN) rfl hl.1 rfl (Nat.le_of_ble_eq_true rfl) nd_CM_linear_1 hCS ?_
    refine wi_if_eq (tgt := 28) hx hb (by decide) nd_CM_linear_4 rfl (fun _ => ?_) (fun h => absurd h (by decide))
    refine wi_ic hx hb (a := 0) nd_CM_linear_28 ?_
    have hsp : sp_linear y wh p = (nI 0, y) := by unfold sp_linear; simp [sw_n hw1]
    exact wb_zret (g) hx hb hr hk rfl hAe (by rw [hsp]; exact ⟨rfl, hI⟩) hP hD hS nd_CM_linear_29
theorem nd_CM_edge_0 : decode nc_CM_edge 0 = .ok (.iload_n 1, 1) := by decide +kernel
theorem nd_CM_edge_1 : decode nc_CM_edge 1 = .ok (.invokestatic 53, 3) := by decide +kernel
theorem nd_CM_edge_4 : decode nc_CM_edge 4 = .ok (.ifCond .eq 43, 3) := by decide +kernel
theorem nd_CM_edge_7 : decode nc_CM_edge 7 = .ok (.aload_n 0, 1) := by decide +kernel
theorem nd_CM_edge_8 : decode nc_CM_edge 8 = .ok (.getfield 13, 3) := by decide +kernel
theorem nd_CM_edge_11 : decode nc_CM_edge 11 = .ok (.iload_n 1, 1) := by decide +kernel
theorem nd_CM_edge_12 : decode nc_CM_edge 12 = .ok (.iaload, 1) := by decide +kernel
theorem nd_CM_edge_13 : decode nc_CM_edge 13 = .ok (.iconst 1, 1) := by decide +kernel
theorem nd_CM_edge_14 : decode nc_CM_edge 14 = .ok (.if_icmp .ne 33, 3) := by decide +kernel
theorem nd_CM_edge_17 : decode nc_CM_edge 17 = .ok (.aload_n 0, 1) := by decide +kernel
theorem nd_CM_edge_18 : decode nc_CM_edge 18 = .ok (.iload_n 2, 1) := by decide +kernel
theorem nd_CM_edge_19 : decode nc_CM_edge 19 = .ok (.invokevirtual 61, 3) := by decide +kernel
theorem nd_CM_edge_22 : decode nc_CM_edge 22 = .ok (.ifCond .eq 25, 3) := by decide +kernel
theorem nd_CM_edge_25 : decode nc_CM_edge 25 = .ok (.iload_n 3, 1) := by decide +kernel
theorem nd_CM_edge_26 : decode nc_CM_edge 26 = .ok (.ifCond .lt 21, 3) := by decide +kernel
theorem nd_CM_edge_29 : decode nc_CM_edge 29 = .ok (.iload_n 3, 1) := by decide +kernel
theorem nd_CM_edge_30 : decode nc_CM_edge 30 = .ok (.bipush 7, 2) := by decide +kernel
theorem nd_CM_edge_32 : decode nc_CM_edge 32 = .ok (.if_icmp .gt 15, 3) := by decide +kernel
theorem nd_CM_edge_35 : decode nc_CM_edge 35 = .ok (.iload 4, 2) := by decide +kernel
theorem nd_CM_edge_37 : decode nc_CM_edge 37 = .ok (.ifCond .lt 10, 3) := by decide +kernel
theorem nd_CM_edge_40 : decode nc_CM_edge 40 = .ok (.iload 4, 2) := by decide +kernel
theorem nd_CM_edge_42 : decode nc_CM_edge 42 = .ok (.bipush 7, 2) := by decide +kernel
theorem nd_CM_edge_44 : decode nc_CM_edge 44 = .ok (.if_icmp .le 5, 3) := by decide +kernel
theorem nd_CM_edge_47 : decode nc_CM_edge 47 = .ok (.iconst 0, 1) := by decide +kernel
theorem nd_CM_edge_48 : decode nc_CM_edge 48 = .ok (.ireturn, 1) := by decide +kernel
theorem nd_CM_edge_49 : decode nc_CM_edge 49 = .ok (.aload_n 0, 1) := by decide +kernel
theorem nd_CM_edge_50 : decode nc_CM_edge 50 = .ok (.getfield 22, 3) := by decide +kernel
theorem nd_CM_edge_53 : decode nc_CM_edge 53 = .ok (.bipush 10, 2) := by decide +kernel
theorem nd_CM_edge_55 : decode nc_CM_edge 55 = .ok (.iload_n 1, 1) := by decide +kernel
theorem nd_CM_edge_56 : decode nc_CM_edge 56 = .ok (.imul, 1) := by decide +kernel
theorem nd_CM_edge_57 : decode nc_CM_edge 57 = .ok (.iload_n 2, 1) := by decide +kernel
theorem nd_CM_edge_58 : decode nc_CM_edge 58 = .ok (.iadd, 1) := by decide +kernel
theorem nd_CM_edge_59 : decode nc_CM_edge 59 = .ok (.iload_n 3, 1) := by decide +kernel
theorem nd_CM_edge_60 : decode nc_CM_edge 60 = .ok (.iastore, 1) := by decide +kernel
theorem nd_CM_edge_61 : decode nc_CM_edge 61 = .ok (.aload_n 0, 1) := by decide +kernel
theorem nd_CM_edge_62 : decode nc_CM_edge 62 = .ok (.getfield 25, 3) := by decide +kernel
theorem nd_CM_edge_65 : decode nc_CM_edge 65 = .ok (.bipush 10, 2) := by decide +kernel
theorem nd_CM_edge_67 : decode nc_CM_edge 67 = .ok (.iload_n 1, 1) := by decide +kernel
theorem nd_CM_edge_68 : decode nc_CM_edge 68 = .ok (.imul, 1) := by decide +kernel
theorem nd_CM_edge_69 : decode nc_CM_edge 69 = .ok (.iload_n 2, 1) := by decide +kernel
theorem nd_CM_edge_70 : decode nc_CM_edge 70 = .ok (.iadd, 1) := by decide +kernel
theorem nd_CM_edge_71 : decode nc_CM_edge 71 = .ok (.iload 4, 2) := by decide +kernel
theorem nd_CM_edge_73 : decode nc_CM_edge 73 = .ok (.iastore, 1) := by decide +kernel
theorem nd_CM_edge_74 : decode nc_CM_edge 74 = .ok (.iconst 1, 1) := by decide +kernel
theorem nd_CM_edge_75 : decode nc_CM_edge 75 = .ok (.ireturn, 1) := by decide +kernel
set_option maxRecDepth 20000 in
theorem c_CM_edge (l : Launch) (D : va_G) (cI cG cM : ClassId)  (q : Nat → Nat) (n : Nat) (hn1 : 1 ≤ n) (hn : n ≤ 10) (g : rf_S) (y : cb_Y) (hI : rf_I n y g) (wh el u0 v0 : Int32) (sz : Nat) : wb_Mi l ny_CM_edge nc_CM_edge 5 (some .boolean) ({ frames := 1, cells := 0, slots := 0, locals := 21 }) D (ty_all cI cG cM) (rf_ cI q n g) sz [.ref (q 0), .int (wh), .int (el), .int (u0), .int (v0)] (fun (v : Int32) (u : rf_S) => v = (sp_edge n y wh el u0 v0).1 ∧ rf_I n (sp_edge n y wh el u0 v0).2 u) (fun u : rf_S => rf_ cI q n u) := by
  refine wb_start (S := rf_S) (by decide) (Nat.le_of_ble_eq_true rfl) ?_
  intro p e0 s0 m below meth c ls A hx hb hr hml htg hown hk hP hK hN hl hAe hsz hD hA
  have hl : lv_has ls 5 [(0, .ref (q 0)), (1, .int (wh)), (2, .int (el)), (3, .int (u0)), (4, .int (v0))] := hl
  have hP : va_P D cl_all ([((q 0), .inr (6, [.int (nI (n)), .ref (q 2), .ref (q 3), .ref (q 4), .ref (q 5), .ref (q 6), .ref (q 7), .ref (q 8), .ref (q 9), .ref (q 10), .ref (q 11), .ref (q 12), .ref (q 13), .ref (q 14)])), ((q 2), .inl (cI, 10, .inl (g 0))), ((q 3), .inl (cI, 2, .inl (g 1))), ((q 4), .inl (cI, 2, .inl (g 2))), ((q 5), .inl (cI, 2, .inl (g 3))), ((q 6), .inl (cI, 20, .inl (g 4))), ((q 7), .inl (cI, 20, .inl (g 5))), ((q 8), .inl (cI, 20, .inl (g 6))), ((q 9), .inl (cI, 8, .inl (g 7))), ((q 10), .inl (cI, 80, .inl (g 8))), ((q 11), .inl (cI, 8, .inl (g 9))), ((q 12), .inl (cI, 16, .inl (g 10))), ((q 13), .inl (cI, 16, .inl (g 11))), ((q 14), .inl (cI, 2048, .inl (g 12)))]) s0.heap := hP
  have hD : va_D A ([((q 0), .inr (6, [.int (nI (n)), .ref (q 2), .ref (q 3), .ref (q 4), .ref (q 5), .ref (q 6), .ref (q 7), .ref (q 8), .ref (q 9), .ref (q 10), .ref (q 11), .ref (q 12), .ref (q 13), .ref (q 14)])), ((q 2), .inl (cI, 10, .inl (g 0))), ((q 3), .inl (cI, 2, .inl (g 1))), ((q 4), .inl (cI, 2, .inl (g 2))), ((q 5), .inl (cI, 2, .inl (g 3))), ((q 6), .inl (cI, 20, .inl (g 4))), ((q 7), .inl (cI, 20, .inl (g 5))), ((q 8), .inl (cI, 20, .inl (g 6))), ((q 9), .inl (cI, 8, .inl (g 7))), ((q 10), .inl (cI, 80, .inl (g 8))), ((q 11), .inl (cI, 8, .inl (g 9))), ((q 12), .inl (cI, 16, .inl (g 10))), ((q 13), .inl (cI, 16, .inl (g 11))), ((q 14), .inl (cI, 2048, .inl (g 12)))]) := hD
  have hS : va_S A s0.heap s0.heap [] := va_S.rf
  have hRf : 1 ≤ ({ frames := 1, cells := 0, slots := 0, locals := 21 } : Room).frames := Nat.le_refl _
  have hRl : 21 ≤ ({ frames := 1, cells := 0, slots := 0, locals := 21 } : Room).locals := Nat.le_refl _
  have hCS : 0 ≤ ({ frames := 1, cells := 0, slots := 0, locals := 21 } : Room).cells ∧ 0 ≤ ({ frames := 1, cells := 0, slots := 0, locals := 21 } : Room).slots := ⟨Nat.zero_le _, Nat.zero_le _⟩
  have h2n : 2 ^ n ≤ 1024 := Nat.pow_le_pow_right (by omega) hn
  have h2p : 1 ≤ 2 ^ n := Nat.one_le_two_pow
  have hk30 := ma_v3 (hI.2 0 (by omega)).1
  have hk31 := ma_v3 (hI.2 1 (by omega)).1
  refine lv_iload_n hx hb nd_CM_edge_0 rfl (lv_at hl 1 rfl) ?_
  rcases sm_which wh with hw1 | hw1 | hw1
  · subst hw1
    refine wc_S (n := 1) hx hb hml hown htg (c_CM_isWhich l D _ (nI 0) (nI 1) (fun _ => rfl) (fun h => absurd (Or.inl nI_0) h)) tm_432 tm_430 tm_431 tm_9 (by decide +kernel) ⟨⟨Nat.le_trans (by decide) hRf, Nat.le_trans (by decide) hRl⟩, rfl, rfl⟩ (wa_pre wa_nil hK hN) rfl hl.1 rfl (Nat.le_of_ble_eq_true rfl) nd_CM_edge_1 hCS ?_
    refine wi_if_eq (tgt := 47) hx hb (by decide) nd_CM_edge_4 rfl (fun h => absurd h (by decide)) (fun _ => ?_)
    refine lv_aload_n hx hb nd_CM_edge_7 rfl (lv_at hl 0 rfl) ?_
    refine va_get (D := D) (C := nr_CM) (T := nt_CM) (N := 14) hx hb htg tf_CM hown hK hP 0 rfl rfl 2 (by decide) (htg _ tm_385) (fun _ h => h) rfl nd_CM_edge_8 ?_
    refine lv_iload_n hx hb nd_CM_edge_11 rfl (lv_at hl 1 rfl) ?_
    refine wi_iald hx hb hK hP 2 0 rfl rfl (by omega) (by omega) nd_CM_edge_12 ?_
    refine wi_top ((hI.2 0 (by omega)).2.1) ?_
    refine wi_ic hx hb (a := 1) nd_CM_edge_13 ?_
    refine wi_icmp_ne (tgt := 47) hx hb (by omega) (by omega) nd_CM_edge_14 rfl (fun hc14 => ?_) (fun hc14 => ?_)
    · refine wi_ic hx hb (a := 0) nd_CM_edge_47 ?_
      have hsp : sp_edge n y (nI (0)) el u0 v0 = (nI 0, y) := by unfold sp_edge; simp [tn_0, hc14]
      exact wb_zret (g) hx hb hr hk rfl hAe (by rw [hsp]; exact ⟨rfl, hI⟩) hP hD hS nd_CM_edge_48
    · refine lv_aload_n hx hb nd_CM_edge_17 rfl (lv_at hl 0 rfl) ?_
      refine lv_iload_n hx hb nd_CM_edge_18 rfl (lv_at hl 2 rfl) ?_
      by_cases hq19 : ¬ el < 0 ∧ ¬ nI n ≤ el
      · obtain ⟨el1, h_el1, rfl⟩ := sm_elem (by omega) hq19
        refine wc_V (C := nr_CM) (n := 1) hx hb hml hown htg (c_CM_isElement l D _ q n (nI el1) (nI 1) (fun _ => rfl) (fun h => absurd hq19 h)) tm_448 tm_445 tm_447 tp_13 tm_9 (by decide +kernel) ⟨⟨Nat.le_trans (by decide) hRf, Nat.le_trans (by decide) hRl⟩, rfl, rfl⟩ (wa_pre (hP.sub [0] rfl) hK hN) (va_recv (q0 := 0) (ci := 6) hK hP rfl rfl) rfl hl.1 rfl (Nat.le_of_ble_eq_true rfl) nd_CM_edge_19 hCS ?_
        refine wi_if_eq (tgt := 47) hx hb (by decide) nd_CM_edge_22 rfl (fun h => absurd h (by decide)) (fun _ => ?_)
        refine lv_iload_n hx hb nd_CM_edge_25 rfl (lv_at hl 3 rfl) ?_
        refine lv_if_lt (tgt := 47) hx hb nd_CM_edge_26 rfl (fun hc26 => ?_) (fun hc26 => ?_)
        · refine wi_ic hx hb (a := 0) nd_CM_edge_47 ?_
          have hsp : sp_edge n y (nI (0)) (nI (el1)) u0 v0 = (nI 0, y) := by unfold sp_edge; simp [sr_f (x := u0) (b := nI 7) (fun z => z.1 hc26)]
          exact wb_zret (g) hx hb hr hk rfl hAe (by rw [hsp]; exact ⟨rfl, hI⟩) hP hD hS nd_CM_edge_48
        · refine lv_iload_n hx hb nd_CM_edge_29 rfl (lv_at hl 3 rfl) ?_
          refine lv_bipush (v := nI 7) hx hb nd_CM_edge_30 (by decide) ?_
          refine lv_icmp_gt (tgt := 47) hx hb nd_CM_edge_32 rfl (fun hc32 => ?_) (fun hc32 => ?_)
          · refine wi_ic hx hb (a := 0) nd_CM_edge_47 ?_
            have hsp : sp_edge n y (nI (0)) (nI (el1)) u0 v0 = (nI 0, y) := by unfold sp_edge; simp [sr_f (x := u0) (b := nI 7) (fun z => z.2 hc32)]
            exact wb_zret (g) hx hb hr hk rfl hAe (by rw [hsp]; exact ⟨rfl, hI⟩) hP hD hS nd_CM_edge_48
          · refine lv_iload hx hb nd_CM_edge_35 (lv_at hl 4 rfl) ?_
            refine lv_if_lt (tgt := 47) hx hb nd_CM_edge_37 rfl (fun hc37 => ?_) (fun hc37 => ?_)
            · refine wi_ic hx hb (a := 0) nd_CM_edge_47 ?_
              have hsp : sp_edge n y (nI (0)) (nI (el1)) u0 v0 = (nI 0, y) := by unfold sp_edge; simp [sr_f (x := v0) (b := nI 7) (fun z => z.1 hc37)]
              exact wb_zret (g) hx hb hr hk rfl hAe (by rw [hsp]; exact ⟨rfl, hI⟩) hP hD hS nd_CM_edge_48
            · refine lv_iload hx hb nd_CM_edge_40 (lv_at hl 4 rfl) ?_
              refine lv_bipush (v := nI 7) hx hb nd_CM_edge_42 (by decide) ?_
              refine lv_icmp_le (tgt := 49) hx hb nd_CM_edge_44 rfl (fun hc44 => ?_) (fun hc44 => ?_)
              · refine lv_aload_n hx hb nd_CM_edge_49 rfl (lv_at hl 0 rfl) ?_
                refine va_get (D := D) (C := nr_CM) (T := nt_CM) (N := 14) hx hb htg tf_CM hown hK hP 0 rfl rfl 5 (by decide) (htg _ tm_388) (fun _ h => h) rfl nd_CM_edge_50 ?_
                refine lv_bipush (v := nI 10) hx hb nd_CM_edge_53 (by decide) ?_
                refine lv_iload_n hx hb nd_CM_edge_55 rfl (lv_at hl 1 rfl) ?_
                refine wi_imul hx hb nd_CM_edge_56 ?_
                refine lv_iload_n hx hb nd_CM_edge_57 rfl (lv_at hl 2 rfl) ?_
                refine wi_iadd hx hb nd_CM_edge_58 ?_
                refine lv_iload_n hx hb nd_CM_edge_59 rfl (lv_at hl 3 rfl) ?_
                refine wi_iast hx hb hK hP hD hS 5 0 rfl rfl (by omega) (by omega) nd_CM_edge_60 (fun H locs hP hD hS => ?_)
                have hP : va_P D cl_all ([((q 0), .inr (6, [.int (nI (n)), .ref (q 2), .ref (q 3), .ref (q 4), .ref (q 5), .ref (q 6), .ref (q 7), .ref (q 8), .ref (q 9), .ref (q 10), .ref (q 11), .ref (q 12), .ref (q 13), .ref (q 14)])), ((q 2), .inl (cI, 10, .inl (g 0))), ((q 3), .inl (cI, 2, .inl (g 1))), ((q 4), .inl (cI, 2, .inl (g 2))), ((q 5), .inl (cI, 2, .inl (g 3))), ((q 6), .inl (cI, 20, .inl (upd (g 4) ((10 * 0) + el1) u0))), ((q 7), .inl (cI, 20, .inl (g 5))), ((q 8), .inl (cI, 20, .inl (g 6))), ((q 9), .inl (cI, 8, .inl (g 7))), ((q 10), .inl (cI, 80, .inl (g 8))), ((q 11), .inl (cI, 8, .inl (g 9))), ((q 12), .inl (cI, 16, .inl (g 10))), ((q 13), .inl (cI, 16, .inl (g 11))), ((q 14), .inl (cI, 2048, .inl (g 12)))]) H := hP
                have hD : va_D A ([((q 0), .inr (6, [.int (nI (n)), .ref (q 2), .ref (q 3), .ref (q 4), .ref (q 5), .ref (q 6), .ref (q 7), .ref (q 8), .ref (q 9), .ref (q 10), .ref (q 11), .ref (q 12), .ref (q 13), .ref (q 14)])), ((q 2), .inl (cI, 10, .inl (g 0))), ((q 3), .inl (cI, 2, .inl (g 1))), ((q 4), .inl (cI, 2, .inl (g 2))), ((q 5), .inl (cI, 2, .inl (g 3))), ((q 6), .inl (cI, 20, .inl (upd (g 4) ((10 * 0) + el1) u0))), ((q 7), .inl (cI, 20, .inl (g 5))), ((q 8), .inl (cI, 20, .inl (g 6))), ((q 9), .inl (cI, 8, .inl (g 7))), ((q 10), .inl (cI, 80, .inl (g 8))), ((q 11), .inl (cI, 8, .inl (g 9))), ((q 12), .inl (cI, 16, .inl (g 10))), ((q 13), .inl (cI, 16, .inl (g 11))), ((q 14), .inl (cI, 2048, .inl (g 12)))]) := hD
                refine lv_aload_n hx hb nd_CM_edge_61 rfl (lv_at hl 0 rfl) ?_
                refine va_get (D := D) (C := nr_CM) (T := nt_CM) (N := 14) hx hb htg tf_CM hown hK hP 0 rfl rfl 6 (by decide) (htg _ tm_389) (fun _ h => h) rfl nd_CM_edge_62 ?_
                refine lv_bipush (v := nI 10) hx hb nd_CM_edge_65 (by decide) ?_
                refine lv_iload_n hx hb nd_CM_edge_67 rfl (lv_at hl 1 rfl) ?_
                refine wi_imul hx hb nd_CM_edge_68 ?_
                refine lv_iload_n hx hb nd_CM_edge_69 rfl (lv_at hl 2 rfl) ?_
                refine wi_iadd hx hb nd_CM_edge_70 ?_
                refine lv_iload hx hb nd_CM_edge_71 (lv_at hl 4 rfl) ?_
                refine wi_iast hx hb hK hP hD hS 6 0 rfl rfl (by omega) (by omega) nd_CM_edge_73 (fun H locs hP hD hS => ?_)
                have hP : va_P D cl_all ([((q 0), .inr (6, [.int (nI (n)), .ref (q 2), .ref (q 3), .ref (q 4), .ref (q 5), .ref (q 6), .ref (q 7), .ref (q 8), .ref (q 9), .ref (q 10), .ref (q 11), .ref (q 12), .ref (q 13), .ref (q 14)])), ((q 2), .inl (cI, 10, .inl (g 0))), ((q 3), .inl (cI, 2, .inl (g 1))), ((q 4), .inl (cI, 2, .inl (g 2))), ((q 5), .inl (cI, 2, .inl (g 3))), ((q 6), .inl (cI, 20, .inl (upd (g 4) ((10 * 0) + el1) u0))), ((q 7), .inl (cI, 20, .inl (upd (g 5) ((10 * 0) + el1) v0))), ((q 8), .inl (cI, 20, .inl (g 6))), ((q 9), .inl (cI, 8, .inl (g 7))), ((q 10), .inl (cI, 80, .inl (g 8))), ((q 11), .inl (cI, 8, .inl (g 9))), ((q 12), .inl (cI, 16, .inl (g 10))), ((q 13), .inl (cI, 16, .inl (g 11))), ((q 14), .inl (cI, 2048, .inl (g 12)))]) H := hP
                have hD : va_D A ([((q 0), .inr (6, [.int (nI (n)), .ref (q 2), .ref (q 3), .ref (q 4), .ref (q 5), .ref (q 6), .ref (q 7), .ref (q 8), .ref (q 9), .ref (q 10), .ref (q 11), .ref (q 12), .ref (q 13), .ref (q 14)])), ((q 2), .inl (cI, 10, .inl (g 0))), ((q 3), .inl (cI, 2, .inl (g 1))), ((q 4), .inl (cI, 2, .inl (g 2))), ((q 5), .inl (cI, 2, .inl (g 3))), ((q 6), .inl (cI, 20, .inl (upd (g 4) ((10 * 0) + el1) u0))), ((q 7), .inl (cI, 20, .inl (upd (g 5) ((10 * 0) + el1) v0))), ((q 8), .inl (cI, 20, .inl (g 6))), ((q 9), .inl (cI, 8, .inl (g 7))), ((q 10), .inl (cI, 80, .inl (g 8))), ((q 11), .inl (cI, 8, .inl (g 9))), ((q 12), .inl (cI, 16, .inl (g 10))), ((q 13), .inl (cI, 16, .inl (g 11))), ((q 14), .inl (cI, 2048, .inl (g 12)))]) := hD
                refine wi_ic hx hb (a := 1) nd_CM_edge_74 ?_
                obtain ⟨u01, h_u01, rfl⟩ := sm_gt10 (b := 7) (by omega) hc26 hc32
                obtain ⟨v01, h_v01, rfl⟩ := sm_le10 (b := 7) (by omega) hc37 hc44
                have hsp : sp_edge n y (nI 0) (nI el1) (nI u01) (nI v01) = (nI 1, cb_s y 0 ((cb_m y 0).1, (cb_m y 0).2.1, va_up (cb_m y 0).2.2.1 el1 u01, va_up (cb_m y 0).2.2.2.1 el1 v01, (cb_m y 0).2.2.2.2)) := by unfold sp_edge; simp only [sw_0, tn_0, sz_t h_el1 (show n < 2 ^ 31 by omega), tn_nI (show el1 < 2 ^ 31 by omega), sr_t h_u01 (show 7 < 2 ^ 31 by omega), tn_nI (show u01 < 2 ^ 31 by omega), sr_t h_v01 (show 7 < 2 ^ 31 by omega), tn_nI (show v01 < 2 ^ 31 by omega)]; simp [hc14]
                exact wb_zret ((va_up (va_up g 4 (upd (g 4) ((10 * 0) + el1) (nI u01))) 5 (upd (g 5) ((10 * 0) + el1) (nI v01)))) hx hb hr hk rfl hAe (by rw [hsp]; exact ⟨rfl, rf_edge (w := 0) hn hI (by omega) hc14 h_el1 h_u01 h_v01⟩) hP hD hS nd_CM_edge_75
              · refine wi_ic hx hb (a := 0) nd_CM_edge_47 ?_
                have hsp : sp_edge n y (nI (0)) (nI (el1)) u0 v0 = (nI 0, y) := by unfold sp_edge; simp [sr_f (x := v0) (b := nI 7) (fun z => z.2 (Int32.not_le.mp hc44))]
                exact wb_zret (g) hx hb hr hk rfl hAe (by rw [hsp]; exact ⟨rfl, hI⟩) hP hD hS nd_CM_edge_48
      · refine wc_V (C := nr_CM) (n := 1) hx hb hml hown htg (c_CM_isElement l D _ q n el (nI 0) (fun h => absurd h hq19) (fun _ => rfl)) tm_448 tm_445 tm_447 tp_13 tm_9 (by decide +kernel) ⟨⟨Nat.le_trans (by decide) hRf, Nat.le_trans (by decide) hRl⟩, rfl, rfl⟩ (wa_pre (hP.sub [0] rfl) hK hN) (va_recv (q0 := 0) (ci := 6) hK hP rfl rfl) rfl hl.1 rfl (Nat.le_of_ble_eq_true rfl) nd_CM_edge_19 hCS ?_
        refine wi_if_eq (tgt := 47) hx hb (by decide) nd_CM_edge_22 rfl (fun _ => ?_) (fun h => absurd h (by decide))
        refine wi_ic hx hb (a := 0) nd_CM_edge_47 ?_
        have hsp : sp_edge n y (nI (0)) el u0 v0 = (nI 0, y) := by unfold sp_edge; simp [sz_f hn1 (show n < 2 ^ 31 by omega) hq19]
        exact wb_zret (g) hx hb hr hk rfl hAe (by rw [hsp]; exact ⟨rfl, hI⟩) hP hD hS nd_CM_edge_48
  · subst hw1
    refine wc_S (n := 1) hx hb hml hown htg (c_CM_isWhich l D _ (nI 1) (nI 1) (fun _ => rfl) (fun h => absurd (Or.inr rfl) h)) tm_432 tm_430 tm_431 tm_9 (by decide +kernel) ⟨⟨Nat.le_trans (by decide) hRf, Nat.le_trans (by decide) hRl⟩, rfl, rfl⟩ (wa_pre wa_nil hK hN) rfl hl.1 rfl (Nat.le_of_ble_eq_true rfl) nd_CM_edge_1 hCS ?_
    refine wi_if_eq (tgt := 47) hx hb (by decide) nd_CM_edge_4 rfl (fun h => absurd h (by decide)) (fun _ => ?_)
    refine lv_aload_n hx hb nd_CM_edge_7 rfl (lv_at hl 0 rfl) ?_
    refine va_get (D := D) (C := nr_CM) (T := nt_CM) (N := 14) hx hb htg tf_CM hown hK hP 0 rfl rfl 2 (by decide) (htg _ tm_385) (fun _ h => h) rfl nd_CM_edge_8 ?_
    refine lv_iload_n hx hb nd_CM_edge_11 rfl (lv_at hl 1 rfl) ?_
    refine wi_iald hx hb hK hP 2 0 rfl rfl (by omega) (by omega) nd_CM_edge_12 ?_
    refine wi_top ((hI.2 1 (by omega)).2.1) ?_
    refine wi_ic hx hb (a := 1) nd_CM_edge_13 ?_
    refine wi_icmp_ne (tgt := 47) hx hb (by omega) (by omega) nd_CM_edge_14 rfl (fun hc14 => ?_) (fun hc14 => ?_)
    · refine wi_ic hx hb (a := 0) nd_CM_edge_47 ?_
      have hsp : sp_edge n y (nI (1)) el u0 v0 = (nI 0, y) := by unfold sp_edge; simp [tn_1, hc14]
      exact wb_zret (g) hx hb hr hk rfl hAe (by rw [hsp]; exact ⟨rfl, hI⟩) hP hD hS nd_CM_edge_48
    · refine lv_aload_n hx hb nd_CM_edge_17 rfl (lv_at hl 0 rfl) ?_
      refine lv_iload_n hx hb nd_CM_edge_18 rfl (lv_at hl 2 rfl) ?_
      by_cases hq19 : ¬ el < 0 ∧ ¬ nI n ≤ el
      · obtain ⟨el1, h_el1, rfl⟩ := sm_elem (by omega) hq19
        refine wc_V (C := nr_CM) (n := 1) hx hb hml hown htg (c_CM_isElement l D _ q n (nI el1) (nI 1) (fun _ => rfl) (fun h => absurd hq19 h)) tm_448 tm_445 tm_447 tp_13 tm_9 (by decide +kernel) ⟨⟨Nat.le_trans (by decide) hRf, Nat.le_trans (by decide) hRl⟩, rfl, rfl⟩ (wa_pre (hP.sub [0] rfl) hK hN) (va_recv (q0 := 0) (ci := 6) hK hP rfl rfl) rfl hl.1 rfl (Nat.le_of_ble_eq_true rfl) nd_CM_edge_19 hCS ?_
        refine wi_if_eq (tgt := 47) hx hb (by decide) nd_CM_edge_22 rfl (fun h => absurd h (by decide)) (fun _ => ?_)
        refine lv_iload_n hx hb nd_CM_edge_25 rfl (lv_at hl 3 rfl) ?_
        refine lv_if_lt (tgt := 47) hx hb nd_CM_edge_26 rfl (fun hc26 => ?_) (fun hc26 => ?_)
        · refine wi_ic hx hb (a := 0) nd_CM_edge_47 ?_
          have hsp : sp_edge n y (nI (1)) (nI (el1)) u0 v0 = (nI 0, y) := by unfold sp_edge; simp [sr_f (x := u0) (b := nI 7) (fun z => z.1 hc26)]
          exact wb_zret (g) hx hb hr hk rfl hAe (by rw [hsp]; exact ⟨rfl, hI⟩) hP hD hS nd_CM_edge_48
        · refine lv_iload_n hx hb nd_CM_edge_29 rfl (lv_at hl 3 rfl) ?_
          refine lv_bipush (v := nI 7) hx hb nd_CM_edge_30 (by decide) ?_
          refine lv_icmp_gt (tgt := 47) hx hb nd_CM_edge_32 rfl (fun hc32 => ?_) (fun hc32 => ?_)
          · refine wi_ic hx hb (a := 0) nd_CM_edge_47 ?_
            have hsp : sp_edge n y (nI (1)) (nI (el1)) u0 v0 = (nI 0, y) := by unfold sp_edge; simp [sr_f (x := u0) (b := nI 7) (fun z => z.2 hc32)]
            exact wb_zret (g) hx hb hr hk rfl hAe (by rw [hsp]; exact ⟨rfl, hI⟩) hP hD hS nd_CM_edge_48
          · refine lv_iload hx hb nd_CM_edge_35 (lv_at hl 4 rfl) ?_
            refine lv_if_lt (tgt := 47) hx hb nd_CM_edge_37 rfl (fun hc37 => ?_) (fun hc37 => ?_)
            · refine wi_ic hx hb (a := 0) nd_CM_edge_47 ?_
              have hsp : sp_edge n y (nI (1)) (nI (el1)) u0 v0 = (nI 0, y) := by unfold sp_edge; simp [sr_f (x := v0) (b := nI 7) (fun z => z.1 hc37)]
              exact wb_zret (g) hx hb hr hk rfl hAe (by rw [hsp]; exact ⟨rfl, hI⟩) hP hD hS nd_CM_edge_48
            · refine lv_iload hx hb nd_CM_edge_40 (lv_at hl 4 rfl) ?_
              refine lv_bipush (v := nI 7) hx hb nd_CM_edge_42 (by decide) ?_
              refine lv_icmp_le (tgt := 49) hx hb nd_CM_edge_44 rfl (fun hc44 => ?_) (fun hc44 => ?_)
              · refine lv_aload_n hx hb nd_CM_edge_49 rfl (lv_at hl 0 rfl) ?_
                refine va_get (D := D) (C := nr_CM) (T := nt_CM) (N := 14) hx hb htg tf_CM hown hK hP 0 rfl rfl 5 (by decide) (htg _ tm_388) (fun _ h => h) rfl nd_CM_edge_50 ?_
                refine lv_bipush (v := nI 10) hx hb nd_CM_edge_53 (by decide) ?_
                refine lv_iload_n hx hb nd_CM_edge_55 rfl (lv_at hl 1 rfl) ?_
                refine wi_imul hx hb nd_CM_edge_56 ?_
                refine lv_iload_n hx hb nd_CM_edge_57 rfl (lv_at hl 2 rfl) ?_
                refine wi_iadd hx hb nd_CM_edge_58 ?_
                refine lv_iload_n hx hb nd_CM_edge_59 rfl (lv_at hl 3 rfl) ?_
                refine wi_iast hx hb hK hP hD hS 5 0 rfl rfl (by omega) (by omega) nd_CM_edge_60 (fun H locs hP hD hS => ?_)
                have hP : va_P D cl_all ([((q 0), .inr (6, [.int (nI (n)), .ref (q 2), .ref (q 3), .ref (q 4), .ref (q 5), .ref (q 6), .ref (q 7), .ref (q 8), .ref (q 9), .ref (q 10), .ref (q 11), .ref (q 12), .ref (q 13), .ref (q 14)])), ((q 2), .inl (cI, 10, .inl (g 0))), ((q 3), .inl (cI, 2, .inl (g 1))), ((q 4), .inl (cI, 2, .inl (g 2))), ((q 5), .inl (cI, 2, .inl (g 3))), ((q 6), .inl (cI, 20, .inl (upd (g 4) ((10 * 1) + el1) u0))), ((q 7), .inl (cI, 20, .inl (g 5))), ((q 8), .inl (cI, 20, .inl (g 6))), ((q 9), .inl (cI, 8, .inl (g 7))), ((q 10), .inl (cI, 80, .inl (g 8))), ((q 11), .inl (cI, 8, .inl (g 9))), ((q 12), .inl (cI, 16, .inl (g 10))), ((q 13), .inl (cI, 16, .inl (g 11))), ((q 14), .inl (cI, 2048, .inl (g 12)))]) H := hP
                have hD : va_D A ([((q 0), .inr (6, [.int (nI (n)), .ref (q 2), .ref (q 3), .ref (q 4), .ref (q 5), .ref (q 6), .ref (q 7), .ref (q 8), .ref (q 9), .ref (q 10), .ref (q 11), .ref (q 12), .ref (q 13), .ref (q 14)])), ((q 2), .inl (cI, 10, .inl (g 0))), ((q 3), .inl (cI, 2, .inl (g 1))), ((q 4), .inl (cI, 2, .inl (g 2))), ((q 5), .inl (cI, 2, .inl (g 3))), ((q 6), .inl (cI, 20, .inl (upd (g 4) ((10 * 1) + el1) u0))), ((q 7), .inl (cI, 20, .inl (g 5))), ((q 8), .inl (cI, 20, .inl (g 6))), ((q 9), .inl (cI, 8, .inl (g 7))), ((q 10), .inl (cI, 80, .inl (g 8))), ((q 11), .inl (cI, 8, .inl (g 9))), ((q 12), .inl (cI, 16, .inl (g 10))), ((q 13), .inl (cI, 16, .inl (g 11))), ((q 14), .inl (cI, 2048, .inl (g 12)))]) := hD
                refine lv_aload_n hx hb nd_CM_edge_61 rfl (lv_at hl 0 rfl) ?_
                refine va_get (D := D) (C := nr_CM) (T := nt_CM) (N := 14) hx hb htg tf_CM hown hK hP 0 rfl rfl 6 (by decide) (htg _ tm_389) (fun _ h => h) rfl nd_CM_edge_62 ?_
                refine lv_bipush (v := nI 10) hx hb nd_CM_edge_65 (by decide) ?_
                refine lv_iload_n hx hb nd_CM_edge_67 rfl (lv_at hl 1 rfl) ?_
                refine wi_imul hx hb nd_CM_edge_68 ?_
                refine lv_iload_n hx hb nd_CM_edge_69 rfl (lv_at hl 2 rfl) ?_
                refine wi_iadd hx hb nd_CM_edge_70 ?_
                refine lv_iload hx hb nd_CM_edge_71 (lv_at hl 4 rfl) ?_
                refine wi_iast hx hb hK hP hD hS 6 0 rfl rfl (by omega) (by omega) nd_CM_edge_73 (fun H locs hP hD hS => ?_)
                have hP : va_P D cl_all ([((q 0), .inr (6, [.int (nI (n)), .ref (q 2), .ref (q 3), .ref (q 4), .ref (q 5), .ref (q 6), .ref (q 7), .ref (q 8), .ref (q 9), .ref (q 10), .ref (q 11), .ref (q 12), .ref (q 13), .ref (q 14)])), ((q 2), .inl (cI, 10, .inl (g 0))), ((q 3), .inl (cI, 2, .inl (g 1))), ((q 4), .inl (cI, 2, .inl (g 2))), ((q 5), .inl (cI, 2, .inl (g 3))), ((q 6), .inl (cI, 20, .inl (upd (g 4) ((10 * 1) + el1) u0))), ((q 7), .inl (cI, 20, .inl (upd (g 5) ((10 * 1) + el1) v0))), ((q 8), .inl (cI, 20, .inl (g 6))), ((q 9), .inl (cI, 8, .inl (g 7))), ((q 10), .inl (cI, 80, .inl (g 8))), ((q 11), .inl (cI, 8, .inl (g 9))), ((q 12), .inl (cI, 16, .inl (g 10))), ((q 13), .inl (cI, 16, .inl (g 11))), ((q 14), .inl (cI, 2048, .inl (g 12)))]) H := hP
                have hD : va_D A ([((q 0), .inr (6, [.int (nI (n)), .ref (q 2), .ref (q 3), .ref (q 4), .ref (q 5), .ref (q 6), .ref (q 7), .ref (q 8), .ref (q 9), .ref (q 10), .ref (q 11), .ref (q 12), .ref (q 13), .ref (q 14)])), ((q 2), .inl (cI, 10, .inl (g 0))), ((q 3), .inl (cI, 2, .inl (g 1))), ((q 4), .inl (cI, 2, .inl (g 2))), ((q 5), .inl (cI, 2, .inl (g 3))), ((q 6), .inl (cI, 20, .inl (upd (g 4) ((10 * 1) + el1) u0))), ((q 7), .inl (cI, 20, .inl (upd (g 5) ((10 * 1) + el1) v0))), ((q 8), .inl (cI, 20, .inl (g 6))), ((q 9), .inl (cI, 8, .inl (g 7))), ((q 10), .inl (cI, 80, .inl (g 8))), ((q 11), .inl (cI, 8, .inl (g 9))), ((q 12), .inl (cI, 16, .inl (g 10))), ((q 13), .inl (cI, 16, .inl (g 11))), ((q 14), .inl (cI, 2048, .inl (g 12)))]) := hD
                refine wi_ic hx hb (a := 1) nd_CM_edge_74 ?_
                obtain ⟨u01, h_u01, rfl⟩ := sm_gt10 (b := 7) (by omega) hc26 hc32
                obtain ⟨v01, h_v01, rfl⟩ := sm_le10 (b := 7) (by omega) hc37 hc44
                have hsp : sp_edge n y (nI 1) (nI el1) (nI u01) (nI v01) = (nI 1, cb_s y 1 ((cb_m y 1).1, (cb_m y 1).2.1, va_up (cb_m y 1).2.2.1 el1 u01, va_up (cb_m y 1).2.2.2.1 el1 v01, (cb_m y 1).2.2.2.2)) := by unfold sp_edge; simp only [sw_1, tn_1, sz_t h_el1 (show n < 2 ^ 31 by omega), tn_nI (show el1 < 2 ^ 31 by omega), sr_t h_u01 (show 7 < 2 ^ 31 by omega), tn_nI (show u01 < 2 ^ 31 by omega), sr_t h_v01 (show 7 < 2 ^ 31 by omega), tn_nI (show v01 < 2 ^ 31 by omega)]; simp [hc14]
                exact wb_zret ((va_up (va_up g 4 (upd (g 4) ((10 * 1) + el1) (nI u01))) 5 (upd (g 5) ((10 * 1) + el1) (nI v01)))) hx hb hr hk rfl hAe (by rw [hsp]; exact ⟨rfl, rf_edge (w := 1) hn hI (by omega) hc14 h_el1 h_u01 h_v01⟩) hP hD hS nd_CM_edge_75
              · refine wi_ic hx hb (a := 0) nd_CM_edge_47 ?_
                have hsp : sp_edge n y (nI (1)) (nI (el1)) u0 v0 = (nI 0, y) := by unfold sp_edge; simp [sr_f (x := v0) (b := nI 7) (fun z => z.2 (Int32.not_le.mp hc44))]
                exact wb_zret (g) hx hb hr hk rfl hAe (by rw [hsp]; exact ⟨rfl, hI⟩) hP hD hS nd_CM_edge_48
      · refine wc_V (C := nr_CM) (n := 1) hx hb hml hown htg (c_CM_isElement l D _ q n el (nI 0) (fun h => absurd h hq19) (fun _ => rfl)) tm_448 tm_445 tm_447 tp_13 tm_9 (by decide +kernel) ⟨⟨Nat.le_trans (by decide) hRf, Nat.le_trans (by decide) hRl⟩, rfl, rfl⟩ (wa_pre (hP.sub [0] rfl) hK hN) (va_recv (q0 := 0) (ci := 6) hK hP rfl rfl) rfl hl.1 rfl (Nat.le_of_ble_eq_true rfl) nd_CM_edge_19 hCS ?_
        refine wi_if_eq (tgt := 47) hx hb (by decide) nd_CM_edge_22 rfl (fun _ => ?_) (fun h => absurd h (by decide))
        refine wi_ic hx hb (a := 0) nd_CM_edge_47 ?_
        have hsp : sp_edge n y (nI (1)) el u0 v0 = (nI 0, y) := by unfold sp_edge; simp [sz_f hn1 (show n < 2 ^ 31 by omega) hq19]
        exact wb_zret (g) hx hb hr hk rfl hAe (by rw [hsp]; exact ⟨rfl, hI⟩) hP hD hS nd_CM_edge_48
  · refine wc_S (n := 1) hx hb hml hown htg (c_CM_isWhich l D _ wh (nI 0) (fun h => absurd h (fun z => z.elim (fun z => hw1.1 (z.trans nI_0.symm)) hw1.2)) (fun _ => rfl)) tm_432 tm_430 tm_431 tm_9 (by decide +kernel) ⟨⟨Nat.le_trans (by decide) hRf, Nat.le_trans (by decide) hRl⟩, rfl, rfl⟩ (wa_pre wa_nil hK hN) rfl hl.1 rfl (Nat.le_of_ble_eq_true rfl) nd_CM_edge_1 hCS ?_
    refine wi_if_eq (tgt := 47) hx hb (by decide) nd_CM_edge_4 rfl (fun _ => ?_) (fun h => absurd h (by decide))
    refine wi_ic hx hb (a := 0) nd_CM_edge_47 ?_
    have hsp : sp_edge n y wh el u0 v0 = (nI 0, y) := by unfold sp_edge; simp [sw_n hw1]
    exact wb_zret (g) hx hb hr hk rfl hAe (by rw [hsp]; exact ⟨rfl, hI⟩) hP hD hS nd_CM_edge_48
theorem nd_CM_part_0 : decode nc_CM_part 0 = .ok (.iload_n 1, 1) := by decide +kernel
theorem nd_CM_part_1 : decode nc_CM_part 1 = .ok (.invokestatic 53, 3) := by decide +kernel
theorem nd_CM_part_4 : decode nc_CM_part 4 = .ok (.ifCond .eq 30, 3) := by decide +kernel
theorem nd_CM_part_7 : decode nc_CM_part 7 = .ok (.aload_n 0, 1) := by decide +kernel
theorem nd_CM_part_8 : decode nc_CM_part 8 = .ok (.getfield 13, 3) := by decide +kernel
theorem nd_CM_part_11 : decode nc_CM_part 11 = .ok (.iload_n 1, 1) := by decide +kernel
theorem nd_CM_part_12 : decode nc_CM_part 12 = .ok (.iaload, 1) := by decide +kernel
theorem nd_CM_part_13 : decode nc_CM_part 13 = .ok (.iconst 2, 1) := by decide +kernel
theorem nd_CM_part_14 : decode nc_CM_part 14 = .ok (.if_icmp .ne 20, 3) := by decide +kernel
theorem nd_CM_part_17 : decode nc_CM_part 17 = .ok (.aload_n 0, 1) := by decide +kernel
theorem nd_CM_part_18 : decode nc_CM_part 18 = .ok (.iload_n 2, 1) := by decide +kernel
theorem nd_CM_part_19 : decode nc_CM_part 19 = .ok (.invokevirtual 61, 3) := by decide +kernel
theorem nd_CM_part_22 : decode nc_CM_part 22 = .ok (.ifCond .eq 12, 3) := by decide +kernel
theorem nd_CM_part_25 : decode nc_CM_part 25 = .ok (.iload_n 3, 1) := by decide +kernel
theorem nd_CM_part_26 : decode nc_CM_part 26 = .ok (.ifCond .lt 8, 3) := by decide +kernel
theorem nd_CM_part_29 : decode nc_CM_part 29 = .ok (.iload_n 3, 1) := by decide +kernel
theorem nd_CM_part_30 : decode nc_CM_part 30 = .ok (.iconst 3, 1) := by decide +kernel
theorem nd_CM_part_31 : decode nc_CM_part 31 = .ok (.if_icmp .le 5, 3) := by decide +kernel
theorem nd_CM_part_34 : decode nc_CM_part 34 = .ok (.iconst 0, 1) := by decide +kernel
theorem nd_CM_part_35 : decode nc_CM_part 35 = .ok (.ireturn, 1) := by decide +kernel
theorem nd_CM_part_36 : decode nc_CM_part 36 = .ok (.aload_n 0, 1) := by decide +kernel
theorem nd_CM_part_37 : decode nc_CM_part 37 = .ok (.getfield 28, 3) := by decide +kernel
theorem nd_CM_part_40 : decode nc_CM_part 40 = .ok (.bipush 10, 2) := by decide +kernel
theorem nd_CM_part_42 : decode nc_CM_part 42 = .ok (.iload_n 1, 1) := by decide +kernel
theorem nd_CM_part_43 : decode nc_CM_part 43 = .ok (.imul, 1) := by decide +kernel
theorem nd_CM_part_44 : decode nc_CM_part 44 = .ok (.iload_n 2, 1) := by decide +kernel
theorem nd_CM_part_45 : decode nc_CM_part 45 = .ok (.iadd, 1) := by decide +kernel
theorem nd_CM_part_46 : decode nc_CM_part 46 = .ok (.iload_n 3, 1) := by decide +kernel
theorem nd_CM_part_47 : decode nc_CM_part 47 = .ok (.iastore, 1) := by decide +kernel
theorem nd_CM_part_48 : decode nc_CM_part 48 = .ok (.iconst 1, 1) := by decide +kernel
theorem nd_CM_part_49 : decode nc_CM_part 49 = .ok (.ireturn, 1) := by decide +kernel
set_option maxRecDepth 20000 in
theorem c_CM_part (l : Launch) (D : va_G) (cI cG cM : ClassId)  (q : Nat → Nat) (n : Nat) (hn1 : 1 ≤ n) (hn : n ≤ 10) (g : rf_S) (y : cb_Y) (hI : rf_I n y g) (wh el c0 : Int32) (sz : Nat) : wb_Mi l ny_CM_part nc_CM_part 4 (some .boolean) ({ frames := 1, cells := 0, slots := 0, locals := 21 }) D (ty_all cI cG cM) (rf_ cI q n g) sz [.ref (q 0), .int (wh), .int (el), .int (c0)] (fun (v : Int32) (u : rf_S) => v = (sp_part n y wh el c0).1 ∧ rf_I n (sp_part n y wh el c0).2 u) (fun u : rf_S => rf_ cI q n u) := by
  refine wb_start (S := rf_S) (by decide) (Nat.le_of_ble_eq_true rfl) ?_
  intro p e0 s0 m below meth c ls A hx hb hr hml htg hown hk hP hK hN hl hAe hsz hD hA
  have hl : lv_has ls 4 [(0, .ref (q 0)), (1, .int (wh)), (2, .int (el)), (3, .int (c0))] := hl
  have hP : va_P D cl_all ([((q 0), .inr (6, [.int (nI (n)), .ref (q 2), .ref (q 3), .ref (q 4), .ref (q 5), .ref (q 6), .ref (q 7), .ref (q 8), .ref (q 9), .ref (q 10), .ref (q 11), .ref (q 12), .ref (q 13), .ref (q 14)])), ((q 2), .inl (cI, 10, .inl (g 0))), ((q 3), .inl (cI, 2, .inl (g 1))), ((q 4), .inl (cI, 2, .inl (g 2))), ((q 5), .inl (cI, 2, .inl (g 3))), ((q 6), .inl (cI, 20, .inl (g 4))), ((q 7), .inl (cI, 20, .inl (g 5))), ((q 8), .inl (cI, 20, .inl (g 6))), ((q 9), .inl (cI, 8, .inl (g 7))), ((q 10), .inl (cI, 80, .inl (g 8))), ((q 11), .inl (cI, 8, .inl (g 9))), ((q 12), .inl (cI, 16, .inl (g 10))), ((q 13), .inl (cI, 16, .inl (g 11))), ((q 14), .inl (cI, 2048, .inl (g 12)))]) s0.heap := hP
  have hD : va_D A ([((q 0), .inr (6, [.int (nI (n)), .ref (q 2), .ref (q 3), .ref (q 4), .ref (q 5), .ref (q 6), .ref (q 7), .ref (q 8), .ref (q 9), .ref (q 10), .ref (q 11), .ref (q 12), .ref (q 13), .ref (q 14)])), ((q 2), .inl (cI, 10, .inl (g 0))), ((q 3), .inl (cI, 2, .inl (g 1))), ((q 4), .inl (cI, 2, .inl (g 2))), ((q 5), .inl (cI, 2, .inl (g 3))), ((q 6), .inl (cI, 20, .inl (g 4))), ((q 7), .inl (cI, 20, .inl (g 5))), ((q 8), .inl (cI, 20, .inl (g 6))), ((q 9), .inl (cI, 8, .inl (g 7))), ((q 10), .inl (cI, 80, .inl (g 8))), ((q 11), .inl (cI, 8, .inl (g 9))), ((q 12), .inl (cI, 16, .inl (g 10))), ((q 13), .inl (cI, 16, .inl (g 11))), ((q 14), .inl (cI, 2048, .inl (g 12)))]) := hD
  have hS : va_S A s0.heap s0.heap [] := va_S.rf
  have hRf : 1 ≤ ({ frames := 1, cells := 0, slots := 0, locals := 21 } : Room).frames := Nat.le_refl _
  have hRl : 21 ≤ ({ frames := 1, cells := 0, slots := 0, locals := 21 } : Room).locals := Nat.le_refl _
  have hCS : 0 ≤ ({ frames := 1, cells := 0, slots := 0, locals := 21 } : Room).cells ∧ 0 ≤ ({ frames := 1, cells := 0, slots := 0, locals := 21 } : Room).slots := ⟨Nat.zero_le _, Nat.zero_le _⟩
  have h2n : 2 ^ n ≤ 1024 := Nat.pow_le_pow_right (by omega) hn
  have h2p : 1 ≤ 2 ^ n := Nat.one_le_two_pow
  have hk30 := ma_v3 (hI.2 0 (by omega)).1
  have hk31 := ma_v3 (hI.2 1 (by omega)).1
  refine lv_iload_n hx hb nd_CM_part_0 rfl (lv_at hl 1 rfl) ?_
  rcases sm_which wh with hw1 | hw1 | hw1
  · subst hw1
    refine wc_S (n := 1) hx hb hml hown htg (c_CM_isWhich l D _ (nI 0) (nI 1) (fun _ => rfl) (fun h => absurd (Or.inl nI_0) h)) tm_432 tm_430 tm_431 tm_9 (by decide +kernel) ⟨⟨Nat.le_trans (by decide) hRf, Nat.le_trans (by decide) hRl⟩, rfl, rfl⟩ (wa_pre wa_nil hK hN) rfl hl.1 rfl (Nat.le_of_ble_eq_true rfl) nd_CM_part_1 hCS ?_
    refine wi_if_eq (tgt := 34) hx hb (by decide) nd_CM_part_4 rfl (fun h => absurd h (by decide)) (fun _ => ?_)
    refine lv_aload_n hx hb nd_CM_part_7 rfl (lv_at hl 0 rfl) ?_
    refine va_get (D := D) (C := nr_CM) (T := nt_CM) (N := 14) hx hb htg tf_CM hown hK hP 0 rfl rfl 2 (by decide) (htg _ tm_385) (fun _ h => h) rfl nd_CM_part_8 ?_
    refine lv_iload_n hx hb nd_CM_part_11 rfl (lv_at hl 1 rfl) ?_
    refine wi_iald hx hb hK hP 2 0 rfl rfl (by omega) (by omega) nd_CM_part_12 ?_
    refine wi_top ((hI.2 0 (by omega)).2.1) ?_
    refine wi_ic hx hb (a := 2) nd_CM_part_13 ?_
    refine wi_icmp_ne (tgt := 34) hx hb (by omega) (by omega) nd_CM_part_14 rfl (fun hc14 => ?_) (fun hc14 => ?_)
    · refine wi_ic hx hb (a := 0) nd_CM_part_34 ?_
      have hsp : sp_part n y (nI (0)) el c0 = (nI 0, y) := by unfold sp_part; simp [tn_0, hc14]
      exact wb_zret (g) hx hb hr hk rfl hAe (by rw [hsp]; exact ⟨rfl, hI⟩) hP hD hS nd_CM_part_35
    · refine lv_aload_n hx hb nd_CM_part_17 rfl (lv_at hl 0 rfl) ?_
      refine lv_iload_n hx hb nd_CM_part_18 rfl (lv_at hl 2 rfl) ?_
      by_cases hq19 : ¬ el < 0 ∧ ¬ nI n ≤ el
      · obtain ⟨el1, h_el1, rfl⟩ := sm_elem (by omega) hq19
        refine wc_V (C := nr_CM) (n := 1) hx hb hml hown htg (c_CM_isElement l D _ q n (nI el1) (nI 1) (fun _ => rfl) (fun h => absurd hq19 h)) tm_448 tm_445 tm_447 tp_13 tm_9 (by decide +kernel) ⟨⟨Nat.le_trans (by decide) hRf, Nat.le_trans (by decide) hRl⟩, rfl, rfl⟩ (wa_pre (hP.sub [0] rfl) hK hN) (va_recv (q0 := 0) (ci := 6) hK hP rfl rfl) rfl hl.1 rfl (Nat.le_of_ble_eq_true rfl) nd_CM_part_19 hCS ?_
        refine wi_if_eq (tgt := 34) hx hb (by decide) nd_CM_part_22 rfl (fun h => absurd h (by decide)) (fun _ => ?_)
        refine lv_iload_n hx hb nd_CM_part_25 rfl (lv_at hl 3 rfl) ?_
        refine lv_if_lt (tgt := 34) hx hb nd_CM_part_26 rfl (fun hc26 => ?_) (fun hc26 => ?_)
        · refine wi_ic hx hb (a := 0) nd_CM_part_34 ?_
          have hsp : sp_part n y (nI (0)) (nI (el1)) c0 = (nI 0, y) := by unfold sp_part; simp [sr_f (x := c0) (b := nI 3) (fun z => z.1 hc26)]
          exact wb_zret (g) hx hb hr hk rfl hAe (by rw [hsp]; exact ⟨rfl, hI⟩) hP hD hS nd_CM_part_35
        · refine lv_iload_n hx hb nd_CM_part_29 rfl (lv_at hl 3 rfl) ?_
          refine wi_ic hx hb (a := 3) nd_CM_part_30 ?_
          refine lv_icmp_le (tgt := 36) hx hb nd_CM_part_31 rfl (fun hc31 => ?_) (fun hc31 => ?_)
          · refine lv_aload_n hx hb nd_CM_part_36 rfl (lv_at hl 0 rfl) ?_
            refine va_get (D := D) (C := nr_CM) (T := nt_CM) (N := 14) hx hb htg tf_CM hown hK hP 0 rfl rfl 7 (by decide) (htg _ tm_390) (fun _ h => h) rfl nd_CM_part_37 ?_
            refine lv_bipush (v := nI 10) hx hb nd_CM_part_40 (by decide) ?_
            refine lv_iload_n hx hb nd_CM_part_42 rfl (lv_at hl 1 rfl) ?_
            refine wi_imul hx hb nd_CM_part_43 ?_
            refine lv_iload_n hx hb nd_CM_part_44 rfl (lv_at hl 2 rfl) ?_
            refine wi_iadd hx hb nd_CM_part_45 ?_
            refine lv_iload_n hx hb nd_CM_part_46 rfl (lv_at hl 3 rfl) ?_
            refine wi_iast hx hb hK hP hD hS 7 0 rfl rfl (by omega) (by omega) nd_CM_part_47 (fun H locs hP hD hS => ?_)
            have hP : va_P D cl_all ([((q 0), .inr (6, [.int (nI (n)), .ref (q 2), .ref (q 3), .ref (q 4), .ref (q 5), .ref (q 6), .ref (q 7), .ref (q 8), .ref (q 9), .ref (q 10), .ref (q 11), .ref (q 12), .ref (q 13), .ref (q 14)])), ((q 2), .inl (cI, 10, .inl (g 0))), ((q 3), .inl (cI, 2, .inl (g 1))), ((q 4), .inl (cI, 2, .inl (g 2))), ((q 5), .inl (cI, 2, .inl (g 3))), ((q 6), .inl (cI, 20, .inl (g 4))), ((q 7), .inl (cI, 20, .inl (g 5))), ((q 8), .inl (cI, 20, .inl (upd (g 6) ((10 * 0) + el1) c0))), ((q 9), .inl (cI, 8, .inl (g 7))), ((q 10), .inl (cI, 80, .inl (g 8))), ((q 11), .inl (cI, 8, .inl (g 9))), ((q 12), .inl (cI, 16, .inl (g 10))), ((q 13), .inl (cI, 16, .inl (g 11))), ((q 14), .inl (cI, 2048, .inl (g 12)))]) H := hP
            have hD : va_D A ([((q 0), .inr (6, [.int (nI (n)), .ref (q 2), .ref (q 3), .ref (q 4), .ref (q 5), .ref (q 6), .ref (q 7), .ref (q 8), .ref (q 9), .ref (q 10), .ref (q 11), .ref (q 12), .ref (q 13), .ref (q 14)])), ((q 2), .inl (cI, 10, .inl (g 0))), ((q 3), .inl (cI, 2, .inl (g 1))), ((q 4), .inl (cI, 2, .inl (g 2))), ((q 5), .inl (cI, 2, .inl (g 3))), ((q 6), .inl (cI, 20, .inl (g 4))), ((q 7), .inl (cI, 20, .inl (g 5))), ((q 8), .inl (cI, 20, .inl (upd (g 6) ((10 * 0) + el1) c0))), ((q 9), .inl (cI, 8, .inl (g 7))), ((q 10), .inl (cI, 80, .inl (g 8))), ((q 11), .inl (cI, 8, .inl (g 9))), ((q 12), .inl (cI, 16, .inl (g 10))), ((q 13), .inl (cI, 16, .inl (g 11))), ((q 14), .inl (cI, 2048, .inl (g 12)))]) := hD
            refine wi_ic hx hb (a := 1) nd_CM_part_48 ?_
            obtain ⟨c01, h_c01, rfl⟩ := sm_le10 (b := 3) (by omega) hc26 hc31
            have hsp : sp_part n y (nI 0) (nI el1) (nI c01) = (nI 1, cb_s y 0 ((cb_m y 0).1, (cb_m y 0).2.1, (cb_m y 0).2.2.1, (cb_m y 0).2.2.2.1, va_up (cb_m y 0).2.2.2.2.1 el1 c01, (cb_m y 0).2.2.2.2.2)) := by unfold sp_part; simp only [sw_0, tn_0, sz_t h_el1 (show n < 2 ^ 31 by omega), tn_nI (show el1 < 2 ^ 31 by omega), sr_t h_c01 (show 3 < 2 ^ 31 by omega), tn_nI (show c01 < 2 ^ 31 by omega)]; simp [hc14]
            exact wb_zret ((va_up g 6 (upd (g 6) ((10 * 0) + el1) (nI c01)))) hx hb hr hk rfl hAe (by rw [hsp]; exact ⟨rfl, rf_part (w := 0) hn hI (by omega) hc14 h_el1 h_c01⟩) hP hD hS nd_CM_part_49
          · refine wi_ic hx hb (a := 0) nd_CM_part_34 ?_
            have hsp : sp_part n y (nI (0)) (nI (el1)) c0 = (nI 0, y) := by unfold sp_part; simp [sr_f (x := c0) (b := nI 3) (fun z => z.2 (Int32.not_le.mp hc31))]
            exact wb_zret (g) hx hb hr hk rfl hAe (by rw [hsp]; exact ⟨rfl, hI⟩) hP hD hS nd_CM_part_35
      · refine wc_V (C := nr_CM) (n := 1) hx hb hml hown htg (c_CM_isElement l D _ q n el (nI 0) (fun h => absurd h hq19) (fun _ => rfl)) tm_448 tm_445 tm_447 tp_13 tm_9 (by decide +kernel) ⟨⟨Nat.le_trans (by decide) hRf, Nat.le_trans (by decide) hRl⟩, rfl, rfl⟩ (wa_pre (hP.sub [0] rfl) hK hN) (va_recv (q0 := 0) (ci := 6) hK hP rfl rfl) rfl hl.1 rfl (Nat.le_of_ble_eq_true rfl) nd_CM_part_19 hCS ?_
        refine wi_if_eq (tgt := 34) hx hb (by decide) nd_CM_part_22 rfl (fun _ => ?_) (fun h => absurd h (by decide))
        refine wi_ic hx hb (a := 0) nd_CM_part_34 ?_
        have hsp : sp_part n y (nI (0)) el c0 = (nI 0, y) := by unfold sp_part; simp [sz_f hn1 (show n < 2 ^ 31 by omega) hq19]
        exact wb_zret (g) hx hb hr hk rfl hAe (by rw [hsp]; exact ⟨rfl, hI⟩) hP hD hS nd_CM_part_35
  · subst hw1
    refine wc_S (n := 1) hx hb hml hown htg (c_CM_isWhich l D _ (nI 1) (nI 1) (fun _ => rfl) (fun h => absurd (Or.inr rfl) h)) tm_432 tm_430 tm_431 tm_9 (by decide +kernel) ⟨⟨Nat.le_trans (by decide) hRf, Nat.le_trans (by decide) hRl⟩, rfl, rfl⟩ (wa_pre wa_nil hK hN) rfl hl.1 rfl (Nat.le_of_ble_eq_true rfl) nd_CM_part_1 hCS ?_
    refine wi_if_eq (tgt := 34) hx hb (by decide) nd_CM_part_4 rfl (fun h => absurd h (by decide)) (fun _ => ?_)
    refine lv_aload_n hx hb nd_CM_part_7 rfl (lv_at hl 0 rfl) ?_
    refine va_get (D := D) (C := nr_CM) (T := nt_CM) (N := 14) hx hb htg tf_CM hown hK hP 0 rfl rfl 2 (by decide) (htg _ tm_385) (fun _ h => h) rfl nd_CM_part_8 ?_
    refine lv_iload_n hx hb nd_CM_part_11 rfl (lv_at hl 1 rfl) ?_
    refine wi_iald hx hb hK hP 2 0 rfl rfl (by omega) (by omega) nd_CM_part_12 ?_
    refine wi_top ((hI.2 1 (by omega)).2.1) ?_
    refine wi_ic hx hb (a := 2) nd_CM_part_13 ?_
    refine wi_icmp_ne (tgt := 34) hx hb (by omega) (by omega) nd_CM_part_14 rfl (fun hc14 => ?_) (fun hc14 => ?_)
    · refine wi_ic hx hb (a := 0) nd_CM_part_34 ?_
      have hsp : sp_part n y (nI (1)) el c0 = (nI 0, y) := by unfold sp_part; simp [tn_1, hc14]
      exact wb_zret (g) hx hb hr hk rfl hAe (by rw [hsp]; exact ⟨rfl, hI⟩) hP hD hS nd_CM_part_35
    · refine lv_aload_n hx hb nd_CM_part_17 rfl (lv_at hl 0 rfl) ?_
      refine lv_iload_n hx hb nd_CM_part_18 rfl (lv_at hl 2 rfl) ?_
      by_cases hq19 : ¬ el < 0 ∧ ¬ nI n ≤ el
      · obtain ⟨el1, h_el1, rfl⟩ := sm_elem (by omega) hq19
        refine wc_V (C := nr_CM) (n := 1) hx hb hml hown htg (c_CM_isElement l D _ q n (nI el1) (nI 1) (fun _ => rfl) (fun h => absurd hq19 h)) tm_448 tm_445 tm_447 tp_13 tm_9 (by decide +kernel) ⟨⟨Nat.le_trans (by decide) hRf, Nat.le_trans (by decide) hRl⟩, rfl, rfl⟩ (wa_pre (hP.sub [0] rfl) hK hN) (va_recv (q0 := 0) (ci := 6) hK hP rfl rfl) rfl hl.1 rfl (Nat.le_of_ble_eq_true rfl) nd_CM_part_19 hCS ?_
        refine wi_if_eq (tgt := 34) hx hb (by decide) nd_CM_part_22 rfl (fun h => absurd h (by decide)) (fun _ => ?_)
        refine lv_iload_n hx hb nd_CM_part_25 rfl (lv_at hl 3 rfl) ?_
        refine lv_if_lt (tgt := 34) hx hb nd_CM_part_26 rfl (fun hc26 => ?_) (fun hc26 => ?_)
        · refine wi_ic hx hb (a := 0) nd_CM_part_34 ?_
          have hsp : sp_part n y (nI (1)) (nI (el1)) c0 = (nI 0, y) := by unfold sp_part; simp [sr_f (x := c0) (b := nI 3) (fun z => z.1 hc26)]
          exact wb_zret (g) hx hb hr hk rfl hAe (by rw [hsp]; exact ⟨rfl, hI⟩) hP hD hS nd_CM_part_35
        · refine lv_iload_n hx hb nd_CM_part_29 rfl (lv_at hl 3 rfl) ?_
          refine wi_ic hx hb (a := 3) nd_CM_part_30 ?_
          refine lv_icmp_le (tgt := 36) hx hb nd_CM_part_31 rfl (fun hc31 => ?_) (fun hc31 => ?_)
          · refine lv_aload_n hx hb nd_CM_part_36 rfl (lv_at hl 0 rfl) ?_
            refine va_get (D := D) (C := nr_CM) (T := nt_CM) (N := 14) hx hb htg tf_CM hown hK hP 0 rfl rfl 7 (by decide) (htg _ tm_390) (fun _ h => h) rfl nd_CM_part_37 ?_
            refine lv_bipush (v := nI 10) hx hb nd_CM_part_40 (by decide) ?_
            refine lv_iload_n hx hb nd_CM_part_42 rfl (lv_at hl 1 rfl) ?_
            refine wi_imul hx hb nd_CM_part_43 ?_
            refine lv_iload_n hx hb nd_CM_part_44 rfl (lv_at hl 2 rfl) ?_
            refine wi_iadd hx hb nd_CM_part_45 ?_
            refine lv_iload_n hx hb nd_CM_part_46 rfl (lv_at hl 3 rfl) ?_
            refine wi_iast hx hb hK hP hD hS 7 0 rfl rfl (by omega) (by omega) nd_CM_part_47 (fun H locs hP hD hS => ?_)
            have hP : va_P D cl_all ([((q 0), .inr (6, [.int (nI (n)), .ref (q 2), .ref (q 3), .ref (q 4), .ref (q 5), .ref (q 6), .ref (q 7), .ref (q 8), .ref (q 9), .ref (q 10), .ref (q 11), .ref (q 12), .ref (q 13), .ref (q 14)])), ((q 2), .inl (cI, 10, .inl (g 0))), ((q 3), .inl (cI, 2, .inl (g 1))), ((q 4), .inl (cI, 2, .inl (g 2))), ((q 5), .inl (cI, 2, .inl (g 3))), ((q 6), .inl (cI, 20, .inl (g 4))), ((q 7), .inl (cI, 20, .inl (g 5))), ((q 8), .inl (cI, 20, .inl (upd (g 6) ((10 * 1) + el1) c0))), ((q 9), .inl (cI, 8, .inl (g 7))), ((q 10), .inl (cI, 80, .inl (g 8))), ((q 11), .inl (cI, 8, .inl (g 9))), ((q 12), .inl (cI, 16, .inl (g 10))), ((q 13), .inl (cI, 16, .inl (g 11))), ((q 14), .inl (cI, 2048, .inl (g 12)))]) H := hP
            have hD : va_D A ([((q 0), .inr (6, [.int (nI (n)), .ref (q 2), .ref (q 3), .ref (q 4), .ref (q 5), .ref (q 6), .ref (q 7), .ref (q 8), .ref (q 9), .ref (q 10), .ref (q 11), .ref (q 12), .ref (q 13), .ref (q 14)])), ((q 2), .inl (cI, 10, .inl (g 0))), ((q 3), .inl (cI, 2, .inl (g 1))), ((q 4), .inl (cI, 2, .inl (g 2))), ((q 5), .inl (cI, 2, .inl (g 3))), ((q 6), .inl (cI, 20, .inl (g 4))), ((q 7), .inl (cI, 20, .inl (g 5))), ((q 8), .inl (cI, 20, .inl (upd (g 6) ((10 * 1) + el1) c0))), ((q 9), .inl (cI, 8, .inl (g 7))), ((q 10), .inl (cI, 80, .inl (g 8))), ((q 11), .inl (cI, 8, .inl (g 9))), ((q 12), .inl (cI, 16, .inl (g 10))), ((q 13), .inl (cI, 16, .inl (g 11))), ((q 14), .inl (cI, 2048, .inl (g 12)))]) := hD
            refine wi_ic hx hb (a := 1) nd_CM_part_48 ?_
            obtain ⟨c01, h_c01, rfl⟩ := sm_le10 (b := 3) (by omega) hc26 hc31
            have hsp : sp_part n y (nI 1) (nI el1) (nI c01) = (nI 1, cb_s y 1 ((cb_m y 1).1, (cb_m y 1).2.1, (cb_m y 1).2.2.1, (cb_m y 1).2.2.2.1, va_up (cb_m y 1).2.2.2.2.1 el1 c01, (cb_m y 1).2.2.2.2.2)) := by unfold sp_part; simp only [sw_1, tn_1, sz_t h_el1 (show n < 2 ^ 31 by omega), tn_nI (show el1 < 2 ^ 31 by omega), sr_t h_c01 (show 3 < 2 ^ 31 by omega), tn_nI (show c01 < 2 ^ 31 by omega)]; simp [hc14]
            exact wb_zret ((va_up g 6 (upd (g 6) ((10 * 1) + el1) (nI c01)))) hx hb hr hk rfl hAe (by rw [hsp]; exact ⟨rfl, rf_part (w := 1) hn hI (by omega) hc14 h_el1 h_c01⟩) hP hD hS nd_CM_part_49
          · refine wi_ic hx hb (a := 0) nd_CM_part_34 ?_
            have hsp : sp_part n y (nI (1)) (nI (el1)) c0 = (nI 0, y) := by unfold sp_part; simp [sr_f (x := c0) (b := nI 3) (fun z => z.2 (Int32.not_le.mp hc31))]
            exact wb_zret (g) hx hb hr hk rfl hAe (by rw [hsp]; exact ⟨rfl, hI⟩) hP hD hS nd_CM_part_35
      · refine wc_V (C := nr_CM) (n := 1) hx hb hml hown htg (c_CM_isElement l D _ q n el (nI 0) (fun h => absurd h hq19) (fun _ => rfl)) tm_448 tm_445 tm_447 tp_13 tm_9 (by decide +kernel) ⟨⟨Nat.le_trans (by decide) hRf, Nat.le_trans (by decide) hRl⟩, rfl, rfl⟩ (wa_pre (hP.sub [0] rfl) hK hN) (va_recv (q0 := 0) (ci := 6) hK hP rfl rfl) rfl hl.1 rfl (Nat.le_of_ble_eq_true rfl) nd_CM_part_19 hCS ?_
        refine wi_if_eq (tgt := 34) hx hb (by decide) nd_CM_part_22 rfl (fun _ => ?_) (fun h => absurd h (by decide))
        refine wi_ic hx hb (a := 0) nd_CM_part_34 ?_
        have hsp : sp_part n y (nI (1)) el c0 = (nI 0, y) := by unfold sp_part; simp [sz_f hn1 (show n < 2 ^ 31 by omega) hq19]
        exact wb_zret (g) hx hb hr hk rfl hAe (by rw [hsp]; exact ⟨rfl, hI⟩) hP hD hS nd_CM_part_35
  · refine wc_S (n := 1) hx hb hml hown htg (c_CM_isWhich l D _ wh (nI 0) (fun h => absurd h (fun z => z.elim (fun z => hw1.1 (z.trans nI_0.symm)) hw1.2)) (fun _ => rfl)) tm_432 tm_430 tm_431 tm_9 (by decide +kernel) ⟨⟨Nat.le_trans (by decide) hRf, Nat.le_trans (by decide) hRl⟩, rfl, rfl⟩ (wa_pre wa_nil hK hN) rfl hl.1 rfl (Nat.le_of_ble_eq_true rfl) nd_CM_part_1 hCS ?_
    refine wi_if_eq (tgt := 34) hx hb (by decide) nd_CM_part_4 rfl (fun _ => ?_) (fun h => absurd h (by decide))
    refine wi_ic hx hb (a := 0) nd_CM_part_34 ?_
    have hsp : sp_part n y wh el c0 = (nI 0, y) := by unfold sp_part; simp [sw_n hw1]
    exact wb_zret (g) hx hb hr hk rfl hAe (by rw [hsp]; exact ⟨rfl, hI⟩) hP hD hS nd_CM_part_35
theorem nd_CM_cap_0 : decode nc_CM_cap 0 = .ok (.iload_n 1, 1) := by decide +kernel
theorem nd_CM_cap_1 : decode nc_CM_cap 1 = .ok (.invokestatic 53, 3) := by decide +kernel
theorem nd_CM_cap_4 : decode nc_CM_cap 4 = .ok (.ifCond .eq 32, 3) := by decide +kernel
theorem nd_CM_cap_7 : decode nc_CM_cap 7 = .ok (.aload_n 0, 1) := by decide +kernel
theorem nd_CM_cap_8 : decode nc_CM_cap 8 = .ok (.getfield 13, 3) := by decide +kernel
theorem nd_CM_cap_11 : decode nc_CM_cap 11 = .ok (.iload_n 1, 1) := by decide +kernel
theorem nd_CM_cap_12 : decode nc_CM_cap 12 = .ok (.iaload, 1) := by decide +kernel
theorem nd_CM_cap_13 : decode nc_CM_cap 13 = .ok (.iconst 2, 1) := by decide +kernel
theorem nd_CM_cap_14 : decode nc_CM_cap 14 = .ok (.if_icmp .ne 22, 3) := by decide +kernel
theorem nd_CM_cap_17 : decode nc_CM_cap 17 = .ok (.iload_n 2, 1) := by decide +kernel
theorem nd_CM_cap_18 : decode nc_CM_cap 18 = .ok (.ifCond .lt 18, 3) := by decide +kernel
theorem nd_CM_cap_21 : decode nc_CM_cap 21 = .ok (.iload_n 2, 1) := by decide +kernel
theorem nd_CM_cap_22 : decode nc_CM_cap 22 = .ok (.iconst 3, 1) := by decide +kernel
theorem nd_CM_cap_23 : decode nc_CM_cap 23 = .ok (.if_icmp .gt 13, 3) := by decide +kernel
theorem nd_CM_cap_26 : decode nc_CM_cap 26 = .ok (.iload_n 3, 1) := by decide +kernel
theorem nd_CM_cap_27 : decode nc_CM_cap 27 = .ok (.ifCond .lt 9, 3) := by decide +kernel
theorem nd_CM_cap_30 : decode nc_CM_cap 30 = .ok (.iload_n 3, 1) := by decide +kernel
theorem nd_CM_cap_31 : decode nc_CM_cap 31 = .ok (.bipush 10, 2) := by decide +kernel
theorem nd_CM_cap_33 : decode nc_CM_cap 33 = .ok (.if_icmp .le 5, 3) := by decide +kernel
theorem nd_CM_cap_36 : decode nc_CM_cap 36 = .ok (.iconst 0, 1) := by decide +kernel
theorem nd_CM_cap_37 : decode nc_CM_cap 37 = .ok (.ireturn, 1) := by decide +kernel
theorem nd_CM_cap_38 : decode nc_CM_cap 38 = .ok (.aload_n 0, 1) := by decide +kernel
theorem nd_CM_cap_39 : decode nc_CM_cap 39 = .ok (.getfield 31, 3) := by decide +kernel
theorem nd_CM_cap_42 : decode nc_CM_cap 42 = .ok (.iconst 4, 1) := by decide +kernel
theorem nd_CM_cap_43 : decode nc_CM_cap 43 = .ok (.iload_n 1, 1) := by decide +kernel
theorem nd_CM_cap_44 : decode nc_CM_cap 44 = .ok (.imul, 1) := by decide +kernel
theorem nd_CM_cap_45 : decode nc_CM_cap 45 = .ok (.iload_n 2, 1) := by decide +kernel
theorem nd_CM_cap_46 : decode nc_CM_cap 46 = .ok (.iadd, 1) := by decide +kernel
theorem nd_CM_cap_47 : decode nc_CM_cap 47 = .ok (.iload_n 3, 1) := by decide +kernel
theorem nd_CM_cap_48 : decode nc_CM_cap 48 = .ok (.iastore, 1) := by decide +kernel
theorem nd_CM_cap_49 : decode nc_CM_cap 49 = .ok (.iconst 1, 1) := by decide +kernel
theorem nd_CM_cap_50 : decode nc_CM_cap 50 = .ok (.ireturn, 1) := by decide +kernel
set_option maxRecDepth 20000 in
theorem c_CM_cap (l : Launch) (D : va_G) (cI cG cM : ClassId)  (q : Nat → Nat) (n : Nat) (hn1 : 1 ≤ n) (hn : n ≤ 10) (g : rf_S) (y : cb_Y) (hI : rf_I n y g) (wh c0 k0 : Int32) (sz : Nat) : wb_Mi l ny_CM_cap nc_CM_cap 4 (some .boolean) ({ frames := 1, cells := 0, slots := 0, locals := 20 }) D (ty_all cI cG cM) (rf_ cI q n g) sz [.ref (q 0), .int (wh), .int (c0), .int (k0)] (fun (v : Int32) (u : rf_S) => v = (sp_cap y wh c0 k0).1 ∧ rf_I n (sp_cap y wh c0 k0).2 u) (fun u : rf_S => rf_ cI q n u) := by
  refine wb_start (S := rf_S) (by decide) (Nat.le_of_ble_eq_true rfl) ?_
  intro p e0 s0 m below meth c ls A hx hb hr hml htg hown hk hP hK hN hl hAe hsz hD hA
  have hl : lv_has ls 4 [(0, .ref (q 0)), (1, .int (wh)), (2, .int (c0)), (3, .int (k0))] := hl
  have hP : va_P D cl_all ([((q 0), .inr (6, [.int (nI (n)), .ref (q 2), .ref (q 3), .ref (q 4), .ref (q 5), .ref (q 6), .ref (q 7), .ref (q 8), .ref (q 9), .ref (q 10), .ref (q 11), .ref (q 12), .ref (q 13), .ref (q 14)])), ((q 2), .inl (cI, 10, .inl (g 0))), ((q 3), .inl (cI, 2, .inl (g 1))), ((q 4), .inl (cI, 2, .inl (g 2))), ((q 5), .inl (cI, 2, .inl (g 3))), ((q 6), .inl (cI, 20, .inl (g 4))), ((q 7), .inl (cI, 20, .inl (g 5))), ((q 8), .inl (cI, 20, .inl (g 6))), ((q 9), .inl (cI, 8, .inl (g 7))), ((q 10), .inl (cI, 80, .inl (g 8))), ((q 11), .inl (cI, 8, .inl (g 9))), ((q 12), .inl (cI, 16, .inl (g 10))), ((q 13), .inl (cI, 16, .inl (g 11))), ((q 14), .inl (cI, 2048, .inl (g 12)))]) s0.heap := hP
  have hD : va_D A ([((q 0), .inr (6, [.int (nI (n)), .ref (q 2), .ref (q 3), .ref (q 4), .ref (q 5), .ref (q 6), .ref (q 7), .ref (q 8), .ref (q 9), .ref (q 10), .ref (q 11), .ref (q 12), .ref (q 13), .ref (q 14)])), ((q 2), .inl (cI, 10, .inl (g 0))), ((q 3), .inl (cI, 2, .inl (g 1))), ((q 4), .inl (cI, 2, .inl (g 2))), ((q 5), .inl (cI, 2, .inl (g 3))), ((q 6), .inl (cI, 20, .inl (g 4))), ((q 7), .inl (cI, 20, .inl (g 5))), ((q 8), .inl (cI, 20, .inl (g 6))), ((q 9), .inl (cI, 8, .inl (g 7))), ((q 10), .inl (cI, 80, .inl (g 8))), ((q 11), .inl (cI, 8, .inl (g 9))), ((q 12), .inl (cI, 16, .inl (g 10))), ((q 13), .inl (cI, 16, .inl (g 11))), ((q 14), .inl (cI, 2048, .inl (g 12)))]) := hD
  have hS : va_S A s0.heap s0.heap [] := va_S.rf
  have hRf : 1 ≤ ({ frames := 1, cells := 0, slots := 0, locals := 20 } : Room).frames := Nat.le_refl _
  have hRl : 20 ≤ ({ frames := 1, cells := 0, slots := 0, locals := 20 } : Room).locals := Nat.le_refl _
  have hCS : 0 ≤ ({ frames := 1, cells := 0, slots := 0, locals := 20 } : Room).cells ∧ 0 ≤ ({ frames := 1, cells := 0, slots := 0, locals := 20 } : Room).slots := ⟨Nat.zero_le _, Nat.zero_le _⟩
  have h2n : 2 ^ n ≤ 1024 := Nat.pow_le_pow_right (by omega) hn
  have h2p : 1 ≤ 2 ^ n := Nat.one_le_two_pow
  have hk30 := ma_v3 (hI.2 0 (by omega)).1
  have hk31 := ma_v3 (hI.2 1 (by omega)).1
  refine lv_iload_n hx hb nd_CM_cap_0 rfl (lv_at hl 1 rfl) ?_
  rcases sm_which wh with hw1 | hw1 | hw1
  · subst hw1
    refine wc_S (n := 1) hx hb hml hown htg (c_CM_isWhich l D _ (nI 0) (nI 1) (fun _ => rfl) (fun h => absurd (Or.inl nI_0) h)) tm_432 tm_430 tm_431 tm_9 (by decide +kernel) ⟨⟨Nat.le_trans (by decide) hRf, Nat.le_trans (by decide) hRl⟩, rfl, rfl⟩ (wa_pre wa_nil hK hN) rfl hl.1 rfl (Nat.le_of_ble_eq_true rfl) nd_CM_cap_1 hCS ?_
    refine wi_if_eq (tgt := 36) hx hb (by decide) nd_CM_cap_4 rfl (fun h => absurd h (by decide)) (fun _ => ?_)
    refine lv_aload_n hx hb nd_CM_cap_7 rfl (lv_at hl 0 rfl) ?_
    refine va_get (D := D) (C := nr_CM) (T := nt_CM) (N := 14) hx hb htg tf_CM hown hK hP 0 rfl rfl 2 (by decide) (htg _ tm_385) (fun _ h => h) rfl nd_CM_cap_8 ?_
    refine lv_iload_n hx hb nd_CM_cap_11 rfl (lv_at hl 1 rfl) ?_
    refine wi_iald hx hb hK hP 2 0 rfl rfl (by omega) (by omega) nd_CM_cap_12 ?_
    refine wi_top ((hI.2 0 (by omega)).2.1) ?_
    refine wi_ic hx hb (a := 2) nd_CM_cap_13 ?_
    refine wi_icmp_ne (tgt := 36) hx hb (by omega) (by omega) nd_CM_cap_14 rfl (fun hc14 => ?_) (fun hc14 => ?_)
    · refine wi_ic hx hb (a := 0) nd_CM_cap_36 ?_
      have hsp : sp_cap y (nI (0)) c0 k0 = (nI 0, y) := by unfold sp_cap; simp [tn_0, hc14]
      exact wb_zret (g) hx hb hr hk rfl hAe (by rw [hsp]; exact ⟨rfl, hI⟩) hP hD hS nd_CM_cap_37
    · refine lv_iload_n hx hb nd_CM_cap_17 rfl (lv_at hl 2 rfl) ?_
      refine lv_if_lt (tgt := 36) hx hb nd_CM_cap_18 rfl (fun hc18 => ?_) (fun hc18 => ?_)
      · refine wi_ic hx hb (a := 0) nd_CM_cap_36 ?_
        have hsp : sp_cap y (nI (0)) c0 k0 = (nI 0, y) := by unfold sp_cap; simp [sr_f (x := c0) (b := nI 3) (fun z => z.1 hc18)]
        exact wb_zret (g) hx hb hr hk rfl hAe (by rw [hsp]; exact ⟨rfl, hI⟩) hP hD hS nd_CM_cap_37
      · refine lv_iload_n hx hb nd_CM_cap_21 rfl (lv_at hl 2 rfl) ?_
        refine wi_ic hx hb (a := 3) nd_CM_cap_22 ?_
        refine lv_icmp_gt (tgt := 36) hx hb nd_CM_cap_23 rfl (fun hc23 => ?_) (fun hc23 => ?_)
        · refine wi_ic hx hb (a := 0) nd_CM_cap_36 ?_
          have hsp : sp_cap y (nI (0)) c0 k0 = (nI 0, y) := by unfold sp_cap; simp [sr_f (x := c0) (b := nI 3) (fun z => z.2 hc23)]
          exact wb_zret (g) hx hb hr hk rfl hAe (by rw [hsp]; exact ⟨rfl, hI⟩) hP hD hS nd_CM_cap_37
        · refine lv_iload_n hx hb nd_CM_cap_26 rfl (lv_at hl 3 rfl) ?_
          refine lv_if_lt (tgt := 36) hx hb nd_CM_cap_27 rfl (fun hc27 => ?_) (fun hc27 => ?_)
          · refine wi_ic hx hb (a := 0) nd_CM_cap_36 ?_
            have hsp : sp_cap y (nI (0)) c0 k0 = (nI 0, y) := by unfold sp_cap; simp [sr_f (x := k0) (b := nI 10) (fun z => z.1 hc27)]
            exact wb_zret (g) hx hb hr hk rfl hAe (by rw [hsp]; exact ⟨rfl, hI⟩) hP hD hS nd_CM_cap_37
          · refine lv_iload_n hx hb nd_CM_cap_30 rfl (lv_at hl 3 rfl) ?_
            refine lv_bipush (v := nI 10) hx hb nd_CM_cap_31 (by decide) ?_
            refine lv_icmp_le (tgt := 38) hx hb nd_CM_cap_33 rfl (fun hc33 => ?_) (fun hc33 => ?_)
            · obtain ⟨c01, h_c01, rfl⟩ := sm_gt10 (b := 3) (by omega) hc18 hc23
              obtain ⟨k01, h_k01, rfl⟩ := sm_le10 (b := 10) (by omega) hc27 hc33
              refine lv_aload_n hx hb nd_CM_cap_38 rfl (lv_at hl 0 rfl) ?_
              refine va_get (D := D) (C := nr_CM) (T := nt_CM) (N := 14) hx hb htg tf_CM hown hK hP 0 rfl rfl 8 (by decide) (htg _ tm_391) (fun _ h => h) rfl nd_CM_cap_39 ?_
              refine wi_ic hx hb (a := 4) nd_CM_cap_42 ?_
              refine lv_iload_n hx hb nd_CM_cap_43 rfl (lv_at hl 1 rfl) ?_
              refine wi_imul hx hb nd_CM_cap_44 ?_
              refine lv_iload_n hx hb nd_CM_cap_45 rfl (lv_at hl 2 rfl) ?_
              refine wi_iadd hx hb nd_CM_cap_46 ?_
              refine lv_iload_n hx hb nd_CM_cap_47 rfl (lv_at hl 3 rfl) ?_
              refine wi_iast hx hb hK hP hD hS 8 0 rfl rfl (by omega) (by omega) nd_CM_cap_48 (fun H locs hP hD hS => ?_)
              have hP : va_P D cl_all ([((q 0), .inr (6, [.int (nI (n)), .ref (q 2), .ref (q 3), .ref (q 4), .ref (q 5), .ref (q 6), .ref (q 7), .ref (q 8), .ref (q 9), .ref (q 10), .ref (q 11), .ref (q 12), .ref (q 13), .ref (q 14)])), ((q 2), .inl (cI, 10, .inl (g 0))), ((q 3), .inl (cI, 2, .inl (g 1))), ((q 4), .inl (cI, 2, .inl (g 2))), ((q 5), .inl (cI, 2, .inl (g 3))), ((q 6), .inl (cI, 20, .inl (g 4))), ((q 7), .inl (cI, 20, .inl (g 5))), ((q 8), .inl (cI, 20, .inl (g 6))), ((q 9), .inl (cI, 8, .inl (upd (g 7) ((4 * 0) + c01) (nI (k01))))), ((q 10), .inl (cI, 80, .inl (g 8))), ((q 11), .inl (cI, 8, .inl (g 9))), ((q 12), .inl (cI, 16, .inl (g 10))), ((q 13), .inl (cI, 16, .inl (g 11))), ((q 14), .inl (cI, 2048, .inl (g 12)))]) H := hP
              have hD : va_D A ([((q 0), .inr (6, [.int (nI (n)), .ref (q 2), .ref (q 3), .ref (q 4), .ref (q 5), .ref (q 6), .ref (q 7), .ref (q 8), .ref (q 9), .ref (q 10), .ref (q 11), .ref (q 12), .ref (q 13), .ref (q 14)])), ((q 2), .inl (cI, 10, .inl (g 0))), ((q 3), .inl (cI, 2, .inl (g 1))), ((q 4), .inl (cI, 2, .inl (g 2))), ((q 5), .inl (cI, 2, .inl (g 3))), ((q 6), .inl (cI, 20, .inl (g 4))), ((q 7), .inl (cI, 20, .inl (g 5))), ((q 8), .inl (cI, 20, .inl (g 6))), ((q 9), .inl (cI, 8, .inl (upd (g 7) ((4 * 0) + c01) (nI (k01))))), ((q 10), .inl (cI, 80, .inl (g 8))), ((q 11), .inl (cI, 8, .inl (g 9))), ((q 12), .inl (cI, 16, .inl (g 10))), ((q 13), .inl (cI, 16, .inl (g 11))), ((q 14), .inl (cI, 2048, .inl (g 12)))]) := hD
              refine wi_ic hx hb (a := 1) nd_CM_cap_49 ?_
              have hsp : sp_cap y (nI 0) (nI c01) (nI k01) = (nI 1, cb_s y 0 ((cb_m y 0).1, (cb_m y 0).2.1, (cb_m y 0).2.2.1, (cb_m y 0).2.2.2.1, (cb_m y 0).2.2.2.2.1, va_up (cb_m y 0).2.2.2.2.2.1 c01 k01, (cb_m y 0).2.2.2.2.2.2)) := by unfold sp_cap; simp only [sw_0, tn_0, sr_t h_c01 (show 3 < 2 ^ 31 by omega), tn_nI (show c01 < 2 ^ 31 by omega), sr_t h_k01 (show 10 < 2 ^ 31 by omega), tn_nI (show k01 < 2 ^ 31 by omega)]; simp [hc14]
              exact wb_zret ((va_up g 7 (upd (g 7) ((4 * 0) + c01) (nI (k01))))) hx hb hr hk rfl hAe (by rw [hsp]; exact ⟨rfl, rf_cap (w := 0) hn hI (by omega) hc14 h_c01 h_k01⟩) hP hD hS nd_CM_cap_50
            · refine wi_ic hx hb (a := 0) nd_CM_cap_36 ?_
              have hsp : sp_cap y (nI (0)) c0 k0 = (nI 0, y) := by unfold sp_cap; simp [sr_f (x := k0) (b := nI 10) (fun z => z.2 (Int32.not_le.mp hc33))]
              exact wb_zret (g) hx hb hr hk rfl hAe (by rw [hsp]; exact ⟨rfl, hI⟩) hP hD hS nd_CM_cap_37
  · subst hw1
    refine wc_S (n := 1) hx hb hml hown htg (c_CM_isWhich l D _ (nI 1) (nI 1) (fun _ => rfl) (fun h => absurd (Or.inr rfl) h)) tm_432 tm_430 tm_431 tm_9 (by decide +kernel) ⟨⟨Nat.le_trans (by decide) hRf, Nat.le_trans (by decide) hRl⟩, rfl, rfl⟩ (wa_pre wa_nil hK hN) rfl hl.1 rfl (Nat.le_of_ble_eq_true rfl) nd_CM_cap_1 hCS ?_
    refine wi_if_eq (tgt := 36) hx hb (by decide) nd_CM_cap_4 rfl (fun h => absurd h (by decide)) (fun _ => ?_)
    refine lv_aload_n hx hb nd_CM_cap_7 rfl (lv_at hl 0 rfl) ?_
    refine va_get (D := D) (C := nr_CM) (T := nt_CM) (N := 14) hx hb htg tf_CM hown hK hP 0 rfl rfl 2 (by decide) (htg _ tm_385) (fun _ h => h) rfl nd_CM_cap_8 ?_
    refine lv_iload_n hx hb nd_CM_cap_11 rfl (lv_at hl 1 rfl) ?_
    refine wi_iald hx hb hK hP 2 0 rfl rfl (by omega) (by omega) nd_CM_cap_12 ?_
    refine wi_top ((hI.2 1 (by omega)).2.1) ?_
    refine wi_ic hx hb (a := 2) nd_CM_cap_13 ?_
    refine wi_icmp_ne (tgt := 36) hx hb (by omega) (by omega) nd_CM_cap_14 rfl (fun hc14 => ?_) (fun hc14 => ?_)
    · refine wi_ic hx hb (a := 0) nd_CM_cap_36 ?_
      have hsp : sp_cap y (nI (1)) c0 k0 = (nI 0, y) := by unfold sp_cap; simp [tn_1, hc14]
      exact wb_zret (g) hx hb hr hk rfl hAe (by rw [hsp]; exact ⟨rfl, hI⟩) hP hD hS nd_CM_cap_37
    · refine lv_iload_n hx hb nd_CM_cap_17 rfl (lv_at hl 2 rfl) ?_
      refine lv_if_lt (tgt := 36) hx hb nd_CM_cap_18 rfl (fun hc18 => ?_) (fun hc18 => ?_)
      · refine wi_ic hx hb (a := 0) nd_CM_cap_36 ?_
        have hsp : sp_cap y (nI (1)) c0 k0 = (nI 0, y) := by unfold sp_cap; simp [sr_f (x := c0) (b := nI 3) (fun z => z.1 hc18)]
        exact wb_zret (g) hx hb hr hk rfl hAe (by rw [hsp]; exact ⟨rfl, hI⟩) hP hD hS nd_CM_cap_37
      · refine lv_iload_n hx hb nd_CM_cap_21 rfl (lv_at hl 2 rfl) ?_
        refine wi_ic hx hb (a := 3) nd_CM_cap_22 ?_
        refine lv_icmp_gt (tgt := 36) hx hb nd_CM_cap_23 rfl (fun hc23 => ?_) (fun hc23 => ?_)
        · refine wi_ic hx hb (a := 0) nd_CM_cap_36 ?_
          have hsp : sp_cap y (nI (1)) c0 k0 = (nI 0, y) := by unfold sp_cap; simp [sr_f (x := c0) (b := nI 3) (fun z => z.2 hc23)]
          exact wb_zret (g) hx hb hr hk rfl hAe (by rw [hsp]; exact ⟨rfl, hI⟩) hP hD hS nd_CM_cap_37
        · refine lv_iload_n hx hb nd_CM_cap_26 rfl (lv_at hl 3 rfl) ?_
          refine lv_if_lt (tgt := 36) hx hb nd_CM_cap_27 rfl (fun hc27 => ?_) (fun hc27 => ?_)
          · refine wi_ic hx hb (a := 0) nd_CM_cap_36 ?_
            have hsp : sp_cap y (nI (1)) c0 k0 = (nI 0, y) := by unfold sp_cap; simp [sr_f (x := k0) (b := nI 10) (fun z => z.1 hc27)]
            exact wb_zret (g) hx hb hr hk rfl hAe (by rw [hsp]; exact ⟨rfl, hI⟩) hP hD hS nd_CM_cap_37
          · refine lv_iload_n hx hb nd_CM_cap_30 rfl (lv_at hl 3 rfl) ?_
            refine lv_bipush (v := nI 10) hx hb nd_CM_cap_31 (by decide) ?_
            refine lv_icmp_le (tgt := 38) hx hb nd_CM_cap_33 rfl (fun hc33 => ?_) (fun hc33 => ?_)
            · obtain ⟨c01, h_c01, rfl⟩ := sm_gt10 (b := 3) (by omega) hc18 hc23
              obtain ⟨k01, h_k01, rfl⟩ := sm_le10 (b := 10) (by omega) hc27 hc33
              refine lv_aload_n hx hb nd_CM_cap_38 rfl (lv_at hl 0 rfl) ?_
              refine va_get (D := D) (C := nr_CM) (T := nt_CM) (N := 14) hx hb htg tf_CM hown hK hP 0 rfl rfl 8 (by decide) (htg _ tm_391) (fun _ h => h) rfl nd_CM_cap_39 ?_
              refine wi_ic hx hb (a := 4) nd_CM_cap_42 ?_
              refine lv_iload_n hx hb nd_CM_cap_43 rfl (lv_at hl 1 rfl) ?_
              refine wi_imul hx hb nd_CM_cap_44 ?_
              refine lv_iload_n hx hb nd_CM_cap_45 rfl (lv_at hl 2 rfl) ?_
              refine wi_iadd hx hb nd_CM_cap_46 ?_
              refine lv_iload_n hx hb nd_CM_cap_47 rfl (lv_at hl 3 rfl) ?_
              refine wi_iast hx hb hK hP hD hS 8 0 rfl rfl (by omega) (by omega) nd_CM_cap_48 (fun H locs hP hD hS => ?_)
              have hP : va_P D cl_all ([((q 0), .inr (6, [.int (nI (n)), .ref (q 2), .ref (q 3), .ref (q 4), .ref (q 5), .ref (q 6), .ref (q 7), .ref (q 8), .ref (q 9), .ref (q 10), .ref (q 11), .ref (q 12), .ref (q 13), .ref (q 14)])), ((q 2), .inl (cI, 10, .inl (g 0))), ((q 3), .inl (cI, 2, .inl (g 1))), ((q 4), .inl (cI, 2, .inl (g 2))), ((q 5), .inl (cI, 2, .inl (g 3))), ((q 6), .inl (cI, 20, .inl (g 4))), ((q 7), .inl (cI, 20, .inl (g 5))), ((q 8), .inl (cI, 20, .inl (g 6))), ((q 9), .inl (cI, 8, .inl (upd (g 7) ((4 * 1) + c01) (nI (k01))))), ((q 10), .inl (cI, 80, .inl (g 8))), ((q 11), .inl (cI, 8, .inl (g 9))), ((q 12), .inl (cI, 16, .inl (g 10))), ((q 13), .inl (cI, 16, .inl (g 11))), ((q 14), .inl (cI, 2048, .inl (g 12)))]) H := hP
              have hD : va_D A ([((q 0), .inr (6, [.int (nI (n)), .ref (q 2), .ref (q 3), .ref (q 4), .ref (q 5), .ref (q 6), .ref (q 7), .ref (q 8), .ref (q 9), .ref (q 10), .ref (q 11), .ref (q 12), .ref (q 13), .ref (q 14)])), ((q 2), .inl (cI, 10, .inl (g 0))), ((q 3), .inl (cI, 2, .inl (g 1))), ((q 4), .inl (cI, 2, .inl (g 2))), ((q 5), .inl (cI, 2, .inl (g 3))), ((q 6), .inl (cI, 20, .inl (g 4))), ((q 7), .inl (cI, 20, .inl (g 5))), ((q 8), .inl (cI, 20, .inl (g 6))), ((q 9), .inl (cI, 8, .inl (upd (g 7) ((4 * 1) + c01) (nI (k01))))), ((q 10), .inl (cI, 80, .inl (g 8))), ((q 11), .inl (cI, 8, .inl (g 9))), ((q 12), .inl (cI, 16, .inl (g 10))), ((q 13), .inl (cI, 16, .inl (g 11))), ((q 14), .inl (cI, 2048, .inl (g 12)))]) := hD
              refine wi_ic hx hb (a := 1) nd_CM_cap_49 ?_
              have hsp : sp_cap y (nI 1) (nI c01) (nI k01) = (nI 1, cb_s y 1 ((cb_m y 1).1, (cb_m y 1).2.1, (cb_m y 1).2.2.1, (cb_m y 1).2.2.2.1, (cb_m y 1).2.2.2.2.1, va_up (cb_m y 1).2.2.2.2.2.1 c01 k01, (cb_m y 1).2.2.2.2.2.2)) := by unfold sp_cap; simp only [sw_1, tn_1, sr_t h_c01 (show 3 < 2 ^ 31 by omega), tn_nI (show c01 < 2 ^ 31 by omega), sr_t h_k01 (show 10 < 2 ^ 31 by omega), tn_nI (show k01 < 2 ^ 31 by omega)]; simp [hc14]
              exact wb_zret ((va_up g 7 (upd (g 7) ((4 * 1) + c01) (nI (k01))))) hx hb hr hk rfl hAe (by rw [hsp]; exact ⟨rfl, rf_cap (w := 1) hn hI (by omega) hc14 h_c01 h_k01⟩) hP hD hS nd_CM_cap_50
            · refine wi_ic hx hb (a := 0) nd_CM_cap_36 ?_
              have hsp : sp_cap y (nI (1)) c0 k0 = (nI 0, y) := by unfold sp_cap; simp [sr_f (x := k0) (b := nI 10) (fun z => z.2 (Int32.not_le.mp hc33))]
              exact wb_zret (g) hx hb hr hk rfl hAe (by rw [hsp]; exact ⟨rfl, hI⟩) hP hD hS nd_CM_cap_37
  · refine wc_S (n := 1) hx hb hml hown htg (c_CM_isWhich l D _ wh (nI 0) (fun h => absurd h (fun z => z.elim (fun z => hw1.1 (z.trans nI_0.symm)) hw1.2)) (fun _ => rfl)) tm_432 tm_430 tm_431 tm_9 (by decide +kernel) ⟨⟨Nat.le_trans (by decide) hRf, Nat.le_trans (by decide) hRl⟩, rfl, rfl⟩ (wa_pre wa_nil hK hN) rfl hl.1 rfl (Nat.le_of_ble_eq_true rfl) nd_CM_cap_1 hCS ?_
    refine wi_if_eq (tgt := 36) hx hb (by decide) nd_CM_cap_4 rfl (fun _ => ?_) (fun h => absurd h (by decide))
    refine wi_ic hx hb (a := 0) nd_CM_cap_36 ?_
    have hsp : sp_cap y wh c0 k0 = (nI 0, y) := by unfold sp_cap; simp [sw_n hw1]
    exact wb_zret (g) hx hb hr hk rfl hAe (by rw [hsp]; exact ⟨rfl, hI⟩) hP hD hS nd_CM_cap_37
theorem nd_CM_entry_0 : decode nc_CM_entry 0 = .ok (.iload_n 1, 1) := by decide +kernel
theorem nd_CM_entry_1 : decode nc_CM_entry 1 = .ok (.invokestatic 53, 3) := by decide +kernel
theorem nd_CM_entry_4 : decode nc_CM_entry 4 = .ok (.ifCond .eq 30, 3) := by decide +kernel
theorem nd_CM_entry_7 : decode nc_CM_entry 7 = .ok (.aload_n 0, 1) := by decide +kernel
theorem nd_CM_entry_8 : decode nc_CM_entry 8 = .ok (.getfield 13, 3) := by decide +kernel
theorem nd_CM_entry_11 : decode nc_CM_entry 11 = .ok (.iload_n 1, 1) := by decide +kernel
theorem nd_CM_entry_12 : decode nc_CM_entry 12 = .ok (.iaload, 1) := by decide +kernel
theorem nd_CM_entry_13 : decode nc_CM_entry 13 = .ok (.iconst 3, 1) := by decide +kernel
theorem nd_CM_entry_14 : decode nc_CM_entry 14 = .ok (.if_icmp .ne 20, 3) := by decide +kernel
theorem nd_CM_entry_17 : decode nc_CM_entry 17 = .ok (.aload_n 0, 1) := by decide +kernel
theorem nd_CM_entry_18 : decode nc_CM_entry 18 = .ok (.iload_n 2, 1) := by decide +kernel
theorem nd_CM_entry_19 : decode nc_CM_entry 19 = .ok (.invokevirtual 61, 3) := by decide +kernel
theorem nd_CM_entry_22 : decode nc_CM_entry 22 = .ok (.ifCond .eq 12, 3) := by decide +kernel
theorem nd_CM_entry_25 : decode nc_CM_entry 25 = .ok (.iload_n 3, 1) := by decide +kernel
theorem nd_CM_entry_26 : decode nc_CM_entry 26 = .ok (.ifCond .lt 8, 3) := by decide +kernel
theorem nd_CM_entry_29 : decode nc_CM_entry 29 = .ok (.iload_n 3, 1) := by decide +kernel
theorem nd_CM_entry_30 : decode nc_CM_entry 30 = .ok (.iconst 3, 1) := by decide +kernel
theorem nd_CM_entry_31 : decode nc_CM_entry 31 = .ok (.if_icmp .le 5, 3) := by decide +kernel
theorem nd_CM_entry_34 : decode nc_CM_entry 34 = .ok (.iconst 0, 1) := by decide +kernel
theorem nd_CM_entry_35 : decode nc_CM_entry 35 = .ok (.ireturn, 1) := by decide +kernel
theorem nd_CM_entry_36 : decode nc_CM_entry 36 = .ok (.aload_n 0, 1) := by decide +kernel
theorem nd_CM_entry_37 : decode nc_CM_entry 37 = .ok (.getfield 19, 3) := by decide +kernel
theorem nd_CM_entry_40 : decode nc_CM_entry 40 = .ok (.iload_n 1, 1) := by decide +kernel
theorem nd_CM_entry_41 : decode nc_CM_entry 41 = .ok (.iaload, 1) := by decide +kernel
theorem nd_CM_entry_42 : decode nc_CM_entry 42 = .ok (.istore 5, 2) := by decide +kernel
theorem nd_CM_entry_44 : decode nc_CM_entry 44 = .ok (.aload_n 0, 1) := by decide +kernel
theorem nd_CM_entry_45 : decode nc_CM_entry 45 = .ok (.getfield 34, 3) := by decide +kernel
theorem nd_CM_entry_48 : decode nc_CM_entry 48 = .ok (.bipush 40, 2) := by decide +kernel
theorem nd_CM_entry_50 : decode nc_CM_entry 50 = .ok (.iload_n 1, 1) := by decide +kernel
theorem nd_CM_entry_51 : decode nc_CM_entry 51 = .ok (.imul, 1) := by decide +kernel
theorem nd_CM_entry_52 : decode nc_CM_entry 52 = .ok (.iconst 4, 1) := by decide +kernel
theorem nd_CM_entry_53 : decode nc_CM_entry 53 = .ok (.iload_n 2, 1) := by decide +kernel
theorem nd_CM_entry_54 : decode nc_CM_entry 54 = .ok (.imul, 1) := by decide +kernel
theorem nd_CM_entry_55 : decode nc_CM_entry 55 = .ok (.iadd, 1) := by decide +kernel
theorem nd_CM_entry_56 : decode nc_CM_entry 56 = .ok (.iload_n 3, 1) := by decide +kernel
theorem nd_CM_entry_57 : decode nc_CM_entry 57 = .ok (.iadd, 1) := by decide +kernel
theorem nd_CM_entry_58 : decode nc_CM_entry 58 = .ok (.iload 4, 2) := by decide +kernel
theorem nd_CM_entry_60 : decode nc_CM_entry 60 = .ok (.iload 5, 2) := by decide +kernel
theorem nd_CM_entry_62 : decode nc_CM_entry 62 = .ok (.irem, 1) := by decide +kernel
theorem nd_CM_entry_63 : decode nc_CM_entry 63 = .ok (.iload 5, 2) := by decide +kernel
theorem nd_CM_entry_65 : decode nc_CM_entry 65 = .ok (.iadd, 1) := by decide +kernel
theorem nd_CM_entry_66 : decode nc_CM_entry 66 = .ok (.iload 5, 2) := by decide +kernel
theorem nd_CM_entry_68 : decode nc_CM_entry 68 = .ok (.irem, 1) := by decide +kernel
theorem nd_CM_entry_69 : decode nc_CM_entry 69 = .ok (.iastore, 1) := by decide +kernel
theorem nd_CM_entry_70 : decode nc_CM_entry 70 = .ok (.iconst 1, 1) := by decide +kernel
theorem nd_CM_entry_71 : decode nc_CM_entry 71 = .ok (.ireturn, 1) := by decide +kernel
set_option maxRecDepth 20000 in
theorem c_CM_entry (l : Launch) (D : va_G) (cI cG cM : ClassId)  (q : Nat → Nat) (n : Nat) (hn1 : 1 ≤ n) (hn : n ≤ 10) (g : rf_S) (y : cb_Y) (hI : rf_I n y g) (wh el r0 v0 : Int32) (sz : Nat) : wb_Mi l ny_CM_entry nc_CM_entry 6 (some .boolean) ({ frames := 1, cells := 0, slots := 0, locals := 21 }) D (ty_all cI cG cM) (rf_ cI q n g) sz [.ref (q 0), .int (wh), .int (el), .int (r0), .int (v0)] (fun (v : Int32) (u : rf_S) => v = (sp_entry n y wh el r0 v0).1 ∧ rf_I n (sp_entry n y wh el r0 v0).2 u) (fun u : rf_S => rf_ cI q n u) := by
  refine wb_start (S := rf_S) (by decide) (Nat.le_of_ble_eq_true rfl) ?_
  intro p e0 s0 m below meth c ls A hx hb hr hml htg hown hk hP hK hN hl hAe hsz hD hA
  have hl : lv_has ls 6 [(0, .ref (q 0)), (1, .int (wh)), (2, .int (el)), (3, .int (r0)), (4, .int (v0))] := hl
  have hP : va_P D cl_all ([((q 0), .inr (6, [.int (nI (n)), .ref (q 2), .ref (q 3), .ref (q 4), .ref (q 5), .ref (q 6), .ref (q 7), .ref (q 8), .ref (q 9), .ref (q 10), .ref (q 11), .ref (q 12), .ref (q 13), .ref (q 14)])), ((q 2), .inl (cI, 10, .inl (g 0))), ((q 3), .inl (cI, 2, .inl (g 1))), ((q 4), .inl (cI, 2, .inl (g 2))), ((q 5), .inl (cI, 2, .inl (g 3))), ((q 6), .inl (cI, 20, .inl (g 4))), ((q 7), .inl (cI, 20, .inl (g 5))), ((q 8), .inl (cI, 20, .inl (g 6))), ((q 9), .inl (cI, 8, .inl (g 7))), ((q 10), .inl (cI, 80, .inl (g 8))), ((q 11), .inl (cI, 8, .inl (g 9))), ((q 12), .inl (cI, 16, .inl (g 10))), ((q 13), .inl (cI, 16, .inl (g 11))), ((q 14), .inl (cI, 2048, .inl (g 12)))]) s0.heap := hP
  have hD : va_D A ([((q 0), .inr (6, [.int (nI (n)), .ref (q 2), .ref (q 3), .ref (q 4), .ref (q 5), .ref (q 6), .ref (q 7), .ref (q 8), .ref (q 9), .ref (q 10), .ref (q 11), .ref (q 12), .ref (q 13), .ref (q 14)])), ((q 2), .inl (cI, 10, .inl (g 0))), ((q 3), .inl (cI, 2, .inl (g 1))), ((q 4), .inl (cI, 2, .inl (g 2))), ((q 5), .inl (cI, 2, .inl (g 3))), ((q 6), .inl (cI, 20, .inl (g 4))), ((q 7), .inl (cI, 20, .inl (g 5))), ((q 8), .inl (cI, 20, .inl (g 6))), ((q 9), .inl (cI, 8, .inl (g 7))), ((q 10), .inl (cI, 80, .inl (g 8))), ((q 11), .inl (cI, 8, .inl (g 9))), ((q 12), .inl (cI, 16, .inl (g 10))), ((q 13), .inl (cI, 16, .inl (g 11))), ((q 14), .inl (cI, 2048, .inl (g 12)))]) := hD
  have hS : va_S A s0.heap s0.heap [] := va_S.rf
  have hRf : 1 ≤ ({ frames := 1, cells := 0, slots := 0, locals := 21 } : Room).frames := Nat.le_refl _
  have hRl : 21 ≤ ({ frames := 1, cells := 0, slots := 0, locals := 21 } : Room).locals := Nat.le_refl _
  have hCS : 0 ≤ ({ frames := 1, cells := 0, slots := 0, locals := 21 } : Room).cells ∧ 0 ≤ ({ frames := 1, cells := 0, slots := 0, locals := 21 } : Room).slots := ⟨Nat.zero_le _, Nat.zero_le _⟩
  have h2n : 2 ^ n ≤ 1024 := Nat.pow_le_pow_right (by omega) hn
  have h2p : 1 ≤ 2 ^ n := Nat.one_le_two_pow
  have hk30 := ma_v3 (hI.2 0 (by omega)).1
  have hk31 := ma_v3 (hI.2 1 (by omega)).1
  refine lv_iload_n hx hb nd_CM_entry_0 rfl (lv_at hl 1 rfl) ?_
  rcases sm_which wh with hw1 | hw1 | hw1
  · subst hw1
    refine wc_S (n := 1) hx hb hml hown htg (c_CM_isWhich l D _ (nI 0) (nI 1) (fun _ => rfl) (fun h => absurd (Or.inl nI_0) h)) tm_432 tm_430 tm_431 tm_9 (by decide +kernel) ⟨⟨Nat.le_trans (by decide) hRf, Nat.le_trans (by decide) hRl⟩, rfl, rfl⟩ (wa_pre wa_nil hK hN) rfl hl.1 rfl (Nat.le_of_ble_eq_true rfl) nd_CM_entry_1 hCS ?_
    refine wi_if_eq (tgt := 34) hx hb (by decide) nd_CM_entry_4 rfl (fun h => absurd h (by decide)) (fun _ => ?_)
    refine lv_aload_n hx hb nd_CM_entry_7 rfl (lv_at hl 0 rfl) ?_
    refine va_get (D := D) (C := nr_CM) (T := nt_CM) (N := 14) hx hb htg tf_CM hown hK hP 0 rfl rfl 2 (by decide) (htg _ tm_385) (fun _ h => h) rfl nd_CM_entry_8 ?_
    refine lv_iload_n hx hb nd_CM_entry_11 rfl (lv_at hl 1 rfl) ?_
    refine wi_iald hx hb hK hP 2 0 rfl rfl (by omega) (by omega) nd_CM_entry_12 ?_
    refine wi_top ((hI.2 0 (by omega)).2.1) ?_
    refine wi_ic hx hb (a := 3) nd_CM_entry_13 ?_
    refine wi_icmp_ne (tgt := 34) hx hb (by omega) (by omega) nd_CM_entry_14 rfl (fun hc14 => ?_) (fun hc14 => ?_)
    · refine wi_ic hx hb (a := 0) nd_CM_entry_34 ?_
      have hsp : sp_entry n y (nI (0)) el r0 v0 = (nI 0, y) := by unfold sp_entry; simp [tn_0, hc14]
      exact wb_zret (g) hx hb hr hk rfl hAe (by rw [hsp]; exact ⟨rfl, hI⟩) hP hD hS nd_CM_entry_35
    · refine lv_aload_n hx hb nd_CM_entry_17 rfl (lv_at hl 0 rfl) ?_
      refine lv_iload_n hx hb nd_CM_entry_18 rfl (lv_at hl 2 rfl) ?_
      by_cases hq19 : ¬ el < 0 ∧ ¬ nI n ≤ el
      · obtain ⟨el1, h_el1, rfl⟩ := sm_elem (by omega) hq19
        refine wc_V (C := nr_CM) (n := 1) hx hb hml hown htg (c_CM_isElement l D _ q n (nI el1) (nI 1) (fun _ => rfl) (fun h => absurd hq19 h)) tm_448 tm_445 tm_447 tp_13 tm_9 (by decide +kernel) ⟨⟨Nat.le_trans (by decide) hRf, Nat.le_trans (by decide) hRl⟩, rfl, rfl⟩ (wa_pre (hP.sub [0] rfl) hK hN) (va_recv (q0 := 0) (ci := 6) hK hP rfl rfl) rfl hl.1 rfl (Nat.le_of_ble_eq_true rfl) nd_CM_entry_19 hCS ?_
        refine wi_if_eq (tgt := 34) hx hb (by decide) nd_CM_entry_22 rfl (fun h => absurd h (by decide)) (fun _ => ?_)
        refine lv_iload_n hx hb nd_CM_entry_25 rfl (lv_at hl 3 rfl) ?_
        refine lv_if_lt (tgt := 34) hx hb nd_CM_entry_26 rfl (fun hc26 => ?_) (fun hc26 => ?_)
        · refine wi_ic hx hb (a := 0) nd_CM_entry_34 ?_
          have hsp : sp_entry n y (nI (0)) (nI (el1)) r0 v0 = (nI 0, y) := by unfold sp_entry; simp [sr_f (x := r0) (b := nI 3) (fun z => z.1 hc26)]
          exact wb_zret (g) hx hb hr hk rfl hAe (by rw [hsp]; exact ⟨rfl, hI⟩) hP hD hS nd_CM_entry_35
        · refine lv_iload_n hx hb nd_CM_entry_29 rfl (lv_at hl 3 rfl) ?_
          refine wi_ic hx hb (a := 3) nd_CM_entry_30 ?_
          refine lv_icmp_le (tgt := 36) hx hb nd_CM_entry_31 rfl (fun hc31 => ?_) (fun hc31 => ?_)
          · obtain ⟨r01, h_r01, rfl⟩ := sm_le10 (b := 3) (by omega) hc26 hc31
            have hmp := (rf_k3 (hI.2 0 (by omega)).2 hc14).1
            have hpp := (va_k3 (hI.2 0 (by omega)).1 hc14).1
            refine lv_aload_n hx hb nd_CM_entry_36 rfl (lv_at hl 0 rfl) ?_
            refine va_get (D := D) (C := nr_CM) (T := nt_CM) (N := 14) hx hb htg tf_CM hown hK hP 0 rfl rfl 4 (by decide) (htg _ tm_387) (fun _ h => h) rfl nd_CM_entry_37 ?_
            refine lv_iload_n hx hb nd_CM_entry_40 rfl (lv_at hl 1 rfl) ?_
            refine wi_iald hx hb hK hP 4 0 rfl rfl (by omega) (by omega) nd_CM_entry_41 ?_
            refine wi_top (hmp) ?_
            refine lv_istore hx hb nd_CM_entry_42 hl (by decide) rfl (fun ls hl => ?_)
            have hl : lv_has ls 6 [(5, .int (nI ((cb_m y 0).2.2.2.2.2.2.1))), (0, .ref (q 0)), (1, .int (nI (0))), (2, .int (nI (el1))), (3, .int (nI (r01))), (4, .int (v0))] := hl
            refine lv_aload_n hx hb nd_CM_entry_44 rfl (lv_at hl 1 rfl) ?_
            refine va_get (D := D) (C := nr_CM) (T := nt_CM) (N := 14) hx hb htg tf_CM hown hK hP 0 rfl rfl 9 (by decide) (htg _ tm_392) (fun _ h => h) rfl nd_CM_entry_45 ?_
            refine lv_bipush (v := nI 40) hx hb nd_CM_entry_48 (by decide) ?_
            refine lv_iload_n hx hb nd_CM_entry_50 rfl (lv_at hl 2 rfl) ?_
            refine wi_imul hx hb nd_CM_entry_51 ?_
            refine wi_ic hx hb (a := 4) nd_CM_entry_52 ?_
            refine lv_iload_n hx hb nd_CM_entry_53 rfl (lv_at hl 3 rfl) ?_
            refine wi_imul hx hb nd_CM_entry_54 ?_
            refine wi_iadd hx hb nd_CM_entry_55 ?_
            refine lv_iload_n hx hb nd_CM_entry_56 rfl (lv_at hl 4 rfl) ?_
            refine wi_iadd hx hb nd_CM_entry_57 ?_
            refine lv_iload hx hb nd_CM_entry_58 (lv_at hl 5 rfl) ?_
            refine lv_iload hx hb nd_CM_entry_60 (lv_at hl 0 rfl) ?_
            refine lv_irem hx hb nd_CM_entry_62 (rm_nz hpp) ?_
            refine lv_iload hx hb nd_CM_entry_63 (lv_at hl 0 rfl) ?_
            refine lv_iadd hx hb nd_CM_entry_65 ?_
            refine lv_iload hx hb nd_CM_entry_66 (lv_at hl 0 rfl) ?_
            refine lv_irem hx hb nd_CM_entry_68 (rm_nz hpp) ?_
            refine wi_top (rm_ hpp) ?_
            refine wi_iast hx hb hK hP hD hS 9 0 rfl rfl (by omega) (by omega) nd_CM_entry_69 (fun H locs hP hD hS => ?_)
            have hP : va_P D cl_all ([((q 0), .inr (6, [.int (nI (n)), .ref (q 2), .ref (q 3), .ref (q 4), .ref (q 5), .ref (q 6), .ref (q 7), .ref (q 8), .ref (q 9), .ref (q 10), .ref (q 11), .ref (q 12), .ref (q 13), .ref (q 14)])), ((q 2), .inl (cI, 10, .inl (g 0))), ((q 3), .inl (cI, 2, .inl (g 1))), ((q 4), .inl (cI, 2, .inl (g 2))), ((q 5), .inl (cI, 2, .inl (g 3))), ((q 6), .inl (cI, 20, .inl (g 4))), ((q 7), .inl (cI, 20, .inl (g 5))), ((q 8), .inl (cI, 20, .inl (g 6))), ((q 9), .inl (cI, 8, .inl (g 7))), ((q 10), .inl (cI, 80, .inl (upd (g 8) (((40 * 0) + (4 * el1)) + r01) (nI (fm_ v0 (cb_m y 0).2.2.2.2.2.2.1))))), ((q 11), .inl (cI, 8, .inl (g 9))), ((q 12), .inl (cI, 16, .inl (g 10))), ((q 13), .inl (cI, 16, .inl (g 11))), ((q 14), .inl (cI, 2048, .inl (g 12)))]) H := hP
            have hD : va_D A ([((q 0), .inr (6, [.int (nI (n)), .ref (q 2), .ref (q 3), .ref (q 4), .ref (q 5), .ref (q 6), .ref (q 7), .ref (q 8), .ref (q 9), .ref (q 10), .ref (q 11), .ref (q 12), .ref (q 13), .ref (q 14)])), ((q 2), .inl (cI, 10, .inl (g 0))), ((q 3), .inl (cI, 2, .inl (g 1))), ((q 4), .inl (cI, 2, .inl (g 2))), ((q 5), .inl (cI, 2, .inl (g 3))), ((q 6), .inl (cI, 20, .inl (g 4))), ((q 7), .inl (cI, 20, .inl (g 5))), ((q 8), .inl (cI, 20, .inl (g 6))), ((q 9), .inl (cI, 8, .inl (g 7))), ((q 10), .inl (cI, 80, .inl (upd (g 8) (((40 * 0) + (4 * el1)) + r01) (nI (fm_ v0 (cb_m y 0).2.2.2.2.2.2.1))))), ((q 11), .inl (cI, 8, .inl (g 9))), ((q 12), .inl (cI, 16, .inl (g 10))), ((q 13), .inl (cI, 16, .inl (g 11))), ((q 14), .inl (cI, 2048, .inl (g 12)))]) := hD
            refine wi_ic hx hb (a := 1) nd_CM_entry_70 ?_
            have hsp : sp_entry n y (nI 0) (nI el1) (nI r01) v0 = (nI 1, cb_s y 0 ((cb_m y 0).1, (cb_m y 0).2.1, (cb_m y 0).2.2.1, (cb_m y 0).2.2.2.1, (cb_m y 0).2.2.2.2.1, (cb_m y 0).2.2.2.2.2.1, (cb_m y 0).2.2.2.2.2.2.1, va_up (cb_m y 0).2.2.2.2.2.2.2 el1 (va_up ((cb_m y 0).2.2.2.2.2.2.2 el1) r01 (fm_ v0 (cb_m y 0).2.2.2.2.2.2.1)))) := by unfold sp_entry; simp only [sw_0, tn_0, sz_t h_el1 (show n < 2 ^ 31 by omega), tn_nI (show el1 < 2 ^ 31 by omega), sr_t h_r01 (show 3 < 2 ^ 31 by omega), tn_nI (show r01 < 2 ^ 31 by omega)]; simp [hc14]
            exact wb_zret ((va_up g 8 (upd (g 8) (((40 * 0) + (4 * el1)) + r01) (nI (fm_ v0 (cb_m y 0).2.2.2.2.2.2.1))))) hx hb hr hk rfl hAe (by rw [hsp]; exact ⟨rfl, rf_entry (w := 0) hn hI (by omega) hc14 h_el1 h_r01⟩) hP hD hS nd_CM_entry_71
          · refine wi_ic hx hb (a := 0) nd_CM_entry_34 ?_
            have hsp : sp_entry n y (nI (0)) (nI (el1)) r0 v0 = (nI 0, y) := by unfold sp_entry; simp [sr_f (x := r0) (b := nI 3) (fun z => z.2 (Int32.not_le.mp hc31))]
            exact wb_zret (g) hx hb hr hk rfl hAe (by rw [hsp]; exact ⟨rfl, hI⟩) hP hD hS nd_CM_entry_35
      · refine wc_V (C := nr_CM) (n := 1) hx hb hml hown htg (c_CM_isElement l D _ q n el (nI 0) (fun h => absurd h hq19) (fun _ => rfl)) tm_448 tm_445 tm_447 tp_13 tm_9 (by decide +kernel) ⟨⟨Nat.le_trans (by decide) hRf, Nat.le_trans (by decide) hRl⟩, rfl, rfl⟩ (wa_pre (hP.sub [0] rfl) hK hN) (va_recv (q0 := 0) (ci := 6) hK hP rfl rfl) rfl hl.1 rfl (Nat.le_of_ble_eq_true rfl) nd_CM_entry_19 hCS ?_
        refine wi_if_eq (tgt := 34) hx hb (by decide) nd_CM_entry_22 rfl (fun _ => ?_) (fun h => absurd h (by decide))
        refine wi_ic hx hb (a := 0) nd_CM_entry_34 ?_
        have hsp : sp_entry n y (nI (0)) el r0 v0 = (nI 0, y) := by unfold sp_entry; simp [sz_f hn1 (show n < 2 ^ 31 by omega) hq19]
        exact wb_zret (g) hx hb hr hk rfl hAe (by rw [hsp]; exact ⟨rfl, hI⟩) hP hD hS nd_CM_entry_35
  · subst hw1
    refine wc_S (n := 1) hx hb hml hown htg (c_CM_isWhich l D _ (nI 1) (nI 1) (fun _ => rfl) (fun h => absurd (Or.inr rfl) h)) tm_432 tm_430 tm_431 tm_9 (by decide +kernel) ⟨⟨Nat.le_trans (by decide) hRf, Nat.le_trans (by decide) hRl⟩, rfl, rfl⟩ (wa_pre wa_nil hK hN) rfl hl.1 rfl (Nat.le_of_ble_eq_true rfl) nd_CM_entry_1 hCS ?_
    refine wi_if_eq (tgt := 34) hx hb (by decide) nd_CM_entry_4 rfl (fun h => absurd h (by decide)) (fun _ => ?_)
    refine lv_aload_n hx hb nd_CM_entry_7 rfl (lv_at hl 0 rfl) ?_
    refine va_get (D := D) (C := nr_CM) (T := nt_CM) (N := 14) hx hb htg tf_CM hown hK hP 0 rfl rfl 2 (by decide) (htg _ tm_385) (fun _ h => h) rfl nd_CM_entry_8 ?_
    refine lv_iload_n hx hb nd_CM_entry_11 rfl (lv_at hl 1 rfl) ?_
    refine wi_iald hx hb hK hP 2 0 rfl rfl (by omega) (by omega) nd_CM_entry_12 ?_
    refine wi_top ((hI.2 1 (by omega)).2.1) ?_
    refine wi_ic hx hb (a := 3) nd_CM_entry_13 ?_
    refine wi_icmp_ne (tgt := 34) hx hb (by omega) (by omega) nd_CM_entry_14 rfl (fun hc14 => ?_) (fun hc14 => ?_)
    · refine wi_ic hx hb (a := 0) nd_CM_entry_34 ?_
      have hsp : sp_entry n y (nI (1)) el r0 v0 = (nI 0, y) := by unfold sp_entry; simp [tn_1, hc14]
      exact wb_zret (g) hx hb hr hk rfl hAe (by rw [hsp]; exact ⟨rfl, hI⟩) hP hD hS nd_CM_entry_35
    · refine lv_aload_n hx hb nd_CM_entry_17 rfl (lv_at hl 0 rfl) ?_
      refine lv_iload_n hx hb nd_CM_entry_18 rfl (lv_at hl 2 rfl) ?_
      by_cases hq19 : ¬ el < 0 ∧ ¬ nI n ≤ el
      · obtain ⟨el1, h_el1, rfl⟩ := sm_elem (by omega) hq19
        refine wc_V (C := nr_CM) (n := 1) hx hb hml hown htg (c_CM_isElement l D _ q n (nI el1) (nI 1) (fun _ => rfl) (fun h => absurd hq19 h)) tm_448 tm_445 tm_447 tp_13 tm_9 (by decide +kernel) ⟨⟨Nat.le_trans (by decide) hRf, Nat.le_trans (by decide) hRl⟩, rfl, rfl⟩ (wa_pre (hP.sub [0] rfl) hK hN) (va_recv (q0 := 0) (ci := 6) hK hP rfl rfl) rfl hl.1 rfl (Nat.le_of_ble_eq_true rfl) nd_CM_entry_19 hCS ?_
        refine wi_if_eq (tgt := 34) hx hb (by decide) nd_CM_entry_22 rfl (fun h => absurd h (by decide)) (fun _ => ?_)
        refine lv_iload_n hx hb nd_CM_entry_25 rfl (lv_at hl 3 rfl) ?_
        refine lv_if_lt (tgt := 34) hx hb nd_CM_entry_26 rfl (fun hc26 => ?_) (fun hc26 => ?_)
        · refine wi_ic hx hb (a := 0) nd_CM_entry_34 ?_
          have hsp : sp_entry n y (nI (1)) (nI (el1)) r0 v0 = (nI 0, y) := by unfold sp_entry; simp [sr_f (x := r0) (b := nI 3) (fun z => z.1 hc26)]
          exact wb_zret (g) hx hb hr hk rfl hAe (by rw [hsp]; exact ⟨rfl, hI⟩) hP hD hS nd_CM_entry_35
        · refine lv_iload_n hx hb nd_CM_entry_29 rfl (lv_at hl 3 rfl) ?_
          refine wi_ic hx hb (a := 3) nd_CM_entry_30 ?_
          refine lv_icmp_le (tgt := 36) hx hb nd_CM_entry_31 rfl (fun hc31 => ?_) (fun hc31 => ?_)
          · obtain ⟨r01, h_r01, rfl⟩ := sm_le10 (b := 3) (by omega) hc26 hc31
            have hmp := (rf_k3 (hI.2 1 (by omega)).2 hc14).1
            have hpp := (va_k3 (hI.2 1 (by omega)).1 hc14).1
            refine lv_aload_n hx hb nd_CM_entry_36 rfl (lv_at hl 0 rfl) ?_
            refine va_get (D := D) (C := nr_CM) (T := nt_CM) (N := 14) hx hb htg tf_CM hown hK hP 0 rfl rfl 4 (by decide) (htg _ tm_387) (fun _ h => h) rfl nd_CM_entry_37 ?_
            refine lv_iload_n hx hb nd_CM_entry_40 rfl (lv_at hl 1 rfl) ?_
            refine wi_iald hx hb hK hP 4 0 rfl rfl (by omega) (by omega) nd_CM_entry_41 ?_
            refine wi_top (hmp) ?_
            refine lv_istore hx hb nd_CM_entry_42 hl (by decide) rfl (fun ls hl => ?_)
            have hl : lv_has ls 6 [(5, .int (nI ((cb_m y 1).2.2.2.2.2.2.1))), (0, .ref (q 0)), (1, .int (nI (1))), (2, .int (nI (el1))), (3, .int (nI (r01))), (4, .int (v0))] := hl
            refine lv_aload_n hx hb nd_CM_entry_44 rfl (lv_at hl 1 rfl) ?_
            refine va_get (D := D) (C := nr_CM) (T := nt_CM) (N := 14) hx hb htg tf_CM hown hK hP 0 rfl rfl 9 (by decide) (htg _ tm_392) (fun _ h => h) rfl nd_CM_entry_45 ?_
            refine lv_bipush (v := nI 40) hx hb nd_CM_entry_48 (by decide) ?_
            refine lv_iload_n hx hb nd_CM_entry_50 rfl (lv_at hl 2 rfl) ?_
            refine wi_imul hx hb nd_CM_entry_51 ?_
            refine wi_ic hx hb (a := 4) nd_CM_entry_52 ?_
            refine lv_iload_n hx hb nd_CM_entry_53 rfl (lv_at hl 3 rfl) ?_
            refine wi_imul hx hb nd_CM_entry_54 ?_
            refine wi_iadd hx hb nd_CM_entry_55 ?_
            refine lv_iload_n hx hb nd_CM_entry_56 rfl (lv_at hl 4 rfl) ?_
            refine wi_iadd hx hb nd_CM_entry_57 ?_
            refine lv_iload hx hb nd_CM_entry_58 (lv_at hl 5 rfl) ?_
            refine lv_iload hx hb nd_CM_entry_60 (lv_at hl 0 rfl) ?_
            refine lv_irem hx hb nd_CM_entry_62 (rm_nz hpp) ?_
            refine lv_iload hx hb nd_CM_entry_63 (lv_at hl 0 rfl) ?_
            refine lv_iadd hx hb nd_CM_entry_65 ?_
            refine lv_iload hx hb nd_CM_entry_66 (lv_at hl 0 rfl) ?_
            refine lv_irem hx hb nd_CM_entry_68 (rm_nz hpp) ?_
            refine wi_top (rm_ hpp) ?_
            refine wi_iast hx hb hK hP hD hS 9 0 rfl rfl (by omega) (by omega) nd_CM_entry_69 (fun H locs hP hD hS => ?_)
            have hP : va_P D cl_all ([((q 0), .inr (6, [.int (nI (n)), .ref (q 2), .ref (q 3), .ref (q 4), .ref (q 5), .ref (q 6), .ref (q 7), .ref (q 8), .ref (q 9), .ref (q 10), .ref (q 11), .ref (q 12), .ref (q 13), .ref (q 14)])), ((q 2), .inl (cI, 10, .inl (g 0))), ((q 3), .inl (cI, 2, .inl (g 1))), ((q 4), .inl (cI, 2, .inl (g 2))), ((q 5), .inl (cI, 2, .inl (g 3))), ((q 6), .inl (cI, 20, .inl (g 4))), ((q 7), .inl (cI, 20, .inl (g 5))), ((q 8), .inl (cI, 20, .inl (g 6))), ((q 9), .inl (cI, 8, .inl (g 7))), ((q 10), .inl (cI, 80, .inl (upd (g 8) (((40 * 1) + (4 * el1)) + r01) (nI (fm_ v0 (cb_m y 1).2.2.2.2.2.2.1))))), ((q 11), .inl (cI, 8, .inl (g 9))), ((q 12), .inl (cI, 16, .inl (g 10))), ((q 13), .inl (cI, 16, .inl (g 11))), ((q 14), .inl (cI, 2048, .inl (g 12)))]) H := hP
            have hD : va_D A ([((q 0), .inr (6, [.int (nI (n)), .ref (q 2), .ref (q 3), .ref (q 4), .ref (q 5), .ref (q 6), .ref (q 7), .ref (q 8), .ref (q 9), .ref (q 10), .ref (q 11), .ref (q 12), .ref (q 13), .ref (q 14)])), ((q 2), .inl (cI, 10, .inl (g 0))), ((q 3), .inl (cI, 2, .inl (g 1))), ((q 4), .inl (cI, 2, .inl (g 2))), ((q 5), .inl (cI, 2, .inl (g 3))), ((q 6), .inl (cI, 20, .inl (g 4))), ((q 7), .inl (cI, 20, .inl (g 5))), ((q 8), .inl (cI, 20, .inl (g 6))), ((q 9), .inl (cI, 8, .inl (g 7))), ((q 10), .inl (cI, 80, .inl (upd (g 8) (((40 * 1) + (4 * el1)) + r01) (nI (fm_ v0 (cb_m y 1).2.2.2.2.2.2.1))))), ((q 11), .inl (cI, 8, .inl (g 9))), ((q 12), .inl (cI, 16, .inl (g 10))), ((q 13), .inl (cI, 16, .inl (g 11))), ((q 14), .inl (cI, 2048, .inl (g 12)))]) := hD
            refine wi_ic hx hb (a := 1) nd_CM_entry_70 ?_
            have hsp : sp_entry n y (nI 1) (nI el1) (nI r01) v0 = (nI 1, cb_s y 1 ((cb_m y 1).1, (cb_m y 1).2.1, (cb_m y 1).2.2.1, (cb_m y 1).2.2.2.1, (cb_m y 1).2.2.2.2.1, (cb_m y 1).2.2.2.2.2.1, (cb_m y 1).2.2.2.2.2.2.1, va_up (cb_m y 1).2.2.2.2.2.2.2 el1 (va_up ((cb_m y 1).2.2.2.2.2.2.2 el1) r01 (fm_ v0 (cb_m y 1).2.2.2.2.2.2.1)))) := by unfold sp_entry; simp only [sw_1, tn_1, sz_t h_el1 (show n < 2 ^ 31 by omega), tn_nI (show el1 < 2 ^ 31 by omega), sr_t h_r01 (show 3 < 2 ^ 31 by omega), tn_nI (show r01 < 2 ^ 31 by omega)]; simp [hc14]
            exact wb_zret ((va_up g 8 (upd (g 8) (((40 * 1) + (4 * el1)) + r01) (nI (fm_ v0 (cb_m y 1).2.2.2.2.2.2.1))))) hx hb hr hk rfl hAe (by rw [hsp]; exact ⟨rfl, rf_entry (w := 1) hn hI (by omega) hc14 h_el1 h_r01⟩) hP hD hS nd_CM_entry_71
          · refine wi_ic hx hb (a := 0) nd_CM_entry_34 ?_
            have hsp : sp_entry n y (nI (1)) (nI (el1)) r0 v0 = (nI 0, y) := by unfold sp_entry; simp [sr_f (x := r0) (b := nI 3) (fun z => z.2 (Int32.not_le.mp hc31))]
            exact wb_zret (g) hx hb hr hk rfl hAe (by rw [hsp]; exact ⟨rfl, hI⟩) hP hD hS nd_CM_entry_35
      · refine wc_V (C := nr_CM) (n := 1) hx hb hml hown htg (c_CM_isElement l D _ q n el (nI 0) (fun h => absurd h hq19) (fun _ => rfl)) tm_448 tm_445 tm_447 tp_13 tm_9 (by decide +kernel) ⟨⟨Nat.le_trans (by decide) hRf, Nat.le_trans (by decide) hRl⟩, rfl, rfl⟩ (wa_pre (hP.sub [0] rfl) hK hN) (va_recv (q0 := 0) (ci := 6) hK hP rfl rfl) rfl hl.1 rfl (Nat.le_of_ble_eq_true rfl) nd_CM_entry_19 hCS ?_
        refine wi_if_eq (tgt := 34) hx hb (by decide) nd_CM_entry_22 rfl (fun _ => ?_) (fun h => absurd h (by decide))
        refine wi_ic hx hb (a := 0) nd_CM_entry_34 ?_
        have hsp : sp_entry n y (nI (1)) el r0 v0 = (nI 0, y) := by unfold sp_entry; simp [sz_f hn1 (show n < 2 ^ 31 by omega) hq19]
        exact wb_zret (g) hx hb hr hk rfl hAe (by rw [hsp]; exact ⟨rfl, hI⟩) hP hD hS nd_CM_entry_35
  · refine wc_S (n := 1) hx hb hml hown htg (c_CM_isWhich l D _ wh (nI 0) (fun h => absurd h (fun z => z.elim (fun z => hw1.1 (z.trans nI_0.symm)) hw1.2)) (fun _ => rfl)) tm_432 tm_430 tm_431 tm_9 (by decide +kernel) ⟨⟨Nat.le_trans (by decide) hRf, Nat.le_trans (by decide) hRl⟩, rfl, rfl⟩ (wa_pre wa_nil hK hN) rfl hl.1 rfl (Nat.le_of_ble_eq_true rfl) nd_CM_entry_1 hCS ?_
    refine wi_if_eq (tgt := 34) hx hb (by decide) nd_CM_entry_4 rfl (fun _ => ?_) (fun h => absurd h (by decide))
    refine wi_ic hx hb (a := 0) nd_CM_entry_34 ?_
    have hsp : sp_entry n y wh el r0 v0 = (nI 0, y) := by unfold sp_entry; simp [sw_n hw1]
    exact wb_zret (g) hx hb hr hk rfl hAe (by rw [hsp]; exact ⟨rfl, hI⟩) hP hD hS nd_CM_entry_35
theorem nd_CM_weight_0 : decode nc_CM_weight 0 = .ok (.aload_n 0, 1) := by decide +kernel
theorem nd_CM_weight_1 : decode nc_CM_weight 1 = .ok (.iload_n 1, 1) := by decide +kernel
theorem nd_CM_weight_2 : decode nc_CM_weight 2 = .ok (.invokevirtual 61, 3) := by decide +kernel
theorem nd_CM_weight_5 : decode nc_CM_weight 5 = .ok (.ifCond .eq 15, 3) := by decide +kernel
theorem nd_CM_weight_8 : decode nc_CM_weight 8 = .ok (.iload_n 2, 1) := by decide +kernel
theorem nd_CM_weight_9 : decode nc_CM_weight 9 = .ok (.ldc 64, 2) := by decide +kernel
theorem nd_CM_weight_11 : decode nc_CM_weight 11 = .ok (.if_icmp .lt 9, 3) := by decide +kernel
theorem nd_CM_weight_14 : decode nc_CM_weight 14 = .ok (.iload_n 2, 1) := by decide +kernel
theorem nd_CM_weight_15 : decode nc_CM_weight 15 = .ok (.ldc 65, 2) := by decide +kernel
theorem nd_CM_weight_17 : decode nc_CM_weight 17 = .ok (.if_icmp .le 5, 3) := by decide +kernel
theorem nd_CM_weight_20 : decode nc_CM_weight 20 = .ok (.iconst 0, 1) := by decide +kernel
theorem nd_CM_weight_21 : decode nc_CM_weight 21 = .ok (.ireturn, 1) := by decide +kernel
theorem nd_CM_weight_22 : decode nc_CM_weight 22 = .ok (.aload_n 0, 1) := by decide +kernel
theorem nd_CM_weight_23 : decode nc_CM_weight 23 = .ok (.getfield 7, 3) := by decide +kernel
theorem nd_CM_weight_26 : decode nc_CM_weight 26 = .ok (.iload_n 1, 1) := by decide +kernel
theorem nd_CM_weight_27 : decode nc_CM_weight 27 = .ok (.iload_n 2, 1) := by decide +kernel
theorem nd_CM_weight_28 : decode nc_CM_weight 28 = .ok (.iastore, 1) := by decide +kernel
theorem nd_CM_weight_29 : decode nc_CM_weight 29 = .ok (.iconst 1, 1) := by decide +kernel
theorem nd_CM_weight_30 : decode nc_CM_weight 30 = .ok (.ireturn, 1) := by decide +kernel
set_option maxRecDepth 20000 in
theorem c_CM_weight (l : Launch) (D : va_G) (cI cG cM : ClassId)  (q : Nat → Nat) (n : Nat) (hn1 : 1 ≤ n) (hn : n ≤ 10) (g : rf_S) (y : cb_Y) (hI : rf_I n y g) (el ww : Int32) (sz : Nat) : wb_Mi l ny_CM_weight nc_CM_weight 3 (some .boolean) ({ frames := 1, cells := 0, slots := 0, locals := 21 }) D (ty_all cI cG cM) (rf_ cI q n g) sz [.ref (q 0), .int (el), .int (ww)] (fun (v : Int32) (u : rf_S) => v = (sp_weight n y el ww).1 ∧ rf_I n (sp_weight n y el ww).2 u) (fun u : rf_S => rf_ cI q n u) := by
  refine wb_start (S := rf_S) (by decide) (Nat.le_of_ble_eq_true rfl) ?_
  intro p e0 s0 m below meth c ls A hx hb hr hml htg hown hk hP hK hN hl hAe hsz hD hA
  have hl : lv_has ls 3 [(0, .ref (q 0)), (1, .int (el)), (2, .int (ww))] := hl
  have hP : va_P D cl_all ([((q 0), .inr (6, [.int (nI (n)), .ref (q 2), .ref (q 3), .ref (q 4), .ref (q 5), .ref (q 6), .ref (q 7), .ref (q 8), .ref (q 9), .ref (q 10), .ref (q 11), .ref (q 12), .ref (q 13), .ref (q 14)])), ((q 2), .inl (cI, 10, .inl (g 0))), ((q 3), .inl (cI, 2, .inl (g 1))), ((q 4), .inl (cI, 2, .inl (g 2))), ((q 5), .inl (cI, 2, .inl (g 3))), ((q 6), .inl (cI, 20, .inl (g 4))), ((q 7), .inl (cI, 20, .inl (g 5))), ((q 8), .inl (cI, 20, .inl (g 6))), ((q 9), .inl (cI, 8, .inl (g 7))), ((q 10), .inl (cI, 80, .inl (g 8))), ((q 11), .inl (cI, 8, .inl (g 9))), ((q 12), .inl (cI, 16, .inl (g 10))), ((q 13), .inl (cI, 16, .inl (g 11))), ((q 14), .inl (cI, 2048, .inl (g 12)))]) s0.heap := hP
  have hD : va_D A ([((q 0), .inr (6, [.int (nI (n)), .ref (q 2), .ref (q 3), .ref (q 4), .ref (q 5), .ref (q 6), .ref (q 7), .ref (q 8), .ref (q 9), .ref (q 10), .ref (q 11), .ref (q 12), .ref (q 13), .ref (q 14)])), ((q 2), .inl (cI, 10, .inl (g 0))), ((q 3), .inl (cI, 2, .inl (g 1))), ((q 4), .inl (cI, 2, .inl (g 2))), ((q 5), .inl (cI, 2, .inl (g 3))), ((q 6), .inl (cI, 20, .inl (g 4))), ((q 7), .inl (cI, 20, .inl (g 5))), ((q 8), .inl (cI, 20, .inl (g 6))), ((q 9), .inl (cI, 8, .inl (g 7))), ((q 10), .inl (cI, 80, .inl (g 8))), ((q 11), .inl (cI, 8, .inl (g 9))), ((q 12), .inl (cI, 16, .inl (g 10))), ((q 13), .inl (cI, 16, .inl (g 11))), ((q 14), .inl (cI, 2048, .inl (g 12)))]) := hD
  have hS : va_S A s0.heap s0.heap [] := va_S.rf
  have hRf : 1 ≤ ({ frames := 1, cells := 0, slots := 0, locals := 21 } : Room).frames := Nat.le_refl _
  have hRl : 21 ≤ ({ frames := 1, cells := 0, slots := 0, locals := 21 } : Room).locals := Nat.le_refl _
  have hCS : 0 ≤ ({ frames := 1, cells := 0, slots := 0, locals := 21 } : Room).cells ∧ 0 ≤ ({ frames := 1, cells := 0, slots := 0, locals := 21 } : Room).slots := ⟨Nat.zero_le _, Nat.zero_le _⟩
  have h2n : 2 ^ n ≤ 1024 := Nat.pow_le_pow_right (by omega) hn
  have h2p : 1 ≤ 2 ^ n := Nat.one_le_two_pow
  refine lv_aload_n hx hb nd_CM_weight_0 rfl (lv_at hl 0 rfl) ?_
  refine lv_iload_n hx hb nd_CM_weight_1 rfl (lv_at hl 1 rfl) ?_
  by_cases hq2 : ¬ el < 0 ∧ ¬ nI n ≤ el
  · obtain ⟨el1, h_el1, rfl⟩ := sm_elem (by omega) hq2
    refine wc_V (C := nr_CM) (n := 1) hx hb hml hown htg (c_CM_isElement l D _ q n (nI el1) (nI 1) (fun _ => rfl) (fun h => absurd hq2 h)) tm_448 tm_445 tm_447 tp_13 tm_9 (by decide +kernel) ⟨⟨Nat.le_trans (by decide) hRf, Nat.le_trans (by decide) hRl⟩, rfl, rfl⟩ (wa_pre (hP.sub [0] rfl) hK hN) (va_recv (q0 := 0) (ci := 6) hK hP rfl rfl) rfl hl.1 rfl (Nat.le_of_ble_eq_true rfl) nd_CM_weight_2 hCS ?_
    refine wi_if_eq (tgt := 20) hx hb (by decide) nd_CM_weight_5 rfl (fun h => absurd h (by decide)) (fun _ => ?_)
    refine lv_iload_n hx hb nd_CM_weight_8 rfl (lv_at hl 2 rfl) ?_
    refine lv_ldc hx hb hown (htg _ tm_473) nd_CM_weight_9 ?_
    refine lv_icmp_lt (tgt := 20) hx hb nd_CM_weight_11 rfl (fun hc11 => ?_) (fun hc11 => ?_)
    · refine wi_ic hx hb (a := 0) nd_CM_weight_20 ?_
      have hsp : sp_weight n y (nI (el1)) ww = (nI 0, y) := by unfold sp_weight; simp [hc11]
      exact wb_zret (g) hx hb hr hk rfl hAe (by rw [hsp]; exact ⟨rfl, hI⟩) hP hD hS nd_CM_weight_21
    · refine lv_iload_n hx hb nd_CM_weight_14 rfl (lv_at hl 2 rfl) ?_
      refine lv_ldc hx hb hown (htg _ tm_474) nd_CM_weight_15 ?_
      refine lv_icmp_le (tgt := 22) hx hb nd_CM_weight_17 rfl (fun hc17 => ?_) (fun hc17 => ?_)
      · refine lv_aload_n hx hb nd_CM_weight_22 rfl (lv_at hl 0 rfl) ?_
        refine va_get (D := D) (C := nr_CM) (T := nt_CM) (N := 14) hx hb htg tf_CM hown hK hP 0 rfl rfl 1 (by decide) (htg _ tm_384) (fun _ h => h) rfl nd_CM_weight_23 ?_
        refine lv_iload_n hx hb nd_CM_weight_26 rfl (lv_at hl 1 rfl) ?_
        refine lv_iload_n hx hb nd_CM_weight_27 rfl (lv_at hl 2 rfl) ?_
        refine wi_iast hx hb hK hP hD hS 1 0 rfl rfl (by omega) (by omega) nd_CM_weight_28 (fun H locs hP hD hS => ?_)
        have hP : va_P D cl_all ([((q 0), .inr (6, [.int (nI (n)), .ref (q 2), .ref (q 3), .ref (q 4), .ref (q 5), .ref (q 6), .ref (q 7), .ref (q 8), .ref (q 9), .ref (q 10), .ref (q 11), .ref (q 12), .ref (q 13), .ref (q 14)])), ((q 2), .inl (cI, 10, .inl (upd (g 0) el1 ww))), ((q 3), .inl (cI, 2, .inl (g 1))), ((q 4), .inl (cI, 2, .inl (g 2))), ((q 5), .inl (cI, 2, .inl (g 3))), ((q 6), .inl (cI, 20, .inl (g 4))), ((q 7), .inl (cI, 20, .inl (g 5))), ((q 8), .inl (cI, 20, .inl (g 6))), ((q 9), .inl (cI, 8, .inl (g 7))), ((q 10), .inl (cI, 80, .inl (g 8))), ((q 11), .inl (cI, 8, .inl (g 9))), ((q 12), .inl (cI, 16, .inl (g 10))), ((q 13), .inl (cI, 16, .inl (g 11))), ((q 14), .inl (cI, 2048, .inl (g 12)))]) H := hP
        have hD : va_D A ([((q 0), .inr (6, [.int (nI (n)), .ref (q 2), .ref (q 3), .ref (q 4), .ref (q 5), .ref (q 6), .ref (q 7), .ref (q 8), .ref (q 9), .ref (q 10), .ref (q 11), .ref (q 12), .ref (q 13), .ref (q 14)])), ((q 2), .inl (cI, 10, .inl (upd (g 0) el1 ww))), ((q 3), .inl (cI, 2, .inl (g 1))), ((q 4), .inl (cI, 2, .inl (g 2))), ((q 5), .inl (cI, 2, .inl (g 3))), ((q 6), .inl (cI, 20, .inl (g 4))), ((q 7), .inl (cI, 20, .inl (g 5))), ((q 8), .inl (cI, 20, .inl (g 6))), ((q 9), .inl (cI, 8, .inl (g 7))), ((q 10), .inl (cI, 80, .inl (g 8))), ((q 11), .inl (cI, 8, .inl (g 9))), ((q 12), .inl (cI, 16, .inl (g 10))), ((q 13), .inl (cI, 16, .inl (g 11))), ((q 14), .inl (cI, 2048, .inl (g 12)))]) := hD
        refine wi_ic hx hb (a := 1) nd_CM_weight_29 ?_
        have hsp : sp_weight n y (nI el1) ww = (nI 1, (upd y.1 el1 ww, y.2)) := by unfold sp_weight; rw [sz_t h_el1 (show n < 2 ^ 31 by omega), tn_nI (show el1 < 2 ^ 31 by omega)]; simp [hc11, hc17]
        have b1 : -1000000 ≤ ww.toInt := by have := Int32.le_iff_toInt_le.mp (Int32.not_lt.mp hc11); simpa using this
        have b2 : ww.toInt ≤ 1000000 := by have := Int32.le_iff_toInt_le.mp hc17; simpa using this
        exact wb_zret (va_up g 0 (upd (g 0) el1 ww)) hx hb hr hk rfl hAe (by rw [hsp]; exact ⟨rfl, fun e he => (show upd (g 0) el1 ww e = upd y.1 el1 ww e ∧ -1000000 ≤ (upd y.1 el1 ww e).toInt ∧ (upd y.1 el1 ww e).toInt ≤ 1000000 from if q : e = el1 then by simp [upd, q]; exact ⟨b1, b2⟩ else by simp [upd, q]; exact hI.1 e he), hI.2⟩) hP hD hS nd_CM_weight_30
      · refine wi_ic hx hb (a := 0) nd_CM_weight_20 ?_
        have hsp : sp_weight n y (nI (el1)) ww = (nI 0, y) := by unfold sp_weight; simp [hc17]
        exact wb_zret (g) hx hb hr hk rfl hAe (by rw [hsp]; exact ⟨rfl, hI⟩) hP hD hS nd_CM_weight_21
  · refine wc_V (C := nr_CM) (n := 1) hx hb hml hown htg (c_CM_isElement l D _ q n el (nI 0) (fun h => absurd h hq2) (fun _ => rfl)) tm_448 tm_445 tm_447 tp_13 tm_9 (by decide +kernel) ⟨⟨Nat.le_trans (by decide) hRf, Nat.le_trans (by decide) hRl⟩, rfl, rfl⟩ (wa_pre (hP.sub [0] rfl) hK hN) (va_recv (q0 := 0) (ci := 6) hK hP rfl rfl) rfl hl.1 rfl (Nat.le_of_ble_eq_true rfl) nd_CM_weight_2 hCS ?_
    refine wi_if_eq (tgt := 20) hx hb (by decide) nd_CM_weight_5 rfl (fun _ => ?_) (fun h => absurd h (by decide))
    refine wi_ic hx hb (a := 0) nd_CM_weight_20 ?_
    have hsp : sp_weight n y el ww = (nI 0, y) := by unfold sp_weight; simp [sz_f hn1 (show n < 2 ^ 31 by omega) hq2]
    exact wb_zret (g) hx hb hr hk rfl hAe (by rw [hsp]; exact ⟨rfl, hI⟩) hP hD hS nd_CM_weight_21
