/-! The law: its cases. -/
set_option maxRecDepth 20000 in
theorem lw_k0 {p : Program} {l : Launch} {e0 : Env} {s0 : State} {m : MethodId} {below : List Frame} {meth : Method} {c : Code} {b L : Nat} {xs : Nat → Int32} {D : va_G} {A : Nat → Prop} {Qq : State → Prop} {cells slots : Nat} (cI cG cM : ClassId) (q : Nat → Nat) (n : Nat) (hn1 : 1 ≤ n) (hn : n ≤ 10) (mr : Nat → Option Nat) (a0 a1 : ma_A) (hm0 : mr 0 = some (a0.1 0)) (hm1 : mr 1 = some (a1.1 0)) (r : Nat → Nat) (hL : L ≤ 2561) (hx : p.tables.exec = Jvm.exec) (hb : c.code = nc_LA_law) (hml : c.maxLocals = 4) (htg : ∀ w ∈ tg_, w.before #[Value.ref b] s0 = true) (hown : s0.vm.findClass "CommonBasesLaw" = some m.cls) (hK : va_K D cl_all (ty_all cI cG cM) s0) (hN : tn_K s0) (hX : va_X b L xs s0 s0.heap) (hbl : b < s0.heap.size) (hbA : ¬ A b) (hA : ∀ q : Nat, s0.heap.size ≤ q → A q) (hCS : cells ≤ room_1.cells ∧ slots ≤ room_1.slots) (i : Nat) (kx : ∀ (y : cb_Y) (u : cb_S) (g : rf_S) (ls : Array Slot) (H : Heap) (locs : List Loc), cb_I n y u → rf_I n y g → lv_has ls 4 [(3, .int (nI i)), (0, .ref b), (1, .ref (q 0)), (2, .ref (r 0))] → va_P D cl_all (cw_ cI cG cM q n mr a0 a1 u ++ (rf_ cI r n g ++ [])) H → va_D A (cw_ cI cG cM q n mr a0 a1 u ++ (rf_ cI r n g ++ [])) → va_S A s0.heap H locs → W p l e0 room_1 s0 m #[Value.ref b] below meth c H locs cells slots Qq (F0 m 736 ls [])) (hi1 : 1 ≤ i) (hi : i + 5 ≤ L) (y : cb_Y) (u : cb_S) (g : rf_S) (hI : cb_I n y u) (hJ : rf_I n y g) (ls : Array Slot) (H : Heap) (locs : List Loc) (hl : lv_has ls 4 [(3, .int (nI i)), (0, .ref b), (1, .ref (q 0)), (2, .ref (r 0))]) (hP : va_P D cl_all (cw_ cI cG cM q n mr a0 a1 u ++ (rf_ cI r n g ++ [])) H) (hD : va_D A (cw_ cI cG cM q n mr a0 a1 u ++ (rf_ cI r n g ++ []))) (hS : va_S A s0.heap H locs) : W p l e0 room_1 s0 m #[Value.ref b] below meth c H locs cells slots Qq (F0 m 136 ls []) := by
  refine lv_aload_n hx hb nd_LA_law_136 rfl (lv_at hl 2 rfl) ?_
  refine lv_aload_n hx hb nd_LA_law_137 rfl (lv_at hl 1 rfl) ?_
  refine lv_iload_n hx hb nd_LA_law_138 rfl (lv_at hl 0 rfl) ?_
  refine wi_ic hx hb (a := 1) nd_LA_law_139 ?_
  refine wi_iadd hx hb nd_LA_law_140 ?_
  refine wi_sld hx hb hX hbl hbA hS (i := i + 1) (by omega) (by omega) nd_LA_law_141 ?_
  refine lv_aload_n hx hb nd_LA_law_142 rfl (lv_at hl 1 rfl) ?_
  refine lv_iload_n hx hb nd_LA_law_143 rfl (lv_at hl 0 rfl) ?_
  refine wi_ic hx hb (a := 2) nd_LA_law_144 ?_
  refine wi_iadd hx hb nd_LA_law_145 ?_
  refine wi_sld hx hb hX hbl hbA hS (i := i + 2) (by omega) (by omega) nd_LA_law_146 ?_
  refine wd_Vi (C := nr_CB) (n := 2) (X := []) (Y := cw_ cI cG cM q n mr a0 a1 (u.1, u.2.1, u.2.2)) (Z := (rf_ cI r n g ++ [])) hx hb hml hown htg (c_CB_uniform l D cI cG cM q n hn1 hn mr a0 a1 hm0 hm1 u.1 u.2.1 u.2.2 y hI (xs (i + 1)) (xs (i + 2)) _) tm_138 tm_135 tm_136 tm_137 tm_1 (by decide +kernel) ⟨⟨by decide, by decide⟩, rfl, rfl⟩ hP hD hS hA hK hN (va_recv (q0 := 0) (ci := 0) hK (wm_P (X := []) (Y := cw_ cI cG cM q n mr a0 a1 (u.1, u.2.1, u.2.2)) (Z := (rf_ cI r n g ++ [])) hP).2.1 rfl rfl) rfl hl.1 rfl (Nat.le_of_ble_eq_true rfl) nd_LA_law_147 hCS (fun v1 u1 H locs hp1 hP hD hS => ?_)
  have hP : va_P D cl_all (cw_ cI cG cM q n mr a0 a1 u1 ++ (rf_ cI r n g ++ [])) H := hP
  have hD : va_D A (cw_ cI cG cM q n mr a0 a1 u1 ++ (rf_ cI r n g ++ [])) := hD
  refine wi_top hp1.1 ?_
  refine lv_aload_n hx hb nd_LA_law_150 rfl (lv_at hl 3 rfl) ?_
  refine lv_aload_n hx hb nd_LA_law_151 rfl (lv_at hl 1 rfl) ?_
  refine lv_iload_n hx hb nd_LA_law_152 rfl (lv_at hl 0 rfl) ?_
  refine wi_ic hx hb (a := 1) nd_LA_law_153 ?_
  refine wi_iadd hx hb nd_LA_law_154 ?_
  refine wi_sld hx hb hX hbl hbA hS (i := i + 1) (by omega) (by omega) nd_LA_law_155 ?_
  refine lv_aload_n hx hb nd_LA_law_156 rfl (lv_at hl 1 rfl) ?_
  refine lv_iload_n hx hb nd_LA_law_157 rfl (lv_at hl 0 rfl) ?_
  refine wi_ic hx hb (a := 2) nd_LA_law_158 ?_
  refine wi_iadd hx hb nd_LA_law_159 ?_
  refine wi_sld hx hb hX hbl hbA hS (i := i + 2) (by omega) (by omega) nd_LA_law_160 ?_
  refine wd_Vi (C := nr_CM) (n := 2) (X := cw_ cI cG cM q n mr a0 a1 u1) (Y := rf_ cI r n g) (Z := []) hx hb hml hown htg (c_CM_uniform l D cI cG cM r n hn1 hn g y hJ (xs (i + 1)) (xs (i + 2)) _) tm_429 tm_426 tm_427 tm_428 tm_9 (by decide +kernel) ⟨⟨by decide, by decide⟩, rfl, rfl⟩ hP hD hS hA hK hN (va_recv (q0 := 0) (ci := 6) hK (wm_P (X := cw_ cI cG cM q n mr a0 a1 u1) (Y := rf_ cI r n g) (Z := []) hP).2.1 rfl rfl) rfl hl.1 rfl (Nat.le_of_ble_eq_true rfl) nd_LA_law_161 hCS (fun v2 u2 H locs hp2 hP hD hS => ?_)
  have hP : va_P D cl_all (cw_ cI cG cM q n mr a0 a1 u1 ++ (rf_ cI r n u2 ++ [])) H := hP
  have hD : va_D A (cw_ cI cG cM q n mr a0 a1 u1 ++ (rf_ cI r n u2 ++ [])) := hD
  refine wi_top hp2.1 ?_
  refine lv_icmp_eq (tgt := 736) hx hb nd_LA_law_164 rfl (fun hc164 => ?_) (fun hc164 => ?_)
  · exact kx ((sp_uniform y (xs (i + 1)) (xs (i + 2))).2) u1 u2 ls H locs hp1.2 hp2.2 hl hP hD hS
  · exact absurd rfl hc164
set_option maxRecDepth 20000 in
theorem lw_k1 {p : Program} {l : Launch} {e0 : Env} {s0 : State} {m : MethodId} {below : List Frame} {meth : Method} {c : Code} {b L : Nat} {xs : Nat → Int32} {D : va_G} {A : Nat → Prop} {Qq : State → Prop} {cells slots : Nat} (cI cG cM : ClassId) (q : Nat → Nat) (n : Nat) (hn1 : 1 ≤ n) (hn : n ≤ 10) (mr : Nat → Option Nat) (a0 a1 : ma_A) (hm0 : mr 0 = some (a0.1 0)) (hm1 : mr 1 = some (a1.1 0)) (r : Nat → Nat) (hL : L ≤ 2561) (hx : p.tables.exec = Jvm.exec) (hb : c.code = nc_LA_law) (hml : c.maxLocals = 4) (htg : ∀ w ∈ tg_, w.before #[Value.ref b] s0 = true) (hown : s0.vm.findClass "CommonBasesLaw" = some m.cls) (hK : va_K D cl_all (ty_all cI cG cM) s0) (hN : tn_K s0) (hX : va_X b L xs s0 s0.heap) (hbl : b < s0.heap.size) (hbA : ¬ A b) (hA : ∀ q : Nat, s0.heap.size ≤ q → A q) (hCS : cells ≤ room_1.cells ∧ slots ≤ room_1.slots) (i : Nat) (kx : ∀ (y : cb_Y) (u : cb_S) (g : rf_S) (ls : Array Slot) (H : Heap) (locs : List Loc), cb_I n y u → rf_I n y g → lv_has ls 4 [(3, .int (nI i)), (0, .ref b), (1, .ref (q 0)), (2, .ref (r 0))] → va_P D cl_all (cw_ cI cG cM q n mr a0 a1 u ++ (rf_ cI r n g ++ [])) H → va_D A (cw_ cI cG cM q n mr a0 a1 u ++ (rf_ cI r n g ++ [])) → va_S A s0.heap H locs → W p l e0 room_1 s0 m #[Value.ref b] below meth c H locs cells slots Qq (F0 m 736 ls [])) (hi1 : 1 ≤ i) (hi : i + 5 ≤ L) (y : cb_Y) (u : cb_S) (g : rf_S) (hI : cb_I n y u) (hJ : rf_I n y g) (ls : Array Slot) (H : Heap) (locs : List Loc) (hl : lv_has ls 4 [(3, .int (nI i)), (0, .ref b), (1, .ref (q 0)), (2, .ref (r 0))]) (hP : va_P D cl_all (cw_ cI cG cM q n mr a0 a1 u ++ (rf_ cI r n g ++ [])) H) (hD : va_D A (cw_ cI cG cM q n mr a0 a1 u ++ (rf_ cI r n g ++ []))) (hS : va_S A s0.heap H locs) : W p l e0 room_1 s0 m #[Value.ref b] below meth c H locs cells slots Qq (F0 m 169 ls []) := by
  refine lv_aload_n hx hb nd_LA_law_169 rfl (lv_at hl 2 rfl) ?_
  refine lv_aload_n hx hb nd_LA_law_170 rfl (lv_at hl 1 rfl) ?_
  refine lv_iload_n hx hb nd_LA_law_171 rfl (lv_at hl 0 rfl) ?_
  refine wi_ic hx hb (a := 1) nd_LA_law_172 ?_
  refine wi_iadd hx hb nd_LA_law_173 ?_
  refine wi_sld hx hb hX hbl hbA hS (i := i + 1) (by omega) (by omega) nd_LA_law_174 ?_
  refine wd_Vi (C := nr_CB) (n := 1) (X := []) (Y := cw_ cI cG cM q n mr a0 a1 (u.1, u.2.1, u.2.2)) (Z := (rf_ cI r n g ++ [])) hx hb hml hown htg (c_CB_graphic l D cI cG cM q n hn1 hn mr a0 a1 hm0 hm1 u.1 u.2.1 u.2.2 y hI (xs (i + 1)) _) tm_160 tm_157 tm_158 tm_159 tm_1 (by decide +kernel) ⟨⟨by decide, by decide⟩, rfl, rfl⟩ hP hD hS hA hK hN (va_recv (q0 := 0) (ci := 0) hK (wm_P (X := []) (Y := cw_ cI cG cM q n mr a0 a1 (u.1, u.2.1, u.2.2)) (Z := (rf_ cI r n g ++ [])) hP).2.1 rfl rfl) rfl hl.1 rfl (Nat.le_of_ble_eq_true rfl) nd_LA_law_175 hCS (fun v1 u1 H locs hp1 hP hD hS => ?_)
  have hP : va_P D cl_all (cw_ cI cG cM q n mr a0 a1 u1 ++ (rf_ cI r n g ++ [])) H := hP
  have hD : va_D A (cw_ cI cG cM q n mr a0 a1 u1 ++ (rf_ cI r n g ++ [])) := hD
  refine wi_top hp1.1 ?_
  refine lv_aload_n hx hb nd_LA_law_178 rfl (lv_at hl 3 rfl) ?_
  refine lv_aload_n hx hb nd_LA_law_179 rfl (lv_at hl 1 rfl) ?_
  refine lv_iload_n hx hb nd_LA_law_180 rfl (lv_at hl 0 rfl) ?_
  refine wi_ic hx hb (a := 1) nd_LA_law_181 ?_
  refine wi_iadd hx hb nd_LA_law_182 ?_
  refine wi_sld hx hb hX hbl hbA hS (i := i + 1) (by omega) (by omega) nd_LA_law_183 ?_
  refine wd_Vi (C := nr_CM) (n := 1) (X := cw_ cI cG cM q n mr a0 a1 u1) (Y := rf_ cI r n g) (Z := []) hx hb hml hown htg (c_CM_graphic l D cI cG cM r n hn1 hn g y hJ (xs (i + 1)) _) tm_436 tm_433 tm_434 tm_435 tm_9 (by decide +kernel) ⟨⟨by decide, by decide⟩, rfl, rfl⟩ hP hD hS hA hK hN (va_recv (q0 := 0) (ci := 6) hK (wm_P (X := cw_ cI cG cM q n mr a0 a1 u1) (Y := rf_ cI r n g) (Z := []) hP).2.1 rfl rfl) rfl hl.1 rfl (Nat.le_of_ble_eq_true rfl) nd_LA_law_184 hCS (fun v2 u2 H locs hp2 hP hD hS => ?_)
  have hP : va_P D cl_all (cw_ cI cG cM q n mr a0 a1 u1 ++ (rf_ cI r n u2 ++ [])) H := hP
  have hD : va_D A (cw_ cI cG cM q n mr a0 a1 u1 ++ (rf_ cI r n u2 ++ [])) := hD
  refine wi_top hp2.1 ?_
  refine lv_icmp_eq (tgt := 736) hx hb nd_LA_law_187 rfl (fun hc187 => ?_) (fun hc187 => ?_)
  · exact kx ((sp_graphic y (xs (i + 1))).2) u1 u2 ls H locs hp1.2 hp2.2 hl hP hD hS
  · exact absurd rfl hc187
set_option maxRecDepth 20000 in
theorem lw_k2 {p : Program} {l : Launch} {e0 : Env} {s0 : State} {m : MethodId} {below : List Frame} {meth : Method} {c : Code} {b L : Nat} {xs : Nat → Int32} {D : va_G} {A : Nat → Prop} {Qq : State → Prop} {cells slots : Nat} (cI cG cM : ClassId) (q : Nat → Nat) (n : Nat) (hn1 : 1 ≤ n) (hn : n ≤ 10) (mr : Nat → Option Nat) (a0 a1 : ma_A) (hm0 : mr 0 = some (a0.1 0)) (hm1 : mr 1 = some (a1.1 0)) (r : Nat → Nat) (hL : L ≤ 2561) (hx : p.tables.exec = Jvm.exec) (hb : c.code = nc_LA_law) (hml : c.maxLocals = 4) (htg : ∀ w ∈ tg_, w.before #[Value.ref b] s0 = true) (hown : s0.vm.findClass "CommonBasesLaw" = some m.cls) (hK : va_K D cl_all (ty_all cI cG cM) s0) (hN : tn_K s0) (hX : va_X b L xs s0 s0.heap) (hbl : b < s0.heap.size) (hbA : ¬ A b) (hA : ∀ q : Nat, s0.heap.size ≤ q → A q) (hCS : cells ≤ room_1.cells ∧ slots ≤ room_1.slots) (i : Nat) (kx : ∀ (y : cb_Y) (u : cb_S) (g : rf_S) (ls : Array Slot) (H : Heap) (locs : List Loc), cb_I n y u → rf_I n y g → lv_has ls 4 [(3, .int (nI i)), (0, .ref b), (1, .ref (q 0)), (2, .ref (r 0))] → va_P D cl_all (cw_ cI cG cM q n mr a0 a1 u ++ (rf_ cI r n g ++ [])) H → va_D A (cw_ cI cG cM q n mr a0 a1 u ++ (rf_ cI r n g ++ [])) → va_S A s0.heap H locs → W p l e0 room_1 s0 m #[Value.ref b] below meth c H locs cells slots Qq (F0 m 736 ls [])) (hi1 : 1 ≤ i) (hi : i + 5 ≤ L) (y : cb_Y) (u : cb_S) (g : rf_S) (hI : cb_I n y u) (hJ : rf_I n y g) (ls : Array Slot) (H : Heap) (locs : List Loc) (hl : lv_has ls 4 [(3, .int (nI i)), (0, .ref b), (1, .ref (q 0)), (2, .ref (r 0))]) (hP : va_P D cl_all (cw_ cI cG cM q n mr a0 a1 u ++ (rf_ cI r n g ++ [])) H) (hD : va_D A (cw_ cI cG cM q n mr a0 a1 u ++ (rf_ cI r n g ++ []))) (hS : va_S A s0.heap H locs) : W p l e0 room_1 s0 m #[Value.ref b] below meth c H locs cells slots Qq (F0 m 192 ls []) := by
  refine lv_aload_n hx hb nd_LA_law_192 rfl (lv_at hl 2 rfl) ?_
  refine lv_aload_n hx hb nd_LA_law_193 rfl (lv_at hl 1 rfl) ?_
  refine lv_iload_n hx hb nd_LA_law_194 rfl (lv_at hl 0 rfl) ?_
  refine wi_ic hx hb (a := 1) nd_LA_law_195 ?_
  refine wi_iadd hx hb nd_LA_law_196 ?_
  refine wi_sld hx hb hX hbl hbA hS (i := i + 1) (by omega) (by omega) nd_LA_law_197 ?_
  refine lv_aload_n hx hb nd_LA_law_198 rfl (lv_at hl 1 rfl) ?_
  refine lv_iload_n hx hb nd_LA_law_199 rfl (lv_at hl 0 rfl) ?_
  refine wi_ic hx hb (a := 2) nd_LA_law_200 ?_
  refine wi_iadd hx hb nd_LA_law_201 ?_
  refine wi_sld hx hb hX hbl hbA hS (i := i + 2) (by omega) (by omega) nd_LA_law_202 ?_
  refine lv_aload_n hx hb nd_LA_law_203 rfl (lv_at hl 1 rfl) ?_
  refine lv_iload_n hx hb nd_LA_law_204 rfl (lv_at hl 0 rfl) ?_
  refine wi_ic hx hb (a := 3) nd_LA_law_205 ?_
  refine wi_iadd hx hb nd_LA_law_206 ?_
  refine wi_sld hx hb hX hbl hbA hS (i := i + 3) (by omega) (by omega) nd_LA_law_207 ?_
  refine lv_aload_n hx hb nd_LA_law_208 rfl (lv_at hl 1 rfl) ?_
  refine lv_iload_n hx hb nd_LA_law_209 rfl (lv_at hl 0 rfl) ?_
  refine wi_ic hx hb (a := 4) nd_LA_law_210 ?_
  refine wi_iadd hx hb nd_LA_law_211 ?_
  refine wi_sld hx hb hX hbl hbA hS (i := i + 4) (by omega) (by omega) nd_LA_law_212 ?_
  refine wd_Vi (C := nr_CB) (n := 4) (X := []) (Y := cw_ cI cG cM q n mr a0 a1 (u.1, u.2.1, u.2.2)) (Z := (rf_ cI r n g ++ [])) hx hb hml hown htg (c_CB_edge l D cI cG cM q n hn1 hn mr a0 a1 hm0 hm1 u.1 u.2.1 u.2.2 y hI (xs (i + 1)) (xs (i + 2)) (xs (i + 3)) (xs (i + 4)) _) tm_173 tm_170 tm_171 tm_172 tm_1 (by decide +kernel) ⟨⟨by decide, by decide⟩, rfl, rfl⟩ hP hD hS hA hK hN (va_recv (q0 := 0) (ci := 0) hK (wm_P (X := []) (Y := cw_ cI cG cM q n mr a0 a1 (u.1, u.2.1, u.2.2)) (Z := (rf_ cI r n g ++ [])) hP).2.1 rfl rfl) rfl hl.1 rfl (Nat.le_of_ble_eq_true rfl) nd_LA_law_213 hCS (fun v1 u1 H locs hp1 hP hD hS => ?_)
  have hP : va_P D cl_all (cw_ cI cG cM q n mr a0 a1 u1 ++ (rf_ cI r n g ++ [])) H := hP
  have hD : va_D A (cw_ cI cG cM q n mr a0 a1 u1 ++ (rf_ cI r n g ++ [])) := hD
  refine wi_top hp1.1 ?_
  refine lv_aload_n hx hb nd_LA_law_216 rfl (lv_at hl 3 rfl) ?_
  refine lv_aload_n hx hb nd_LA_law_217 rfl (lv_at hl 1 rfl) ?_
  refine lv_iload_n hx hb nd_LA_law_218 rfl (lv_at hl 0 rfl) ?_
  refine wi_ic hx hb (a := 1) nd_LA_law_219 ?_
  refine wi_iadd hx hb nd_LA_law_220 ?_
  refine wi_sld hx hb hX hbl hbA hS (i := i + 1) (by omega) (by omega) nd_LA_law_221 ?_
  refine lv_aload_n hx hb nd_LA_law_222 rfl (lv_at hl 1 rfl) ?_
  refine lv_iload_n hx hb nd_LA_law_223 rfl (lv_at hl 0 rfl) ?_
  refine wi_ic hx hb (a := 2) nd_LA_law_224 ?_
  refine wi_iadd hx hb nd_LA_law_225 ?_
  refine wi_sld hx hb hX hbl hbA hS (i := i + 2) (by omega) (by omega) nd_LA_law_226 ?_
  refine lv_aload_n hx hb nd_LA_law_227 rfl (lv_at hl 1 rfl) ?_
  refine lv_iload_n hx hb nd_LA_law_228 rfl (lv_at hl 0 rfl) ?_
  refine wi_ic hx hb (a := 3) nd_LA_law_229 ?_
  refine wi_iadd hx hb nd_LA_law_230 ?_
  refine wi_sld hx hb hX hbl hbA hS (i := i + 3) (by omega) (by omega) nd_LA_law_231 ?_
  refine lv_aload_n hx hb nd_LA_law_232 rfl (lv_at hl 1 rfl) ?_
  refine lv_iload_n hx hb nd_LA_law_233 rfl (lv_at hl 0 rfl) ?_
  refine wi_ic hx hb (a := 4) nd_LA_law_234 ?_
  refine wi_iadd hx hb nd_LA_law_235 ?_
  refine wi_sld hx hb hX hbl hbA hS (i := i + 4) (by omega) (by omega) nd_LA_law_236 ?_
  refine wd_Vi (C := nr_CM) (n := 4) (X := cw_ cI cG cM q n mr a0 a1 u1) (Y := rf_ cI r n g) (Z := []) hx hb hml hown htg (c_CM_edge l D cI cG cM r n hn1 hn g y hJ (xs (i + 1)) (xs (i + 2)) (xs (i + 3)) (xs (i + 4)) _) tm_444 tm_441 tm_442 tm_443 tm_9 (by decide +kernel) ⟨⟨by decide, by decide⟩, rfl, rfl⟩ hP hD hS hA hK hN (va_recv (q0 := 0) (ci := 6) hK (wm_P (X := cw_ cI cG cM q n mr a0 a1 u1) (Y := rf_ cI r n g) (Z := []) hP).2.1 rfl rfl) rfl hl.1 rfl (Nat.le_of_ble_eq_true rfl) nd_LA_law_237 hCS (fun v2 u2 H locs hp2 hP hD hS => ?_)
  have hP : va_P D cl_all (cw_ cI cG cM q n mr a0 a1 u1 ++ (rf_ cI r n u2 ++ [])) H := hP
  have hD : va_D A (cw_ cI cG cM q n mr a0 a1 u1 ++ (rf_ cI r n u2 ++ [])) := hD
  refine wi_top hp2.1 ?_
  refine lv_icmp_eq (tgt := 736) hx hb nd_LA_law_240 rfl (fun hc240 => ?_) (fun hc240 => ?_)
  · exact kx ((sp_edge n y (xs (i + 1)) (xs (i + 2)) (xs (i + 3)) (xs (i + 4))).2) u1 u2 ls H locs hp1.2 hp2.2 hl hP hD hS
  · exact absurd rfl hc240
set_option maxRecDepth 20000 in
theorem lw_k3 {p : Program} {l : Launch} {e0 : Env} {s0 : State} {m : MethodId} {below : List Frame} {meth : Method} {c : Code} {b L : Nat} {xs : Nat → Int32} {D : va_G} {A : Nat → Prop} {Qq : State → Prop} {cells slots : Nat} (cI cG cM : ClassId) (q : Nat → Nat) (n : Nat) (hn1 : 1 ≤ n) (hn : n ≤ 10) (mr : Nat → Option Nat) (a0 a1 : ma_A) (hm0 : mr 0 = some (a0.1 0)) (hm1 : mr 1 = some (a1.1 0)) (r : Nat → Nat) (hL : L ≤ 2561) (hx : p.tables.exec = Jvm.exec) (hb : c.code = nc_LA_law) (hml : c.maxLocals = 4) (htg : ∀ w ∈ tg_, w.before #[Value.ref b] s0 = true) (hown : s0.vm.findClass "CommonBasesLaw" = some m.cls) (hK : va_K D cl_all (ty_all cI cG cM) s0) (hN : tn_K s0) (hX : va_X b L xs s0 s0.heap) (hbl : b < s0.heap.size) (hbA : ¬ A b) (hA : ∀ q : Nat, s0.heap.size ≤ q → A q) (hCS : cells ≤ room_1.cells ∧ slots ≤ room_1.slots) (i : Nat) (kx : ∀ (y : cb_Y) (u : cb_S) (g : rf_S) (ls : Array Slot) (H : Heap) (locs : List Loc), cb_I n y u → rf_I n y g → lv_has ls 4 [(3, .int (nI i)), (0, .ref b), (1, .ref (q 0)), (2, .ref (r 0))] → va_P D cl_all (cw_ cI cG cM q n mr a0 a1 u ++ (rf_ cI r n g ++ [])) H → va_D A (cw_ cI cG cM q n mr a0 a1 u ++ (rf_ cI r n g ++ [])) → va_S A s0.heap H locs → W p l e0 room_1 s0 m #[Value.ref b] below meth c H locs cells slots Qq (F0 m 736 ls [])) (hi1 : 1 ≤ i) (hi : i + 5 ≤ L) (y : cb_Y) (u : cb_S) (g : rf_S) (hI : cb_I n y u) (hJ : rf_I n y g) (ls : Array Slot) (H : Heap) (locs : List Loc) (hl : lv_has ls 4 [(3, .int (nI i)), (0, .ref b), (1, .ref (q 0)), (2, .ref (r 0))]) (hP : va_P D cl_all (cw_ cI cG cM q n mr a0 a1 u ++ (rf_ cI r n g ++ [])) H) (hD : va_D A (cw_ cI cG cM q n mr a0 a1 u ++ (rf_ cI r n g ++ []))) (hS : va_S A s0.heap H locs) : W p l e0 room_1 s0 m #[Value.ref b] below meth c H locs cells slots Qq (F0 m 245 ls []) := by
  refine lv_aload_n hx hb nd_LA_law_245 rfl (lv_at hl 2 rfl) ?_
  refine lv_aload_n hx hb nd_LA_law_246 rfl (lv_at hl 1 rfl) ?_
  refine lv_iload_n hx hb nd_LA_law_247 rfl (lv_at hl 0 rfl) ?_
  refine wi_ic hx hb (a := 1) nd_LA_law_248 ?_
  refine wi_iadd hx hb nd_LA_law_249 ?_
  refine wi_sld hx hb hX hbl hbA hS (i := i + 1) (by omega) (by omega) nd_LA_law_250 ?_
  refine wd_Vi (C := nr_CB) (n := 1) (X := []) (Y := cw_ cI cG cM q n mr a0 a1 (u.1, u.2.1, u.2.2)) (Z := (rf_ cI r n g ++ [])) hx hb hml hown htg (c_CB_classes l D cI cG cM q n hn1 hn mr a0 a1 hm0 hm1 u.1 u.2.1 u.2.2 y hI (xs (i + 1)) _) tm_185 tm_182 tm_183 tm_184 tm_1 (by decide +kernel) ⟨⟨by decide, by decide⟩, rfl, rfl⟩ hP hD hS hA hK hN (va_recv (q0 := 0) (ci := 0) hK (wm_P (X := []) (Y := cw_ cI cG cM q n mr a0 a1 (u.1, u.2.1, u.2.2)) (Z := (rf_ cI r n g ++ [])) hP).2.1 rfl rfl) rfl hl.1 rfl (Nat.le_of_ble_eq_true rfl) nd_LA_law_251 hCS (fun v1 u1 H locs hp1 hP hD hS => ?_)
  have hP : va_P D cl_all (cw_ cI cG cM q n mr a0 a1 u1 ++ (rf_ cI r n g ++ [])) H := hP
  have hD : va_D A (cw_ cI cG cM q n mr a0 a1 u1 ++ (rf_ cI r n g ++ [])) := hD
  refine wi_top hp1.1 ?_
  refine lv_aload_n hx hb nd_LA_law_254 rfl (lv_at hl 3 rfl) ?_
  refine lv_aload_n hx hb nd_LA_law_255 rfl (lv_at hl 1 rfl) ?_
  refine lv_iload_n hx hb nd_LA_law_256 rfl (lv_at hl 0 rfl) ?_
  refine wi_ic hx hb (a := 1) nd_LA_law_257 ?_
  refine wi_iadd hx hb nd_LA_law_258 ?_
  refine wi_sld hx hb hX hbl hbA hS (i := i + 1) (by omega) (by omega) nd_LA_law_259 ?_
  refine wd_Vi (C := nr_CM) (n := 1) (X := cw_ cI cG cM q n mr a0 a1 u1) (Y := rf_ cI r n g) (Z := []) hx hb hml hown htg (c_CM_classes l D cI cG cM r n hn1 hn g y hJ (xs (i + 1)) _) tm_452 tm_449 tm_450 tm_451 tm_9 (by decide +kernel) ⟨⟨by decide, by decide⟩, rfl, rfl⟩ hP hD hS hA hK hN (va_recv (q0 := 0) (ci := 6) hK (wm_P (X := cw_ cI cG cM q n mr a0 a1 u1) (Y := rf_ cI r n g) (Z := []) hP).2.1 rfl rfl) rfl hl.1 rfl (Nat.le_of_ble_eq_true rfl) nd_LA_law_260 hCS (fun v2 u2 H locs hp2 hP hD hS => ?_)
  have hP : va_P D cl_all (cw_ cI cG cM q n mr a0 a1 u1 ++ (rf_ cI r n u2 ++ [])) H := hP
  have hD : va_D A (cw_ cI cG cM q n mr a0 a1 u1 ++ (rf_ cI r n u2 ++ [])) := hD
  refine wi_top hp2.1 ?_
  refine lv_icmp_eq (tgt := 736) hx hb nd_LA_law_263 rfl (fun hc263 => ?_) (fun hc263 => ?_)
  · exact kx ((sp_classes y (xs (i + 1))).2) u1 u2 ls H locs hp1.2 hp2.2 hl hP hD hS
  · exact absurd rfl hc263
set_option maxRecDepth 20000 in
theorem lw_k4 {p : Program} {l : Launch} {e0 : Env} {s0 : State} {m : MethodId} {below : List Frame} {meth : Method} {c : Code} {b L : Nat} {xs : Nat → Int32} {D : va_G} {A : Nat → Prop} {Qq : State → Prop} {cells slots : Nat} (cI cG cM : ClassId) (q : Nat → Nat) (n : Nat) (hn1 : 1 ≤ n) (hn : n ≤ 10) (mr : Nat → Option Nat) (a0 a1 : ma_A) (hm0 : mr 0 = some (a0.1 0)) (hm1 : mr 1 = some (a1.1 0)) (r : Nat → Nat) (hL : L ≤ 2561) (hx : p.tables.exec = Jvm.exec) (hb : c.code = nc_LA_law) (hml : c.maxLocals = 4) (htg : ∀ w ∈ tg_, w.before #[Value.ref b] s0 = true) (hown : s0.vm.findClass "CommonBasesLaw" = some m.cls) (hK : va_K D cl_all (ty_all cI cG cM) s0) (hN : tn_K s0) (hX : va_X b L xs s0 s0.heap) (hbl : b < s0.heap.size) (hbA : ¬ A b) (hA : ∀ q : Nat, s0.heap.size ≤ q → A q) (hCS : cells ≤ room_1.cells ∧ slots ≤ room_1.slots) (i : Nat) (kx : ∀ (y : cb_Y) (u : cb_S) (g : rf_S) (ls : Array Slot) (H : Heap) (locs : List Loc), cb_I n y u → rf_I n y g → lv_has ls 4 [(3, .int (nI i)), (0, .ref b), (1, .ref (q 0)), (2, .ref (r 0))] → va_P D cl_all (cw_ cI cG cM q n mr a0 a1 u ++ (rf_ cI r n g ++ [])) H → va_D A (cw_ cI cG cM q n mr a0 a1 u ++ (rf_ cI r n g ++ [])) → va_S A s0.heap H locs → W p l e0 room_1 s0 m #[Value.ref b] below meth c H locs cells slots Qq (F0 m 736 ls [])) (hi1 : 1 ≤ i) (hi : i + 5 ≤ L) (y : cb_Y) (u : cb_S) (g : rf_S) (hI : cb_I n y u) (hJ : rf_I n y g) (ls : Array Slot) (H : Heap) (locs : List Loc) (hl : lv_has ls 4 [(3, .int (nI i)), (0, .ref b), (1, .ref (q 0)), (2, .ref (r 0))]) (hP : va_P D cl_all (cw_ cI cG cM q n mr a0 a1 u ++ (rf_ cI r n g ++ [])) H) (hD : va_D A (cw_ cI cG cM q n mr a0 a1 u ++ (rf_ cI r n g ++ []))) (hS : va_S A s0.heap H locs) : W p l e0 room_1 s0 m #[Value.ref b] below meth c H locs cells slots Qq (F0 m 268 ls []) := by
  refine lv_aload_n hx hb nd_LA_law_268 rfl (lv_at hl 2 rfl) ?_
  refine lv_aload_n hx hb nd_LA_law_269 rfl (lv_at hl 1 rfl) ?_
  refine lv_iload_n hx hb nd_LA_law_270 rfl (lv_at hl 0 rfl) ?_
  refine wi_ic hx hb (a := 1) nd_LA_law_271 ?_
  refine wi_iadd hx hb nd_LA_law_272 ?_
  refine wi_sld hx hb hX hbl hbA hS (i := i + 1) (by omega) (by omega) nd_LA_law_273 ?_
  refine lv_aload_n hx hb nd_LA_law_274 rfl (lv_at hl 1 rfl) ?_
  refine lv_iload_n hx hb nd_LA_law_275 rfl (lv_at hl 0 rfl) ?_
  refine wi_ic hx hb (a := 2) nd_LA_law_276 ?_
  refine wi_iadd hx hb nd_LA_law_277 ?_
  refine wi_sld hx hb hX hbl hbA hS (i := i + 2) (by omega) (by omega) nd_LA_law_278 ?_
  refine lv_aload_n hx hb nd_LA_law_279 rfl (lv_at hl 1 rfl) ?_
  refine lv_iload_n hx hb nd_LA_law_280 rfl (lv_at hl 0 rfl) ?_
  refine wi_ic hx hb (a := 3) nd_LA_law_281 ?_
  refine wi_iadd hx hb nd_LA_law_282 ?_
  refine wi_sld hx hb hX hbl hbA hS (i := i + 3) (by omega) (by omega) nd_LA_law_283 ?_
  refine wd_Vi (C := nr_CB) (n := 3) (X := []) (Y := cw_ cI cG cM q n mr a0 a1 (u.1, u.2.1, u.2.2)) (Z := (rf_ cI r n g ++ [])) hx hb hml hown htg (c_CB_part l D cI cG cM q n hn1 hn mr a0 a1 hm0 hm1 u.1 u.2.1 u.2.2 y hI (xs (i + 1)) (xs (i + 2)) (xs (i + 3)) _) tm_198 tm_195 tm_196 tm_197 tm_1 (by decide +kernel) ⟨⟨by decide, by decide⟩, rfl, rfl⟩ hP hD hS hA hK hN (va_recv (q0 := 0) (ci := 0) hK (wm_P (X := []) (Y := cw_ cI cG cM q n mr a0 a1 (u.1, u.2.1, u.2.2)) (Z := (rf_ cI r n g ++ [])) hP).2.1 rfl rfl) rfl hl.1 rfl (Nat.le_of_ble_eq_true rfl) nd_LA_law_284 hCS (fun v1 u1 H locs hp1 hP hD hS => ?_)
  have hP : va_P D cl_all (cw_ cI cG cM q n mr a0 a1 u1 ++ (rf_ cI r n g ++ [])) H := hP
  have hD : va_D A (cw_ cI cG cM q n mr a0 a1 u1 ++ (rf_ cI r n g ++ [])) := hD
  refine wi_top hp1.1 ?_
  refine lv_aload_n hx hb nd_LA_law_287 rfl (lv_at hl 3 rfl) ?_
  refine lv_aload_n hx hb nd_LA_law_288 rfl (lv_at hl 1 rfl) ?_
  refine lv_iload_n hx hb nd_LA_law_289 rfl (lv_at hl 0 rfl) ?_
  refine wi_ic hx hb (a := 1) nd_LA_law_290 ?_
  refine wi_iadd hx hb nd_LA_law_291 ?_
  refine wi_sld hx hb hX hbl hbA hS (i := i + 1) (by omega) (by omega) nd_LA_law_292 ?_
  refine lv_aload_n hx hb nd_LA_law_293 rfl (lv_at hl 1 rfl) ?_
  refine lv_iload_n hx hb nd_LA_law_294 rfl (lv_at hl 0 rfl) ?_
  refine wi_ic hx hb (a := 2) nd_LA_law_295 ?_
  refine wi_iadd hx hb nd_LA_law_296 ?_
  refine wi_sld hx hb hX hbl hbA hS (i := i + 2) (by omega) (by omega) nd_LA_law_297 ?_
  refine lv_aload_n hx hb nd_LA_law_298 rfl (lv_at hl 1 rfl) ?_
  refine lv_iload_n hx hb nd_LA_law_299 rfl (lv_at hl 0 rfl) ?_
  refine wi_ic hx hb (a := 3) nd_LA_law_300 ?_
  refine wi_iadd hx hb nd_LA_law_301 ?_
  refine wi_sld hx hb hX hbl hbA hS (i := i + 3) (by omega) (by omega) nd_LA_law_302 ?_
  refine wd_Vi (C := nr_CM) (n := 3) (X := cw_ cI cG cM q n mr a0 a1 u1) (Y := rf_ cI r n g) (Z := []) hx hb hml hown htg (c_CM_part l D cI cG cM r n hn1 hn g y hJ (xs (i + 1)) (xs (i + 2)) (xs (i + 3)) _) tm_456 tm_453 tm_454 tm_455 tm_9 (by decide +kernel) ⟨⟨by decide, by decide⟩, rfl, rfl⟩ hP hD hS hA hK hN (va_recv (q0 := 0) (ci := 6) hK (wm_P (X := cw_ cI cG cM q n mr a0 a1 u1) (Y := rf_ cI r n g) (Z := []) hP).2.1 rfl rfl) rfl hl.1 rfl (Nat.le_of_ble_eq_true rfl) nd_LA_law_303 hCS (fun v2 u2 H locs hp2 hP hD hS => ?_)
  have hP : va_P D cl_all (cw_ cI cG cM q n mr a0 a1 u1 ++ (rf_ cI r n u2 ++ [])) H := hP
  have hD : va_D A (cw_ cI cG cM q n mr a0 a1 u1 ++ (rf_ cI r n u2 ++ [])) := hD
  refine wi_top hp2.1 ?_
  refine lv_icmp_eq (tgt := 736) hx hb nd_LA_law_306 rfl (fun hc306 => ?_) (fun hc306 => ?_)
  · exact kx ((sp_part n y (xs (i + 1)) (xs (i + 2)) (xs (i + 3))).2) u1 u2 ls H locs hp1.2 hp2.2 hl hP hD hS
  · exact absurd rfl hc306
set_option maxRecDepth 20000 in
theorem lw_k5 {p : Program} {l : Launch} {e0 : Env} {s0 : State} {m : MethodId} {below : List Frame} {meth : Method} {c : Code} {b L : Nat} {xs : Nat → Int32} {D : va_G} {A : Nat → Prop} {Qq : State → Prop} {cells slots : Nat} (cI cG cM : ClassId) (q : Nat → Nat) (n : Nat) (hn1 : 1 ≤ n) (hn : n ≤ 10) (mr : Nat → Option Nat) (a0 a1 : ma_A) (hm0 : mr 0 = some (a0.1 0)) (hm1 : mr 1 = some (a1.1 0)) (r : Nat → Nat) (hL : L ≤ 2561) (hx : p.tables.exec = Jvm.exec) (hb : c.code = nc_LA_law) (hml : c.maxLocals = 4) (htg : ∀ w ∈ tg_, w.before #[Value.ref b] s0 = true) (hown : s0.vm.findClass "CommonBasesLaw" = some m.cls) (hK : va_K D cl_all (ty_all cI cG cM) s0) (hN : tn_K s0) (hX : va_X b L xs s0 s0.heap) (hbl : b < s0.heap.size) (hbA : ¬ A b) (hA : ∀ q : Nat, s0.heap.size ≤ q → A q) (hCS : cells ≤ room_1.cells ∧ slots ≤ room_1.slots) (i : Nat) (kx : ∀ (y : cb_Y) (u : cb_S) (g : rf_S) (ls : Array Slot) (H : Heap) (locs : List Loc), cb_I n y u → rf_I n y g → lv_has ls 4 [(3, .int (nI i)), (0, .ref b), (1, .ref (q 0)), (2, .ref (r 0))] → va_P D cl_all (cw_ cI cG cM q n mr a0 a1 u ++ (rf_ cI r n g ++ [])) H → va_D A (cw_ cI cG cM q n mr a0 a1 u ++ (rf_ cI r n g ++ [])) → va_S A s0.heap H locs → W p l e0 room_1 s0 m #[Value.ref b] below meth c H locs cells slots Qq (F0 m 736 ls [])) (hi1 : 1 ≤ i) (hi : i + 5 ≤ L) (y : cb_Y) (u : cb_S) (g : rf_S) (hI : cb_I n y u) (hJ : rf_I n y g) (ls : Array Slot) (H : Heap) (locs : List Loc) (hl : lv_has ls 4 [(3, .int (nI i)), (0, .ref b), (1, .ref (q 0)), (2, .ref (r 0))]) (hP : va_P D cl_all (cw_ cI cG cM q n mr a0 a1 u ++ (rf_ cI r n g ++ [])) H) (hD : va_D A (cw_ cI cG cM q n mr a0 a1 u ++ (rf_ cI r n g ++ []))) (hS : va_S A s0.heap H locs) : W p l e0 room_1 s0 m #[Value.ref b] below meth c H locs cells slots Qq (F0 m 311 ls []) := by
  refine lv_aload_n hx hb nd_LA_law_311 rfl (lv_at hl 2 rfl) ?_
  refine lv_aload_n hx hb nd_LA_law_312 rfl (lv_at hl 1 rfl) ?_
  refine lv_iload_n hx hb nd_LA_law_313 rfl (lv_at hl 0 rfl) ?_
  refine wi_ic hx hb (a := 1) nd_LA_law_314 ?_
  refine wi_iadd hx hb nd_LA_law_315 ?_
  refine wi_sld hx hb hX hbl hbA hS (i := i + 1) (by omega) (by omega) nd_LA_law_316 ?_
  refine lv_aload_n hx hb nd_LA_law_317 rfl (lv_at hl 1 rfl) ?_
  refine lv_iload_n hx hb nd_LA_law_318 rfl (lv_at hl 0 rfl) ?_
  refine wi_ic hx hb (a := 2) nd_LA_law_319 ?_
  refine wi_iadd hx hb nd_LA_law_320 ?_
  refine wi_sld hx hb hX hbl hbA hS (i := i + 2) (by omega) (by omega) nd_LA_law_321 ?_
  refine lv_aload_n hx hb nd_LA_law_322 rfl (lv_at hl 1 rfl) ?_
  refine lv_iload_n hx hb nd_LA_law_323 rfl (lv_at hl 0 rfl) ?_
  refine wi_ic hx hb (a := 3) nd_LA_law_324 ?_
  refine wi_iadd hx hb nd_LA_law_325 ?_
  refine wi_sld hx hb hX hbl hbA hS (i := i + 3) (by omega) (by omega) nd_LA_law_326 ?_
  refine wd_Vi (C := nr_CB) (n := 3) (X := []) (Y := cw_ cI cG cM q n mr a0 a1 (u.1, u.2.1, u.2.2)) (Z := (rf_ cI r n g ++ [])) hx hb hml hown htg (c_CB_cap l D cI cG cM q n hn1 hn mr a0 a1 hm0 hm1 u.1 u.2.1 u.2.2 y hI (xs (i + 1)) (xs (i + 2)) (xs (i + 3)) _) tm_206 tm_203 tm_204 tm_205 tm_1 (by decide +kernel) ⟨⟨by decide, by decide⟩, rfl, rfl⟩ hP hD hS hA hK hN (va_recv (q0 := 0) (ci := 0) hK (wm_P (X := []) (Y := cw_ cI cG cM q n mr a0 a1 (u.1, u.2.1, u.2.2)) (Z := (rf_ cI r n g ++ [])) hP).2.1 rfl rfl) rfl hl.1 rfl (Nat.le_of_ble_eq_true rfl) nd_LA_law_327 hCS (fun v1 u1 H locs hp1 hP hD hS => ?_)
  have hP : va_P D cl_all (cw_ cI cG cM q n mr a0 a1 u1 ++ (rf_ cI r n g ++ [])) H := hP
  have hD : va_D A (cw_ cI cG cM q n mr a0 a1 u1 ++ (rf_ cI r n g ++ [])) := hD
  refine wi_top hp1.1 ?_
  refine lv_aload_n hx hb nd_LA_law_330 rfl (lv_at hl 3 rfl) ?_
  refine lv_aload_n hx hb nd_LA_law_331 rfl (lv_at hl 1 rfl) ?_
  refine lv_iload_n hx hb nd_LA_law_332 rfl (lv_at hl 0 rfl) ?_
  refine wi_ic hx hb (a := 1) nd_LA_law_333 ?_
  refine wi_iadd hx hb nd_LA_law_334 ?_
  refine wi_sld hx hb hX hbl hbA hS (i := i + 1) (by omega) (by omega) nd_LA_law_335 ?_
  refine lv_aload_n hx hb nd_LA_law_336 rfl (lv_at hl 1 rfl) ?_
  refine lv_iload_n hx hb nd_LA_law_337 rfl (lv_at hl 0 rfl) ?_
  refine wi_ic hx hb (a := 2) nd_LA_law_338 ?_
  refine wi_iadd hx hb nd_LA_law_339 ?_
  refine wi_sld hx hb hX hbl hbA hS (i := i + 2) (by omega) (by omega) nd_LA_law_340 ?_
  refine lv_aload_n hx hb nd_LA_law_341 rfl (lv_at hl 1 rfl) ?_
  refine lv_iload_n hx hb nd_LA_law_342 rfl (lv_at hl 0 rfl) ?_
  refine wi_ic hx hb (a := 3) nd_LA_law_343 ?_
  refine wi_iadd hx hb nd_LA_law_344 ?_
  refine wi_sld hx hb hX hbl hbA hS (i := i + 3) (by omega) (by omega) nd_LA_law_345 ?_
  refine wd_Vi (C := nr_CM) (n := 3) (X := cw_ cI cG cM q n mr a0 a1 u1) (Y := rf_ cI r n g) (Z := []) hx hb hml hown htg (c_CM_cap l D cI cG cM r n hn1 hn g y hJ (xs (i + 1)) (xs (i + 2)) (xs (i + 3)) _) tm_460 tm_457 tm_458 tm_459 tm_9 (by decide +kernel) ⟨⟨by decide, by decide⟩, rfl, rfl⟩ hP hD hS hA hK hN (va_recv (q0 := 0) (ci := 6) hK (wm_P (X := cw_ cI cG cM q n mr a0 a1 u1) (Y := rf_ cI r n g) (Z := []) hP).2.1 rfl rfl) rfl hl.1 rfl (Nat.le_of_ble_eq_true rfl) nd_LA_law_346 hCS (fun v2 u2 H locs hp2 hP hD hS => ?_)
  have hP : va_P D cl_all (cw_ cI cG cM q n mr a0 a1 u1 ++ (rf_ cI r n u2 ++ [])) H := hP
  have hD : va_D A (cw_ cI cG cM q n mr a0 a1 u1 ++ (rf_ cI r n u2 ++ [])) := hD
  refine wi_top hp2.1 ?_
  refine lv_icmp_eq (tgt := 736) hx hb nd_LA_law_349 rfl (fun hc349 => ?_) (fun hc349 => ?_)
  · exact kx ((sp_cap y (xs (i + 1)) (xs (i + 2)) (xs (i + 3))).2) u1 u2 ls H locs hp1.2 hp2.2 hl hP hD hS
  · exact absurd rfl hc349
set_option maxRecDepth 20000 in
theorem lw_k6 {p : Program} {l : Launch} {e0 : Env} {s0 : State} {m : MethodId} {below : List Frame} {meth : Method} {c : Code} {b L : Nat} {xs : Nat → Int32} {D : va_G} {A : Nat → Prop} {Qq : State → Prop} {cells slots : Nat} (cI cG cM : ClassId) (q : Nat → Nat) (n : Nat) (hn1 : 1 ≤ n) (hn : n ≤ 10) (mr : Nat → Option Nat) (a0 a1 : ma_A) (hm0 : mr 0 = some (a0.1 0)) (hm1 : mr 1 = some (a1.1 0)) (r : Nat → Nat) (hL : L ≤ 2561) (hx : p.tables.exec = Jvm.exec) (hb : c.code = nc_LA_law) (hml : c.maxLocals = 4) (htg : ∀ w ∈ tg_, w.before #[Value.ref b] s0 = true) (hown : s0.vm.findClass "CommonBasesLaw" = some m.cls) (hK : va_K D cl_all (ty_all cI cG cM) s0) (hN : tn_K s0) (hX : va_X b L xs s0 s0.heap) (hbl : b < s0.heap.size) (hbA : ¬ A b) (hA : ∀ q : Nat, s0.heap.size ≤ q → A q) (hCS : cells ≤ room_1.cells ∧ slots ≤ room_1.slots) (i : Nat) (kx : ∀ (y : cb_Y) (u : cb_S) (g : rf_S) (ls : Array Slot) (H : Heap) (locs : List Loc), cb_I n y u → rf_I n y g → lv_has ls 4 [(3, .int (nI i)), (0, .ref b), (1, .ref (q 0)), (2, .ref (r 0))] → va_P D cl_all (cw_ cI cG cM q n mr a0 a1 u ++ (rf_ cI r n g ++ [])) H → va_D A (cw_ cI cG cM q n mr a0 a1 u ++ (rf_ cI r n g ++ [])) → va_S A s0.heap H locs → W p l e0 room_1 s0 m #[Value.ref b] below meth c H locs cells slots Qq (F0 m 736 ls [])) (hi1 : 1 ≤ i) (hi : i + 5 ≤ L) (y : cb_Y) (u : cb_S) (g : rf_S) (hI : cb_I n y u) (hJ : rf_I n y g) (ls : Array Slot) (H : Heap) (locs : List Loc) (hl : lv_has ls 4 [(3, .int (nI i)), (0, .ref b), (1, .ref (q 0)), (2, .ref (r 0))]) (hP : va_P D cl_all (cw_ cI cG cM q n mr a0 a1 u ++ (rf_ cI r n g ++ [])) H) (hD : va_D A (cw_ cI cG cM q n mr a0 a1 u ++ (rf_ cI r n g ++ []))) (hS : va_S A s0.heap H locs) : W p l e0 room_1 s0 m #[Value.ref b] below meth c H locs cells slots Qq (F0 m 354 ls []) := by
  refine lv_aload_n hx hb nd_LA_law_354 rfl (lv_at hl 2 rfl) ?_
  refine lv_aload_n hx hb nd_LA_law_355 rfl (lv_at hl 1 rfl) ?_
  refine lv_iload_n hx hb nd_LA_law_356 rfl (lv_at hl 0 rfl) ?_
  refine wi_ic hx hb (a := 1) nd_LA_law_357 ?_
  refine wi_iadd hx hb nd_LA_law_358 ?_
  refine wi_sld hx hb hX hbl hbA hS (i := i + 1) (by omega) (by omega) nd_LA_law_359 ?_
  refine lv_aload_n hx hb nd_LA_law_360 rfl (lv_at hl 1 rfl) ?_
  refine lv_iload_n hx hb nd_LA_law_361 rfl (lv_at hl 0 rfl) ?_
  refine wi_ic hx hb (a := 2) nd_LA_law_362 ?_
  refine wi_iadd hx hb nd_LA_law_363 ?_
  refine wi_sld hx hb hX hbl hbA hS (i := i + 2) (by omega) (by omega) nd_LA_law_364 ?_
  refine wd_Vi (C := nr_CB) (n := 2) (X := []) (Y := cw_ cI cG cM q n mr a0 a1 (u.1, u.2.1, u.2.2)) (Z := (rf_ cI r n g ++ [])) hx hb hml hown htg (c_CB_linear l D cI cG cM q n hn1 hn mr a0 a1 hm0 hm1 u.1 u.2.1 u.2.2 y hI (xs (i + 1)) (xs (i + 2)) _) tm_214 tm_211 tm_212 tm_213 tm_1 (by decide +kernel) ⟨⟨by decide, by decide⟩, rfl, rfl⟩ hP hD hS hA hK hN (va_recv (q0 := 0) (ci := 0) hK (wm_P (X := []) (Y := cw_ cI cG cM q n mr a0 a1 (u.1, u.2.1, u.2.2)) (Z := (rf_ cI r n g ++ [])) hP).2.1 rfl rfl) rfl hl.1 rfl (Nat.le_of_ble_eq_true rfl) nd_LA_law_365 hCS (fun v1 u1 H locs hp1 hP hD hS => ?_)
  have hP : va_P D cl_all (cw_ cI cG cM q n mr a0 a1 u1 ++ (rf_ cI r n g ++ [])) H := hP
  have hD : va_D A (cw_ cI cG cM q n mr a0 a1 u1 ++ (rf_ cI r n g ++ [])) := hD
  refine wi_top hp1.1 ?_
  refine lv_aload_n hx hb nd_LA_law_368 rfl (lv_at hl 3 rfl) ?_
  refine lv_aload_n hx hb nd_LA_law_369 rfl (lv_at hl 1 rfl) ?_
  refine lv_iload_n hx hb nd_LA_law_370 rfl (lv_at hl 0 rfl) ?_
  refine wi_ic hx hb (a := 1) nd_LA_law_371 ?_
  refine wi_iadd hx hb nd_LA_law_372 ?_
  refine wi_sld hx hb hX hbl hbA hS (i := i + 1) (by omega) (by omega) nd_LA_law_373 ?_
  refine lv_aload_n hx hb nd_LA_law_374 rfl (lv_at hl 1 rfl) ?_
  refine lv_iload_n hx hb nd_LA_law_375 rfl (lv_at hl 0 rfl) ?_
  refine wi_ic hx hb (a := 2) nd_LA_law_376 ?_
  refine wi_iadd hx hb nd_LA_law_377 ?_
  refine wi_sld hx hb hX hbl hbA hS (i := i + 2) (by omega) (by omega) nd_LA_law_378 ?_
  refine wd_Vi (C := nr_CM) (n := 2) (X := cw_ cI cG cM q n mr a0 a1 u1) (Y := rf_ cI r n g) (Z := []) hx hb hml hown htg (c_CM_linear l D cI cG cM r n hn1 hn g y hJ (xs (i + 1)) (xs (i + 2)) _) tm_464 tm_461 tm_462 tm_463 tm_9 (by decide +kernel) ⟨⟨by decide, by decide⟩, rfl, rfl⟩ hP hD hS hA hK hN (va_recv (q0 := 0) (ci := 6) hK (wm_P (X := cw_ cI cG cM q n mr a0 a1 u1) (Y := rf_ cI r n g) (Z := []) hP).2.1 rfl rfl) rfl hl.1 rfl (Nat.le_of_ble_eq_true rfl) nd_LA_law_379 hCS (fun v2 u2 H locs hp2 hP hD hS => ?_)
  have hP : va_P D cl_all (cw_ cI cG cM q n mr a0 a1 u1 ++ (rf_ cI r n u2 ++ [])) H := hP
  have hD : va_D A (cw_ cI cG cM q n mr a0 a1 u1 ++ (rf_ cI r n u2 ++ [])) := hD
  refine wi_top hp2.1 ?_
  refine lv_icmp_eq (tgt := 736) hx hb nd_LA_law_382 rfl (fun hc382 => ?_) (fun hc382 => ?_)
  · exact kx ((sp_linear y (xs (i + 1)) (xs (i + 2))).2) u1 u2 ls H locs hp1.2 hp2.2 hl hP hD hS
  · exact absurd rfl hc382
set_option maxRecDepth 20000 in
theorem lw_k7 {p : Program} {l : Launch} {e0 : Env} {s0 : State} {m : MethodId} {below : List Frame} {meth : Method} {c : Code} {b L : Nat} {xs : Nat → Int32} {D : va_G} {A : Nat → Prop} {Qq : State → Prop} {cells slots : Nat} (cI cG cM : ClassId) (q : Nat → Nat) (n : Nat) (hn1 : 1 ≤ n) (hn : n ≤ 10) (mr : Nat → Option Nat) (a0 a1 : ma_A) (hm0 : mr 0 = some (a0.1 0)) (hm1 : mr 1 = some (a1.1 0)) (r : Nat → Nat) (hL : L ≤ 2561) (hx : p.tables.exec = Jvm.exec) (hb : c.code = nc_LA_law) (hml : c.maxLocals = 4) (htg : ∀ w ∈ tg_, w.before #[Value.ref b] s0 = true) (hown : s0.vm.findClass "CommonBasesLaw" = some m.cls) (hK : va_K D cl_all (ty_all cI cG cM) s0) (hN : tn_K s0) (hX : va_X b L xs s0 s0.heap) (hbl : b < s0.heap.size) (hbA : ¬ A b) (hA : ∀ q : Nat, s0.heap.size ≤ q → A q) (hCS : cells ≤ room_1.cells ∧ slots ≤ room_1.slots) (i : Nat) (kx : ∀ (y : cb_Y) (u : cb_S) (g : rf_S) (ls : Array Slot) (H : Heap) (locs : List Loc), cb_I n y u → rf_I n y g → lv_has ls 4 [(3, .int (nI i)), (0, .ref b), (1, .ref (q 0)), (2, .ref (r 0))] → va_P D cl_all (cw_ cI cG cM q n mr a0 a1 u ++ (rf_ cI r n g ++ [])) H → va_D A (cw_ cI cG cM q n mr a0 a1 u ++ (rf_ cI r n g ++ [])) → va_S A s0.heap H locs → W p l e0 room_1 s0 m #[Value.ref b] below meth c H locs cells slots Qq (F0 m 736 ls [])) (hi1 : 1 ≤ i) (hi : i + 5 ≤ L) (y : cb_Y) (u : cb_S) (g : rf_S) (hI : cb_I n y u) (hJ : rf_I n y g) (ls : Array Slot) (H : Heap) (locs : List Loc) (hl : lv_has ls 4 [(3, .int (nI i)), (0, .ref b), (1, .ref (q 0)), (2, .ref (r 0))]) (hP : va_P D cl_all (cw_ cI cG cM q n mr a0 a1 u ++ (rf_ cI r n g ++ [])) H) (hD : va_D A (cw_ cI cG cM q n mr a0 a1 u ++ (rf_ cI r n g ++ []))) (hS : va_S A s0.heap H locs) : W p l e0 room_1 s0 m #[Value.ref b] below meth c H locs cells slots Qq (F0 m 387 ls []) := by
  refine lv_aload_n hx hb nd_LA_law_387 rfl (lv_at hl 2 rfl) ?_
  refine lv_aload_n hx hb nd_LA_law_388 rfl (lv_at hl 1 rfl) ?_
  refine lv_iload_n hx hb nd_LA_law_389 rfl (lv_at hl 0 rfl) ?_
  refine wi_ic hx hb (a := 1) nd_LA_law_390 ?_
  refine wi_iadd hx hb nd_LA_law_391 ?_
  refine wi_sld hx hb hX hbl hbA hS (i := i + 1) (by omega) (by omega) nd_LA_law_392 ?_
  refine lv_aload_n hx hb nd_LA_law_393 rfl (lv_at hl 1 rfl) ?_
  refine lv_iload_n hx hb nd_LA_law_394 rfl (lv_at hl 0 rfl) ?_
  refine wi_ic hx hb (a := 2) nd_LA_law_395 ?_
  refine wi_iadd hx hb nd_LA_law_396 ?_
  refine wi_sld hx hb hX hbl hbA hS (i := i + 2) (by omega) (by omega) nd_LA_law_397 ?_
  refine lv_aload_n hx hb nd_LA_law_398 rfl (lv_at hl 1 rfl) ?_
  refine lv_iload_n hx hb nd_LA_law_399 rfl (lv_at hl 0 rfl) ?_
  refine wi_ic hx hb (a := 3) nd_LA_law_400 ?_
  refine wi_iadd hx hb nd_LA_law_401 ?_
  refine wi_sld hx hb hX hbl hbA hS (i := i + 3) (by omega) (by omega) nd_LA_law_402 ?_
  refine lv_aload_n hx hb nd_LA_law_403 rfl (lv_at hl 1 rfl) ?_
  refine lv_iload_n hx hb nd_LA_law_404 rfl (lv_at hl 0 rfl) ?_
  refine wi_ic hx hb (a := 4) nd_LA_law_405 ?_
  refine wi_iadd hx hb nd_LA_law_406 ?_
  refine wi_sld hx hb hX hbl hbA hS (i := i + 4) (by omega) (by omega) nd_LA_law_407 ?_
  refine wd_Vi (C := nr_CB) (n := 4) (X := []) (Y := cw_ cI cG cM q n mr a0 a1 (u.1, u.2.1, u.2.2)) (Z := (rf_ cI r n g ++ [])) hx hb hml hown htg (c_CB_entry l D cI cG cM q n hn1 hn mr a0 a1 hm0 hm1 u.1 u.2.1 u.2.2 y hI (xs (i + 1)) (xs (i + 2)) (xs (i + 3)) (xs (i + 4)) _) tm_230 tm_227 tm_228 tm_229 tm_1 (by decide +kernel) ⟨⟨by decide, by decide⟩, rfl, rfl⟩ hP hD hS hA hK hN (va_recv (q0 := 0) (ci := 0) hK (wm_P (X := []) (Y := cw_ cI cG cM q n mr a0 a1 (u.1, u.2.1, u.2.2)) (Z := (rf_ cI r n g ++ [])) hP).2.1 rfl rfl) rfl hl.1 rfl (Nat.le_of_ble_eq_true rfl) nd_LA_law_408 hCS (fun v1 u1 H locs hp1 hP hD hS => ?_)
  have hP : va_P D cl_all (cw_ cI cG cM q n mr a0 a1 u1 ++ (rf_ cI r n g ++ [])) H := hP
  have hD : va_D A (cw_ cI cG cM q n mr a0 a1 u1 ++ (rf_ cI r n g ++ [])) := hD
  refine wi_top hp1.1 ?_
  refine lv_aload_n hx hb nd_LA_law_411 rfl (lv_at hl 3 rfl) ?_
  refine lv_aload_n hx hb nd_LA_law_412 rfl (lv_at hl 1 rfl) ?_
  refine lv_iload_n hx hb nd_LA_law_413 rfl (lv_at hl 0 rfl) ?_
  refine wi_ic hx hb (a := 1) nd_LA_law_414 ?_
  refine wi_iadd hx hb nd_LA_law_415 ?_
  refine wi_sld hx hb hX hbl hbA hS (i := i + 1) (by omega) (by omega) nd_LA_law_416 ?_
  refine lv_aload_n hx hb nd_LA_law_417 rfl (lv_at hl 1 rfl) ?_
  refine lv_iload_n hx hb nd_LA_law_418 rfl (lv_at hl 0 rfl) ?_
  refine wi_ic hx hb (a := 2) nd_LA_law_419 ?_
  refine wi_iadd hx hb nd_LA_law_420 ?_
  refine wi_sld hx hb hX hbl hbA hS (i := i + 2) (by omega) (by omega) nd_LA_law_421 ?_
  refine lv_aload_n hx hb nd_LA_law_422 rfl (lv_at hl 1 rfl) ?_
  refine lv_iload_n hx hb nd_LA_law_423 rfl (lv_at hl 0 rfl) ?_
  refine wi_ic hx hb (a := 3) nd_LA_law_424 ?_
  refine wi_iadd hx hb nd_LA_law_425 ?_
  refine wi_sld hx hb hX hbl hbA hS (i := i + 3) (by omega) (by omega) nd_LA_law_426 ?_
  refine lv_aload_n hx hb nd_LA_law_427 rfl (lv_at hl 1 rfl) ?_
  refine lv_iload_n hx hb nd_LA_law_428 rfl (lv_at hl 0 rfl) ?_
  refine wi_ic hx hb (a := 4) nd_LA_law_429 ?_
  refine wi_iadd hx hb nd_LA_law_430 ?_
  refine wi_sld hx hb hX hbl hbA hS (i := i + 4) (by omega) (by omega) nd_LA_law_431 ?_
  refine wd_Vi (C := nr_CM) (n := 4) (X := cw_ cI cG cM q n mr a0 a1 u1) (Y := rf_ cI r n g) (Z := []) hx hb hml hown htg (c_CM_entry l D cI cG cM r n hn1 hn g y hJ (xs (i + 1)) (xs (i + 2)) (xs (i + 3)) (xs (i + 4)) _) tm_468 tm_465 tm_466 tm_467 tm_9 (by decide +kernel) ⟨⟨by decide, by decide⟩, rfl, rfl⟩ hP hD hS hA hK hN (va_recv (q0 := 0) (ci := 6) hK (wm_P (X := cw_ cI cG cM q n mr a0 a1 u1) (Y := rf_ cI r n g) (Z := []) hP).2.1 rfl rfl) rfl hl.1 rfl (Nat.le_of_ble_eq_true rfl) nd_LA_law_432 hCS (fun v2 u2 H locs hp2 hP hD hS => ?_)
  have hP : va_P D cl_all (cw_ cI cG cM q n mr a0 a1 u1 ++ (rf_ cI r n u2 ++ [])) H := hP
  have hD : va_D A (cw_ cI cG cM q n mr a0 a1 u1 ++ (rf_ cI r n u2 ++ [])) := hD
  refine wi_top hp2.1 ?_
  refine lv_icmp_eq (tgt := 736) hx hb nd_LA_law_435 rfl (fun hc435 => ?_) (fun hc435 => ?_)
  · exact kx ((sp_entry n y (xs (i + 1)) (xs (i + 2)) (xs (i + 3)) (xs (i + 4))).2) u1 u2 ls H locs hp1.2 hp2.2 hl hP hD hS
  · exact absurd rfl hc435
set_option maxRecDepth 20000 in
theorem lw_k8 {p : Program} {l : Launch} {e0 : Env} {s0 : State} {m : MethodId} {below : List Frame} {meth : Method} {c : Code} {b L : Nat} {xs : Nat → Int32} {D : va_G} {A : Nat → Prop} {Qq : State → Prop} {cells slots : Nat} (cI cG cM : ClassId) (q : Nat → Nat) (n : Nat) (hn1 : 1 ≤ n) (hn : n ≤ 10) (mr : Nat → Option Nat) (a0 a1 : ma_A) (hm0 : mr 0 = some (a0.1 0)) (hm1 : mr 1 = some (a1.1 0)) (r : Nat → Nat) (hL : L ≤ 2561) (hx : p.tables.exec = Jvm.exec) (hb : c.code = nc_LA_law) (hml : c.maxLocals = 4) (htg : ∀ w ∈ tg_, w.before #[Value.ref b] s0 = true) (hown : s0.vm.findClass "CommonBasesLaw" = some m.cls) (hK : va_K D cl_all (ty_all cI cG cM) s0) (hN : tn_K s0) (hX : va_X b L xs s0 s0.heap) (hbl : b < s0.heap.size) (hbA : ¬ A b) (hA : ∀ q : Nat, s0.heap.size ≤ q → A q) (hCS : cells ≤ room_1.cells ∧ slots ≤ room_1.slots) (i : Nat) (kx : ∀ (y : cb_Y) (u : cb_S) (g : rf_S) (ls : Array Slot) (H : Heap) (locs : List Loc), cb_I n y u → rf_I n y g → lv_has ls 4 [(3, .int (nI i)), (0, .ref b), (1, .ref (q 0)), (2, .ref (r 0))] → va_P D cl_all (cw_ cI cG cM q n mr a0 a1 u ++ (rf_ cI r n g ++ [])) H → va_D A (cw_ cI cG cM q n mr a0 a1 u ++ (rf_ cI r n g ++ [])) → va_S A s0.heap H locs → W p l e0 room_1 s0 m #[Value.ref b] below meth c H locs cells slots Qq (F0 m 736 ls [])) (hi1 : 1 ≤ i) (hi : i + 5 ≤ L) (y : cb_Y) (u : cb_S) (g : rf_S) (hI : cb_I n y u) (hJ : rf_I n y g) (ls : Array Slot) (H : Heap) (locs : List Loc) (hl : lv_has ls 4 [(3, .int (nI i)), (0, .ref b), (1, .ref (q 0)), (2, .ref (r 0))]) (hP : va_P D cl_all (cw_ cI cG cM q n mr a0 a1 u ++ (rf_ cI r n g ++ [])) H) (hD : va_D A (cw_ cI cG cM q n mr a0 a1 u ++ (rf_ cI r n g ++ []))) (hS : va_S A s0.heap H locs) : W p l e0 room_1 s0 m #[Value.ref b] below meth c H locs cells slots Qq (F0 m 440 ls []) := by
  refine lv_aload_n hx hb nd_LA_law_440 rfl (lv_at hl 2 rfl) ?_
  refine lv_aload_n hx hb nd_LA_law_441 rfl (lv_at hl 1 rfl) ?_
  refine lv_iload_n hx hb nd_LA_law_442 rfl (lv_at hl 0 rfl) ?_
  refine wi_ic hx hb (a := 1) nd_LA_law_443 ?_
  refine wi_iadd hx hb nd_LA_law_444 ?_
  refine wi_sld hx hb hX hbl hbA hS (i := i + 1) (by omega) (by omega) nd_LA_law_445 ?_
  refine lv_aload_n hx hb nd_LA_law_446 rfl (lv_at hl 1 rfl) ?_
  refine lv_iload_n hx hb nd_LA_law_447 rfl (lv_at hl 0 rfl) ?_
  refine wi_ic hx hb (a := 2) nd_LA_law_448 ?_
  refine wi_iadd hx hb nd_LA_law_449 ?_
  refine wi_sld hx hb hX hbl hbA hS (i := i + 2) (by omega) (by omega) nd_LA_law_450 ?_
  refine wd_Vi (C := nr_CB) (n := 2) (X := []) (Y := cw_ cI cG cM q n mr a0 a1 (u.1, u.2.1, u.2.2)) (Z := (rf_ cI r n g ++ [])) hx hb hml hown htg (c_CB_weight l D cI cG cM q n hn1 hn mr a0 a1 hm0 hm1 u.1 u.2.1 u.2.2 y hI (xs (i + 1)) (xs (i + 2)) _) tm_245 tm_242 tm_243 tm_244 tm_1 (by decide +kernel) ⟨⟨by decide, by decide⟩, rfl, rfl⟩ hP hD hS hA hK hN (va_recv (q0 := 0) (ci := 0) hK (wm_P (X := []) (Y := cw_ cI cG cM q n mr a0 a1 (u.1, u.2.1, u.2.2)) (Z := (rf_ cI r n g ++ [])) hP).2.1 rfl rfl) rfl hl.1 rfl (Nat.le_of_ble_eq_true rfl) nd_LA_law_451 hCS (fun v1 u1 H locs hp1 hP hD hS => ?_)
  have hP : va_P D cl_all (cw_ cI cG cM q n mr a0 a1 u1 ++ (rf_ cI r n g ++ [])) H := hP
  have hD : va_D A (cw_ cI cG cM q n mr a0 a1 u1 ++ (rf_ cI r n g ++ [])) := hD
  refine wi_top hp1.1 ?_
  refine lv_aload_n hx hb nd_LA_law_454 rfl (lv_at hl 3 rfl) ?_
  refine lv_aload_n hx hb nd_LA_law_455 rfl (lv_at hl 1 rfl) ?_
  refine lv_iload_n hx hb nd_LA_law_456 rfl (lv_at hl 0 rfl) ?_
  refine wi_ic hx hb (a := 1) nd_LA_law_457 ?_
  refine wi_iadd hx hb nd_LA_law_458 ?_
  refine wi_sld hx hb hX hbl hbA hS (i := i + 1) (by omega) (by omega) nd_LA_law_459 ?_
  refine lv_aload_n hx hb nd_LA_law_460 rfl (lv_at hl 1 rfl) ?_
  refine lv_iload_n hx hb nd_LA_law_461 rfl (lv_at hl 0 rfl) ?_
  refine wi_ic hx hb (a := 2) nd_LA_law_462 ?_
  refine wi_iadd hx hb nd_LA_law_463 ?_
  refine wi_sld hx hb hX hbl hbA hS (i := i + 2) (by omega) (by omega) nd_LA_law_464 ?_
  refine wd_Vi (C := nr_CM) (n := 2) (X := cw_ cI cG cM q n mr a0 a1 u1) (Y := rf_ cI r n g) (Z := []) hx hb hml hown htg (c_CM_weight l D cI cG cM r n hn1 hn g y hJ (xs (i + 1)) (xs (i + 2)) _) tm_472 tm_469 tm_470 tm_471 tm_9 (by decide +kernel) ⟨⟨by decide, by decide⟩, rfl, rfl⟩ hP hD hS hA hK hN (va_recv (q0 := 0) (ci := 6) hK (wm_P (X := cw_ cI cG cM q n mr a0 a1 u1) (Y := rf_ cI r n g) (Z := []) hP).2.1 rfl rfl) rfl hl.1 rfl (Nat.le_of_ble_eq_true rfl) nd_LA_law_465 hCS (fun v2 u2 H locs hp2 hP hD hS => ?_)
  have hP : va_P D cl_all (cw_ cI cG cM q n mr a0 a1 u1 ++ (rf_ cI r n u2 ++ [])) H := hP
  have hD : va_D A (cw_ cI cG cM q n mr a0 a1 u1 ++ (rf_ cI r n u2 ++ [])) := hD
  refine wi_top hp2.1 ?_
  refine lv_icmp_eq (tgt := 736) hx hb nd_LA_law_468 rfl (fun hc468 => ?_) (fun hc468 => ?_)
  · exact kx ((sp_weight n y (xs (i + 1)) (xs (i + 2))).2) u1 u2 ls H locs hp1.2 hp2.2 hl hP hD hS
  · exact absurd rfl hc468
set_option maxRecDepth 20000 in
theorem lw_k9 {p : Program} {l : Launch} {e0 : Env} {s0 : State} {m : MethodId} {below : List Frame} {meth : Method} {c : Code} {b L : Nat} {xs : Nat → Int32} {D : va_G} {A : Nat → Prop} {Qq : State → Prop} {cells slots : Nat} (cI cG cM : ClassId) (q : Nat → Nat) (n : Nat) (hn1 : 1 ≤ n) (hn : n ≤ 10) (mr : Nat → Option Nat) (a0 a1 : ma_A) (hm0 : mr 0 = some (a0.1 0)) (hm1 : mr 1 = some (a1.1 0)) (r : Nat → Nat) (hL : L ≤ 2561) (hx : p.tables.exec = Jvm.exec) (hb : c.code = nc_LA_law) (hml : c.maxLocals = 4) (htg : ∀ w ∈ tg_, w.before #[Value.ref b] s0 = true) (hown : s0.vm.findClass "CommonBasesLaw" = some m.cls) (hK : va_K D cl_all (ty_all cI cG cM) s0) (hN : tn_K s0) (hX : va_X b L xs s0 s0.heap) (hbl : b < s0.heap.size) (hbA : ¬ A b) (hA : ∀ q : Nat, s0.heap.size ≤ q → A q) (hCS : cells ≤ room_1.cells ∧ slots ≤ room_1.slots) (i : Nat) (kx : ∀ (y : cb_Y) (u : cb_S) (g : rf_S) (ls : Array Slot) (H : Heap) (locs : List Loc), cb_I n y u → rf_I n y g → lv_has ls 4 [(3, .int (nI i)), (0, .ref b), (1, .ref (q 0)), (2, .ref (r 0))] → va_P D cl_all (cw_ cI cG cM q n mr a0 a1 u ++ (rf_ cI r n g ++ [])) H → va_D A (cw_ cI cG cM q n mr a0 a1 u ++ (rf_ cI r n g ++ [])) → va_S A s0.heap H locs → W p l e0 room_1 s0 m #[Value.ref b] below meth c H locs cells slots Qq (F0 m 736 ls [])) (hi1 : 1 ≤ i) (hi : i + 5 ≤ L) (y : cb_Y) (u : cb_S) (g : rf_S) (hI : cb_I n y u) (hJ : rf_I n y g) (ls : Array Slot) (H : Heap) (locs : List Loc) (hl : lv_has ls 4 [(3, .int (nI i)), (0, .ref b), (1, .ref (q 0)), (2, .ref (r 0))]) (hP : va_P D cl_all (cw_ cI cG cM q n mr a0 a1 u ++ (rf_ cI r n g ++ [])) H) (hD : va_D A (cw_ cI cG cM q n mr a0 a1 u ++ (rf_ cI r n g ++ []))) (hS : va_S A s0.heap H locs) : W p l e0 room_1 s0 m #[Value.ref b] below meth c H locs cells slots Qq (F0 m 473 ls []) := by
  refine lv_aload_n hx hb nd_LA_law_473 rfl (lv_at hl 2 rfl) ?_
  refine lv_aload_n hx hb nd_LA_law_474 rfl (lv_at hl 1 rfl) ?_
  refine lv_iload_n hx hb nd_LA_law_475 rfl (lv_at hl 0 rfl) ?_
  refine wi_ic hx hb (a := 1) nd_LA_law_476 ?_
  refine wi_iadd hx hb nd_LA_law_477 ?_
  refine wi_sld hx hb hX hbl hbA hS (i := i + 1) (by omega) (by omega) nd_LA_law_478 ?_
  refine lv_aload_n hx hb nd_LA_law_479 rfl (lv_at hl 1 rfl) ?_
  refine lv_iload_n hx hb nd_LA_law_480 rfl (lv_at hl 0 rfl) ?_
  refine wi_ic hx hb (a := 2) nd_LA_law_481 ?_
  refine wi_iadd hx hb nd_LA_law_482 ?_
  refine wi_sld hx hb hX hbl hbA hS (i := i + 2) (by omega) (by omega) nd_LA_law_483 ?_
  refine wd_Vi (C := nr_CB) (n := 2) (X := []) (Y := cw_ cI cG cM q n mr a0 a1 (u.1, u.2.1, u.2.2)) (Z := (rf_ cI r n g ++ [])) hx hb hml hown htg (c_CB_independent l D cI cG cM q n hn1 hn mr a0 a1 hm0 hm1 u.1 u.2.1 u.2.2 y hI (xs (i + 1)) (xs (i + 2)) _) tm_251 tm_248 tm_249 tm_250 tm_1 (by decide +kernel) ⟨⟨by decide, by decide⟩, rfl, rfl⟩ hP hD hS hA hK hN (va_recv (q0 := 0) (ci := 0) hK (wm_P (X := []) (Y := cw_ cI cG cM q n mr a0 a1 (u.1, u.2.1, u.2.2)) (Z := (rf_ cI r n g ++ [])) hP).2.1 rfl rfl) rfl hl.1 rfl (Nat.le_of_ble_eq_true rfl) nd_LA_law_484 hCS (fun v1 u1 H locs hp1 hP hD hS => ?_)
  have hP : va_P D cl_all (cw_ cI cG cM q n mr a0 a1 u1 ++ (rf_ cI r n g ++ [])) H := hP
  have hD : va_D A (cw_ cI cG cM q n mr a0 a1 u1 ++ (rf_ cI r n g ++ [])) := hD
  refine wi_top hp1.1 ?_
  refine lv_aload_n hx hb nd_LA_law_487 rfl (lv_at hl 3 rfl) ?_
  refine lv_aload_n hx hb nd_LA_law_488 rfl (lv_at hl 1 rfl) ?_
  refine lv_iload_n hx hb nd_LA_law_489 rfl (lv_at hl 0 rfl) ?_
  refine wi_ic hx hb (a := 1) nd_LA_law_490 ?_
  refine wi_iadd hx hb nd_LA_law_491 ?_
  refine wi_sld hx hb hX hbl hbA hS (i := i + 1) (by omega) (by omega) nd_LA_law_492 ?_
  refine lv_aload_n hx hb nd_LA_law_493 rfl (lv_at hl 1 rfl) ?_
  refine lv_iload_n hx hb nd_LA_law_494 rfl (lv_at hl 0 rfl) ?_
  refine wi_ic hx hb (a := 2) nd_LA_law_495 ?_
  refine wi_iadd hx hb nd_LA_law_496 ?_
  refine wi_sld hx hb hX hbl hbA hS (i := i + 2) (by omega) (by omega) nd_LA_law_497 ?_
  refine wd_Vi (C := nr_CM) (n := 2) (X := cw_ cI cG cM q n mr a0 a1 u1) (Y := rf_ cI r n g) (Z := []) hx hb hml hown htg (c_CM_independent l D cI cG cM r n hn1 hn g y hJ (xs (i + 1)) (xs (i + 2)) _) tm_478 tm_475 tm_476 tm_477 tm_9 (by decide +kernel) ⟨⟨by decide, by decide⟩, rfl, rfl⟩ hP hD hS hA hK hN (va_recv (q0 := 0) (ci := 6) hK (wm_P (X := cw_ cI cG cM q n mr a0 a1 u1) (Y := rf_ cI r n g) (Z := []) hP).2.1 rfl rfl) rfl hl.1 rfl (Nat.le_of_ble_eq_true rfl) nd_LA_law_498 hCS (fun v2 u2 H locs hp2 hP hD hS => ?_)
  have hP : va_P D cl_all (cw_ cI cG cM q n mr a0 a1 u1 ++ (rf_ cI r n u2 ++ [])) H := hP
  have hD : va_D A (cw_ cI cG cM q n mr a0 a1 u1 ++ (rf_ cI r n u2 ++ [])) := hD
  refine wi_top hp2.1 ?_
  refine lv_icmp_eq (tgt := 736) hx hb nd_LA_law_501 rfl (fun hc501 => ?_) (fun hc501 => ?_)
  · exact kx y u1 u2 ls H locs hp1.2 hp2.2 hl hP hD hS
  · exact absurd rfl hc501
set_option maxRecDepth 20000 in
theorem lw_k10 {p : Program} {l : Launch} {e0 : Env} {s0 : State} {m : MethodId} {below : List Frame} {meth : Method} {c : Code} {b L : Nat} {xs : Nat → Int32} {D : va_G} {A : Nat → Prop} {Qq : State → Prop} {cells slots : Nat} (cI cG cM : ClassId) (q : Nat → Nat) (n : Nat) (hn1 : 1 ≤ n) (hn : n ≤ 10) (mr : Nat → Option Nat) (a0 a1 : ma_A) (hm0 : mr 0 = some (a0.1 0)) (hm1 : mr 1 = some (a1.1 0)) (r : Nat → Nat) (hL : L ≤ 2561) (hx : p.tables.exec = Jvm.exec) (hb : c.code = nc_LA_law) (hml : c.maxLocals = 4) (htg : ∀ w ∈ tg_, w.before #[Value.ref b] s0 = true) (hown : s0.vm.findClass "CommonBasesLaw" = some m.cls) (hK : va_K D cl_all (ty_all cI cG cM) s0) (hN : tn_K s0) (hX : va_X b L xs s0 s0.heap) (hbl : b < s0.heap.size) (hbA : ¬ A b) (hA : ∀ q : Nat, s0.heap.size ≤ q → A q) (hCS : cells ≤ room_1.cells ∧ slots ≤ room_1.slots) (i : Nat) (kx : ∀ (y : cb_Y) (u : cb_S) (g : rf_S) (ls : Array Slot) (H : Heap) (locs : List Loc), cb_I n y u → rf_I n y g → lv_has ls 4 [(3, .int (nI i)), (0, .ref b), (1, .ref (q 0)), (2, .ref (r 0))] → va_P D cl_all (cw_ cI cG cM q n mr a0 a1 u ++ (rf_ cI r n g ++ [])) H → va_D A (cw_ cI cG cM q n mr a0 a1 u ++ (rf_ cI r n g ++ [])) → va_S A s0.heap H locs → W p l e0 room_1 s0 m #[Value.ref b] below meth c H locs cells slots Qq (F0 m 736 ls [])) (hi1 : 1 ≤ i) (hi : i + 5 ≤ L) (y : cb_Y) (u : cb_S) (g : rf_S) (hI : cb_I n y u) (hJ : rf_I n y g) (ls : Array Slot) (H : Heap) (locs : List Loc) (hl : lv_has ls 4 [(3, .int (nI i)), (0, .ref b), (1, .ref (q 0)), (2, .ref (r 0))]) (hP : va_P D cl_all (cw_ cI cG cM q n mr a0 a1 u ++ (rf_ cI r n g ++ [])) H) (hD : va_D A (cw_ cI cG cM q n mr a0 a1 u ++ (rf_ cI r n g ++ []))) (hS : va_S A s0.heap H locs) : W p l e0 room_1 s0 m #[Value.ref b] below meth c H locs cells slots Qq (F0 m 506 ls []) := by
  refine lv_aload_n hx hb nd_LA_law_506 rfl (lv_at hl 2 rfl) ?_
  refine lv_aload_n hx hb nd_LA_law_507 rfl (lv_at hl 1 rfl) ?_
  refine lv_iload_n hx hb nd_LA_law_508 rfl (lv_at hl 0 rfl) ?_
  refine wi_ic hx hb (a := 1) nd_LA_law_509 ?_
  refine wi_iadd hx hb nd_LA_law_510 ?_
  refine wi_sld hx hb hX hbl hbA hS (i := i + 1) (by omega) (by omega) nd_LA_law_511 ?_
  refine lv_aload_n hx hb nd_LA_law_512 rfl (lv_at hl 1 rfl) ?_
  refine lv_iload_n hx hb nd_LA_law_513 rfl (lv_at hl 0 rfl) ?_
  refine wi_ic hx hb (a := 2) nd_LA_law_514 ?_
  refine wi_iadd hx hb nd_LA_law_515 ?_
  refine wi_sld hx hb hX hbl hbA hS (i := i + 2) (by omega) (by omega) nd_LA_law_516 ?_
  refine wd_Vi (C := nr_CB) (n := 2) (X := []) (Y := cw_ cI cG cM q n mr a0 a1 (u.1, u.2.1, u.2.2)) (Z := (rf_ cI r n g ++ [])) hx hb hml hown htg (c_CB_rank l D cI cG cM q n hn1 hn mr a0 a1 hm0 hm1 u.1 u.2.1 u.2.2 y hI (xs (i + 1)) (xs (i + 2)) _) tm_313 tm_310 tm_311 tm_312 tm_1 (by decide +kernel) ⟨⟨by decide, by decide⟩, rfl, rfl⟩ hP hD hS hA hK hN (va_recv (q0 := 0) (ci := 0) hK (wm_P (X := []) (Y := cw_ cI cG cM q n mr a0 a1 (u.1, u.2.1, u.2.2)) (Z := (rf_ cI r n g ++ [])) hP).2.1 rfl rfl) rfl hl.1 rfl (Nat.le_of_ble_eq_true rfl) nd_LA_law_517 hCS (fun v1 u1 H locs hp1 hP hD hS => ?_)
  have hP : va_P D cl_all (cw_ cI cG cM q n mr a0 a1 u1 ++ (rf_ cI r n g ++ [])) H := hP
  have hD : va_D A (cw_ cI cG cM q n mr a0 a1 u1 ++ (rf_ cI r n g ++ [])) := hD
  refine wi_top hp1.1 ?_
  refine lv_aload_n hx hb nd_LA_law_520 rfl (lv_at hl 3 rfl) ?_
  refine lv_aload_n hx hb nd_LA_law_521 rfl (lv_at hl 1 rfl) ?_
  refine lv_iload_n hx hb nd_LA_law_522 rfl (lv_at hl 0 rfl) ?_
  refine wi_ic hx hb (a := 1) nd_LA_law_523 ?_
  refine wi_iadd hx hb nd_LA_law_524 ?_
  refine wi_sld hx hb hX hbl hbA hS (i := i + 1) (by omega) (by omega) nd_LA_law_525 ?_
  refine lv_aload_n hx hb nd_LA_law_526 rfl (lv_at hl 1 rfl) ?_
  refine lv_iload_n hx hb nd_LA_law_527 rfl (lv_at hl 0 rfl) ?_
  refine wi_ic hx hb (a := 2) nd_LA_law_528 ?_
  refine wi_iadd hx hb nd_LA_law_529 ?_
  refine wi_sld hx hb hX hbl hbA hS (i := i + 2) (by omega) (by omega) nd_LA_law_530 ?_
  refine wd_Vi (C := nr_CM) (n := 2) (X := cw_ cI cG cM q n mr a0 a1 u1) (Y := rf_ cI r n g) (Z := []) hx hb hml hown htg (c_CM_rank l D cI cG cM r n hn1 hn g y hJ (xs (i + 1)) (xs (i + 2)) _) tm_509 tm_506 tm_507 tm_508 tm_9 (by decide +kernel) ⟨⟨by decide, by decide⟩, rfl, rfl⟩ hP hD hS hA hK hN (va_recv (q0 := 0) (ci := 6) hK (wm_P (X := cw_ cI cG cM q n mr a0 a1 u1) (Y := rf_ cI r n g) (Z := []) hP).2.1 rfl rfl) rfl hl.1 rfl (Nat.le_of_ble_eq_true rfl) nd_LA_law_531 hCS (fun v2 u2 H locs hp2 hP hD hS => ?_)
  have hP : va_P D cl_all (cw_ cI cG cM q n mr a0 a1 u1 ++ (rf_ cI r n u2 ++ [])) H := hP
  have hD : va_D A (cw_ cI cG cM q n mr a0 a1 u1 ++ (rf_ cI r n u2 ++ [])) := hD
  refine wi_top hp2.1 ?_
  refine lv_icmp_eq (tgt := 736) hx hb nd_LA_law_534 rfl (fun hc534 => ?_) (fun hc534 => ?_)
  · exact kx y u1 u2 ls H locs hp1.2 hp2.2 hl hP hD hS
  · exact absurd rfl hc534
set_option maxRecDepth 20000 in
theorem lw_k11 {p : Program} {l : Launch} {e0 : Env} {s0 : State} {m : MethodId} {below : List Frame} {meth : Method} {c : Code} {b L : Nat} {xs : Nat → Int32} {D : va_G} {A : Nat → Prop} {Qq : State → Prop} {cells slots : Nat} (cI cG cM : ClassId) (q : Nat → Nat) (n : Nat) (hn1 : 1 ≤ n) (hn : n ≤ 10) (mr : Nat → Option Nat) (a0 a1 : ma_A) (hm0 : mr 0 = some (a0.1 0)) (hm1 : mr 1 = some (a1.1 0)) (r : Nat → Nat) (hL : L ≤ 2561) (hx : p.tables.exec = Jvm.exec) (hb : c.code = nc_LA_law) (hml : c.maxLocals = 4) (htg : ∀ w ∈ tg_, w.before #[Value.ref b] s0 = true) (hown : s0.vm.findClass "CommonBasesLaw" = some m.cls) (hK : va_K D cl_all (ty_all cI cG cM) s0) (hN : tn_K s0) (hX : va_X b L xs s0 s0.heap) (hbl : b < s0.heap.size) (hbA : ¬ A b) (hA : ∀ q : Nat, s0.heap.size ≤ q → A q) (hCS : cells ≤ room_1.cells ∧ slots ≤ room_1.slots) (i : Nat) (kx : ∀ (y : cb_Y) (u : cb_S) (g : rf_S) (ls : Array Slot) (H : Heap) (locs : List Loc), cb_I n y u → rf_I n y g → lv_has ls 4 [(3, .int (nI i)), (0, .ref b), (1, .ref (q 0)), (2, .ref (r 0))] → va_P D cl_all (cw_ cI cG cM q n mr a0 a1 u ++ (rf_ cI r n g ++ [])) H → va_D A (cw_ cI cG cM q n mr a0 a1 u ++ (rf_ cI r n g ++ [])) → va_S A s0.heap H locs → W p l e0 room_1 s0 m #[Value.ref b] below meth c H locs cells slots Qq (F0 m 736 ls [])) (hi1 : 1 ≤ i) (hi : i + 5 ≤ L) (y : cb_Y) (u : cb_S) (g : rf_S) (hI : cb_I n y u) (hJ : rf_I n y g) (ls : Array Slot) (H : Heap) (locs : List Loc) (hl : lv_has ls 4 [(3, .int (nI i)), (0, .ref b), (1, .ref (q 0)), (2, .ref (r 0))]) (hP : va_P D cl_all (cw_ cI cG cM q n mr a0 a1 u ++ (rf_ cI r n g ++ [])) H) (hD : va_D A (cw_ cI cG cM q n mr a0 a1 u ++ (rf_ cI r n g ++ []))) (hS : va_S A s0.heap H locs) : W p l e0 room_1 s0 m #[Value.ref b] below meth c H locs cells slots Qq (F0 m 539 ls []) := by
  refine lv_aload_n hx hb nd_LA_law_539 rfl (lv_at hl 2 rfl) ?_
  refine lv_aload_n hx hb nd_LA_law_540 rfl (lv_at hl 1 rfl) ?_
  refine lv_iload_n hx hb nd_LA_law_541 rfl (lv_at hl 0 rfl) ?_
  refine wi_ic hx hb (a := 1) nd_LA_law_542 ?_
  refine wi_iadd hx hb nd_LA_law_543 ?_
  refine wi_sld hx hb hX hbl hbA hS (i := i + 1) (by omega) (by omega) nd_LA_law_544 ?_
  refine lv_aload_n hx hb nd_LA_law_545 rfl (lv_at hl 1 rfl) ?_
  refine lv_iload_n hx hb nd_LA_law_546 rfl (lv_at hl 0 rfl) ?_
  refine wi_ic hx hb (a := 2) nd_LA_law_547 ?_
  refine wi_iadd hx hb nd_LA_law_548 ?_
  refine wi_sld hx hb hX hbl hbA hS (i := i + 2) (by omega) (by omega) nd_LA_law_549 ?_
  refine wd_Vi (C := nr_CB) (n := 2) (X := []) (Y := cw_ cI cG cM q n mr a0 a1 (u.1, u.2.1, u.2.2)) (Z := (rf_ cI r n g ++ [])) hx hb hml hown htg (c_CB_span l D cI cG cM q n hn1 hn mr a0 a1 hm0 hm1 u.1 u.2.1 u.2.2 y hI (xs (i + 1)) (xs (i + 2)) _) tm_318 tm_315 tm_316 tm_317 tm_1 (by decide +kernel) ⟨⟨by decide, by decide⟩, rfl, rfl⟩ hP hD hS hA hK hN (va_recv (q0 := 0) (ci := 0) hK (wm_P (X := []) (Y := cw_ cI cG cM q n mr a0 a1 (u.1, u.2.1, u.2.2)) (Z := (rf_ cI r n g ++ [])) hP).2.1 rfl rfl) rfl hl.1 rfl (Nat.le_of_ble_eq_true rfl) nd_LA_law_550 hCS (fun v1 u1 H locs hp1 hP hD hS => ?_)
  have hP : va_P D cl_all (cw_ cI cG cM q n mr a0 a1 u1 ++ (rf_ cI r n g ++ [])) H := hP
  have hD : va_D A (cw_ cI cG cM q n mr a0 a1 u1 ++ (rf_ cI r n g ++ [])) := hD
  refine wi_top hp1.1 ?_
  refine lv_aload_n hx hb nd_LA_law_553 rfl (lv_at hl 3 rfl) ?_
  refine lv_aload_n hx hb nd_LA_law_554 rfl (lv_at hl 1 rfl) ?_
  refine lv_iload_n hx hb nd_LA_law_555 rfl (lv_at hl 0 rfl) ?_
  refine wi_ic hx hb (a := 1) nd_LA_law_556 ?_
  refine wi_iadd hx hb nd_LA_law_557 ?_
  refine wi_sld hx hb hX hbl hbA hS (i := i + 1) (by omega) (by omega) nd_LA_law_558 ?_
  refine lv_aload_n hx hb nd_LA_law_559 rfl (lv_at hl 1 rfl) ?_
  refine lv_iload_n hx hb nd_LA_law_560 rfl (lv_at hl 0 rfl) ?_
  refine wi_ic hx hb (a := 2) nd_LA_law_561 ?_
  refine wi_iadd hx hb nd_LA_law_562 ?_
  refine wi_sld hx hb hX hbl hbA hS (i := i + 2) (by omega) (by omega) nd_LA_law_563 ?_
  refine wd_Vi (C := nr_CM) (n := 2) (X := cw_ cI cG cM q n mr a0 a1 u1) (Y := rf_ cI r n g) (Z := []) hx hb hml hown htg (c_CM_span l D cI cG cM r n hn1 hn g y hJ (xs (i + 1)) (xs (i + 2)) _) tm_517 tm_514 tm_515 tm_516 tm_9 (by decide +kernel) ⟨⟨by decide, by decide⟩, rfl, rfl⟩ hP hD hS hA hK hN (va_recv (q0 := 0) (ci := 6) hK (wm_P (X := cw_ cI cG cM q n mr a0 a1 u1) (Y := rf_ cI r n g) (Z := []) hP).2.1 rfl rfl) rfl hl.1 rfl (Nat.le_of_ble_eq_true rfl) nd_LA_law_564 hCS (fun v2 u2 H locs hp2 hP hD hS => ?_)
  have hP : va_P D cl_all (cw_ cI cG cM q n mr a0 a1 u1 ++ (rf_ cI r n u2 ++ [])) H := hP
  have hD : va_D A (cw_ cI cG cM q n mr a0 a1 u1 ++ (rf_ cI r n u2 ++ [])) := hD
  refine wi_top hp2.1 ?_
  refine lv_icmp_eq (tgt := 736) hx hb nd_LA_law_567 rfl (fun hc567 => ?_) (fun hc567 => ?_)
  · exact kx y u1 u2 ls H locs hp1.2 hp2.2 hl hP hD hS
  · exact absurd rfl hc567
set_option maxRecDepth 20000 in
theorem lw_k12 {p : Program} {l : Launch} {e0 : Env} {s0 : State} {m : MethodId} {below : List Frame} {meth : Method} {c : Code} {b L : Nat} {xs : Nat → Int32} {D : va_G} {A : Nat → Prop} {Qq : State → Prop} {cells slots : Nat} (cI cG cM : ClassId) (q : Nat → Nat) (n : Nat) (hn1 : 1 ≤ n) (hn : n ≤ 10) (mr : Nat → Option Nat) (a0 a1 : ma_A) (hm0 : mr 0 = some (a0.1 0)) (hm1 : mr 1 = some (a1.1 0)) (r : Nat → Nat) (hL : L ≤ 2561) (hx : p.tables.exec = Jvm.exec) (hb : c.code = nc_LA_law) (hml : c.maxLocals = 4) (htg : ∀ w ∈ tg_, w.before #[Value.ref b] s0 = true) (hown : s0.vm.findClass "CommonBasesLaw" = some m.cls) (hK : va_K D cl_all (ty_all cI cG cM) s0) (hN : tn_K s0) (hX : va_X b L xs s0 s0.heap) (hbl : b < s0.heap.size) (hbA : ¬ A b) (hA : ∀ q : Nat, s0.heap.size ≤ q → A q) (hCS : cells ≤ room_1.cells ∧ slots ≤ room_1.slots) (i : Nat) (kx : ∀ (y : cb_Y) (u : cb_S) (g : rf_S) (ls : Array Slot) (H : Heap) (locs : List Loc), cb_I n y u → rf_I n y g → lv_has ls 4 [(3, .int (nI i)), (0, .ref b), (1, .ref (q 0)), (2, .ref (r 0))] → va_P D cl_all (cw_ cI cG cM q n mr a0 a1 u ++ (rf_ cI r n g ++ [])) H → va_D A (cw_ cI cG cM q n mr a0 a1 u ++ (rf_ cI r n g ++ [])) → va_S A s0.heap H locs → W p l e0 room_1 s0 m #[Value.ref b] below meth c H locs cells slots Qq (F0 m 736 ls [])) (hi1 : 1 ≤ i) (hi : i + 5 ≤ L) (y : cb_Y) (u : cb_S) (g : rf_S) (hI : cb_I n y u) (hJ : rf_I n y g) (ls : Array Slot) (H : Heap) (locs : List Loc) (hl : lv_has ls 4 [(3, .int (nI i)), (0, .ref b), (1, .ref (q 0)), (2, .ref (r 0))]) (hP : va_P D cl_all (cw_ cI cG cM q n mr a0 a1 u ++ (rf_ cI r n g ++ [])) H) (hD : va_D A (cw_ cI cG cM q n mr a0 a1 u ++ (rf_ cI r n g ++ []))) (hS : va_S A s0.heap H locs) : W p l e0 room_1 s0 m #[Value.ref b] below meth c H locs cells slots Qq (F0 m 572 ls []) := by
  refine lv_aload_n hx hb nd_LA_law_572 rfl (lv_at hl 2 rfl) ?_
  refine lv_aload_n hx hb nd_LA_law_573 rfl (lv_at hl 1 rfl) ?_
  refine lv_iload_n hx hb nd_LA_law_574 rfl (lv_at hl 0 rfl) ?_
  refine wi_ic hx hb (a := 1) nd_LA_law_575 ?_
  refine wi_iadd hx hb nd_LA_law_576 ?_
  refine wi_sld hx hb hX hbl hbA hS (i := i + 1) (by omega) (by omega) nd_LA_law_577 ?_
  refine lv_aload_n hx hb nd_LA_law_578 rfl (lv_at hl 1 rfl) ?_
  refine lv_iload_n hx hb nd_LA_law_579 rfl (lv_at hl 0 rfl) ?_
  refine wi_ic hx hb (a := 2) nd_LA_law_580 ?_
  refine wi_iadd hx hb nd_LA_law_581 ?_
  refine wi_sld hx hb hX hbl hbA hS (i := i + 2) (by omega) (by omega) nd_LA_law_582 ?_
  refine lv_aload_n hx hb nd_LA_law_583 rfl (lv_at hl 1 rfl) ?_
  refine lv_iload_n hx hb nd_LA_law_584 rfl (lv_at hl 0 rfl) ?_
  refine wi_ic hx hb (a := 3) nd_LA_law_585 ?_
  refine wi_iadd hx hb nd_LA_law_586 ?_
  refine wi_sld hx hb hX hbl hbA hS (i := i + 3) (by omega) (by omega) nd_LA_law_587 ?_
  refine wd_Vi (C := nr_CB) (n := 3) (X := []) (Y := cw_ cI cG cM q n mr a0 a1 (u.1, u.2.1, u.2.2)) (Z := (rf_ cI r n g ++ [])) hx hb hml hown htg (c_CB_circuit l D cI cG cM q n hn1 hn mr a0 a1 hm0 hm1 u.1 u.2.1 u.2.2 y hI (xs (i + 1)) (xs (i + 2)) (xs (i + 3)) _) tm_322 tm_319 tm_320 tm_321 tm_1 (by decide +kernel) ⟨⟨by decide, by decide⟩, rfl, rfl⟩ hP hD hS hA hK hN (va_recv (q0 := 0) (ci := 0) hK (wm_P (X := []) (Y := cw_ cI cG cM q n mr a0 a1 (u.1, u.2.1, u.2.2)) (Z := (rf_ cI r n g ++ [])) hP).2.1 rfl rfl) rfl hl.1 rfl (Nat.le_of_ble_eq_true rfl) nd_LA_law_588 hCS (fun v1 u1 H locs hp1 hP hD hS => ?_)
  have hP : va_P D cl_all (cw_ cI cG cM q n mr a0 a1 u1 ++ (rf_ cI r n g ++ [])) H := hP
  have hD : va_D A (cw_ cI cG cM q n mr a0 a1 u1 ++ (rf_ cI r n g ++ [])) := hD
  refine wi_top hp1.1 ?_
  refine lv_aload_n hx hb nd_LA_law_591 rfl (lv_at hl 3 rfl) ?_
  refine lv_aload_n hx hb nd_LA_law_592 rfl (lv_at hl 1 rfl) ?_
  refine lv_iload_n hx hb nd_LA_law_593 rfl (lv_at hl 0 rfl) ?_
  refine wi_ic hx hb (a := 1) nd_LA_law_594 ?_
  refine wi_iadd hx hb nd_LA_law_595 ?_
  refine wi_sld hx hb hX hbl hbA hS (i := i + 1) (by omega) (by omega) nd_LA_law_596 ?_
  refine lv_aload_n hx hb nd_LA_law_597 rfl (lv_at hl 1 rfl) ?_
  refine lv_iload_n hx hb nd_LA_law_598 rfl (lv_at hl 0 rfl) ?_
  refine wi_ic hx hb (a := 2) nd_LA_law_599 ?_
  refine wi_iadd hx hb nd_LA_law_600 ?_
  refine wi_sld hx hb hX hbl hbA hS (i := i + 2) (by omega) (by omega) nd_LA_law_601 ?_
  refine lv_aload_n hx hb nd_LA_law_602 rfl (lv_at hl 1 rfl) ?_
  refine lv_iload_n hx hb nd_LA_law_603 rfl (lv_at hl 0 rfl) ?_
  refine wi_ic hx hb (a := 3) nd_LA_law_604 ?_
  refine wi_iadd hx hb nd_LA_law_605 ?_
  refine wi_sld hx hb hX hbl hbA hS (i := i + 3) (by omega) (by omega) nd_LA_law_606 ?_
  refine wd_Vi (C := nr_CM) (n := 3) (X := cw_ cI cG cM q n mr a0 a1 u1) (Y := rf_ cI r n g) (Z := []) hx hb hml hown htg (c_CM_circuit l D cI cG cM r n hn1 hn g y hJ (xs (i + 1)) (xs (i + 2)) (xs (i + 3)) _) tm_521 tm_518 tm_519 tm_520 tm_9 (by decide +kernel) ⟨⟨by decide, by decide⟩, rfl, rfl⟩ hP hD hS hA hK hN (va_recv (q0 := 0) (ci := 6) hK (wm_P (X := cw_ cI cG cM q n mr a0 a1 u1) (Y := rf_ cI r n g) (Z := []) hP).2.1 rfl rfl) rfl hl.1 rfl (Nat.le_of_ble_eq_true rfl) nd_LA_law_607 hCS (fun v2 u2 H locs hp2 hP hD hS => ?_)
  have hP : va_P D cl_all (cw_ cI cG cM q n mr a0 a1 u1 ++ (rf_ cI r n u2 ++ [])) H := hP
  have hD : va_D A (cw_ cI cG cM q n mr a0 a1 u1 ++ (rf_ cI r n u2 ++ [])) := hD
  refine wi_top hp2.1 ?_
  refine lv_icmp_eq (tgt := 736) hx hb nd_LA_law_610 rfl (fun hc610 => ?_) (fun hc610 => ?_)
  · exact kx y u1 u2 ls H locs hp1.2 hp2.2 hl hP hD hS
  · exact absurd rfl hc610
set_option maxRecDepth 20000 in
theorem lw_k13 {p : Program} {l : Launch} {e0 : Env} {s0 : State} {m : MethodId} {below : List Frame} {meth : Method} {c : Code} {b L : Nat} {xs : Nat → Int32} {D : va_G} {A : Nat → Prop} {Qq : State → Prop} {cells slots : Nat} (cI cG cM : ClassId) (q : Nat → Nat) (n : Nat) (hn1 : 1 ≤ n) (hn : n ≤ 10) (mr : Nat → Option Nat) (a0 a1 : ma_A) (hm0 : mr 0 = some (a0.1 0)) (hm1 : mr 1 = some (a1.1 0)) (r : Nat → Nat) (hL : L ≤ 2561) (hx : p.tables.exec = Jvm.exec) (hb : c.code = nc_LA_law) (hml : c.maxLocals = 4) (htg : ∀ w ∈ tg_, w.before #[Value.ref b] s0 = true) (hown : s0.vm.findClass "CommonBasesLaw" = some m.cls) (hK : va_K D cl_all (ty_all cI cG cM) s0) (hN : tn_K s0) (hX : va_X b L xs s0 s0.heap) (hbl : b < s0.heap.size) (hbA : ¬ A b) (hA : ∀ q : Nat, s0.heap.size ≤ q → A q) (hCS : cells ≤ room_1.cells ∧ slots ≤ room_1.slots) (i : Nat) (kx : ∀ (y : cb_Y) (u : cb_S) (g : rf_S) (ls : Array Slot) (H : Heap) (locs : List Loc), cb_I n y u → rf_I n y g → lv_has ls 4 [(3, .int (nI i)), (0, .ref b), (1, .ref (q 0)), (2, .ref (r 0))] → va_P D cl_all (cw_ cI cG cM q n mr a0 a1 u ++ (rf_ cI r n g ++ [])) H → va_D A (cw_ cI cG cM q n mr a0 a1 u ++ (rf_ cI r n g ++ [])) → va_S A s0.heap H locs → W p l e0 room_1 s0 m #[Value.ref b] below meth c H locs cells slots Qq (F0 m 736 ls [])) (hi1 : 1 ≤ i) (hi : i + 5 ≤ L) (y : cb_Y) (u : cb_S) (g : rf_S) (hI : cb_I n y u) (hJ : rf_I n y g) (ls : Array Slot) (H : Heap) (locs : List Loc) (hl : lv_has ls 4 [(3, .int (nI i)), (0, .ref b), (1, .ref (q 0)), (2, .ref (r 0))]) (hP : va_P D cl_all (cw_ cI cG cM q n mr a0 a1 u ++ (rf_ cI r n g ++ [])) H) (hD : va_D A (cw_ cI cG cM q n mr a0 a1 u ++ (rf_ cI r n g ++ []))) (hS : va_S A s0.heap H locs) : W p l e0 room_1 s0 m #[Value.ref b] below meth c H locs cells slots Qq (F0 m 615 ls []) := by
  refine lv_aload_n hx hb nd_LA_law_615 rfl (lv_at hl 2 rfl) ?_
  refine lv_aload_n hx hb nd_LA_law_616 rfl (lv_at hl 1 rfl) ?_
  refine lv_iload_n hx hb nd_LA_law_617 rfl (lv_at hl 0 rfl) ?_
  refine wi_ic hx hb (a := 1) nd_LA_law_618 ?_
  refine wi_iadd hx hb nd_LA_law_619 ?_
  refine wi_sld hx hb hX hbl hbA hS (i := i + 1) (by omega) (by omega) nd_LA_law_620 ?_
  refine wd_Vi (C := nr_CB) (n := 1) (X := []) (Y := cw_ cI cG cM q n mr a0 a1 (u.1, u.2.1, u.2.2)) (Z := (rf_ cI r n g ++ [])) hx hb hml hown htg (c_CB_best l D cI cG cM q n hn1 hn mr a0 a1 hm0 hm1 u.1 u.2.1 u.2.2 y hI (xs (i + 1)) _) tm_327 tm_324 tm_325 tm_326 tm_1 (by decide +kernel) ⟨⟨by decide, by decide⟩, rfl, rfl⟩ hP hD hS hA hK hN (va_recv (q0 := 0) (ci := 0) hK (wm_P (X := []) (Y := cw_ cI cG cM q n mr a0 a1 (u.1, u.2.1, u.2.2)) (Z := (rf_ cI r n g ++ [])) hP).2.1 rfl rfl) rfl hl.1 rfl (Nat.le_of_ble_eq_true rfl) nd_LA_law_621 hCS (fun v1 u1 H locs hp1 hP hD hS => ?_)
  have hP : va_P D cl_all (cw_ cI cG cM q n mr a0 a1 u1 ++ (rf_ cI r n g ++ [])) H := hP
  have hD : va_D A (cw_ cI cG cM q n mr a0 a1 u1 ++ (rf_ cI r n g ++ [])) := hD
  refine wi_top hp1.1 ?_
  refine lv_aload_n hx hb nd_LA_law_624 rfl (lv_at hl 3 rfl) ?_
  refine lv_aload_n hx hb nd_LA_law_625 rfl (lv_at hl 1 rfl) ?_
  refine lv_iload_n hx hb nd_LA_law_626 rfl (lv_at hl 0 rfl) ?_
  refine wi_ic hx hb (a := 1) nd_LA_law_627 ?_
  refine wi_iadd hx hb nd_LA_law_628 ?_
  refine wi_sld hx hb hX hbl hbA hS (i := i + 1) (by omega) (by omega) nd_LA_law_629 ?_
  refine wd_Vi (C := nr_CM) (n := 1) (X := cw_ cI cG cM q n mr a0 a1 u1) (Y := rf_ cI r n g) (Z := []) hx hb hml hown htg (c_CM_best l D cI cG cM r n hn1 hn g y hJ (xs (i + 1)) _) tm_525 tm_522 tm_523 tm_524 tm_9 (by decide +kernel) ⟨⟨by decide, by decide⟩, rfl, rfl⟩ hP hD hS hA hK hN (va_recv (q0 := 0) (ci := 6) hK (wm_P (X := cw_ cI cG cM q n mr a0 a1 u1) (Y := rf_ cI r n g) (Z := []) hP).2.1 rfl rfl) rfl hl.1 rfl (Nat.le_of_ble_eq_true rfl) nd_LA_law_630 hCS (fun v2 u2 H locs hp2 hP hD hS => ?_)
  have hP : va_P D cl_all (cw_ cI cG cM q n mr a0 a1 u1 ++ (rf_ cI r n u2 ++ [])) H := hP
  have hD : va_D A (cw_ cI cG cM q n mr a0 a1 u1 ++ (rf_ cI r n u2 ++ [])) := hD
  refine wi_top hp2.1 ?_
  refine lv_icmp_eq (tgt := 736) hx hb nd_LA_law_633 rfl (fun hc633 => ?_) (fun hc633 => ?_)
  · exact kx y u1 u2 ls H locs hp1.2 hp2.2 hl hP hD hS
  · exact absurd rfl hc633
set_option maxRecDepth 20000 in
theorem lw_k14 {p : Program} {l : Launch} {e0 : Env} {s0 : State} {m : MethodId} {below : List Frame} {meth : Method} {c : Code} {b L : Nat} {xs : Nat → Int32} {D : va_G} {A : Nat → Prop} {Qq : State → Prop} {cells slots : Nat} (cI cG cM : ClassId) (q : Nat → Nat) (n : Nat) (hn1 : 1 ≤ n) (hn : n ≤ 10) (mr : Nat → Option Nat) (a0 a1 : ma_A) (hm0 : mr 0 = some (a0.1 0)) (hm1 : mr 1 = some (a1.1 0)) (r : Nat → Nat) (hL : L ≤ 2561) (hx : p.tables.exec = Jvm.exec) (hb : c.code = nc_LA_law) (hml : c.maxLocals = 4) (htg : ∀ w ∈ tg_, w.before #[Value.ref b] s0 = true) (hown : s0.vm.findClass "CommonBasesLaw" = some m.cls) (hK : va_K D cl_all (ty_all cI cG cM) s0) (hN : tn_K s0) (hX : va_X b L xs s0 s0.heap) (hbl : b < s0.heap.size) (hbA : ¬ A b) (hA : ∀ q : Nat, s0.heap.size ≤ q → A q) (hCS : cells ≤ room_1.cells ∧ slots ≤ room_1.slots) (i : Nat) (kx : ∀ (y : cb_Y) (u : cb_S) (g : rf_S) (ls : Array Slot) (H : Heap) (locs : List Loc), cb_I n y u → rf_I n y g → lv_has ls 4 [(3, .int (nI i)), (0, .ref b), (1, .ref (q 0)), (2, .ref (r 0))] → va_P D cl_all (cw_ cI cG cM q n mr a0 a1 u ++ (rf_ cI r n g ++ [])) H → va_D A (cw_ cI cG cM q n mr a0 a1 u ++ (rf_ cI r n g ++ [])) → va_S A s0.heap H locs → W p l e0 room_1 s0 m #[Value.ref b] below meth c H locs cells slots Qq (F0 m 736 ls [])) (hi1 : 1 ≤ i) (hi : i + 5 ≤ L) (y : cb_Y) (u : cb_S) (g : rf_S) (hI : cb_I n y u) (hJ : rf_I n y g) (ls : Array Slot) (H : Heap) (locs : List Loc) (hl : lv_has ls 4 [(3, .int (nI i)), (0, .ref b), (1, .ref (q 0)), (2, .ref (r 0))]) (hP : va_P D cl_all (cw_ cI cG cM q n mr a0 a1 u ++ (rf_ cI r n g ++ [])) H) (hD : va_D A (cw_ cI cG cM q n mr a0 a1 u ++ (rf_ cI r n g ++ []))) (hS : va_S A s0.heap H locs) : W p l e0 room_1 s0 m #[Value.ref b] below meth c H locs cells slots Qq (F0 m 638 ls []) := by
  refine lv_aload_n hx hb nd_LA_law_638 rfl (lv_at hl 2 rfl) ?_
  refine lv_aload_n hx hb nd_LA_law_639 rfl (lv_at hl 1 rfl) ?_
  refine lv_iload_n hx hb nd_LA_law_640 rfl (lv_at hl 0 rfl) ?_
  refine wi_ic hx hb (a := 1) nd_LA_law_641 ?_
  refine wi_iadd hx hb nd_LA_law_642 ?_
  refine wi_sld hx hb hX hbl hbA hS (i := i + 1) (by omega) (by omega) nd_LA_law_643 ?_
  refine wd_Vi (C := nr_CB) (n := 1) (X := []) (Y := cw_ cI cG cM q n mr a0 a1 (u.1, u.2.1, u.2.2)) (Z := (rf_ cI r n g ++ [])) hx hb hml hown htg (c_CB_common l D cI cG cM q n hn1 hn mr a0 a1 hm0 hm1 u.1 u.2.1 u.2.2 y hI (xs (i + 1)) _) tm_335 tm_332 tm_333 tm_334 tm_1 (by decide +kernel) ⟨⟨by decide, by decide⟩, rfl, rfl⟩ hP hD hS hA hK hN (va_recv (q0 := 0) (ci := 0) hK (wm_P (X := []) (Y := cw_ cI cG cM q n mr a0 a1 (u.1, u.2.1, u.2.2)) (Z := (rf_ cI r n g ++ [])) hP).2.1 rfl rfl) rfl hl.1 rfl (Nat.le_of_ble_eq_true rfl) nd_LA_law_644 hCS (fun v1 u1 H locs hp1 hP hD hS => ?_)
  have hP : va_P D cl_all (cw_ cI cG cM q n mr a0 a1 u1 ++ (rf_ cI r n g ++ [])) H := hP
  have hD : va_D A (cw_ cI cG cM q n mr a0 a1 u1 ++ (rf_ cI r n g ++ [])) := hD
  refine wi_top hp1.1 ?_
  refine lv_aload_n hx hb nd_LA_law_647 rfl (lv_at hl 3 rfl) ?_
  refine lv_aload_n hx hb nd_LA_law_648 rfl (lv_at hl 1 rfl) ?_
  refine lv_iload_n hx hb nd_LA_law_649 rfl (lv_at hl 0 rfl) ?_
  refine wi_ic hx hb (a := 1) nd_LA_law_650 ?_
  refine wi_iadd hx hb nd_LA_law_651 ?_
  refine wi_sld hx hb hX hbl hbA hS (i := i + 1) (by omega) (by omega) nd_LA_law_652 ?_
  refine wd_Vi (C := nr_CM) (n := 1) (X := cw_ cI cG cM q n mr a0 a1 u1) (Y := rf_ cI r n g) (Z := []) hx hb hml hown htg (c_CM_common l D cI cG cM r n hn1 hn g y hJ (xs (i + 1)) _) tm_541 tm_538 tm_539 tm_540 tm_9 (by decide +kernel) ⟨⟨by decide, by decide⟩, rfl, rfl⟩ hP hD hS hA hK hN (va_recv (q0 := 0) (ci := 6) hK (wm_P (X := cw_ cI cG cM q n mr a0 a1 u1) (Y := rf_ cI r n g) (Z := []) hP).2.1 rfl rfl) rfl hl.1 rfl (Nat.le_of_ble_eq_true rfl) nd_LA_law_653 hCS (fun v2 u2 H locs hp2 hP hD hS => ?_)
  have hP : va_P D cl_all (cw_ cI cG cM q n mr a0 a1 u1 ++ (rf_ cI r n u2 ++ [])) H := hP
  have hD : va_D A (cw_ cI cG cM q n mr a0 a1 u1 ++ (rf_ cI r n u2 ++ [])) := hD
  refine wi_top hp2.1 ?_
  refine lv_icmp_eq (tgt := 736) hx hb nd_LA_law_656 rfl (fun hc656 => ?_) (fun hc656 => ?_)
  · exact kx y u1 u2 ls H locs hp1.2 hp2.2 hl hP hD hS
  · exact absurd rfl hc656
set_option maxRecDepth 20000 in
theorem lw_k15 {p : Program} {l : Launch} {e0 : Env} {s0 : State} {m : MethodId} {below : List Frame} {meth : Method} {c : Code} {b L : Nat} {xs : Nat → Int32} {D : va_G} {A : Nat → Prop} {Qq : State → Prop} {cells slots : Nat} (cI cG cM : ClassId) (q : Nat → Nat) (n : Nat) (hn1 : 1 ≤ n) (hn : n ≤ 10) (mr : Nat → Option Nat) (a0 a1 : ma_A) (hm0 : mr 0 = some (a0.1 0)) (hm1 : mr 1 = some (a1.1 0)) (r : Nat → Nat) (hL : L ≤ 2561) (hx : p.tables.exec = Jvm.exec) (hb : c.code = nc_LA_law) (hml : c.maxLocals = 4) (htg : ∀ w ∈ tg_, w.before #[Value.ref b] s0 = true) (hown : s0.vm.findClass "CommonBasesLaw" = some m.cls) (hK : va_K D cl_all (ty_all cI cG cM) s0) (hN : tn_K s0) (hX : va_X b L xs s0 s0.heap) (hbl : b < s0.heap.size) (hbA : ¬ A b) (hA : ∀ q : Nat, s0.heap.size ≤ q → A q) (hCS : cells ≤ room_1.cells ∧ slots ≤ room_1.slots) (i : Nat) (kx : ∀ (y : cb_Y) (u : cb_S) (g : rf_S) (ls : Array Slot) (H : Heap) (locs : List Loc), cb_I n y u → rf_I n y g → lv_has ls 4 [(3, .int (nI i)), (0, .ref b), (1, .ref (q 0)), (2, .ref (r 0))] → va_P D cl_all (cw_ cI cG cM q n mr a0 a1 u ++ (rf_ cI r n g ++ [])) H → va_D A (cw_ cI cG cM q n mr a0 a1 u ++ (rf_ cI r n g ++ [])) → va_S A s0.heap H locs → W p l e0 room_1 s0 m #[Value.ref b] below meth c H locs cells slots Qq (F0 m 736 ls [])) (hi1 : 1 ≤ i) (hi : i + 5 ≤ L) (y : cb_Y) (u : cb_S) (g : rf_S) (hI : cb_I n y u) (hJ : rf_I n y g) (ls : Array Slot) (H : Heap) (locs : List Loc) (hl : lv_has ls 4 [(3, .int (nI i)), (0, .ref b), (1, .ref (q 0)), (2, .ref (r 0))]) (hP : va_P D cl_all (cw_ cI cG cM q n mr a0 a1 u ++ (rf_ cI r n g ++ [])) H) (hD : va_D A (cw_ cI cG cM q n mr a0 a1 u ++ (rf_ cI r n g ++ []))) (hS : va_S A s0.heap H locs) : W p l e0 room_1 s0 m #[Value.ref b] below meth c H locs cells slots Qq (F0 m 661 ls []) := by
  refine lv_aload_n hx hb nd_LA_law_661 rfl (lv_at hl 2 rfl) ?_
  refine lv_aload_n hx hb nd_LA_law_662 rfl (lv_at hl 1 rfl) ?_
  refine lv_iload_n hx hb nd_LA_law_663 rfl (lv_at hl 0 rfl) ?_
  refine wi_ic hx hb (a := 1) nd_LA_law_664 ?_
  refine wi_iadd hx hb nd_LA_law_665 ?_
  refine wi_sld hx hb hX hbl hbA hS (i := i + 1) (by omega) (by omega) nd_LA_law_666 ?_
  refine wd_Vi (C := nr_CB) (n := 1) (X := []) (Y := cw_ cI cG cM q n mr a0 a1 (u.1, u.2.1, u.2.2)) (Z := (rf_ cI r n g ++ [])) hx hb hml hown htg (c_CB_weightOf l D cI cG cM q n hn1 hn mr a0 a1 hm0 hm1 u.1 u.2.1 u.2.2 y hI (xs (i + 1)) _) tm_348 tm_345 tm_346 tm_347 tm_1 (by decide +kernel) ⟨⟨by decide, by decide⟩, rfl, rfl⟩ hP hD hS hA hK hN (va_recv (q0 := 0) (ci := 0) hK (wm_P (X := []) (Y := cw_ cI cG cM q n mr a0 a1 (u.1, u.2.1, u.2.2)) (Z := (rf_ cI r n g ++ [])) hP).2.1 rfl rfl) rfl hl.1 rfl (Nat.le_of_ble_eq_true rfl) nd_LA_law_667 hCS (fun v1 u1 H locs hp1 hP hD hS => ?_)
  have hP : va_P D cl_all (cw_ cI cG cM q n mr a0 a1 u1 ++ (rf_ cI r n g ++ [])) H := hP
  have hD : va_D A (cw_ cI cG cM q n mr a0 a1 u1 ++ (rf_ cI r n g ++ [])) := hD
  refine wi_top hp1.1 ?_
  refine lv_aload_n hx hb nd_LA_law_670 rfl (lv_at hl 3 rfl) ?_
  refine lv_aload_n hx hb nd_LA_law_671 rfl (lv_at hl 1 rfl) ?_
  refine lv_iload_n hx hb nd_LA_law_672 rfl (lv_at hl 0 rfl) ?_
  refine wi_ic hx hb (a := 1) nd_LA_law_673 ?_
  refine wi_iadd hx hb nd_LA_law_674 ?_
  refine wi_sld hx hb hX hbl hbA hS (i := i + 1) (by omega) (by omega) nd_LA_law_675 ?_
  refine wd_Vi (C := nr_CM) (n := 1) (X := cw_ cI cG cM q n mr a0 a1 u1) (Y := rf_ cI r n g) (Z := []) hx hb hml hown htg (c_CM_weightOf l D cI cG cM r n hn1 hn g y hJ (xs (i + 1)) _) tm_545 tm_542 tm_543 tm_544 tm_9 (by decide +kernel) ⟨⟨by decide, by decide⟩, rfl, rfl⟩ hP hD hS hA hK hN (va_recv (q0 := 0) (ci := 6) hK (wm_P (X := cw_ cI cG cM q n mr a0 a1 u1) (Y := rf_ cI r n g) (Z := []) hP).2.1 rfl rfl) rfl hl.1 rfl (Nat.le_of_ble_eq_true rfl) nd_LA_law_676 hCS (fun v2 u2 H locs hp2 hP hD hS => ?_)
  have hP : va_P D cl_all (cw_ cI cG cM q n mr a0 a1 u1 ++ (rf_ cI r n u2 ++ [])) H := hP
  have hD : va_D A (cw_ cI cG cM q n mr a0 a1 u1 ++ (rf_ cI r n u2 ++ [])) := hD
  refine wi_top hp2.1 ?_
  refine lv_icmp_eq (tgt := 736) hx hb nd_LA_law_679 rfl (fun hc679 => ?_) (fun hc679 => ?_)
  · exact kx y u1 u2 ls H locs hp1.2 hp2.2 hl hP hD hS
  · exact absurd rfl hc679
set_option maxRecDepth 20000 in
theorem lw_k16 {p : Program} {l : Launch} {e0 : Env} {s0 : State} {m : MethodId} {below : List Frame} {meth : Method} {c : Code} {b L : Nat} {xs : Nat → Int32} {D : va_G} {A : Nat → Prop} {Qq : State → Prop} {cells slots : Nat} (cI cG cM : ClassId) (q : Nat → Nat) (n : Nat) (hn1 : 1 ≤ n) (hn : n ≤ 10) (mr : Nat → Option Nat) (a0 a1 : ma_A) (hm0 : mr 0 = some (a0.1 0)) (hm1 : mr 1 = some (a1.1 0)) (r : Nat → Nat) (hL : L ≤ 2561) (hx : p.tables.exec = Jvm.exec) (hb : c.code = nc_LA_law) (hml : c.maxLocals = 4) (htg : ∀ w ∈ tg_, w.before #[Value.ref b] s0 = true) (hown : s0.vm.findClass "CommonBasesLaw" = some m.cls) (hK : va_K D cl_all (ty_all cI cG cM) s0) (hN : tn_K s0) (hX : va_X b L xs s0 s0.heap) (hbl : b < s0.heap.size) (hbA : ¬ A b) (hA : ∀ q : Nat, s0.heap.size ≤ q → A q) (hCS : cells ≤ room_1.cells ∧ slots ≤ room_1.slots) (i : Nat) (kx : ∀ (y : cb_Y) (u : cb_S) (g : rf_S) (ls : Array Slot) (H : Heap) (locs : List Loc), cb_I n y u → rf_I n y g → lv_has ls 4 [(3, .int (nI i)), (0, .ref b), (1, .ref (q 0)), (2, .ref (r 0))] → va_P D cl_all (cw_ cI cG cM q n mr a0 a1 u ++ (rf_ cI r n g ++ [])) H → va_D A (cw_ cI cG cM q n mr a0 a1 u ++ (rf_ cI r n g ++ [])) → va_S A s0.heap H locs → W p l e0 room_1 s0 m #[Value.ref b] below meth c H locs cells slots Qq (F0 m 736 ls [])) (hi1 : 1 ≤ i) (hi : i + 5 ≤ L) (y : cb_Y) (u : cb_S) (g : rf_S) (hI : cb_I n y u) (hJ : rf_I n y g) (ls : Array Slot) (H : Heap) (locs : List Loc) (hl : lv_has ls 4 [(3, .int (nI i)), (0, .ref b), (1, .ref (q 0)), (2, .ref (r 0))]) (hP : va_P D cl_all (cw_ cI cG cM q n mr a0 a1 u ++ (rf_ cI r n g ++ [])) H) (hD : va_D A (cw_ cI cG cM q n mr a0 a1 u ++ (rf_ cI r n g ++ []))) (hS : va_S A s0.heap H locs) : W p l e0 room_1 s0 m #[Value.ref b] below meth c H locs cells slots Qq (F0 m 684 ls []) := by
  refine lv_aload_n hx hb nd_LA_law_684 rfl (lv_at hl 2 rfl) ?_
  refine wd_Vi (C := nr_CB) (n := 0) (X := []) (Y := cw_ cI cG cM q n mr a0 a1 (u.1, u.2.1, u.2.2)) (Z := (rf_ cI r n g ++ [])) hx hb hml hown htg (c_CB_largest l D cI cG cM q n hn1 hn mr a0 a1 hm0 hm1 u.1 u.2.1 u.2.2 y hI  _) tm_352 tm_349 tm_350 tm_351 tm_1 (by decide +kernel) ⟨⟨by decide, by decide⟩, rfl, rfl⟩ hP hD hS hA hK hN (va_recv (q0 := 0) (ci := 0) hK (wm_P (X := []) (Y := cw_ cI cG cM q n mr a0 a1 (u.1, u.2.1, u.2.2)) (Z := (rf_ cI r n g ++ [])) hP).2.1 rfl rfl) rfl hl.1 rfl (Nat.le_of_ble_eq_true rfl) nd_LA_law_685 hCS (fun v1 u1 H locs hp1 hP hD hS => ?_)
  have hP : va_P D cl_all (cw_ cI cG cM q n mr a0 a1 u1 ++ (rf_ cI r n g ++ [])) H := hP
  have hD : va_D A (cw_ cI cG cM q n mr a0 a1 u1 ++ (rf_ cI r n g ++ [])) := hD
  refine wi_top hp1.1 ?_
  refine lv_aload_n hx hb nd_LA_law_688 rfl (lv_at hl 3 rfl) ?_
  refine wd_Vi (C := nr_CM) (n := 0) (X := cw_ cI cG cM q n mr a0 a1 u1) (Y := rf_ cI r n g) (Z := []) hx hb hml hown htg (c_CM_largest l D cI cG cM r n hn1 hn g y hJ  _) tm_549 tm_546 tm_547 tm_548 tm_9 (by decide +kernel) ⟨⟨by decide, by decide⟩, rfl, rfl⟩ hP hD hS hA hK hN (va_recv (q0 := 0) (ci := 6) hK (wm_P (X := cw_ cI cG cM q n mr a0 a1 u1) (Y := rf_ cI r n g) (Z := []) hP).2.1 rfl rfl) rfl hl.1 rfl (Nat.le_of_ble_eq_true rfl) nd_LA_law_689 hCS (fun v2 u2 H locs hp2 hP hD hS => ?_)
  have hP : va_P D cl_all (cw_ cI cG cM q n mr a0 a1 u1 ++ (rf_ cI r n u2 ++ [])) H := hP
  have hD : va_D A (cw_ cI cG cM q n mr a0 a1 u1 ++ (rf_ cI r n u2 ++ [])) := hD
  refine wi_top hp2.1 ?_
  refine lv_icmp_eq (tgt := 736) hx hb nd_LA_law_692 rfl (fun hc692 => ?_) (fun hc692 => ?_)
  · exact kx y u1 u2 ls H locs hp1.2 hp2.2 hl hP hD hS
  · exact absurd rfl hc692
set_option maxRecDepth 20000 in
theorem lw_k17 {p : Program} {l : Launch} {e0 : Env} {s0 : State} {m : MethodId} {below : List Frame} {meth : Method} {c : Code} {b L : Nat} {xs : Nat → Int32} {D : va_G} {A : Nat → Prop} {Qq : State → Prop} {cells slots : Nat} (cI cG cM : ClassId) (q : Nat → Nat) (n : Nat) (hn1 : 1 ≤ n) (hn : n ≤ 10) (mr : Nat → Option Nat) (a0 a1 : ma_A) (hm0 : mr 0 = some (a0.1 0)) (hm1 : mr 1 = some (a1.1 0)) (r : Nat → Nat) (hL : L ≤ 2561) (hx : p.tables.exec = Jvm.exec) (hb : c.code = nc_LA_law) (hml : c.maxLocals = 4) (htg : ∀ w ∈ tg_, w.before #[Value.ref b] s0 = true) (hown : s0.vm.findClass "CommonBasesLaw" = some m.cls) (hK : va_K D cl_all (ty_all cI cG cM) s0) (hN : tn_K s0) (hX : va_X b L xs s0 s0.heap) (hbl : b < s0.heap.size) (hbA : ¬ A b) (hA : ∀ q : Nat, s0.heap.size ≤ q → A q) (hCS : cells ≤ room_1.cells ∧ slots ≤ room_1.slots) (i : Nat) (kx : ∀ (y : cb_Y) (u : cb_S) (g : rf_S) (ls : Array Slot) (H : Heap) (locs : List Loc), cb_I n y u → rf_I n y g → lv_has ls 4 [(3, .int (nI i)), (0, .ref b), (1, .ref (q 0)), (2, .ref (r 0))] → va_P D cl_all (cw_ cI cG cM q n mr a0 a1 u ++ (rf_ cI r n g ++ [])) H → va_D A (cw_ cI cG cM q n mr a0 a1 u ++ (rf_ cI r n g ++ [])) → va_S A s0.heap H locs → W p l e0 room_1 s0 m #[Value.ref b] below meth c H locs cells slots Qq (F0 m 736 ls [])) (hi1 : 1 ≤ i) (hi : i + 5 ≤ L) (y : cb_Y) (u : cb_S) (g : rf_S) (hI : cb_I n y u) (hJ : rf_I n y g) (ls : Array Slot) (H : Heap) (locs : List Loc) (hl : lv_has ls 4 [(3, .int (nI i)), (0, .ref b), (1, .ref (q 0)), (2, .ref (r 0))]) (hP : va_P D cl_all (cw_ cI cG cM q n mr a0 a1 u ++ (rf_ cI r n g ++ [])) H) (hD : va_D A (cw_ cI cG cM q n mr a0 a1 u ++ (rf_ cI r n g ++ []))) (hS : va_S A s0.heap H locs) : W p l e0 room_1 s0 m #[Value.ref b] below meth c H locs cells slots Qq (F0 m 697 ls []) := by
  refine lv_aload_n hx hb nd_LA_law_697 rfl (lv_at hl 2 rfl) ?_
  refine wd_Vi (C := nr_CB) (n := 0) (X := []) (Y := cw_ cI cG cM q n mr a0 a1 (u.1, u.2.1, u.2.2)) (Z := (rf_ cI r n g ++ [])) hx hb hml hown htg (c_CB_witness l D cI cG cM q n hn1 hn mr a0 a1 hm0 hm1 u.1 u.2.1 u.2.2 y hI  _) tm_356 tm_353 tm_354 tm_355 tm_1 (by decide +kernel) ⟨⟨by decide, by decide⟩, rfl, rfl⟩ hP hD hS hA hK hN (va_recv (q0 := 0) (ci := 0) hK (wm_P (X := []) (Y := cw_ cI cG cM q n mr a0 a1 (u.1, u.2.1, u.2.2)) (Z := (rf_ cI r n g ++ [])) hP).2.1 rfl rfl) rfl hl.1 rfl (Nat.le_of_ble_eq_true rfl) nd_LA_law_698 hCS (fun v1 u1 H locs hp1 hP hD hS => ?_)
  have hP : va_P D cl_all (cw_ cI cG cM q n mr a0 a1 u1 ++ (rf_ cI r n g ++ [])) H := hP
  have hD : va_D A (cw_ cI cG cM q n mr a0 a1 u1 ++ (rf_ cI r n g ++ [])) := hD
  refine wi_top hp1.1 ?_
  refine lv_aload_n hx hb nd_LA_law_701 rfl (lv_at hl 3 rfl) ?_
  refine wd_Vi (C := nr_CM) (n := 0) (X := cw_ cI cG cM q n mr a0 a1 u1) (Y := rf_ cI r n g) (Z := []) hx hb hml hown htg (c_CM_witness l D cI cG cM r n hn1 hn g y hJ  _) tm_553 tm_550 tm_551 tm_552 tm_9 (by decide +kernel) ⟨⟨by decide, by decide⟩, rfl, rfl⟩ hP hD hS hA hK hN (va_recv (q0 := 0) (ci := 6) hK (wm_P (X := cw_ cI cG cM q n mr a0 a1 u1) (Y := rf_ cI r n g) (Z := []) hP).2.1 rfl rfl) rfl hl.1 rfl (Nat.le_of_ble_eq_true rfl) nd_LA_law_702 hCS (fun v2 u2 H locs hp2 hP hD hS => ?_)
  have hP : va_P D cl_all (cw_ cI cG cM q n mr a0 a1 u1 ++ (rf_ cI r n u2 ++ [])) H := hP
  have hD : va_D A (cw_ cI cG cM q n mr a0 a1 u1 ++ (rf_ cI r n u2 ++ [])) := hD
  refine wi_top hp2.1 ?_
  refine lv_icmp_eq (tgt := 736) hx hb nd_LA_law_705 rfl (fun hc705 => ?_) (fun hc705 => ?_)
  · exact kx y u1 u2 ls H locs hp1.2 hp2.2 hl hP hD hS
  · exact absurd rfl hc705
set_option maxRecDepth 20000 in
theorem lw_k18 {p : Program} {l : Launch} {e0 : Env} {s0 : State} {m : MethodId} {below : List Frame} {meth : Method} {c : Code} {b L : Nat} {xs : Nat → Int32} {D : va_G} {A : Nat → Prop} {Qq : State → Prop} {cells slots : Nat} (cI cG cM : ClassId) (q : Nat → Nat) (n : Nat) (hn1 : 1 ≤ n) (hn : n ≤ 10) (mr : Nat → Option Nat) (a0 a1 : ma_A) (hm0 : mr 0 = some (a0.1 0)) (hm1 : mr 1 = some (a1.1 0)) (r : Nat → Nat) (hL : L ≤ 2561) (hx : p.tables.exec = Jvm.exec) (hb : c.code = nc_LA_law) (hml : c.maxLocals = 4) (htg : ∀ w ∈ tg_, w.before #[Value.ref b] s0 = true) (hown : s0.vm.findClass "CommonBasesLaw" = some m.cls) (hK : va_K D cl_all (ty_all cI cG cM) s0) (hN : tn_K s0) (hX : va_X b L xs s0 s0.heap) (hbl : b < s0.heap.size) (hbA : ¬ A b) (hA : ∀ q : Nat, s0.heap.size ≤ q → A q) (hCS : cells ≤ room_1.cells ∧ slots ≤ room_1.slots) (i : Nat) (kx : ∀ (y : cb_Y) (u : cb_S) (g : rf_S) (ls : Array Slot) (H : Heap) (locs : List Loc), cb_I n y u → rf_I n y g → lv_has ls 4 [(3, .int (nI i)), (0, .ref b), (1, .ref (q 0)), (2, .ref (r 0))] → va_P D cl_all (cw_ cI cG cM q n mr a0 a1 u ++ (rf_ cI r n g ++ [])) H → va_D A (cw_ cI cG cM q n mr a0 a1 u ++ (rf_ cI r n g ++ [])) → va_S A s0.heap H locs → W p l e0 room_1 s0 m #[Value.ref b] below meth c H locs cells slots Qq (F0 m 736 ls [])) (hi1 : 1 ≤ i) (hi : i + 5 ≤ L) (y : cb_Y) (u : cb_S) (g : rf_S) (hI : cb_I n y u) (hJ : rf_I n y g) (ls : Array Slot) (H : Heap) (locs : List Loc) (hl : lv_has ls 4 [(3, .int (nI i)), (0, .ref b), (1, .ref (q 0)), (2, .ref (r 0))]) (hP : va_P D cl_all (cw_ cI cG cM q n mr a0 a1 u ++ (rf_ cI r n g ++ [])) H) (hD : va_D A (cw_ cI cG cM q n mr a0 a1 u ++ (rf_ cI r n g ++ []))) (hS : va_S A s0.heap H locs) : W p l e0 room_1 s0 m #[Value.ref b] below meth c H locs cells slots Qq (F0 m 710 ls []) := by
  refine lv_aload_n hx hb nd_LA_law_710 rfl (lv_at hl 2 rfl) ?_
  refine wd_Vi (C := nr_CB) (n := 0) (X := []) (Y := cw_ cI cG cM q n mr a0 a1 (u.1, u.2.1, u.2.2)) (Z := (rf_ cI r n g ++ [])) hx hb hml hown htg (c_CB_joint l D cI cG cM q n hn1 hn mr a0 a1 hm0 hm1 u.1 u.2.1 u.2.2 y hI  _) tm_364 tm_361 tm_362 tm_363 tm_1 (by decide +kernel) ⟨⟨by decide, by decide⟩, rfl, rfl⟩ hP hD hS hA hK hN (va_recv (q0 := 0) (ci := 0) hK (wm_P (X := []) (Y := cw_ cI cG cM q n mr a0 a1 (u.1, u.2.1, u.2.2)) (Z := (rf_ cI r n g ++ [])) hP).2.1 rfl rfl) rfl hl.1 rfl (Nat.le_of_ble_eq_true rfl) nd_LA_law_711 hCS (fun v1 u1 H locs hp1 hP hD hS => ?_)
  have hP : va_P D cl_all (cw_ cI cG cM q n mr a0 a1 u1 ++ (rf_ cI r n g ++ [])) H := hP
  have hD : va_D A (cw_ cI cG cM q n mr a0 a1 u1 ++ (rf_ cI r n g ++ [])) := hD
  refine wi_top hp1.1 ?_
  refine lv_aload_n hx hb nd_LA_law_714 rfl (lv_at hl 3 rfl) ?_
  refine wd_Vi (C := nr_CM) (n := 0) (X := cw_ cI cG cM q n mr a0 a1 u1) (Y := rf_ cI r n g) (Z := []) hx hb hml hown htg (c_CM_joint l D cI cG cM r n hn1 hn g y hJ  _) tm_561 tm_558 tm_559 tm_560 tm_9 (by decide +kernel) ⟨⟨by decide, by decide⟩, rfl, rfl⟩ hP hD hS hA hK hN (va_recv (q0 := 0) (ci := 6) hK (wm_P (X := cw_ cI cG cM q n mr a0 a1 u1) (Y := rf_ cI r n g) (Z := []) hP).2.1 rfl rfl) rfl hl.1 rfl (Nat.le_of_ble_eq_true rfl) nd_LA_law_715 hCS (fun v2 u2 H locs hp2 hP hD hS => ?_)
  have hP : va_P D cl_all (cw_ cI cG cM q n mr a0 a1 u1 ++ (rf_ cI r n u2 ++ [])) H := hP
  have hD : va_D A (cw_ cI cG cM q n mr a0 a1 u1 ++ (rf_ cI r n u2 ++ [])) := hD
  refine wi_top hp2.1 ?_
  refine lv_icmp_eq (tgt := 736) hx hb nd_LA_law_718 rfl (fun hc718 => ?_) (fun hc718 => ?_)
  · exact kx y u1 u2 ls H locs hp1.2 hp2.2 hl hP hD hS
  · exact absurd rfl hc718
set_option maxRecDepth 20000 in
theorem lw_k19 {p : Program} {l : Launch} {e0 : Env} {s0 : State} {m : MethodId} {below : List Frame} {meth : Method} {c : Code} {b L : Nat} {xs : Nat → Int32} {D : va_G} {A : Nat → Prop} {Qq : State → Prop} {cells slots : Nat} (cI cG cM : ClassId) (q : Nat → Nat) (n : Nat) (hn1 : 1 ≤ n) (hn : n ≤ 10) (mr : Nat → Option Nat) (a0 a1 : ma_A) (hm0 : mr 0 = some (a0.1 0)) (hm1 : mr 1 = some (a1.1 0)) (r : Nat → Nat) (hL : L ≤ 2561) (hx : p.tables.exec = Jvm.exec) (hb : c.code = nc_LA_law) (hml : c.maxLocals = 4) (htg : ∀ w ∈ tg_, w.before #[Value.ref b] s0 = true) (hown : s0.vm.findClass "CommonBasesLaw" = some m.cls) (hK : va_K D cl_all (ty_all cI cG cM) s0) (hN : tn_K s0) (hX : va_X b L xs s0 s0.heap) (hbl : b < s0.heap.size) (hbA : ¬ A b) (hA : ∀ q : Nat, s0.heap.size ≤ q → A q) (hCS : cells ≤ room_1.cells ∧ slots ≤ room_1.slots) (i : Nat) (kx : ∀ (y : cb_Y) (u : cb_S) (g : rf_S) (ls : Array Slot) (H : Heap) (locs : List Loc), cb_I n y u → rf_I n y g → lv_has ls 4 [(3, .int (nI i)), (0, .ref b), (1, .ref (q 0)), (2, .ref (r 0))] → va_P D cl_all (cw_ cI cG cM q n mr a0 a1 u ++ (rf_ cI r n g ++ [])) H → va_D A (cw_ cI cG cM q n mr a0 a1 u ++ (rf_ cI r n g ++ [])) → va_S A s0.heap H locs → W p l e0 room_1 s0 m #[Value.ref b] below meth c H locs cells slots Qq (F0 m 736 ls [])) (hi1 : 1 ≤ i) (hi : i + 5 ≤ L) (y : cb_Y) (u : cb_S) (g : rf_S) (hI : cb_I n y u) (hJ : rf_I n y g) (ls : Array Slot) (H : Heap) (locs : List Loc) (hl : lv_has ls 4 [(3, .int (nI i)), (0, .ref b), (1, .ref (q 0)), (2, .ref (r 0))]) (hP : va_P D cl_all (cw_ cI cG cM q n mr a0 a1 u ++ (rf_ cI r n g ++ [])) H) (hD : va_D A (cw_ cI cG cM q n mr a0 a1 u ++ (rf_ cI r n g ++ []))) (hS : va_S A s0.heap H locs) : W p l e0 room_1 s0 m #[Value.ref b] below meth c H locs cells slots Qq (F0 m 723 ls []) := by
  refine lv_aload_n hx hb nd_LA_law_723 rfl (lv_at hl 2 rfl) ?_
  refine wd_Vi (C := nr_CB) (n := 0) (X := []) (Y := cw_ cI cG cM q n mr a0 a1 (u.1, u.2.1, u.2.2)) (Z := (rf_ cI r n g ++ [])) hx hb hml hown htg (c_CB_jointWitness l D cI cG cM q n hn1 hn mr a0 a1 hm0 hm1 u.1 u.2.1 u.2.2 y hI  _) tm_368 tm_373 tm_366 tm_367 tm_1 (by decide +kernel) ⟨⟨by decide, by decide⟩, rfl, rfl⟩ hP hD hS hA hK hN (va_recv (q0 := 0) (ci := 0) hK (wm_P (X := []) (Y := cw_ cI cG cM q n mr a0 a1 (u.1, u.2.1, u.2.2)) (Z := (rf_ cI r n g ++ [])) hP).2.1 rfl rfl) rfl hl.1 rfl (Nat.le_of_ble_eq_true rfl) nd_LA_law_724 hCS (fun v1 u1 H locs hp1 hP hD hS => ?_)
  have hP : va_P D cl_all (cw_ cI cG cM q n mr a0 a1 u1 ++ (rf_ cI r n g ++ [])) H := hP
  have hD : va_D A (cw_ cI cG cM q n mr a0 a1 u1 ++ (rf_ cI r n g ++ [])) := hD
  refine wi_top hp1.1 ?_
  refine lv_aload_n hx hb nd_LA_law_727 rfl (lv_at hl 3 rfl) ?_
  refine wd_Vi (C := nr_CM) (n := 0) (X := cw_ cI cG cM q n mr a0 a1 u1) (Y := rf_ cI r n g) (Z := []) hx hb hml hown htg (c_CM_jointWitness l D cI cG cM r n hn1 hn g y hJ  _) tm_569 tm_566 tm_567 tm_568 tm_9 (by decide +kernel) ⟨⟨by decide, by decide⟩, rfl, rfl⟩ hP hD hS hA hK hN (va_recv (q0 := 0) (ci := 6) hK (wm_P (X := cw_ cI cG cM q n mr a0 a1 u1) (Y := rf_ cI r n g) (Z := []) hP).2.1 rfl rfl) rfl hl.1 rfl (Nat.le_of_ble_eq_true rfl) nd_LA_law_728 hCS (fun v2 u2 H locs hp2 hP hD hS => ?_)
  have hP : va_P D cl_all (cw_ cI cG cM q n mr a0 a1 u1 ++ (rf_ cI r n u2 ++ [])) H := hP
  have hD : va_D A (cw_ cI cG cM q n mr a0 a1 u1 ++ (rf_ cI r n u2 ++ [])) := hD
  refine wi_top hp2.1 ?_
  refine lv_icmp_eq (tgt := 736) hx hb nd_LA_law_731 rfl (fun hc731 => ?_) (fun hc731 => ?_)
  · exact kx y u1 u2 ls H locs hp1.2 hp2.2 hl hP hD hS
  · exact absurd rfl hc731
