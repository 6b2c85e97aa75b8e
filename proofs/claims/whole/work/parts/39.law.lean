/-! The law: what it knows, its script, its cases. -/
abbrev nc_LA_law : ByteArray := code
section LW
variable {p : Program} {l : Launch} {e : Env} {R : Room} {s : State} {m : MethodId} {args : Array Value} {below : List Frame} {meth : Method} {c : Code} {H : Heap} {locs : List Loc} {cells slots : Nat} {Q : State → Prop}
variable {cc : ByteArray} {pc : Nat} {ls : Array Slot} {rest : List Value} {A : Nat → Prop} {H0 : Heap}
theorem wi_sld (hx : p.tables.exec = Jvm.exec) (hb : c.code = cc) {b L : Nat} {xs : Nat → Int32} (hX : va_X b L xs s H0) (hbl : b < H0.size) (hbA : ¬ A b) (hS : va_S A H0 H locs) {i : Nat} (hi : i < L) (hL : L < 2 ^ 31) (hdg : decode cc pc = .ok (.iaload, 1)) (kk : W p l e R s m args below meth c H locs cells slots Q (F0 m (pc + 1) ls (.int (xs i) :: rest))) : W p l e R s m args below meth c H locs cells slots Q (F0 m pc ls (.int (nI i) :: .ref b :: rest)) :=
  va_sld hx hb hX hbl hbA hS (vp_in_nI hi hL) hdg (by rw [nI_clamp (by omega)]; exact kk)
end LW
def la_P (b L : Nat) (xs : Nat → Int32) : State → Prop := fun U => va_X b L xs U U.heap ∧ b < U.heap.size
theorem la_bl {b L : Nat} {xs : Nat → Int32} {av : List Value} : FrameBlind (va_Pc av (la_P b L xs)) := fun a U g mk q => by
  obtain ⟨q0, q1, q2⟩ := q
  exact ⟨q0, va_X.moved (u := U) (U := U.calling g mk a) (Vm.Alike.refl U.vm) q1, q2⟩
theorem la_pre {s : State} {H : Heap} {b L : Nat} {xs : Nat → Int32} {av : List Value} (hX : va_X b L xs s H) (hb : b < H.size) : PreS s H (va_Pc av (la_P b L xs)) av :=
  ⟨la_bl, fun U hU hW => ⟨rfl, va_X.moved hW.alike (by rw [hU]; exact hX), by rw [hU]; exact hb⟩⟩
def la_v (L : Nat) (xs : Nat → Int32) : Int32 := if 0 < L then xs 0 else nI 0
theorem nd_LA_cell_0 : decode nc_LA_cell 0 = .ok (.iload_n 1, 1) := by decide +kernel
theorem nd_LA_cell_1 : decode nc_LA_cell 1 = .ok (.aload_n 0, 1) := by decide +kernel
theorem nd_LA_cell_2 : decode nc_LA_cell 2 = .ok (.arraylength, 1) := by decide +kernel
theorem nd_LA_cell_3 : decode nc_LA_cell 3 = .ok (.if_icmp .ge 9, 3) := by decide +kernel
theorem nd_LA_cell_6 : decode nc_LA_cell 6 = .ok (.aload_n 0, 1) := by decide +kernel
theorem nd_LA_cell_7 : decode nc_LA_cell 7 = .ok (.iload_n 1, 1) := by decide +kernel
theorem nd_LA_cell_8 : decode nc_LA_cell 8 = .ok (.iaload, 1) := by decide +kernel
theorem nd_LA_cell_9 : decode nc_LA_cell 9 = .ok (.goto 4, 3) := by decide +kernel
theorem nd_LA_cell_12 : decode nc_LA_cell 12 = .ok (.iconst 0, 1) := by decide +kernel
theorem nd_LA_cell_13 : decode nc_LA_cell 13 = .ok (.ireturn, 1) := by decide +kernel
theorem c_LA_cell (l : Launch) (b L : Nat) (hL : L ≤ 2561) (xs : Nat → Int32) : Met l ny_LA_cell (Cond.code ny_LA_cell nc_LA_cell 2 (some .int) :: tg_) ({ frames := 0, cells := 0, slots := 0, locals := 0 }) (va_Pc [.ref b, .int (nI 0)] (la_P b L xs)) (QcRead (la_v L xs)) 0 0 (fun _ => False) := by
  refine Met.ofW (cc := nc_LA_cell) (maxL := 2) (ret := some .int) (by decide) rfl ?_
  intro p e s m args below meth c s₁ B hml hv
  obtain ⟨rfl, hX, hbl⟩ := hv
  have hx := B.exec
  have hb := B.bytes
  have hr := B.returns
  have hk := B.notSynchronized
  have hl := lv_entry [.ref b, .int (nI 0)] (n := 2) (Nat.le_of_ble_eq_true rfl)
  rw [lg_entry_eq]
  generalize (lg_sl [.ref b, .int (nI 0)] ++ List.replicate (2 - (lg_sl [.ref b, .int (nI 0)]).length) Slot.unset).toArray = ls at hl ⊢
  have hl : lv_has ls 2 [(0, .ref b), (1, .int (nI 0))] := hl
  have hS : va_S (fun _ => False) s.heap s.heap [] := va_S.rf
  refine lv_iload_n hx hb nd_LA_cell_0 rfl (lv_at hl 1 rfl) ?_
  refine lv_aload_n hx hb nd_LA_cell_1 rfl (lv_at hl 0 rfl) ?_
  refine va_slen hx hb hX hbl (fun h => h) hS nd_LA_cell_2 ?_
  refine wi_icmp_ge (a := 0) (b := L) (tgt := 12) hx hb (by omega) (by omega) nd_LA_cell_3 rfl (fun hc => ?_) (fun hc => ?_)
  · refine wi_ic hx hb (a := 0) nd_LA_cell_12 ?_
    exact wa_iret hx hb hr hk (if_neg (by omega)).symm nd_LA_cell_13
  · refine lv_aload_n hx hb nd_LA_cell_6 rfl (lv_at hl 0 rfl) ?_
    refine lv_iload_n hx hb nd_LA_cell_7 rfl (lv_at hl 1 rfl) ?_
    refine wi_sld hx hb hX hbl (fun h => h) hS (i := 0) (by omega) (by omega) nd_LA_cell_8 ?_
    refine lv_goto (tgt := 13) hx hb nd_LA_cell_9 rfl ?_
    exact wa_iret hx hb hr hk (if_pos (by omega)).symm nd_LA_cell_13
theorem nd_LA_law_0 : decode nc_LA_law 0 = .ok (.new 7, 3) := by decide +kernel
theorem nd_LA_law_3 : decode nc_LA_law 3 = .ok (.dup, 1) := by decide +kernel
theorem nd_LA_law_4 : decode nc_LA_law 4 = .ok (.aload_n 0, 1) := by decide +kernel
theorem nd_LA_law_5 : decode nc_LA_law 5 = .ok (.iconst 0, 1) := by decide +kernel
theorem nd_LA_law_6 : decode nc_LA_law 6 = .ok (.invokestatic 9, 3) := by decide +kernel
theorem nd_LA_law_9 : decode nc_LA_law 9 = .ok (.invokespecial 15, 3) := by decide +kernel
theorem nd_LA_law_12 : decode nc_LA_law 12 = .ok (.astore_n 1, 1) := by decide +kernel
theorem nd_LA_law_13 : decode nc_LA_law 13 = .ok (.new 18, 3) := by decide +kernel
theorem nd_LA_law_16 : decode nc_LA_law 16 = .ok (.dup, 1) := by decide +kernel
theorem nd_LA_law_17 : decode nc_LA_law 17 = .ok (.aload_n 0, 1) := by decide +kernel
theorem nd_LA_law_18 : decode nc_LA_law 18 = .ok (.iconst 0, 1) := by decide +kernel
theorem nd_LA_law_19 : decode nc_LA_law 19 = .ok (.invokestatic 9, 3) := by decide +kernel
theorem nd_LA_law_22 : decode nc_LA_law 22 = .ok (.invokespecial 20, 3) := by decide +kernel
theorem nd_LA_law_25 : decode nc_LA_law 25 = .ok (.astore_n 2, 1) := by decide +kernel
theorem nd_LA_law_26 : decode nc_LA_law 26 = .ok (.iconst 1, 1) := by decide +kernel
theorem nd_LA_law_27 : decode nc_LA_law 27 = .ok (.istore_n 3, 1) := by decide +kernel
theorem nd_LA_law_28 : decode nc_LA_law 28 = .ok (.iload_n 3, 1) := by decide +kernel
theorem nd_LA_law_29 : decode nc_LA_law 29 = .ok (.aload_n 0, 1) := by decide +kernel
theorem nd_LA_law_30 : decode nc_LA_law 30 = .ok (.arraylength, 1) := by decide +kernel
theorem nd_LA_law_31 : decode nc_LA_law 31 = .ok (.iconst 5, 1) := by decide +kernel
theorem nd_LA_law_32 : decode nc_LA_law 32 = .ok (.isub, 1) := by decide +kernel
theorem nd_LA_law_33 : decode nc_LA_law 33 = .ok (.if_icmp .gt 709, 3) := by decide +kernel
theorem nd_LA_law_36 : decode nc_LA_law 36 = .ok (.aload_n 0, 1) := by decide +kernel
theorem nd_LA_law_37 : decode nc_LA_law 37 = .ok (.iload_n 3, 1) := by decide +kernel
theorem nd_LA_law_38 : decode nc_LA_law 38 = .ok (.iaload, 1) := by decide +kernel
theorem nd_LA_law_39 : decode nc_LA_law 39 = .ok (.bipush 31, 2) := by decide +kernel
theorem nd_LA_law_41 : decode nc_LA_law 41 = .ok (.iand, 1) := by decide +kernel
theorem nd_LA_law_42 : decode nc_LA_law 42 = .ok (.tableswitch 694 0 19 #[94, 127, 150, 203, 226, 269, 312, 345, 398, 431, 464, 497, 530, 573, 596, 619, 642, 655, 668, 681], 94) := by decide +kernel
theorem nd_LA_law_136 : decode nc_LA_law 136 = .ok (.aload_n 1, 1) := by decide +kernel
theorem nd_LA_law_137 : decode nc_LA_law 137 = .ok (.aload_n 0, 1) := by decide +kernel
theorem nd_LA_law_138 : decode nc_LA_law 138 = .ok (.iload_n 3, 1) := by decide +kernel
theorem nd_LA_law_139 : decode nc_LA_law 139 = .ok (.iconst 1, 1) := by decide +kernel
theorem nd_LA_law_140 : decode nc_LA_law 140 = .ok (.iadd, 1) := by decide +kernel
theorem nd_LA_law_141 : decode nc_LA_law 141 = .ok (.iaload, 1) := by decide +kernel
theorem nd_LA_law_142 : decode nc_LA_law 142 = .ok (.aload_n 0, 1) := by decide +kernel
theorem nd_LA_law_143 : decode nc_LA_law 143 = .ok (.iload_n 3, 1) := by decide +kernel
theorem nd_LA_law_144 : decode nc_LA_law 144 = .ok (.iconst 2, 1) := by decide +kernel
theorem nd_LA_law_145 : decode nc_LA_law 145 = .ok (.iadd, 1) := by decide +kernel
theorem nd_LA_law_146 : decode nc_LA_law 146 = .ok (.iaload, 1) := by decide +kernel
theorem nd_LA_law_147 : decode nc_LA_law 147 = .ok (.invokevirtual 21, 3) := by decide +kernel
theorem nd_LA_law_150 : decode nc_LA_law 150 = .ok (.aload_n 2, 1) := by decide +kernel
theorem nd_LA_law_151 : decode nc_LA_law 151 = .ok (.aload_n 0, 1) := by decide +kernel
theorem nd_LA_law_152 : decode nc_LA_law 152 = .ok (.iload_n 3, 1) := by decide +kernel
theorem nd_LA_law_153 : decode nc_LA_law 153 = .ok (.iconst 1, 1) := by decide +kernel
theorem nd_LA_law_154 : decode nc_LA_law 154 = .ok (.iadd, 1) := by decide +kernel
theorem nd_LA_law_155 : decode nc_LA_law 155 = .ok (.iaload, 1) := by decide +kernel
theorem nd_LA_law_156 : decode nc_LA_law 156 = .ok (.aload_n 0, 1) := by decide +kernel
theorem nd_LA_law_157 : decode nc_LA_law 157 = .ok (.iload_n 3, 1) := by decide +kernel
theorem nd_LA_law_158 : decode nc_LA_law 158 = .ok (.iconst 2, 1) := by decide +kernel
theorem nd_LA_law_159 : decode nc_LA_law 159 = .ok (.iadd, 1) := by decide +kernel
theorem nd_LA_law_160 : decode nc_LA_law 160 = .ok (.iaload, 1) := by decide +kernel
theorem nd_LA_law_161 : decode nc_LA_law 161 = .ok (.invokevirtual 25, 3) := by decide +kernel
theorem nd_LA_law_164 : decode nc_LA_law 164 = .ok (.if_icmp .eq 572, 3) := by decide +kernel
theorem nd_LA_law_167 : decode nc_LA_law 167 = .ok (.iconst 0, 1) := by decide +kernel
theorem nd_LA_law_168 : decode nc_LA_law 168 = .ok (.ireturn, 1) := by decide +kernel
theorem nd_LA_law_169 : decode nc_LA_law 169 = .ok (.aload_n 1, 1) := by decide +kernel
theorem nd_LA_law_170 : decode nc_LA_law 170 = .ok (.aload_n 0, 1) := by decide +kernel
theorem nd_LA_law_171 : decode nc_LA_law 171 = .ok (.iload_n 3, 1) := by decide +kernel
theorem nd_LA_law_172 : decode nc_LA_law 172 = .ok (.iconst 1, 1) := by decide +kernel
theorem nd_LA_law_173 : decode nc_LA_law 173 = .ok (.iadd, 1) := by decide +kernel
theorem nd_LA_law_174 : decode nc_LA_law 174 = .ok (.iaload, 1) := by decide +kernel
theorem nd_LA_law_175 : decode nc_LA_law 175 = .ok (.invokevirtual 26, 3) := by decide +kernel
theorem nd_LA_law_178 : decode nc_LA_law 178 = .ok (.aload_n 2, 1) := by decide +kernel
theorem nd_LA_law_179 : decode nc_LA_law 179 = .ok (.aload_n 0, 1) := by decide +kernel
theorem nd_LA_law_180 : decode nc_LA_law 180 = .ok (.iload_n 3, 1) := by decide +kernel
theorem nd_LA_law_181 : decode nc_LA_law 181 = .ok (.iconst 1, 1) := by decide +kernel
theorem nd_LA_law_182 : decode nc_LA_law 182 = .ok (.iadd, 1) := by decide +kernel
theorem nd_LA_law_183 : decode nc_LA_law 183 = .ok (.iaload, 1) := by decide +kernel
theorem nd_LA_law_184 : decode nc_LA_law 184 = .ok (.invokevirtual 30, 3) := by decide +kernel
theorem nd_LA_law_187 : decode nc_LA_law 187 = .ok (.if_icmp .eq 549, 3) := by decide +kernel
theorem nd_LA_law_190 : decode nc_LA_law 190 = .ok (.iconst 0, 1) := by decide +kernel
theorem nd_LA_law_191 : decode nc_LA_law 191 = .ok (.ireturn, 1) := by decide +kernel
theorem nd_LA_law_192 : decode nc_LA_law 192 = .ok (.aload_n 1, 1) := by decide +kernel
theorem nd_LA_law_193 : decode nc_LA_law 193 = .ok (.aload_n 0, 1) := by decide +kernel
theorem nd_LA_law_194 : decode nc_LA_law 194 = .ok (.iload_n 3, 1) := by decide +kernel
theorem nd_LA_law_195 : decode nc_LA_law 195 = .ok (.iconst 1, 1) := by decide +kernel
theorem nd_LA_law_196 : decode nc_LA_law 196 = .ok (.iadd, 1) := by decide +kernel
theorem nd_LA_law_197 : decode nc_LA_law 197 = .ok (.iaload, 1) := by decide +kernel
theorem nd_LA_law_198 : decode nc_LA_law 198 = .ok (.aload_n 0, 1) := by decide +kernel
theorem nd_LA_law_199 : decode nc_LA_law 199 = .ok (.iload_n 3, 1) := by decide +kernel
theorem nd_LA_law_200 : decode nc_LA_law 200 = .ok (.iconst 2, 1) := by decide +kernel
theorem nd_LA_law_201 : decode nc_LA_law 201 = .ok (.iadd, 1) := by decide +kernel
theorem nd_LA_law_202 : decode nc_LA_law 202 = .ok (.iaload, 1) := by decide +kernel
theorem nd_LA_law_203 : decode nc_LA_law 203 = .ok (.aload_n 0, 1) := by decide +kernel
theorem nd_LA_law_204 : decode nc_LA_law 204 = .ok (.iload_n 3, 1) := by decide +kernel
theorem nd_LA_law_205 : decode nc_LA_law 205 = .ok (.iconst 3, 1) := by decide +kernel
theorem nd_LA_law_206 : decode nc_LA_law 206 = .ok (.iadd, 1) := by decide +kernel
theorem nd_LA_law_207 : decode nc_LA_law 207 = .ok (.iaload, 1) := by decide +kernel
theorem nd_LA_law_208 : decode nc_LA_law 208 = .ok (.aload_n 0, 1) := by decide +kernel
theorem nd_LA_law_209 : decode nc_LA_law 209 = .ok (.iload_n 3, 1) := by decide +kernel
theorem nd_LA_law_210 : decode nc_LA_law 210 = .ok (.iconst 4, 1) := by decide +kernel
theorem nd_LA_law_211 : decode nc_LA_law 211 = .ok (.iadd, 1) := by decide +kernel
theorem nd_LA_law_212 : decode nc_LA_law 212 = .ok (.iaload, 1) := by decide +kernel
theorem nd_LA_law_213 : decode nc_LA_law 213 = .ok (.invokevirtual 31, 3) := by decide +kernel
theorem nd_LA_law_216 : decode nc_LA_law 216 = .ok (.aload_n 2, 1) := by decide +kernel
theorem nd_LA_law_217 : decode nc_LA_law 217 = .ok (.aload_n 0, 1) := by decide +kernel
theorem nd_LA_law_218 : decode nc_LA_law 218 = .ok (.iload_n 3, 1) := by decide +kernel
theorem nd_LA_law_219 : decode nc_LA_law 219 = .ok (.iconst 1, 1) := by decide +kernel
theorem nd_LA_law_220 : decode nc_LA_law 220 = .ok (.iadd, 1) := by decide +kernel
theorem nd_LA_law_221 : decode nc_LA_law 221 = .ok (.iaload, 1) := by decide +kernel
theorem nd_LA_law_222 : decode nc_LA_law 222 = .ok (.aload_n 0, 1) := by decide +kernel
theorem nd_LA_law_223 : decode nc_LA_law 223 = .ok (.iload_n 3, 1) := by decide +kernel
theorem nd_LA_law_224 : decode nc_LA_law 224 = .ok (.iconst 2, 1) := by decide +kernel
theorem nd_LA_law_225 : decode nc_LA_law 225 = .ok (.iadd, 1) := by decide +kernel
theorem nd_LA_law_226 : decode nc_LA_law 226 = .ok (.iaload, 1) := by decide +kernel
theorem nd_LA_law_227 : decode nc_LA_law 227 = .ok (.aload_n 0, 1) := by decide +kernel
theorem nd_LA_law_228 : decode nc_LA_law 228 = .ok (.iload_n 3, 1) := by decide +kernel
theorem nd_LA_law_229 : decode nc_LA_law 229 = .ok (.iconst 3, 1) := by decide +kernel
theorem nd_LA_law_230 : decode nc_LA_law 230 = .ok (.iadd, 1) := by decide +kernel
theorem nd_LA_law_231 : decode nc_LA_law 231 = .ok (.iaload, 1) := by decide +kernel
theorem nd_LA_law_232 : decode nc_LA_law 232 = .ok (.aload_n 0, 1) := by decide +kernel
theorem nd_LA_law_233 : decode nc_LA_law 233 = .ok (.iload_n 3, 1) := by decide +kernel
theorem nd_LA_law_234 : decode nc_LA_law 234 = .ok (.iconst 4, 1) := by decide +kernel
theorem nd_LA_law_235 : decode nc_LA_law 235 = .ok (.iadd, 1) := by decide +kernel
theorem nd_LA_law_236 : decode nc_LA_law 236 = .ok (.iaload, 1) := by decide +kernel
theorem nd_LA_law_237 : decode nc_LA_law 237 = .ok (.invokevirtual 35, 3) := by decide +kernel
theorem nd_LA_law_240 : decode nc_LA_law 240 = .ok (.if_icmp .eq 496, 3) := by decide +kernel
theorem nd_LA_law_243 : decode nc_LA_law 243 = .ok (.iconst 0, 1) := by decide +kernel
theorem nd_LA_law_244 : decode nc_LA_law 244 = .ok (.ireturn, 1) := by decide +kernel
theorem nd_LA_law_245 : decode nc_LA_law 245 = .ok (.aload_n 1, 1) := by decide +kernel
theorem nd_LA_law_246 : decode nc_LA_law 246 = .ok (.aload_n 0, 1) := by decide +kernel
theorem nd_LA_law_247 : decode nc_LA_law 247 = .ok (.iload_n 3, 1) := by decide +kernel
theorem nd_LA_law_248 : decode nc_LA_law 248 = .ok (.iconst 1, 1) := by decide +kernel
theorem nd_LA_law_249 : decode nc_LA_law 249 = .ok (.iadd, 1) := by decide +kernel
theorem nd_LA_law_250 : decode nc_LA_law 250 = .ok (.iaload, 1) := by decide +kernel
theorem nd_LA_law_251 : decode nc_LA_law 251 = .ok (.invokevirtual 36, 3) := by decide +kernel
theorem nd_LA_law_254 : decode nc_LA_law 254 = .ok (.aload_n 2, 1) := by decide +kernel
theorem nd_LA_law_255 : decode nc_LA_law 255 = .ok (.aload_n 0, 1) := by decide +kernel
theorem nd_LA_law_256 : decode nc_LA_law 256 = .ok (.iload_n 3, 1) := by decide +kernel
theorem nd_LA_law_257 : decode nc_LA_law 257 = .ok (.iconst 1, 1) := by decide +kernel
theorem nd_LA_law_258 : decode nc_LA_law 258 = .ok (.iadd, 1) := by decide +kernel
theorem nd_LA_law_259 : decode nc_LA_law 259 = .ok (.iaload, 1) := by decide +kernel
theorem nd_LA_law_260 : decode nc_LA_law 260 = .ok (.invokevirtual 39, 3) := by decide +kernel
theorem nd_LA_law_263 : decode nc_LA_law 263 = .ok (.if_icmp .eq 473, 3) := by decide +kernel
theorem nd_LA_law_266 : decode nc_LA_law 266 = .ok (.iconst 0, 1) := by decide +kernel
theorem nd_LA_law_267 : decode nc_LA_law 267 = .ok (.ireturn, 1) := by decide +kernel
theorem nd_LA_law_268 : decode nc_LA_law 268 = .ok (.aload_n 1, 1) := by decide +kernel
theorem nd_LA_law_269 : decode nc_LA_law 269 = .ok (.aload_n 0, 1) := by decide +kernel
theorem nd_LA_law_270 : decode nc_LA_law 270 = .ok (.iload_n 3, 1) := by decide +kernel
theorem nd_LA_law_271 : decode nc_LA_law 271 = .ok (.iconst 1, 1) := by decide +kernel
theorem nd_LA_law_272 : decode nc_LA_law 272 = .ok (.iadd, 1) := by decide +kernel
theorem nd_LA_law_273 : decode nc_LA_law 273 = .ok (.iaload, 1) := by decide +kernel
theorem nd_LA_law_274 : decode nc_LA_law 274 = .ok (.aload_n 0, 1) := by decide +kernel
theorem nd_LA_law_275 : decode nc_LA_law 275 = .ok (.iload_n 3, 1) := by decide +kernel
theorem nd_LA_law_276 : decode nc_LA_law 276 = .ok (.iconst 2, 1) := by decide +kernel
theorem nd_LA_law_277 : decode nc_LA_law 277 = .ok (.iadd, 1) := by decide +kernel
theorem nd_LA_law_278 : decode nc_LA_law 278 = .ok (.iaload, 1) := by decide +kernel
theorem nd_LA_law_279 : decode nc_LA_law 279 = .ok (.aload_n 0, 1) := by decide +kernel
theorem nd_LA_law_280 : decode nc_LA_law 280 = .ok (.iload_n 3, 1) := by decide +kernel
theorem nd_LA_law_281 : decode nc_LA_law 281 = .ok (.iconst 3, 1) := by decide +kernel
theorem nd_LA_law_282 : decode nc_LA_law 282 = .ok (.iadd, 1) := by decide +kernel
theorem nd_LA_law_283 : decode nc_LA_law 283 = .ok (.iaload, 1) := by decide +kernel
theorem nd_LA_law_284 : decode nc_LA_law 284 = .ok (.invokevirtual 40, 3) := by decide +kernel
theorem nd_LA_law_287 : decode nc_LA_law 287 = .ok (.aload_n 2, 1) := by decide +kernel
theorem nd_LA_law_288 : decode nc_LA_law 288 = .ok (.aload_n 0, 1) := by decide +kernel
theorem nd_LA_law_289 : decode nc_LA_law 289 = .ok (.iload_n 3, 1) := by decide +kernel
theorem nd_LA_law_290 : decode nc_LA_law 290 = .ok (.iconst 1, 1) := by decide +kernel
theorem nd_LA_law_291 : decode nc_LA_law 291 = .ok (.iadd, 1) := by decide +kernel
theorem nd_LA_law_292 : decode nc_LA_law 292 = .ok (.iaload, 1) := by decide +kernel
theorem nd_LA_law_293 : decode nc_LA_law 293 = .ok (.aload_n 0, 1) := by decide +kernel
theorem nd_LA_law_294 : decode nc_LA_law 294 = .ok (.iload_n 3, 1) := by decide +kernel
theorem nd_LA_law_295 : decode nc_LA_law 295 = .ok (.iconst 2, 1) := by decide +kernel
theorem nd_LA_law_296 : decode nc_LA_law 296 = .ok (.iadd, 1) := by decide +kernel
theorem nd_LA_law_297 : decode nc_LA_law 297 = .ok (.iaload, 1) := by decide +kernel
theorem nd_LA_law_298 : decode nc_LA_law 298 = .ok (.aload_n 0, 1) := by decide +kernel
theorem nd_LA_law_299 : decode nc_LA_law 299 = .ok (.iload_n 3, 1) := by decide +kernel
theorem nd_LA_law_300 : decode nc_LA_law 300 = .ok (.iconst 3, 1) := by decide +kernel
theorem nd_LA_law_301 : decode nc_LA_law 301 = .ok (.iadd, 1) := by decide +kernel
theorem nd_LA_law_302 : decode nc_LA_law 302 = .ok (.iaload, 1) := by decide +kernel
theorem nd_LA_law_303 : decode nc_LA_law 303 = .ok (.invokevirtual 44, 3) := by decide +kernel
theorem nd_LA_law_306 : decode nc_LA_law 306 = .ok (.if_icmp .eq 430, 3) := by decide +kernel
theorem nd_LA_law_309 : decode nc_LA_law 309 = .ok (.iconst 0, 1) := by decide +kernel
theorem nd_LA_law_310 : decode nc_LA_law 310 = .ok (.ireturn, 1) := by decide +kernel
theorem nd_LA_law_311 : decode nc_LA_law 311 = .ok (.aload_n 1, 1) := by decide +kernel
theorem nd_LA_law_312 : decode nc_LA_law 312 = .ok (.aload_n 0, 1) := by decide +kernel
theorem nd_LA_law_313 : decode nc_LA_law 313 = .ok (.iload_n 3, 1) := by decide +kernel
theorem nd_LA_law_314 : decode nc_LA_law 314 = .ok (.iconst 1, 1) := by decide +kernel
theorem nd_LA_law_315 : decode nc_LA_law 315 = .ok (.iadd, 1) := by decide +kernel
theorem nd_LA_law_316 : decode nc_LA_law 316 = .ok (.iaload, 1) := by decide +kernel
theorem nd_LA_law_317 : decode nc_LA_law 317 = .ok (.aload_n 0, 1) := by decide +kernel
theorem nd_LA_law_318 : decode nc_LA_law 318 = .ok (.iload_n 3, 1) := by decide +kernel
theorem nd_LA_law_319 : decode nc_LA_law 319 = .ok (.iconst 2, 1) := by decide +kernel
theorem nd_LA_law_320 : decode nc_LA_law 320 = .ok (.iadd, 1) := by decide +kernel
theorem nd_LA_law_321 : decode nc_LA_law 321 = .ok (.iaload, 1) := by decide +kernel
theorem nd_LA_law_322 : decode nc_LA_law 322 = .ok (.aload_n 0, 1) := by decide +kernel
theorem nd_LA_law_323 : decode nc_LA_law 323 = .ok (.iload_n 3, 1) := by decide +kernel
theorem nd_LA_law_324 : decode nc_LA_law 324 = .ok (.iconst 3, 1) := by decide +kernel
theorem nd_LA_law_325 : decode nc_LA_law 325 = .ok (.iadd, 1) := by decide +kernel
theorem nd_LA_law_326 : decode nc_LA_law 326 = .ok (.iaload, 1) := by decide +kernel
theorem nd_LA_law_327 : decode nc_LA_law 327 = .ok (.invokevirtual 45, 3) := by decide +kernel
theorem nd_LA_law_330 : decode nc_LA_law 330 = .ok (.aload_n 2, 1) := by decide +kernel
theorem nd_LA_law_331 : decode nc_LA_law 331 = .ok (.aload_n 0, 1) := by decide +kernel
theorem nd_LA_law_332 : decode nc_LA_law 332 = .ok (.iload_n 3, 1) := by decide +kernel
theorem nd_LA_law_333 : decode nc_LA_law 333 = .ok (.iconst 1, 1) := by decide +kernel
theorem nd_LA_law_334 : decode nc_LA_law 334 = .ok (.iadd, 1) := by decide +kernel
theorem nd_LA_law_335 : decode nc_LA_law 335 = .ok (.iaload, 1) := by decide +kernel
theorem nd_LA_law_336 : decode nc_LA_law 336 = .ok (.aload_n 0, 1) := by decide +kernel
theorem nd_LA_law_337 : decode nc_LA_law 337 = .ok (.iload_n 3, 1) := by decide +kernel
theorem nd_LA_law_338 : decode nc_LA_law 338 = .ok (.iconst 2, 1) := by decide +kernel
theorem nd_LA_law_339 : decode nc_LA_law 339 = .ok (.iadd, 1) := by decide +kernel
theorem nd_LA_law_340 : decode nc_LA_law 340 = .ok (.iaload, 1) := by decide +kernel
theorem nd_LA_law_341 : decode nc_LA_law 341 = .ok (.aload_n 0, 1) := by decide +kernel
theorem nd_LA_law_342 : decode nc_LA_law 342 = .ok (.iload_n 3, 1) := by decide +kernel
theorem nd_LA_law_343 : decode nc_LA_law 343 = .ok (.iconst 3, 1) := by decide +kernel
theorem nd_LA_law_344 : decode nc_LA_law 344 = .ok (.iadd, 1) := by decide +kernel
theorem nd_LA_law_345 : decode nc_LA_law 345 = .ok (.iaload, 1) := by decide +kernel
theorem nd_LA_law_346 : decode nc_LA_law 346 = .ok (.invokevirtual 48, 3) := by decide +kernel
theorem nd_LA_law_349 : decode nc_LA_law 349 = .ok (.if_icmp .eq 387, 3) := by decide +kernel
theorem nd_LA_law_352 : decode nc_LA_law 352 = .ok (.iconst 0, 1) := by decide +kernel
theorem nd_LA_law_353 : decode nc_LA_law 353 = .ok (.ireturn, 1) := by decide +kernel
theorem nd_LA_law_354 : decode nc_LA_law 354 = .ok (.aload_n 1, 1) := by decide +kernel
theorem nd_LA_law_355 : decode nc_LA_law 355 = .ok (.aload_n 0, 1) := by decide +kernel
theorem nd_LA_law_356 : decode nc_LA_law 356 = .ok (.iload_n 3, 1) := by decide +kernel
theorem nd_LA_law_357 : decode nc_LA_law 357 = .ok (.iconst 1, 1) := by decide +kernel
theorem nd_LA_law_358 : decode nc_LA_law 358 = .ok (.iadd, 1) := by decide +kernel
theorem nd_LA_law_359 : decode nc_LA_law 359 = .ok (.iaload, 1) := by decide +kernel
theorem nd_LA_law_360 : decode nc_LA_law 360 = .ok (.aload_n 0, 1) := by decide +kernel
theorem nd_LA_law_361 : decode nc_LA_law 361 = .ok (.iload_n 3, 1) := by decide +kernel
theorem nd_LA_law_362 : decode nc_LA_law 362 = .ok (.iconst 2, 1) := by decide +kernel
theorem nd_LA_law_363 : decode nc_LA_law 363 = .ok (.iadd, 1) := by decide +kernel
theorem nd_LA_law_364 : decode nc_LA_law 364 = .ok (.iaload, 1) := by decide +kernel
theorem nd_LA_law_365 : decode nc_LA_law 365 = .ok (.invokevirtual 49, 3) := by decide +kernel
theorem nd_LA_law_368 : decode nc_LA_law 368 = .ok (.aload_n 2, 1) := by decide +kernel
theorem nd_LA_law_369 : decode nc_LA_law 369 = .ok (.aload_n 0, 1) := by decide +kernel
theorem nd_LA_law_370 : decode nc_LA_law 370 = .ok (.iload_n 3, 1) := by decide +kernel
theorem nd_LA_law_371 : decode nc_LA_law 371 = .ok (.iconst 1, 1) := by decide +kernel
theorem nd_LA_law_372 : decode nc_LA_law 372 = .ok (.iadd, 1) := by decide +kernel
theorem nd_LA_law_373 : decode nc_LA_law 373 = .ok (.iaload, 1) := by decide +kernel
theorem nd_LA_law_374 : decode nc_LA_law 374 = .ok (.aload_n 0, 1) := by decide +kernel
theorem nd_LA_law_375 : decode nc_LA_law 375 = .ok (.iload_n 3, 1) := by decide +kernel
theorem nd_LA_law_376 : decode nc_LA_law 376 = .ok (.iconst 2, 1) := by decide +kernel
theorem nd_LA_law_377 : decode nc_LA_law 377 = .ok (.iadd, 1) := by decide +kernel
theorem nd_LA_law_378 : decode nc_LA_law 378 = .ok (.iaload, 1) := by decide +kernel
theorem nd_LA_law_379 : decode nc_LA_law 379 = .ok (.invokevirtual 52, 3) := by decide +kernel
theorem nd_LA_law_382 : decode nc_LA_law 382 = .ok (.if_icmp .eq 354, 3) := by decide +kernel
theorem nd_LA_law_385 : decode nc_LA_law 385 = .ok (.iconst 0, 1) := by decide +kernel
theorem nd_LA_law_386 : decode nc_LA_law 386 = .ok (.ireturn, 1) := by decide +kernel
theorem nd_LA_law_387 : decode nc_LA_law 387 = .ok (.aload_n 1, 1) := by decide +kernel
theorem nd_LA_law_388 : decode nc_LA_law 388 = .ok (.aload_n 0, 1) := by decide +kernel
theorem nd_LA_law_389 : decode nc_LA_law 389 = .ok (.iload_n 3, 1) := by decide +kernel
theorem nd_LA_law_390 : decode nc_LA_law 390 = .ok (.iconst 1, 1) := by decide +kernel
theorem nd_LA_law_391 : decode nc_LA_law 391 = .ok (.iadd, 1) := by decide +kernel
theorem nd_LA_law_392 : decode nc_LA_law 392 = .ok (.iaload, 1) := by decide +kernel
theorem nd_LA_law_393 : decode nc_LA_law 393 = .ok (.aload_n 0, 1) := by decide +kernel
theorem nd_LA_law_394 : decode nc_LA_law 394 = .ok (.iload_n 3, 1) := by decide +kernel
theorem nd_LA_law_395 : decode nc_LA_law 395 = .ok (.iconst 2, 1) := by decide +kernel
theorem nd_LA_law_396 : decode nc_LA_law 396 = .ok (.iadd, 1) := by decide +kernel
theorem nd_LA_law_397 : decode nc_LA_law 397 = .ok (.iaload, 1) := by decide +kernel
theorem nd_LA_law_398 : decode nc_LA_law 398 = .ok (.aload_n 0, 1) := by decide +kernel
theorem nd_LA_law_399 : decode nc_LA_law 399 = .ok (.iload_n 3, 1) := by decide +kernel
theorem nd_LA_law_400 : decode nc_LA_law 400 = .ok (.iconst 3, 1) := by decide +kernel
theorem nd_LA_law_401 : decode nc_LA_law 401 = .ok (.iadd, 1) := by decide +kernel
theorem nd_LA_law_402 : decode nc_LA_law 402 = .ok (.iaload, 1) := by decide +kernel
theorem nd_LA_law_403 : decode nc_LA_law 403 = .ok (.aload_n 0, 1) := by decide +kernel
theorem nd_LA_law_404 : decode nc_LA_law 404 = .ok (.iload_n 3, 1) := by decide +kernel
theorem nd_LA_law_405 : decode nc_LA_law 405 = .ok (.iconst 4, 1) := by decide +kernel
theorem nd_LA_law_406 : decode nc_LA_law 406 = .ok (.iadd, 1) := by decide +kernel
theorem nd_LA_law_407 : decode nc_LA_law 407 = .ok (.iaload, 1) := by decide +kernel
theorem nd_LA_law_408 : decode nc_LA_law 408 = .ok (.invokevirtual 53, 3) := by decide +kernel
theorem nd_LA_law_411 : decode nc_LA_law 411 = .ok (.aload_n 2, 1) := by decide +kernel
theorem nd_LA_law_412 : decode nc_LA_law 412 = .ok (.aload_n 0, 1) := by decide +kernel
theorem nd_LA_law_413 : decode nc_LA_law 413 = .ok (.iload_n 3, 1) := by decide +kernel
theorem nd_LA_law_414 : decode nc_LA_law 414 = .ok (.iconst 1, 1) := by decide +kernel
theorem nd_LA_law_415 : decode nc_LA_law 415 = .ok (.iadd, 1) := by decide +kernel
theorem nd_LA_law_416 : decode nc_LA_law 416 = .ok (.iaload, 1) := by decide +kernel
theorem nd_LA_law_417 : decode nc_LA_law 417 = .ok (.aload_n 0, 1) := by decide +kernel
theorem nd_LA_law_418 : decode nc_LA_law 418 = .ok (.iload_n 3, 1) := by decide +kernel
theorem nd_LA_law_419 : decode nc_LA_law 419 = .ok (.iconst 2, 1) := by decide +kernel
theorem nd_LA_law_420 : decode nc_LA_law 420 = .ok (.iadd, 1) := by decide +kernel
theorem nd_LA_law_421 : decode nc_LA_law 421 = .ok (.iaload, 1) := by decide +kernel
theorem nd_LA_law_422 : decode nc_LA_law 422 = .ok (.aload_n 0, 1) := by decide +kernel
theorem nd_LA_law_423 : decode nc_LA_law 423 = .ok (.iload_n 3, 1) := by decide +kernel
theorem nd_LA_law_424 : decode nc_LA_law 424 = .ok (.iconst 3, 1) := by decide +kernel
theorem nd_LA_law_425 : decode nc_LA_law 425 = .ok (.iadd, 1) := by decide +kernel
theorem nd_LA_law_426 : decode nc_LA_law 426 = .ok (.iaload, 1) := by decide +kernel
theorem nd_LA_law_427 : decode nc_LA_law 427 = .ok (.aload_n 0, 1) := by decide +kernel
theorem nd_LA_law_428 : decode nc_LA_law 428 = .ok (.iload_n 3, 1) := by decide +kernel
theorem nd_LA_law_429 : decode nc_LA_law 429 = .ok (.iconst 4, 1) := by decide +kernel
theorem nd_LA_law_430 : decode nc_LA_law 430 = .ok (.iadd, 1) := by decide +kernel
theorem nd_LA_law_431 : decode nc_LA_law 431 = .ok (.iaload, 1) := by decide +kernel
theorem nd_LA_law_432 : decode nc_LA_law 432 = .ok (.invokevirtual 56, 3) := by decide +kernel
theorem nd_LA_law_435 : decode nc_LA_law 435 = .ok (.if_icmp .eq 301, 3) := by decide +kernel
theorem nd_LA_law_438 : decode nc_LA_law 438 = .ok (.iconst 0, 1) := by decide +kernel
theorem nd_LA_law_439 : decode nc_LA_law 439 = .ok (.ireturn, 1) := by decide +kernel
theorem nd_LA_law_440 : decode nc_LA_law 440 = .ok (.aload_n 1, 1) := by decide +kernel
theorem nd_LA_law_441 : decode nc_LA_law 441 = .ok (.aload_n 0, 1) := by decide +kernel
theorem nd_LA_law_442 : decode nc_LA_law 442 = .ok (.iload_n 3, 1) := by decide +kernel
theorem nd_LA_law_443 : decode nc_LA_law 443 = .ok (.iconst 1, 1) := by decide +kernel
theorem nd_LA_law_444 : decode nc_LA_law 444 = .ok (.iadd, 1) := by decide +kernel
theorem nd_LA_law_445 : decode nc_LA_law 445 = .ok (.iaload, 1) := by decide +kernel
theorem nd_LA_law_446 : decode nc_LA_law 446 = .ok (.aload_n 0, 1) := by decide +kernel
theorem nd_LA_law_447 : decode nc_LA_law 447 = .ok (.iload_n 3, 1) := by decide +kernel
theorem nd_LA_law_448 : decode nc_LA_law 448 = .ok (.iconst 2, 1) := by decide +kernel
theorem nd_LA_law_449 : decode nc_LA_law 449 = .ok (.iadd, 1) := by decide +kernel
theorem nd_LA_law_450 : decode nc_LA_law 450 = .ok (.iaload, 1) := by decide +kernel
theorem nd_LA_law_451 : decode nc_LA_law 451 = .ok (.invokevirtual 57, 3) := by decide +kernel
theorem nd_LA_law_454 : decode nc_LA_law 454 = .ok (.aload_n 2, 1) := by decide +kernel
theorem nd_LA_law_455 : decode nc_LA_law 455 = .ok (.aload_n 0, 1) := by decide +kernel
theorem nd_LA_law_456 : decode nc_LA_law 456 = .ok (.iload_n 3, 1) := by decide +kernel
theorem nd_LA_law_457 : decode nc_LA_law 457 = .ok (.iconst 1, 1) := by decide +kernel
theorem nd_LA_law_458 : decode nc_LA_law 458 = .ok (.iadd, 1) := by decide +kernel
theorem nd_LA_law_459 : decode nc_LA_law 459 = .ok (.iaload, 1) := by decide +kernel
theorem nd_LA_law_460 : decode nc_LA_law 460 = .ok (.aload_n 0, 1) := by decide +kernel
theorem nd_LA_law_461 : decode nc_LA_law 461 = .ok (.iload_n 3, 1) := by decide +kernel
theorem nd_LA_law_462 : decode nc_LA_law 462 = .ok (.iconst 2, 1) := by decide +kernel
theorem nd_LA_law_463 : decode nc_LA_law 463 = .ok (.iadd, 1) := by decide +kernel
theorem nd_LA_law_464 : decode nc_LA_law 464 = .ok (.iaload, 1) := by decide +kernel
theorem nd_LA_law_465 : decode nc_LA_law 465 = .ok (.invokevirtual 60, 3) := by decide +kernel
theorem nd_LA_law_468 : decode nc_LA_law 468 = .ok (.if_icmp .eq 268, 3) := by decide +kernel
theorem nd_LA_law_471 : decode nc_LA_law 471 = .ok (.iconst 0, 1) := by decide +kernel
theorem nd_LA_law_472 : decode nc_LA_law 472 = .ok (.ireturn, 1) := by decide +kernel
theorem nd_LA_law_473 : decode nc_LA_law 473 = .ok (.aload_n 1, 1) := by decide +kernel
theorem nd_LA_law_474 : decode nc_LA_law 474 = .ok (.aload_n 0, 1) := by decide +kernel
theorem nd_LA_law_475 : decode nc_LA_law 475 = .ok (.iload_n 3, 1) := by decide +kernel
theorem nd_LA_law_476 : decode nc_LA_law 476 = .ok (.iconst 1, 1) := by decide +kernel
theorem nd_LA_law_477 : decode nc_LA_law 477 = .ok (.iadd, 1) := by decide +kernel
theorem nd_LA_law_478 : decode nc_LA_law 478 = .ok (.iaload, 1) := by decide +kernel
theorem nd_LA_law_479 : decode nc_LA_law 479 = .ok (.aload_n 0, 1) := by decide +kernel
theorem nd_LA_law_480 : decode nc_LA_law 480 = .ok (.iload_n 3, 1) := by decide +kernel
theorem nd_LA_law_481 : decode nc_LA_law 481 = .ok (.iconst 2, 1) := by decide +kernel
theorem nd_LA_law_482 : decode nc_LA_law 482 = .ok (.iadd, 1) := by decide +kernel
theorem nd_LA_law_483 : decode nc_LA_law 483 = .ok (.iaload, 1) := by decide +kernel
theorem nd_LA_law_484 : decode nc_LA_law 484 = .ok (.invokevirtual 61, 3) := by decide +kernel
theorem nd_LA_law_487 : decode nc_LA_law 487 = .ok (.aload_n 2, 1) := by decide +kernel
theorem nd_LA_law_488 : decode nc_LA_law 488 = .ok (.aload_n 0, 1) := by decide +kernel
theorem nd_LA_law_489 : decode nc_LA_law 489 = .ok (.iload_n 3, 1) := by decide +kernel
theorem nd_LA_law_490 : decode nc_LA_law 490 = .ok (.iconst 1, 1) := by decide +kernel
theorem nd_LA_law_491 : decode nc_LA_law 491 = .ok (.iadd, 1) := by decide +kernel
theorem nd_LA_law_492 : decode nc_LA_law 492 = .ok (.iaload, 1) := by decide +kernel
theorem nd_LA_law_493 : decode nc_LA_law 493 = .ok (.aload_n 0, 1) := by decide +kernel
theorem nd_LA_law_494 : decode nc_LA_law 494 = .ok (.iload_n 3, 1) := by decide +kernel
theorem nd_LA_law_495 : decode nc_LA_law 495 = .ok (.iconst 2, 1) := by decide +kernel
theorem nd_LA_law_496 : decode nc_LA_law 496 = .ok (.iadd, 1) := by decide +kernel
theorem nd_LA_law_497 : decode nc_LA_law 497 = .ok (.iaload, 1) := by decide +kernel
theorem nd_LA_law_498 : decode nc_LA_law 498 = .ok (.invokevirtual 65, 3) := by decide +kernel
theorem nd_LA_law_501 : decode nc_LA_law 501 = .ok (.if_icmp .eq 235, 3) := by decide +kernel
theorem nd_LA_law_504 : decode nc_LA_law 504 = .ok (.iconst 0, 1) := by decide +kernel
theorem nd_LA_law_505 : decode nc_LA_law 505 = .ok (.ireturn, 1) := by decide +kernel
theorem nd_LA_law_506 : decode nc_LA_law 506 = .ok (.aload_n 1, 1) := by decide +kernel
theorem nd_LA_law_507 : decode nc_LA_law 507 = .ok (.aload_n 0, 1) := by decide +kernel
theorem nd_LA_law_508 : decode nc_LA_law 508 = .ok (.iload_n 3, 1) := by decide +kernel
theorem nd_LA_law_509 : decode nc_LA_law 509 = .ok (.iconst 1, 1) := by decide +kernel
theorem nd_LA_law_510 : decode nc_LA_law 510 = .ok (.iadd, 1) := by decide +kernel
theorem nd_LA_law_511 : decode nc_LA_law 511 = .ok (.iaload, 1) := by decide +kernel
theorem nd_LA_law_512 : decode nc_LA_law 512 = .ok (.aload_n 0, 1) := by decide +kernel
theorem nd_LA_law_513 : decode nc_LA_law 513 = .ok (.iload_n 3, 1) := by decide +kernel
theorem nd_LA_law_514 : decode nc_LA_law 514 = .ok (.iconst 2, 1) := by decide +kernel
theorem nd_LA_law_515 : decode nc_LA_law 515 = .ok (.iadd, 1) := by decide +kernel
theorem nd_LA_law_516 : decode nc_LA_law 516 = .ok (.iaload, 1) := by decide +kernel
theorem nd_LA_law_517 : decode nc_LA_law 517 = .ok (.invokevirtual 66, 3) := by decide +kernel
theorem nd_LA_law_520 : decode nc_LA_law 520 = .ok (.aload_n 2, 1) := by decide +kernel
theorem nd_LA_law_521 : decode nc_LA_law 521 = .ok (.aload_n 0, 1) := by decide +kernel
theorem nd_LA_law_522 : decode nc_LA_law 522 = .ok (.iload_n 3, 1) := by decide +kernel
theorem nd_LA_law_523 : decode nc_LA_law 523 = .ok (.iconst 1, 1) := by decide +kernel
theorem nd_LA_law_524 : decode nc_LA_law 524 = .ok (.iadd, 1) := by decide +kernel
theorem nd_LA_law_525 : decode nc_LA_law 525 = .ok (.iaload, 1) := by decide +kernel
theorem nd_LA_law_526 : decode nc_LA_law 526 = .ok (.aload_n 0, 1) := by decide +kernel
theorem nd_LA_law_527 : decode nc_LA_law 527 = .ok (.iload_n 3, 1) := by decide +kernel
theorem nd_LA_law_528 : decode nc_LA_law 528 = .ok (.iconst 2, 1) := by decide +kernel
theorem nd_LA_law_529 : decode nc_LA_law 529 = .ok (.iadd, 1) := by decide +kernel
theorem nd_LA_law_530 : decode nc_LA_law 530 = .ok (.iaload, 1) := by decide +kernel
theorem nd_LA_law_531 : decode nc_LA_law 531 = .ok (.invokevirtual 69, 3) := by decide +kernel
theorem nd_LA_law_534 : decode nc_LA_law 534 = .ok (.if_icmp .eq 202, 3) := by decide +kernel
theorem nd_LA_law_537 : decode nc_LA_law 537 = .ok (.iconst 0, 1) := by decide +kernel
theorem nd_LA_law_538 : decode nc_LA_law 538 = .ok (.ireturn, 1) := by decide +kernel
theorem nd_LA_law_539 : decode nc_LA_law 539 = .ok (.aload_n 1, 1) := by decide +kernel
theorem nd_LA_law_540 : decode nc_LA_law 540 = .ok (.aload_n 0, 1) := by decide +kernel
theorem nd_LA_law_541 : decode nc_LA_law 541 = .ok (.iload_n 3, 1) := by decide +kernel
theorem nd_LA_law_542 : decode nc_LA_law 542 = .ok (.iconst 1, 1) := by decide +kernel
theorem nd_LA_law_543 : decode nc_LA_law 543 = .ok (.iadd, 1) := by decide +kernel
theorem nd_LA_law_544 : decode nc_LA_law 544 = .ok (.iaload, 1) := by decide +kernel
theorem nd_LA_law_545 : decode nc_LA_law 545 = .ok (.aload_n 0, 1) := by decide +kernel
theorem nd_LA_law_546 : decode nc_LA_law 546 = .ok (.iload_n 3, 1) := by decide +kernel
theorem nd_LA_law_547 : decode nc_LA_law 547 = .ok (.iconst 2, 1) := by decide +kernel
theorem nd_LA_law_548 : decode nc_LA_law 548 = .ok (.iadd, 1) := by decide +kernel
theorem nd_LA_law_549 : decode nc_LA_law 549 = .ok (.iaload, 1) := by decide +kernel
theorem nd_LA_law_550 : decode nc_LA_law 550 = .ok (.invokevirtual 70, 3) := by decide +kernel
theorem nd_LA_law_553 : decode nc_LA_law 553 = .ok (.aload_n 2, 1) := by decide +kernel
theorem nd_LA_law_554 : decode nc_LA_law 554 = .ok (.aload_n 0, 1) := by decide +kernel
theorem nd_LA_law_555 : decode nc_LA_law 555 = .ok (.iload_n 3, 1) := by decide +kernel
theorem nd_LA_law_556 : decode nc_LA_law 556 = .ok (.iconst 1, 1) := by decide +kernel
theorem nd_LA_law_557 : decode nc_LA_law 557 = .ok (.iadd, 1) := by decide +kernel
theorem nd_LA_law_558 : decode nc_LA_law 558 = .ok (.iaload, 1) := by decide +kernel
theorem nd_LA_law_559 : decode nc_LA_law 559 = .ok (.aload_n 0, 1) := by decide +kernel
theorem nd_LA_law_560 : decode nc_LA_law 560 = .ok (.iload_n 3, 1) := by decide +kernel
theorem nd_LA_law_561 : decode nc_LA_law 561 = .ok (.iconst 2, 1) := by decide +kernel
theorem nd_LA_law_562 : decode nc_LA_law 562 = .ok (.iadd, 1) := by decide +kernel
theorem nd_LA_law_563 : decode nc_LA_law 563 = .ok (.iaload, 1) := by decide +kernel
theorem nd_LA_law_564 : decode nc_LA_law 564 = .ok (.invokevirtual 73, 3) := by decide +kernel
theorem nd_LA_law_567 : decode nc_LA_law 567 = .ok (.if_icmp .eq 169, 3) := by decide +kernel
theorem nd_LA_law_570 : decode nc_LA_law 570 = .ok (.iconst 0, 1) := by decide +kernel
theorem nd_LA_law_571 : decode nc_LA_law 571 = .ok (.ireturn, 1) := by decide +kernel
theorem nd_LA_law_572 : decode nc_LA_law 572 = .ok (.aload_n 1, 1) := by decide +kernel
theorem nd_LA_law_573 : decode nc_LA_law 573 = .ok (.aload_n 0, 1) := by decide +kernel
theorem nd_LA_law_574 : decode nc_LA_law 574 = .ok (.iload_n 3, 1) := by decide +kernel
theorem nd_LA_law_575 : decode nc_LA_law 575 = .ok (.iconst 1, 1) := by decide +kernel
theorem nd_LA_law_576 : decode nc_LA_law 576 = .ok (.iadd, 1) := by decide +kernel
theorem nd_LA_law_577 : decode nc_LA_law 577 = .ok (.iaload, 1) := by decide +kernel
theorem nd_LA_law_578 : decode nc_LA_law 578 = .ok (.aload_n 0, 1) := by decide +kernel
theorem nd_LA_law_579 : decode nc_LA_law 579 = .ok (.iload_n 3, 1) := by decide +kernel
theorem nd_LA_law_580 : decode nc_LA_law 580 = .ok (.iconst 2, 1) := by decide +kernel
theorem nd_LA_law_581 : decode nc_LA_law 581 = .ok (.iadd, 1) := by decide +kernel
theorem nd_LA_law_582 : decode nc_LA_law 582 = .ok (.iaload, 1) := by decide +kernel
theorem nd_LA_law_583 : decode nc_LA_law 583 = .ok (.aload_n 0, 1) := by decide +kernel
theorem nd_LA_law_584 : decode nc_LA_law 584 = .ok (.iload_n 3, 1) := by decide +kernel
theorem nd_LA_law_585 : decode nc_LA_law 585 = .ok (.iconst 3, 1) := by decide +kernel
theorem nd_LA_law_586 : decode nc_LA_law 586 = .ok (.iadd, 1) := by decide +kernel
theorem nd_LA_law_587 : decode nc_LA_law 587 = .ok (.iaload, 1) := by decide +kernel
theorem nd_LA_law_588 : decode nc_LA_law 588 = .ok (.invokevirtual 74, 3) := by decide +kernel
theorem nd_LA_law_591 : decode nc_LA_law 591 = .ok (.aload_n 2, 1) := by decide +kernel
theorem nd_LA_law_592 : decode nc_LA_law 592 = .ok (.aload_n 0, 1) := by decide +kernel
theorem nd_LA_law_593 : decode nc_LA_law 593 = .ok (.iload_n 3, 1) := by decide +kernel
theorem nd_LA_law_594 : decode nc_LA_law 594 = .ok (.iconst 1, 1) := by decide +kernel
theorem nd_LA_law_595 : decode nc_LA_law 595 = .ok (.iadd, 1) := by decide +kernel
theorem nd_LA_law_596 : decode nc_LA_law 596 = .ok (.iaload, 1) := by decide +kernel
theorem nd_LA_law_597 : decode nc_LA_law 597 = .ok (.aload_n 0, 1) := by decide +kernel
theorem nd_LA_law_598 : decode nc_LA_law 598 = .ok (.iload_n 3, 1) := by decide +kernel
theorem nd_LA_law_599 : decode nc_LA_law 599 = .ok (.iconst 2, 1) := by decide +kernel
theorem nd_LA_law_600 : decode nc_LA_law 600 = .ok (.iadd, 1) := by decide +kernel
theorem nd_LA_law_601 : decode nc_LA_law 601 = .ok (.iaload, 1) := by decide +kernel
theorem nd_LA_law_602 : decode nc_LA_law 602 = .ok (.aload_n 0, 1) := by decide +kernel
theorem nd_LA_law_603 : decode nc_LA_law 603 = .ok (.iload_n 3, 1) := by decide +kernel
theorem nd_LA_law_604 : decode nc_LA_law 604 = .ok (.iconst 3, 1) := by decide +kernel
theorem nd_LA_law_605 : decode nc_LA_law 605 = .ok (.iadd, 1) := by decide +kernel
theorem nd_LA_law_606 : decode nc_LA_law 606 = .ok (.iaload, 1) := by decide +kernel
theorem nd_LA_law_607 : decode nc_LA_law 607 = .ok (.invokevirtual 78, 3) := by decide +kernel
theorem nd_LA_law_610 : decode nc_LA_law 610 = .ok (.if_icmp .eq 126, 3) := by decide +kernel
theorem nd_LA_law_613 : decode nc_LA_law 613 = .ok (.iconst 0, 1) := by decide +kernel
theorem nd_LA_law_614 : decode nc_LA_law 614 = .ok (.ireturn, 1) := by decide +kernel
theorem nd_LA_law_615 : decode nc_LA_law 615 = .ok (.aload_n 1, 1) := by decide +kernel
theorem nd_LA_law_616 : decode nc_LA_law 616 = .ok (.aload_n 0, 1) := by decide +kernel
theorem nd_LA_law_617 : decode nc_LA_law 617 = .ok (.iload_n 3, 1) := by decide +kernel
theorem nd_LA_law_618 : decode nc_LA_law 618 = .ok (.iconst 1, 1) := by decide +kernel
theorem nd_LA_law_619 : decode nc_LA_law 619 = .ok (.iadd, 1) := by decide +kernel
theorem nd_LA_law_620 : decode nc_LA_law 620 = .ok (.iaload, 1) := by decide +kernel
theorem nd_LA_law_621 : decode nc_LA_law 621 = .ok (.invokevirtual 79, 3) := by decide +kernel
theorem nd_LA_law_624 : decode nc_LA_law 624 = .ok (.aload_n 2, 1) := by decide +kernel
theorem nd_LA_law_625 : decode nc_LA_law 625 = .ok (.aload_n 0, 1) := by decide +kernel
theorem nd_LA_law_626 : decode nc_LA_law 626 = .ok (.iload_n 3, 1) := by decide +kernel
theorem nd_LA_law_627 : decode nc_LA_law 627 = .ok (.iconst 1, 1) := by decide +kernel
theorem nd_LA_law_628 : decode nc_LA_law 628 = .ok (.iadd, 1) := by decide +kernel
theorem nd_LA_law_629 : decode nc_LA_law 629 = .ok (.iaload, 1) := by decide +kernel
theorem nd_LA_law_630 : decode nc_LA_law 630 = .ok (.invokevirtual 83, 3) := by decide +kernel
theorem nd_LA_law_633 : decode nc_LA_law 633 = .ok (.if_icmp .eq 103, 3) := by decide +kernel
theorem nd_LA_law_636 : decode nc_LA_law 636 = .ok (.iconst 0, 1) := by decide +kernel
theorem nd_LA_law_637 : decode nc_LA_law 637 = .ok (.ireturn, 1) := by decide +kernel
theorem nd_LA_law_638 : decode nc_LA_law 638 = .ok (.aload_n 1, 1) := by decide +kernel
theorem nd_LA_law_639 : decode nc_LA_law 639 = .ok (.aload_n 0, 1) := by decide +kernel
theorem nd_LA_law_640 : decode nc_LA_law 640 = .ok (.iload_n 3, 1) := by decide +kernel
theorem nd_LA_law_641 : decode nc_LA_law 641 = .ok (.iconst 1, 1) := by decide +kernel
theorem nd_LA_law_642 : decode nc_LA_law 642 = .ok (.iadd, 1) := by decide +kernel
theorem nd_LA_law_643 : decode nc_LA_law 643 = .ok (.iaload, 1) := by decide +kernel
theorem nd_LA_law_644 : decode nc_LA_law 644 = .ok (.invokevirtual 84, 3) := by decide +kernel
theorem nd_LA_law_647 : decode nc_LA_law 647 = .ok (.aload_n 2, 1) := by decide +kernel
theorem nd_LA_law_648 : decode nc_LA_law 648 = .ok (.aload_n 0, 1) := by decide +kernel
theorem nd_LA_law_649 : decode nc_LA_law 649 = .ok (.iload_n 3, 1) := by decide +kernel
theorem nd_LA_law_650 : decode nc_LA_law 650 = .ok (.iconst 1, 1) := by decide +kernel
theorem nd_LA_law_651 : decode nc_LA_law 651 = .ok (.iadd, 1) := by decide +kernel
theorem nd_LA_law_652 : decode nc_LA_law 652 = .ok (.iaload, 1) := by decide +kernel
theorem nd_LA_law_653 : decode nc_LA_law 653 = .ok (.invokevirtual 87, 3) := by decide +kernel
theorem nd_LA_law_656 : decode nc_LA_law 656 = .ok (.if_icmp .eq 80, 3) := by decide +kernel
theorem nd_LA_law_659 : decode nc_LA_law 659 = .ok (.iconst 0, 1) := by decide +kernel
theorem nd_LA_law_660 : decode nc_LA_law 660 = .ok (.ireturn, 1) := by decide +kernel
theorem nd_LA_law_661 : decode nc_LA_law 661 = .ok (.aload_n 1, 1) := by decide +kernel
theorem nd_LA_law_662 : decode nc_LA_law 662 = .ok (.aload_n 0, 1) := by decide +kernel
theorem nd_LA_law_663 : decode nc_LA_law 663 = .ok (.iload_n 3, 1) := by decide +kernel
theorem nd_LA_law_664 : decode nc_LA_law 664 = .ok (.iconst 1, 1) := by decide +kernel
theorem nd_LA_law_665 : decode nc_LA_law 665 = .ok (.iadd, 1) := by decide +kernel
theorem nd_LA_law_666 : decode nc_LA_law 666 = .ok (.iaload, 1) := by decide +kernel
theorem nd_LA_law_667 : decode nc_LA_law 667 = .ok (.invokevirtual 88, 3) := by decide +kernel
theorem nd_LA_law_670 : decode nc_LA_law 670 = .ok (.aload_n 2, 1) := by decide +kernel
theorem nd_LA_law_671 : decode nc_LA_law 671 = .ok (.aload_n 0, 1) := by decide +kernel
theorem nd_LA_law_672 : decode nc_LA_law 672 = .ok (.iload_n 3, 1) := by decide +kernel
theorem nd_LA_law_673 : decode nc_LA_law 673 = .ok (.iconst 1, 1) := by decide +kernel
theorem nd_LA_law_674 : decode nc_LA_law 674 = .ok (.iadd, 1) := by decide +kernel
theorem nd_LA_law_675 : decode nc_LA_law 675 = .ok (.iaload, 1) := by decide +kernel
theorem nd_LA_law_676 : decode nc_LA_law 676 = .ok (.invokevirtual 91, 3) := by decide +kernel
theorem nd_LA_law_679 : decode nc_LA_law 679 = .ok (.if_icmp .eq 57, 3) := by decide +kernel
theorem nd_LA_law_682 : decode nc_LA_law 682 = .ok (.iconst 0, 1) := by decide +kernel
theorem nd_LA_law_683 : decode nc_LA_law 683 = .ok (.ireturn, 1) := by decide +kernel
theorem nd_LA_law_684 : decode nc_LA_law 684 = .ok (.aload_n 1, 1) := by decide +kernel
theorem nd_LA_law_685 : decode nc_LA_law 685 = .ok (.invokevirtual 92, 3) := by decide +kernel
theorem nd_LA_law_688 : decode nc_LA_law 688 = .ok (.aload_n 2, 1) := by decide +kernel
theorem nd_LA_law_689 : decode nc_LA_law 689 = .ok (.invokevirtual 96, 3) := by decide +kernel
theorem nd_LA_law_692 : decode nc_LA_law 692 = .ok (.if_icmp .eq 44, 3) := by decide +kernel
theorem nd_LA_law_695 : decode nc_LA_law 695 = .ok (.iconst 0, 1) := by decide +kernel
theorem nd_LA_law_696 : decode nc_LA_law 696 = .ok (.ireturn, 1) := by decide +kernel
theorem nd_LA_law_697 : decode nc_LA_law 697 = .ok (.aload_n 1, 1) := by decide +kernel
theorem nd_LA_law_698 : decode nc_LA_law 698 = .ok (.invokevirtual 97, 3) := by decide +kernel
theorem nd_LA_law_701 : decode nc_LA_law 701 = .ok (.aload_n 2, 1) := by decide +kernel
theorem nd_LA_law_702 : decode nc_LA_law 702 = .ok (.invokevirtual 100, 3) := by decide +kernel
theorem nd_LA_law_705 : decode nc_LA_law 705 = .ok (.if_icmp .eq 31, 3) := by decide +kernel
theorem nd_LA_law_708 : decode nc_LA_law 708 = .ok (.iconst 0, 1) := by decide +kernel
theorem nd_LA_law_709 : decode nc_LA_law 709 = .ok (.ireturn, 1) := by decide +kernel
theorem nd_LA_law_710 : decode nc_LA_law 710 = .ok (.aload_n 1, 1) := by decide +kernel
theorem nd_LA_law_711 : decode nc_LA_law 711 = .ok (.invokevirtual 101, 3) := by decide +kernel
theorem nd_LA_law_714 : decode nc_LA_law 714 = .ok (.aload_n 2, 1) := by decide +kernel
theorem nd_LA_law_715 : decode nc_LA_law 715 = .ok (.invokevirtual 104, 3) := by decide +kernel
theorem nd_LA_law_718 : decode nc_LA_law 718 = .ok (.if_icmp .eq 18, 3) := by decide +kernel
theorem nd_LA_law_721 : decode nc_LA_law 721 = .ok (.iconst 0, 1) := by decide +kernel
theorem nd_LA_law_722 : decode nc_LA_law 722 = .ok (.ireturn, 1) := by decide +kernel
theorem nd_LA_law_723 : decode nc_LA_law 723 = .ok (.aload_n 1, 1) := by decide +kernel
theorem nd_LA_law_724 : decode nc_LA_law 724 = .ok (.invokevirtual 105, 3) := by decide +kernel
theorem nd_LA_law_727 : decode nc_LA_law 727 = .ok (.aload_n 2, 1) := by decide +kernel
theorem nd_LA_law_728 : decode nc_LA_law 728 = .ok (.invokevirtual 108, 3) := by decide +kernel
theorem nd_LA_law_731 : decode nc_LA_law 731 = .ok (.if_icmp .eq 5, 3) := by decide +kernel
theorem nd_LA_law_734 : decode nc_LA_law 734 = .ok (.iconst 0, 1) := by decide +kernel
theorem nd_LA_law_735 : decode nc_LA_law 735 = .ok (.ireturn, 1) := by decide +kernel
theorem nd_LA_law_736 : decode nc_LA_law 736 = .ok (.iinc 3 5, 3) := by decide +kernel
theorem nd_LA_law_739 : decode nc_LA_law 739 = .ok (.goto (-711), 3) := by decide +kernel
theorem nd_LA_law_742 : decode nc_LA_law 742 = .ok (.iconst 1, 1) := by decide +kernel
theorem nd_LA_law_743 : decode nc_LA_law 743 = .ok (.ireturn, 1) := by decide +kernel
