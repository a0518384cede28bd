/-! the law's cases: a call of the class, the same call of the reference, their answers are one -/
def R_law : String := "TypeBarsLaw"
def lw_P (b : Addr) (xs : List Int32) (args : Array Value) (s : State) : Prop := args = #[.ref b] ∧ s.IntsAt b xs ∧ xs.length ≤ 3072 ∧ (Jvm.Cond.and given_1 narrow_1).before args s = true
def lw_Q (_ : Array Value) (s : State) (o : Outcome) (t : State) : Prop := o = .returned (some (.int 1)) ∧ Framed s o t [] 600000 7302250
def lw_Z (below : List Frame) (a : Array Value) (s : State) : State → Prop := fun t => ∃ o, t.status = .running ∧ Ended t below o ∧ lw_Q a s o t
section LAWC
variable {p : Program} {l : Launch} {e : Env} {s : State} {m : MethodId} {below : List Frame} {meth : Method} {c : Code} {H : Heap} {locs : List Loc} {Q : State → Prop}
variable {g : tb_GT} {cw : Cond} {pc : Nat} {ls : Array Slot} {rest : List Value} {M : tb_Mem} {b L i : Nat} {xs : Nat → Int32}
def lw_lv (g : tb_GT) (b i : Nat) : List (Nat × Value) := [(3, .int (nI i)), (2, .ref (tb_ad g 297)), (1, .ref (tb_ad g 0)), (0, .ref b)]
def lw_X (g : tb_GT) (b L : Nat) (xs : Nat → Int32) (s : State) : Prop := va_X b L xs s s.heap ∧ b < s.heap.size ∧ ¬ tb_A g b ∧ L ≤ 3072
theorem law_ld (F : tb_F g cL_law 4 RL ret cw p s m #[Value.ref b] meth c) (X : lw_X g b L xs s) (hS : va_S (tb_A g) s.heap H locs) (hl : lv_has ls 4 (lw_lv g b i)) (hi : i + 6 ≤ L) {n : Int} (k : Nat) (hn : Int32.ofInt n = nI k) (hk : k ≤ 5) (d0 : decode cL_law pc = .ok (.aload_n 0, 1)) (d1 : decode cL_law (pc + 1) = .ok (.iload_n 3, 1)) (d2 : decode cL_law (pc + 2) = .ok (.iconst n, 1)) (d3 : decode cL_law (pc + 3) = .ok (.iadd, 1)) (d4 : decode cL_law (pc + 4) = .ok (.iaload, 1))
    (kk : W p l e room_1 s m #[Value.ref b] below meth c H locs 600000 7302250 Q (F0 m (pc + 5) ls (.int (xs (i + k)) :: rest))) : W p l e room_1 s m #[Value.ref b] below meth c H locs 600000 7302250 Q (F0 m pc ls rest) := by
  have hx := F.1.1
  have hb := F.1.2.1
  have hL := X.2.2.2
  refine lv_aload_n hx hb d0 rfl (lv_at hl 3 rfl) ?_
  refine lv_iload_n hx hb d1 rfl (lv_at hl 0 rfl) ?_
  refine lv_iconst hx hb d2 hn ?_
  refine lv_iadd hx hb d3 ?_
  rw [nI_add]
  refine va_sld hx hb X.1 X.2.1 X.2.2.1 hS (vp_in_nI (by omega) (by omega)) d4 ?_
  rw [nI_clamp (by omega)]
  exact kk
set_option maxHeartbeats 4000000 in
set_option maxRecDepth 100000 in
theorem law_k0 (F : tb_F g cL_law 4 RL ret cw p s m #[Value.ref b] meth c) (X : lw_X g b L xs s) (hI : Inv M) (hP : tb_P g M H) (hS : va_S (tb_A g) s.heap H locs) (hl : lv_has ls 4 (lw_lv g b i)) (hi : i + 6 ≤ L)
    (kk : ∀ (M2 : tb_Mem) (H2 : Heap) (locs2 : List Loc), Inv M2 → tb_P g M2 H2 → va_S (tb_A g) s.heap H2 locs2 → W p l e room_1 s m #[Value.ref b] below meth c H2 locs2 600000 7302250 Q (F0 m 1122 ls [])) : W p l e room_1 s m #[Value.ref b] below meth c H locs 600000 7302250 Q (F0 m 176 ls []) := by
  have hx := F.1.1
  have hb := F.1.2.1
  obtain ⟨r, M1, M2, e6, e7, hI2⟩ := s_row (xs (i + 1)) (xs (i + 2)) (xs (i + 3)) M hI
  refine lv_aload_n hx hb dL_law_176 rfl (lv_at hl 2 rfl) ?_
  refine law_ld F X hS hl hi 1 (by decide) (by omega) dL_law_177 dL_law_178 dL_law_179 dL_law_180 dL_law_181 ?_
  refine law_ld F X hS hl hi 2 (by decide) (by omega) dL_law_182 dL_law_183 dL_law_184 dL_law_185 dL_law_186 ?_
  refine law_ld F X hS hl hi 3 (by decide) (by omega) dL_law_187 dL_law_188 dL_law_189 dL_law_190 dL_law_191 ?_
  refine tb_callV F hP hS hl.1 kX6_row km_L_13 (as := [.int (xs (i + 1)), .int (xs (i + 2)), .int (xs (i + 3))]) (tX6_row g l (xs (i + 1)) (xs (i + 2)) (xs (i + 3)) M M1 r e6) tb_l0 ⟨rfl, rfl, Nat.le_of_ble_eq_true rfl, Nat.le_of_ble_eq_true rfl⟩ rfl (rest := []) rfl (st1 := [.int r]) rfl (Nat.le_of_ble_eq_true rfl) ⟨Nat.le_of_ble_eq_true rfl, Nat.le_of_ble_eq_true rfl⟩ dL_law_192 (fun H locs hP hS => ?_)
  refine lv_aload_n hx hb dL_law_195 rfl (lv_at hl 1 rfl) ?_
  refine law_ld F X hS hl hi 1 (by decide) (by omega) dL_law_196 dL_law_197 dL_law_198 dL_law_199 dL_law_200 ?_
  refine law_ld F X hS hl hi 2 (by decide) (by omega) dL_law_201 dL_law_202 dL_law_203 dL_law_204 dL_law_205 ?_
  refine law_ld F X hS hl hi 3 (by decide) (by omega) dL_law_206 dL_law_207 dL_law_208 dL_law_209 dL_law_210 ?_
  refine tb_callV F hP hS hl.1 kX7_row km_L_17 (as := [.int (xs (i + 1)), .int (xs (i + 2)), .int (xs (i + 3))]) (tX7_row g l (xs (i + 1)) (xs (i + 2)) (xs (i + 3)) M1 M2 r e7) tb_l297 ⟨rfl, rfl, Nat.le_of_ble_eq_true rfl, Nat.le_of_ble_eq_true rfl⟩ rfl (rest := [.int r]) rfl (st1 := [.int r, .int r]) rfl (Nat.le_of_ble_eq_true rfl) ⟨Nat.le_of_ble_eq_true rfl, Nat.le_of_ble_eq_true rfl⟩ dL_law_211 (fun H locs hP hS => ?_)
  refine lv_icmp_eq (tgt := 1122) hx hb dL_law_214 (by decide) (fun _ => ?_) (fun c1 => absurd rfl c1)
  exact kk M2 H locs hI2 hP hS
set_option maxHeartbeats 4000000 in
set_option maxRecDepth 100000 in
theorem law_k1 (F : tb_F g cL_law 4 RL ret cw p s m #[Value.ref b] meth c) (X : lw_X g b L xs s) (hI : Inv M) (hP : tb_P g M H) (hS : va_S (tb_A g) s.heap H locs) (hl : lv_has ls 4 (lw_lv g b i)) (hi : i + 6 ≤ L)
    (kk : ∀ (M2 : tb_Mem) (H2 : Heap) (locs2 : List Loc), Inv M2 → tb_P g M2 H2 → va_S (tb_A g) s.heap H2 locs2 → W p l e room_1 s m #[Value.ref b] below meth c H2 locs2 600000 7302250 Q (F0 m 1122 ls [])) : W p l e room_1 s m #[Value.ref b] below meth c H locs 600000 7302250 Q (F0 m 219 ls []) := by
  have hx := F.1.1
  have hb := F.1.2.1
  obtain ⟨r, M1, M2, e6, e7, hI2⟩ := s_set (xs (i + 1)) (xs (i + 2)) (xs (i + 3)) M hI
  refine lv_aload_n hx hb dL_law_219 rfl (lv_at hl 2 rfl) ?_
  refine law_ld F X hS hl hi 1 (by decide) (by omega) dL_law_220 dL_law_221 dL_law_222 dL_law_223 dL_law_224 ?_
  refine law_ld F X hS hl hi 2 (by decide) (by omega) dL_law_225 dL_law_226 dL_law_227 dL_law_228 dL_law_229 ?_
  refine law_ld F X hS hl hi 3 (by decide) (by omega) dL_law_230 dL_law_231 dL_law_232 dL_law_233 dL_law_234 ?_
  refine tb_callV F hP hS hl.1 kX6_set km_L_18 (as := [.int (xs (i + 1)), .int (xs (i + 2)), .int (xs (i + 3))]) (tX6_set g l (xs (i + 1)) (xs (i + 2)) (xs (i + 3)) M M1 r e6) tb_l0 ⟨rfl, rfl, Nat.le_of_ble_eq_true rfl, Nat.le_of_ble_eq_true rfl⟩ rfl (rest := []) rfl (st1 := [.int r]) rfl (Nat.le_of_ble_eq_true rfl) ⟨Nat.le_of_ble_eq_true rfl, Nat.le_of_ble_eq_true rfl⟩ dL_law_235 (fun H locs hP hS => ?_)
  refine lv_aload_n hx hb dL_law_238 rfl (lv_at hl 1 rfl) ?_
  refine law_ld F X hS hl hi 1 (by decide) (by omega) dL_law_239 dL_law_240 dL_law_241 dL_law_242 dL_law_243 ?_
  refine law_ld F X hS hl hi 2 (by decide) (by omega) dL_law_244 dL_law_245 dL_law_246 dL_law_247 dL_law_248 ?_
  refine law_ld F X hS hl hi 3 (by decide) (by omega) dL_law_249 dL_law_250 dL_law_251 dL_law_252 dL_law_253 ?_
  refine tb_callV F hP hS hl.1 kX7_set km_L_21 (as := [.int (xs (i + 1)), .int (xs (i + 2)), .int (xs (i + 3))]) (tX7_set g l (xs (i + 1)) (xs (i + 2)) (xs (i + 3)) M1 M2 r e7) tb_l297 ⟨rfl, rfl, Nat.le_of_ble_eq_true rfl, Nat.le_of_ble_eq_true rfl⟩ rfl (rest := [.int r]) rfl (st1 := [.int r, .int r]) rfl (Nat.le_of_ble_eq_true rfl) ⟨Nat.le_of_ble_eq_true rfl, Nat.le_of_ble_eq_true rfl⟩ dL_law_254 (fun H locs hP hS => ?_)
  refine lv_icmp_eq (tgt := 1122) hx hb dL_law_257 (by decide) (fun _ => ?_) (fun c1 => absurd rfl c1)
  exact kk M2 H locs hI2 hP hS
set_option maxHeartbeats 4000000 in
set_option maxRecDepth 100000 in
theorem law_k2 (F : tb_F g cL_law 4 RL ret cw p s m #[Value.ref b] meth c) (X : lw_X g b L xs s) (hI : Inv M) (hP : tb_P g M H) (hS : va_S (tb_A g) s.heap H locs) (hl : lv_has ls 4 (lw_lv g b i)) (hi : i + 6 ≤ L)
    (kk : ∀ (M2 : tb_Mem) (H2 : Heap) (locs2 : List Loc), Inv M2 → tb_P g M2 H2 → va_S (tb_A g) s.heap H2 locs2 → W p l e room_1 s m #[Value.ref b] below meth c H2 locs2 600000 7302250 Q (F0 m 1122 ls [])) : W p l e room_1 s m #[Value.ref b] below meth c H locs 600000 7302250 Q (F0 m 262 ls []) := by
  have hx := F.1.1
  have hb := F.1.2.1
  obtain ⟨r, M1, M2, e6, e7, hI2⟩ := s_copy (xs (i + 1)) (xs (i + 2)) (xs (i + 3)) (xs (i + 4)) (xs (i + 5)) M hI
  refine lv_aload_n hx hb dL_law_262 rfl (lv_at hl 2 rfl) ?_
  refine law_ld F X hS hl hi 1 (by decide) (by omega) dL_law_263 dL_law_264 dL_law_265 dL_law_266 dL_law_267 ?_
  refine law_ld F X hS hl hi 2 (by decide) (by omega) dL_law_268 dL_law_269 dL_law_270 dL_law_271 dL_law_272 ?_
  refine law_ld F X hS hl hi 3 (by decide) (by omega) dL_law_273 dL_law_274 dL_law_275 dL_law_276 dL_law_277 ?_
  refine law_ld F X hS hl hi 4 (by decide) (by omega) dL_law_278 dL_law_279 dL_law_280 dL_law_281 dL_law_282 ?_
  refine law_ld F X hS hl hi 5 (by decide) (by omega) dL_law_283 dL_law_284 dL_law_285 dL_law_286 dL_law_287 ?_
  refine tb_callV F hP hS hl.1 kX6_copy km_L_22 (as := [.int (xs (i + 1)), .int (xs (i + 2)), .int (xs (i + 3)), .int (xs (i + 4)), .int (xs (i + 5))]) (tX6_copy g l (xs (i + 1)) (xs (i + 2)) (xs (i + 3)) (xs (i + 4)) (xs (i + 5)) M M1 r e6) tb_l0 ⟨rfl, rfl, Nat.le_of_ble_eq_true rfl, Nat.le_of_ble_eq_true rfl⟩ rfl (rest := []) rfl (st1 := [.int r]) rfl (Nat.le_of_ble_eq_true rfl) ⟨Nat.le_of_ble_eq_true rfl, Nat.le_of_ble_eq_true rfl⟩ dL_law_288 (fun H locs hP hS => ?_)
  refine lv_aload_n hx hb dL_law_291 rfl (lv_at hl 1 rfl) ?_
  refine law_ld F X hS hl hi 1 (by decide) (by omega) dL_law_292 dL_law_293 dL_law_294 dL_law_295 dL_law_296 ?_
  refine law_ld F X hS hl hi 2 (by decide) (by omega) dL_law_297 dL_law_298 dL_law_299 dL_law_300 dL_law_301 ?_
  refine law_ld F X hS hl hi 3 (by decide) (by omega) dL_law_302 dL_law_303 dL_law_304 dL_law_305 dL_law_306 ?_
  refine law_ld F X hS hl hi 4 (by decide) (by omega) dL_law_307 dL_law_308 dL_law_309 dL_law_310 dL_law_311 ?_
  refine law_ld F X hS hl hi 5 (by decide) (by omega) dL_law_312 dL_law_313 dL_law_314 dL_law_315 dL_law_316 ?_
  refine tb_callV F hP hS hl.1 kX7_copy km_L_26 (as := [.int (xs (i + 1)), .int (xs (i + 2)), .int (xs (i + 3)), .int (xs (i + 4)), .int (xs (i + 5))]) (tX7_copy g l (xs (i + 1)) (xs (i + 2)) (xs (i + 3)) (xs (i + 4)) (xs (i + 5)) M1 M2 r e7) tb_l297 ⟨rfl, rfl, Nat.le_of_ble_eq_true rfl, Nat.le_of_ble_eq_true rfl⟩ rfl (rest := [.int r]) rfl (st1 := [.int r, .int r]) rfl (Nat.le_of_ble_eq_true rfl) ⟨Nat.le_of_ble_eq_true rfl, Nat.le_of_ble_eq_true rfl⟩ dL_law_317 (fun H locs hP hS => ?_)
  refine lv_icmp_eq (tgt := 1122) hx hb dL_law_320 (by decide) (fun _ => ?_) (fun c1 => absurd rfl c1)
  exact kk M2 H locs hI2 hP hS
set_option maxHeartbeats 4000000 in
set_option maxRecDepth 100000 in
theorem law_k3 (F : tb_F g cL_law 4 RL ret cw p s m #[Value.ref b] meth c) (X : lw_X g b L xs s) (hI : Inv M) (hP : tb_P g M H) (hS : va_S (tb_A g) s.heap H locs) (hl : lv_has ls 4 (lw_lv g b i)) (hi : i + 6 ≤ L)
    (kk : ∀ (M2 : tb_Mem) (H2 : Heap) (locs2 : List Loc), Inv M2 → tb_P g M2 H2 → va_S (tb_A g) s.heap H2 locs2 → W p l e room_1 s m #[Value.ref b] below meth c H2 locs2 600000 7302250 Q (F0 m 1122 ls [])) : W p l e room_1 s m #[Value.ref b] below meth c H locs 600000 7302250 Q (F0 m 325 ls []) := by
  have hx := F.1.1
  have hb := F.1.2.1
  obtain ⟨r, M1, M2, e6, e7, hI2⟩ := s_drop (xs (i + 1)) M hI
  refine lv_aload_n hx hb dL_law_325 rfl (lv_at hl 2 rfl) ?_
  refine law_ld F X hS hl hi 1 (by decide) (by omega) dL_law_326 dL_law_327 dL_law_328 dL_law_329 dL_law_330 ?_
  refine tb_callV F hP hS hl.1 kX6_drop km_L_27 (as := [.int (xs (i + 1))]) (tX6_drop g l (xs (i + 1)) M M1 r e6) tb_l0 ⟨rfl, rfl, Nat.le_of_ble_eq_true rfl, Nat.le_of_ble_eq_true rfl⟩ rfl (rest := []) rfl (st1 := [.int r]) rfl (Nat.le_of_ble_eq_true rfl) ⟨Nat.le_of_ble_eq_true rfl, Nat.le_of_ble_eq_true rfl⟩ dL_law_331 (fun H locs hP hS => ?_)
  refine lv_aload_n hx hb dL_law_334 rfl (lv_at hl 1 rfl) ?_
  refine law_ld F X hS hl hi 1 (by decide) (by omega) dL_law_335 dL_law_336 dL_law_337 dL_law_338 dL_law_339 ?_
  refine tb_callV F hP hS hl.1 kX7_drop km_L_31 (as := [.int (xs (i + 1))]) (tX7_drop g l (xs (i + 1)) M1 M2 r e7) tb_l297 ⟨rfl, rfl, Nat.le_of_ble_eq_true rfl, Nat.le_of_ble_eq_true rfl⟩ rfl (rest := [.int r]) rfl (st1 := [.int r, .int r]) rfl (Nat.le_of_ble_eq_true rfl) ⟨Nat.le_of_ble_eq_true rfl, Nat.le_of_ble_eq_true rfl⟩ dL_law_340 (fun H locs hP hS => ?_)
  refine lv_icmp_eq (tgt := 1122) hx hb dL_law_343 (by decide) (fun _ => ?_) (fun c1 => absurd rfl c1)
  exact kk M2 H locs hI2 hP hS
set_option maxHeartbeats 4000000 in
set_option maxRecDepth 100000 in
theorem law_k4 (F : tb_F g cL_law 4 RL ret cw p s m #[Value.ref b] meth c) (X : lw_X g b L xs s) (hI : Inv M) (hP : tb_P g M H) (hS : va_S (tb_A g) s.heap H locs) (hl : lv_has ls 4 (lw_lv g b i)) (hi : i + 6 ≤ L)
    (kk : ∀ (M2 : tb_Mem) (H2 : Heap) (locs2 : List Loc), Inv M2 → tb_P g M2 H2 → va_S (tb_A g) s.heap H2 locs2 → W p l e room_1 s m #[Value.ref b] below meth c H2 locs2 600000 7302250 Q (F0 m 1122 ls [])) : W p l e room_1 s m #[Value.ref b] below meth c H locs 600000 7302250 Q (F0 m 348 ls []) := by
  have hx := F.1.1
  have hb := F.1.2.1
  obtain ⟨r, M1, M2, e6, e7, hI2⟩ := s_feed (xs (i + 1)) M hI
  refine lv_aload_n hx hb dL_law_348 rfl (lv_at hl 2 rfl) ?_
  refine law_ld F X hS hl hi 1 (by decide) (by omega) dL_law_349 dL_law_350 dL_law_351 dL_law_352 dL_law_353 ?_
  refine tb_callV F hP hS hl.1 kX6_feed km_L_32 (as := [.int (xs (i + 1))]) (tX6_feed g l (xs (i + 1)) M M1 r e6) tb_l0 ⟨rfl, rfl, Nat.le_of_ble_eq_true rfl, Nat.le_of_ble_eq_true rfl⟩ rfl (rest := []) rfl (st1 := [.int r]) rfl (Nat.le_of_ble_eq_true rfl) ⟨Nat.le_of_ble_eq_true rfl, Nat.le_of_ble_eq_true rfl⟩ dL_law_354 (fun H locs hP hS => ?_)
  refine lv_aload_n hx hb dL_law_357 rfl (lv_at hl 1 rfl) ?_
  refine law_ld F X hS hl hi 1 (by decide) (by omega) dL_law_358 dL_law_359 dL_law_360 dL_law_361 dL_law_362 ?_
  refine tb_callV F hP hS hl.1 kX7_feed km_L_35 (as := [.int (xs (i + 1))]) (tX7_feed g l (xs (i + 1)) M1 M2 r e7) tb_l297 ⟨rfl, rfl, Nat.le_of_ble_eq_true rfl, Nat.le_of_ble_eq_true rfl⟩ rfl (rest := [.int r]) rfl (st1 := [.int r, .int r]) rfl (Nat.le_of_ble_eq_true rfl) ⟨Nat.le_of_ble_eq_true rfl, Nat.le_of_ble_eq_true rfl⟩ dL_law_363 (fun H locs hP hS => ?_)
  refine lv_icmp_eq (tgt := 1122) hx hb dL_law_366 (by decide) (fun _ => ?_) (fun c1 => absurd rfl c1)
  exact kk M2 H locs hI2 hP hS
set_option maxHeartbeats 4000000 in
set_option maxRecDepth 100000 in
theorem law_k5 (F : tb_F g cL_law 4 RL ret cw p s m #[Value.ref b] meth c) (X : lw_X g b L xs s) (hI : Inv M) (hP : tb_P g M H) (hS : va_S (tb_A g) s.heap H locs) (hl : lv_has ls 4 (lw_lv g b i)) (hi : i + 6 ≤ L)
    (kk : ∀ (M2 : tb_Mem) (H2 : Heap) (locs2 : List Loc), Inv M2 → tb_P g M2 H2 → va_S (tb_A g) s.heap H2 locs2 → W p l e room_1 s m #[Value.ref b] below meth c H2 locs2 600000 7302250 Q (F0 m 1122 ls [])) : W p l e room_1 s m #[Value.ref b] below meth c H locs 600000 7302250 Q (F0 m 371 ls []) := by
  have hx := F.1.1
  have hb := F.1.2.1
  obtain ⟨r, M1, M2, e6, e7, hI2⟩ := s_basket M hI
  refine lv_aload_n hx hb dL_law_371 rfl (lv_at hl 2 rfl) ?_
  refine tb_callV F hP hS hl.1 kX6_basket km_L_36 (as := []) (tX6_basket g l M M1 r e6) tb_l0 ⟨rfl, rfl, Nat.le_of_ble_eq_true rfl, Nat.le_of_ble_eq_true rfl⟩ rfl (rest := []) rfl (st1 := [.int r]) rfl (Nat.le_of_ble_eq_true rfl) ⟨Nat.le_of_ble_eq_true rfl, Nat.le_of_ble_eq_true rfl⟩ dL_law_372 (fun H locs hP hS => ?_)
  refine lv_aload_n hx hb dL_law_375 rfl (lv_at hl 1 rfl) ?_
  refine tb_callV F hP hS hl.1 kX7_basket km_L_40 (as := []) (tX7_basket g l M1 M2 r e7) tb_l297 ⟨rfl, rfl, Nat.le_of_ble_eq_true rfl, Nat.le_of_ble_eq_true rfl⟩ rfl (rest := [.int r]) rfl (st1 := [.int r, .int r]) rfl (Nat.le_of_ble_eq_true rfl) ⟨Nat.le_of_ble_eq_true rfl, Nat.le_of_ble_eq_true rfl⟩ dL_law_376 (fun H locs hP hS => ?_)
  refine lv_icmp_eq (tgt := 1122) hx hb dL_law_379 (by decide) (fun _ => ?_) (fun c1 => absurd rfl c1)
  exact kk M2 H locs hI2 hP hS
set_option maxHeartbeats 4000000 in
set_option maxRecDepth 100000 in
theorem law_k6 (F : tb_F g cL_law 4 RL ret cw p s m #[Value.ref b] meth c) (X : lw_X g b L xs s) (hI : Inv M) (hP : tb_P g M H) (hS : va_S (tb_A g) s.heap H locs) (hl : lv_has ls 4 (lw_lv g b i)) (hi : i + 6 ≤ L)
    (kk : ∀ (M2 : tb_Mem) (H2 : Heap) (locs2 : List Loc), Inv M2 → tb_P g M2 H2 → va_S (tb_A g) s.heap H2 locs2 → W p l e room_1 s m #[Value.ref b] below meth c H2 locs2 600000 7302250 Q (F0 m 1122 ls [])) : W p l e room_1 s m #[Value.ref b] below meth c H locs 600000 7302250 Q (F0 m 384 ls []) := by
  have hx := F.1.1
  have hb := F.1.2.1
  obtain ⟨r, M1, M2, e6, e7, hI2⟩ := s_fault M hI
  refine lv_aload_n hx hb dL_law_384 rfl (lv_at hl 2 rfl) ?_
  refine tb_callV F hP hS hl.1 kX6_fault km_L_41 (as := []) (tX6_fault g l M M1 r e6) tb_l0 ⟨rfl, rfl, Nat.le_of_ble_eq_true rfl, Nat.le_of_ble_eq_true rfl⟩ rfl (rest := []) rfl (st1 := [.int r]) rfl (Nat.le_of_ble_eq_true rfl) ⟨Nat.le_of_ble_eq_true rfl, Nat.le_of_ble_eq_true rfl⟩ dL_law_385 (fun H locs hP hS => ?_)
  refine lv_aload_n hx hb dL_law_388 rfl (lv_at hl 1 rfl) ?_
  refine tb_callV F hP hS hl.1 kX7_fault km_L_44 (as := []) (tX7_fault g l M1 M2 r e7) tb_l297 ⟨rfl, rfl, Nat.le_of_ble_eq_true rfl, Nat.le_of_ble_eq_true rfl⟩ rfl (rest := [.int r]) rfl (st1 := [.int r, .int r]) rfl (Nat.le_of_ble_eq_true rfl) ⟨Nat.le_of_ble_eq_true rfl, Nat.le_of_ble_eq_true rfl⟩ dL_law_389 (fun H locs hP hS => ?_)
  refine lv_icmp_eq (tgt := 1122) hx hb dL_law_392 (by decide) (fun _ => ?_) (fun c1 => absurd rfl c1)
  exact kk M2 H locs hI2 hP hS
set_option maxHeartbeats 4000000 in
set_option maxRecDepth 100000 in
theorem law_k7 (F : tb_F g cL_law 4 RL ret cw p s m #[Value.ref b] meth c) (X : lw_X g b L xs s) (hI : Inv M) (hP : tb_P g M H) (hS : va_S (tb_A g) s.heap H locs) (hl : lv_has ls 4 (lw_lv g b i)) (hi : i + 6 ≤ L)
    (kk : ∀ (M2 : tb_Mem) (H2 : Heap) (locs2 : List Loc), Inv M2 → tb_P g M2 H2 → va_S (tb_A g) s.heap H2 locs2 → W p l e room_1 s m #[Value.ref b] below meth c H2 locs2 600000 7302250 Q (F0 m 1122 ls [])) : W p l e room_1 s m #[Value.ref b] below meth c H locs 600000 7302250 Q (F0 m 397 ls []) := by
  have hx := F.1.1
  have hb := F.1.2.1
  obtain ⟨r, M1, M2, e6, e7, hI2⟩ := s_ticks (xs (i + 1)) M hI
  refine lv_aload_n hx hb dL_law_397 rfl (lv_at hl 2 rfl) ?_
  refine law_ld F X hS hl hi 1 (by decide) (by omega) dL_law_398 dL_law_399 dL_law_400 dL_law_401 dL_law_402 ?_
  refine tb_callV F hP hS hl.1 kX6_ticks km_L_45 (as := [.int (xs (i + 1))]) (tX6_ticks g l (xs (i + 1)) M M1 r e6) tb_l0 ⟨rfl, rfl, Nat.le_of_ble_eq_true rfl, Nat.le_of_ble_eq_true rfl⟩ rfl (rest := []) rfl (st1 := [.int r]) rfl (Nat.le_of_ble_eq_true rfl) ⟨Nat.le_of_ble_eq_true rfl, Nat.le_of_ble_eq_true rfl⟩ dL_law_403 (fun H locs hP hS => ?_)
  refine lv_aload_n hx hb dL_law_406 rfl (lv_at hl 1 rfl) ?_
  refine law_ld F X hS hl hi 1 (by decide) (by omega) dL_law_407 dL_law_408 dL_law_409 dL_law_410 dL_law_411 ?_
  refine tb_callV F hP hS hl.1 kX7_ticks km_L_48 (as := [.int (xs (i + 1))]) (tX7_ticks g l (xs (i + 1)) M1 M2 r e7) tb_l297 ⟨rfl, rfl, Nat.le_of_ble_eq_true rfl, Nat.le_of_ble_eq_true rfl⟩ rfl (rest := [.int r]) rfl (st1 := [.int r, .int r]) rfl (Nat.le_of_ble_eq_true rfl) ⟨Nat.le_of_ble_eq_true rfl, Nat.le_of_ble_eq_true rfl⟩ dL_law_412 (fun H locs hP hS => ?_)
  refine lv_icmp_eq (tgt := 1122) hx hb dL_law_415 (by decide) (fun _ => ?_) (fun c1 => absurd rfl c1)
  exact kk M2 H locs hI2 hP hS
set_option maxHeartbeats 4000000 in
set_option maxRecDepth 100000 in
theorem law_k8 (F : tb_F g cL_law 4 RL ret cw p s m #[Value.ref b] meth c) (X : lw_X g b L xs s) (hI : Inv M) (hP : tb_P g M H) (hS : va_S (tb_A g) s.heap H locs) (hl : lv_has ls 4 (lw_lv g b i)) (hi : i + 6 ≤ L)
    (kk : ∀ (M2 : tb_Mem) (H2 : Heap) (locs2 : List Loc), Inv M2 → tb_P g M2 H2 → va_S (tb_A g) s.heap H2 locs2 → W p l e room_1 s m #[Value.ref b] below meth c H2 locs2 600000 7302250 Q (F0 m 1122 ls [])) : W p l e room_1 s m #[Value.ref b] below meth c H locs 600000 7302250 Q (F0 m 420 ls []) := by
  have hx := F.1.1
  have hb := F.1.2.1
  obtain ⟨r, M1, M2, e6, e7, hI2⟩ := s_key (xs (i + 1)) M hI
  refine lv_aload_n hx hb dL_law_420 rfl (lv_at hl 2 rfl) ?_
  refine law_ld F X hS hl hi 1 (by decide) (by omega) dL_law_421 dL_law_422 dL_law_423 dL_law_424 dL_law_425 ?_
  refine tb_callV F hP hS hl.1 kX6_key km_L_49 (as := [.int (xs (i + 1))]) (tX6_key g l (xs (i + 1)) M M1 r e6) tb_l0 ⟨rfl, rfl, Nat.le_of_ble_eq_true rfl, Nat.le_of_ble_eq_true rfl⟩ rfl (rest := []) rfl (st1 := [.int r]) rfl (Nat.le_of_ble_eq_true rfl) ⟨Nat.le_of_ble_eq_true rfl, Nat.le_of_ble_eq_true rfl⟩ dL_law_426 (fun H locs hP hS => ?_)
  refine lv_aload_n hx hb dL_law_429 rfl (lv_at hl 1 rfl) ?_
  refine law_ld F X hS hl hi 1 (by decide) (by omega) dL_law_430 dL_law_431 dL_law_432 dL_law_433 dL_law_434 ?_
  refine tb_callV F hP hS hl.1 kX7_key km_L_52 (as := [.int (xs (i + 1))]) (tX7_key g l (xs (i + 1)) M1 M2 r e7) tb_l297 ⟨rfl, rfl, Nat.le_of_ble_eq_true rfl, Nat.le_of_ble_eq_true rfl⟩ rfl (rest := [.int r]) rfl (st1 := [.int r, .int r]) rfl (Nat.le_of_ble_eq_true rfl) ⟨Nat.le_of_ble_eq_true rfl, Nat.le_of_ble_eq_true rfl⟩ dL_law_435 (fun H locs hP hS => ?_)
  refine lv_icmp_eq (tgt := 1122) hx hb dL_law_438 (by decide) (fun _ => ?_) (fun c1 => absurd rfl c1)
  exact kk M2 H locs hI2 hP hS
set_option maxHeartbeats 4000000 in
set_option maxRecDepth 100000 in
theorem law_k9 (F : tb_F g cL_law 4 RL ret cw p s m #[Value.ref b] meth c) (X : lw_X g b L xs s) (hI : Inv M) (hP : tb_P g M H) (hS : va_S (tb_A g) s.heap H locs) (hl : lv_has ls 4 (lw_lv g b i)) (hi : i + 6 ≤ L)
    (kk : ∀ (M2 : tb_Mem) (H2 : Heap) (locs2 : List Loc), Inv M2 → tb_P g M2 H2 → va_S (tb_A g) s.heap H2 locs2 → W p l e room_1 s m #[Value.ref b] below meth c H2 locs2 600000 7302250 Q (F0 m 1122 ls [])) : W p l e room_1 s m #[Value.ref b] below meth c H locs 600000 7302250 Q (F0 m 443 ls []) := by
  have hx := F.1.1
  have hb := F.1.2.1
  obtain ⟨r, M1, M2, e6, e7, hI2⟩ := s_free M hI
  refine lv_aload_n hx hb dL_law_443 rfl (lv_at hl 2 rfl) ?_
  refine tb_callV F hP hS hl.1 kX6_free km_L_53 (as := []) (tX6_free g l M M1 r e6) tb_l0 ⟨rfl, rfl, Nat.le_of_ble_eq_true rfl, Nat.le_of_ble_eq_true rfl⟩ rfl (rest := []) rfl (st1 := [.int r]) rfl (Nat.le_of_ble_eq_true rfl) ⟨Nat.le_of_ble_eq_true rfl, Nat.le_of_ble_eq_true rfl⟩ dL_law_444 (fun H locs hP hS => ?_)
  refine lv_aload_n hx hb dL_law_447 rfl (lv_at hl 1 rfl) ?_
  refine tb_callV F hP hS hl.1 kX7_free km_L_56 (as := []) (tX7_free g l M1 M2 r e7) tb_l297 ⟨rfl, rfl, Nat.le_of_ble_eq_true rfl, Nat.le_of_ble_eq_true rfl⟩ rfl (rest := [.int r]) rfl (st1 := [.int r, .int r]) rfl (Nat.le_of_ble_eq_true rfl) ⟨Nat.le_of_ble_eq_true rfl, Nat.le_of_ble_eq_true rfl⟩ dL_law_448 (fun H locs hP hS => ?_)
  refine lv_icmp_eq (tgt := 1122) hx hb dL_law_451 (by decide) (fun _ => ?_) (fun c1 => absurd rfl c1)
  exact kk M2 H locs hI2 hP hS
set_option maxHeartbeats 4000000 in
set_option maxRecDepth 100000 in
theorem law_k10 (F : tb_F g cL_law 4 RL ret cw p s m #[Value.ref b] meth c) (X : lw_X g b L xs s) (hI : Inv M) (hP : tb_P g M H) (hS : va_S (tb_A g) s.heap H locs) (hl : lv_has ls 4 (lw_lv g b i)) (hi : i + 6 ≤ L)
    (kk : ∀ (M2 : tb_Mem) (H2 : Heap) (locs2 : List Loc), Inv M2 → tb_P g M2 H2 → va_S (tb_A g) s.heap H2 locs2 → W p l e room_1 s m #[Value.ref b] below meth c H2 locs2 600000 7302250 Q (F0 m 1122 ls [])) : W p l e room_1 s m #[Value.ref b] below meth c H locs 600000 7302250 Q (F0 m 456 ls []) := by
  have hx := F.1.1
  have hb := F.1.2.1
  obtain ⟨r, M1, M2, e6, e7, hI2⟩ := s_back M hI
  refine lv_aload_n hx hb dL_law_456 rfl (lv_at hl 2 rfl) ?_
  refine tb_callV F hP hS hl.1 kX6_back km_L_57 (as := []) (tX6_back g l M M1 r e6) tb_l0 ⟨rfl, rfl, Nat.le_of_ble_eq_true rfl, Nat.le_of_ble_eq_true rfl⟩ rfl (rest := []) rfl (st1 := [.int r]) rfl (Nat.le_of_ble_eq_true rfl) ⟨Nat.le_of_ble_eq_true rfl, Nat.le_of_ble_eq_true rfl⟩ dL_law_457 (fun H locs hP hS => ?_)
  refine lv_aload_n hx hb dL_law_460 rfl (lv_at hl 1 rfl) ?_
  refine tb_callV F hP hS hl.1 kX7_back km_L_60 (as := []) (tX7_back g l M1 M2 r e7) tb_l297 ⟨rfl, rfl, Nat.le_of_ble_eq_true rfl, Nat.le_of_ble_eq_true rfl⟩ rfl (rest := [.int r]) rfl (st1 := [.int r, .int r]) rfl (Nat.le_of_ble_eq_true rfl) ⟨Nat.le_of_ble_eq_true rfl, Nat.le_of_ble_eq_true rfl⟩ dL_law_461 (fun H locs hP hS => ?_)
  refine lv_icmp_eq (tgt := 1122) hx hb dL_law_464 (by decide) (fun _ => ?_) (fun c1 => absurd rfl c1)
  exact kk M2 H locs hI2 hP hS
set_option maxHeartbeats 4000000 in
set_option maxRecDepth 100000 in
theorem law_k11 (F : tb_F g cL_law 4 RL ret cw p s m #[Value.ref b] meth c) (X : lw_X g b L xs s) (hI : Inv M) (hP : tb_P g M H) (hS : va_S (tb_A g) s.heap H locs) (hl : lv_has ls 4 (lw_lv g b i)) (hi : i + 6 ≤ L)
    (kk : ∀ (M2 : tb_Mem) (H2 : Heap) (locs2 : List Loc), Inv M2 → tb_P g M2 H2 → va_S (tb_A g) s.heap H2 locs2 → W p l e room_1 s m #[Value.ref b] below meth c H2 locs2 600000 7302250 Q (F0 m 1122 ls [])) : W p l e room_1 s m #[Value.ref b] below meth c H locs 600000 7302250 Q (F0 m 469 ls []) := by
  have hx := F.1.1
  have hb := F.1.2.1
  obtain ⟨r, M1, M2, e6, e7, hI2⟩ := s_swap (xs (i + 1)) (xs (i + 2)) M hI
  refine lv_aload_n hx hb dL_law_469 rfl (lv_at hl 2 rfl) ?_
  refine law_ld F X hS hl hi 1 (by decide) (by omega) dL_law_470 dL_law_471 dL_law_472 dL_law_473 dL_law_474 ?_
  refine law_ld F X hS hl hi 2 (by decide) (by omega) dL_law_475 dL_law_476 dL_law_477 dL_law_478 dL_law_479 ?_
  refine tb_callV F hP hS hl.1 kX6_swap km_L_61 (as := [.int (xs (i + 1)), .int (xs (i + 2))]) (tX6_swap g l (xs (i + 1)) (xs (i + 2)) M M1 r e6) tb_l0 ⟨rfl, rfl, Nat.le_of_ble_eq_true rfl, Nat.le_of_ble_eq_true rfl⟩ rfl (rest := []) rfl (st1 := [.int r]) rfl (Nat.le_of_ble_eq_true rfl) ⟨Nat.le_of_ble_eq_true rfl, Nat.le_of_ble_eq_true rfl⟩ dL_law_480 (fun H locs hP hS => ?_)
  refine lv_aload_n hx hb dL_law_483 rfl (lv_at hl 1 rfl) ?_
  refine law_ld F X hS hl hi 1 (by decide) (by omega) dL_law_484 dL_law_485 dL_law_486 dL_law_487 dL_law_488 ?_
  refine law_ld F X hS hl hi 2 (by decide) (by omega) dL_law_489 dL_law_490 dL_law_491 dL_law_492 dL_law_493 ?_
  refine tb_callV F hP hS hl.1 kX7_swap km_L_65 (as := [.int (xs (i + 1)), .int (xs (i + 2))]) (tX7_swap g l (xs (i + 1)) (xs (i + 2)) M1 M2 r e7) tb_l297 ⟨rfl, rfl, Nat.le_of_ble_eq_true rfl, Nat.le_of_ble_eq_true rfl⟩ rfl (rest := [.int r]) rfl (st1 := [.int r, .int r]) rfl (Nat.le_of_ble_eq_true rfl) ⟨Nat.le_of_ble_eq_true rfl, Nat.le_of_ble_eq_true rfl⟩ dL_law_494 (fun H locs hP hS => ?_)
  refine lv_icmp_eq (tgt := 1122) hx hb dL_law_497 (by decide) (fun _ => ?_) (fun c1 => absurd rfl c1)
  exact kk M2 H locs hI2 hP hS
set_option maxHeartbeats 4000000 in
set_option maxRecDepth 100000 in
theorem law_k12 (F : tb_F g cL_law 4 RL ret cw p s m #[Value.ref b] meth c) (X : lw_X g b L xs s) (hI : Inv M) (hP : tb_P g M H) (hS : va_S (tb_A g) s.heap H locs) (hl : lv_has ls 4 (lw_lv g b i)) (hi : i + 6 ≤ L)
    (kk : ∀ (M2 : tb_Mem) (H2 : Heap) (locs2 : List Loc), Inv M2 → tb_P g M2 H2 → va_S (tb_A g) s.heap H2 locs2 → W p l e room_1 s m #[Value.ref b] below meth c H2 locs2 600000 7302250 Q (F0 m 1122 ls [])) : W p l e room_1 s m #[Value.ref b] below meth c H locs 600000 7302250 Q (F0 m 502 ls []) := by
  have hx := F.1.1
  have hb := F.1.2.1
  obtain ⟨r, M1, M2, e6, e7, hI2⟩ := s_undo M hI
  refine lv_aload_n hx hb dL_law_502 rfl (lv_at hl 2 rfl) ?_
  refine tb_callV F hP hS hl.1 kX6_undo km_L_66 (as := []) (tX6_undo g l M M1 r e6) tb_l0 ⟨rfl, rfl, Nat.le_of_ble_eq_true rfl, Nat.le_of_ble_eq_true rfl⟩ rfl (rest := []) rfl (st1 := [.int r]) rfl (Nat.le_of_ble_eq_true rfl) ⟨Nat.le_of_ble_eq_true rfl, Nat.le_of_ble_eq_true rfl⟩ dL_law_503 (fun H locs hP hS => ?_)
  refine lv_aload_n hx hb dL_law_506 rfl (lv_at hl 1 rfl) ?_
  refine tb_callV F hP hS hl.1 kX7_undo km_L_69 (as := []) (tX7_undo g l M1 M2 r e7) tb_l297 ⟨rfl, rfl, Nat.le_of_ble_eq_true rfl, Nat.le_of_ble_eq_true rfl⟩ rfl (rest := [.int r]) rfl (st1 := [.int r, .int r]) rfl (Nat.le_of_ble_eq_true rfl) ⟨Nat.le_of_ble_eq_true rfl, Nat.le_of_ble_eq_true rfl⟩ dL_law_507 (fun H locs hP hS => ?_)
  refine lv_icmp_eq (tgt := 1122) hx hb dL_law_510 (by decide) (fun _ => ?_) (fun c1 => absurd rfl c1)
  exact kk M2 H locs hI2 hP hS
set_option maxHeartbeats 4000000 in
set_option maxRecDepth 100000 in
theorem law_k13 (F : tb_F g cL_law 4 RL ret cw p s m #[Value.ref b] meth c) (X : lw_X g b L xs s) (hI : Inv M) (hP : tb_P g M H) (hS : va_S (tb_A g) s.heap H locs) (hl : lv_has ls 4 (lw_lv g b i)) (hi : i + 6 ≤ L)
    (kk : ∀ (M2 : tb_Mem) (H2 : Heap) (locs2 : List Loc), Inv M2 → tb_P g M2 H2 → va_S (tb_A g) s.heap H2 locs2 → W p l e room_1 s m #[Value.ref b] below meth c H2 locs2 600000 7302250 Q (F0 m 1122 ls [])) : W p l e room_1 s m #[Value.ref b] below meth c H locs 600000 7302250 Q (F0 m 515 ls []) := by
  have hx := F.1.1
  have hb := F.1.2.1
  obtain ⟨r, M1, M2, e6, e7, hI2⟩ := s_bar (xs (i + 1)) (xs (i + 2)) M hI
  refine lv_aload_n hx hb dL_law_515 rfl (lv_at hl 2 rfl) ?_
  refine law_ld F X hS hl hi 1 (by decide) (by omega) dL_law_516 dL_law_517 dL_law_518 dL_law_519 dL_law_520 ?_
  refine law_ld F X hS hl hi 2 (by decide) (by omega) dL_law_521 dL_law_522 dL_law_523 dL_law_524 dL_law_525 ?_
  refine tb_callV F hP hS hl.1 kX6_bar km_L_70 (as := [.int (xs (i + 1)), .int (xs (i + 2))]) (tX6_bar g l (xs (i + 1)) (xs (i + 2)) M M1 r e6) tb_l0 ⟨rfl, rfl, Nat.le_of_ble_eq_true rfl, Nat.le_of_ble_eq_true rfl⟩ rfl (rest := []) rfl (st1 := [.int r]) rfl (Nat.le_of_ble_eq_true rfl) ⟨Nat.le_of_ble_eq_true rfl, Nat.le_of_ble_eq_true rfl⟩ dL_law_526 (fun H locs hP hS => ?_)
  refine lv_aload_n hx hb dL_law_529 rfl (lv_at hl 1 rfl) ?_
  refine law_ld F X hS hl hi 1 (by decide) (by omega) dL_law_530 dL_law_531 dL_law_532 dL_law_533 dL_law_534 ?_
  refine law_ld F X hS hl hi 2 (by decide) (by omega) dL_law_535 dL_law_536 dL_law_537 dL_law_538 dL_law_539 ?_
  refine tb_callV F hP hS hl.1 kX7_bar km_L_73 (as := [.int (xs (i + 1)), .int (xs (i + 2))]) (tX7_bar g l (xs (i + 1)) (xs (i + 2)) M1 M2 r e7) tb_l297 ⟨rfl, rfl, Nat.le_of_ble_eq_true rfl, Nat.le_of_ble_eq_true rfl⟩ rfl (rest := [.int r]) rfl (st1 := [.int r, .int r]) rfl (Nat.le_of_ble_eq_true rfl) ⟨Nat.le_of_ble_eq_true rfl, Nat.le_of_ble_eq_true rfl⟩ dL_law_540 (fun H locs hP hS => ?_)
  refine lv_icmp_eq (tgt := 1122) hx hb dL_law_543 (by decide) (fun _ => ?_) (fun c1 => absurd rfl c1)
  exact kk M2 H locs hI2 hP hS
set_option maxHeartbeats 4000000 in
set_option maxRecDepth 100000 in
theorem law_k14 (F : tb_F g cL_law 4 RL ret cw p s m #[Value.ref b] meth c) (X : lw_X g b L xs s) (hI : Inv M) (hP : tb_P g M H) (hS : va_S (tb_A g) s.heap H locs) (hl : lv_has ls 4 (lw_lv g b i)) (hi : i + 6 ≤ L)
    (kk : ∀ (M2 : tb_Mem) (H2 : Heap) (locs2 : List Loc), Inv M2 → tb_P g M2 H2 → va_S (tb_A g) s.heap H2 locs2 → W p l e room_1 s m #[Value.ref b] below meth c H2 locs2 600000 7302250 Q (F0 m 1122 ls [])) : W p l e room_1 s m #[Value.ref b] below meth c H locs 600000 7302250 Q (F0 m 548 ls []) := by
  have hx := F.1.1
  have hb := F.1.2.1
  obtain ⟨r, M1, M2, e6, e7, hI2⟩ := s_paper (xs (i + 1)) M hI
  refine lv_aload_n hx hb dL_law_548 rfl (lv_at hl 2 rfl) ?_
  refine law_ld F X hS hl hi 1 (by decide) (by omega) dL_law_549 dL_law_550 dL_law_551 dL_law_552 dL_law_553 ?_
  refine tb_callV F hP hS hl.1 kX6_paper km_L_74 (as := [.int (xs (i + 1))]) (tX6_paper g l (xs (i + 1)) M M1 r e6) tb_l0 ⟨rfl, rfl, Nat.le_of_ble_eq_true rfl, Nat.le_of_ble_eq_true rfl⟩ rfl (rest := []) rfl (st1 := [.int r]) rfl (Nat.le_of_ble_eq_true rfl) ⟨Nat.le_of_ble_eq_true rfl, Nat.le_of_ble_eq_true rfl⟩ dL_law_554 (fun H locs hP hS => ?_)
  refine lv_aload_n hx hb dL_law_557 rfl (lv_at hl 1 rfl) ?_
  refine law_ld F X hS hl hi 1 (by decide) (by omega) dL_law_558 dL_law_559 dL_law_560 dL_law_561 dL_law_562 ?_
  refine tb_callV F hP hS hl.1 kX7_paper km_L_77 (as := [.int (xs (i + 1))]) (tX7_paper g l (xs (i + 1)) M1 M2 r e7) tb_l297 ⟨rfl, rfl, Nat.le_of_ble_eq_true rfl, Nat.le_of_ble_eq_true rfl⟩ rfl (rest := [.int r]) rfl (st1 := [.int r, .int r]) rfl (Nat.le_of_ble_eq_true rfl) ⟨Nat.le_of_ble_eq_true rfl, Nat.le_of_ble_eq_true rfl⟩ dL_law_563 (fun H locs hP hS => ?_)
  refine lv_icmp_eq (tgt := 1122) hx hb dL_law_566 (by decide) (fun _ => ?_) (fun c1 => absurd rfl c1)
  exact kk M2 H locs hI2 hP hS
set_option maxHeartbeats 4000000 in
set_option maxRecDepth 100000 in
theorem law_k15 (F : tb_F g cL_law 4 RL ret cw p s m #[Value.ref b] meth c) (X : lw_X g b L xs s) (hI : Inv M) (hP : tb_P g M H) (hS : va_S (tb_A g) s.heap H locs) (hl : lv_has ls 4 (lw_lv g b i)) (hi : i + 6 ≤ L)
    (kk : ∀ (M2 : tb_Mem) (H2 : Heap) (locs2 : List Loc), Inv M2 → tb_P g M2 H2 → va_S (tb_A g) s.heap H2 locs2 → W p l e room_1 s m #[Value.ref b] below meth c H2 locs2 600000 7302250 Q (F0 m 1122 ls [])) : W p l e room_1 s m #[Value.ref b] below meth c H locs 600000 7302250 Q (F0 m 571 ls []) := by
  have hx := F.1.1
  have hb := F.1.2.1
  obtain ⟨r, M1, M2, e6, e7, hI2⟩ := s_height (xs (i + 1)) (xs (i + 2)) M hI
  refine lv_aload_n hx hb dL_law_571 rfl (lv_at hl 2 rfl) ?_
  refine law_ld F X hS hl hi 1 (by decide) (by omega) dL_law_572 dL_law_573 dL_law_574 dL_law_575 dL_law_576 ?_
  refine law_ld F X hS hl hi 2 (by decide) (by omega) dL_law_577 dL_law_578 dL_law_579 dL_law_580 dL_law_581 ?_
  refine tb_callV F hP hS hl.1 kX6_height km_L_78 (as := [.int (xs (i + 1)), .int (xs (i + 2))]) (tX6_height g l (xs (i + 1)) (xs (i + 2)) M M1 r e6) tb_l0 ⟨rfl, rfl, Nat.le_of_ble_eq_true rfl, Nat.le_of_ble_eq_true rfl⟩ rfl (rest := []) rfl (st1 := [.int r]) rfl (Nat.le_of_ble_eq_true rfl) ⟨Nat.le_of_ble_eq_true rfl, Nat.le_of_ble_eq_true rfl⟩ dL_law_582 (fun H locs hP hS => ?_)
  refine lv_aload_n hx hb dL_law_585 rfl (lv_at hl 1 rfl) ?_
  refine law_ld F X hS hl hi 1 (by decide) (by omega) dL_law_586 dL_law_587 dL_law_588 dL_law_589 dL_law_590 ?_
  refine law_ld F X hS hl hi 2 (by decide) (by omega) dL_law_591 dL_law_592 dL_law_593 dL_law_594 dL_law_595 ?_
  refine tb_callV F hP hS hl.1 kX7_height km_L_81 (as := [.int (xs (i + 1)), .int (xs (i + 2))]) (tX7_height g l (xs (i + 1)) (xs (i + 2)) M1 M2 r e7) tb_l297 ⟨rfl, rfl, Nat.le_of_ble_eq_true rfl, Nat.le_of_ble_eq_true rfl⟩ rfl (rest := [.int r]) rfl (st1 := [.int r, .int r]) rfl (Nat.le_of_ble_eq_true rfl) ⟨Nat.le_of_ble_eq_true rfl, Nat.le_of_ble_eq_true rfl⟩ dL_law_596 (fun H locs hP hS => ?_)
  refine lv_icmp_eq (tgt := 1122) hx hb dL_law_599 (by decide) (fun _ => ?_) (fun c1 => absurd rfl c1)
  exact kk M2 H locs hI2 hP hS
set_option maxHeartbeats 4000000 in
set_option maxRecDepth 100000 in
theorem law_k16 (F : tb_F g cL_law 4 RL ret cw p s m #[Value.ref b] meth c) (X : lw_X g b L xs s) (hI : Inv M) (hP : tb_P g M H) (hS : va_S (tb_A g) s.heap H locs) (hl : lv_has ls 4 (lw_lv g b i)) (hi : i + 6 ≤ L)
    (kk : ∀ (M2 : tb_Mem) (H2 : Heap) (locs2 : List Loc), Inv M2 → tb_P g M2 H2 → va_S (tb_A g) s.heap H2 locs2 → W p l e room_1 s m #[Value.ref b] below meth c H2 locs2 600000 7302250 Q (F0 m 1122 ls [])) : W p l e room_1 s m #[Value.ref b] below meth c H locs 600000 7302250 Q (F0 m 604 ls []) := by
  have hx := F.1.1
  have hb := F.1.2.1
  obtain ⟨r, M1, M2, e6, e7, hI2⟩ := s_later (xs (i + 1)) (xs (i + 2)) M hI
  refine lv_aload_n hx hb dL_law_604 rfl (lv_at hl 2 rfl) ?_
  refine law_ld F X hS hl hi 1 (by decide) (by omega) dL_law_605 dL_law_606 dL_law_607 dL_law_608 dL_law_609 ?_
  refine law_ld F X hS hl hi 2 (by decide) (by omega) dL_law_610 dL_law_611 dL_law_612 dL_law_613 dL_law_614 ?_
  refine tb_callV F hP hS hl.1 kX6_later km_L_82 (as := [.int (xs (i + 1)), .int (xs (i + 2))]) (tX6_later g l (xs (i + 1)) (xs (i + 2)) M M1 r e6) tb_l0 ⟨rfl, rfl, Nat.le_of_ble_eq_true rfl, Nat.le_of_ble_eq_true rfl⟩ rfl (rest := []) rfl (st1 := [.int r]) rfl (Nat.le_of_ble_eq_true rfl) ⟨Nat.le_of_ble_eq_true rfl, Nat.le_of_ble_eq_true rfl⟩ dL_law_615 (fun H locs hP hS => ?_)
  refine lv_aload_n hx hb dL_law_618 rfl (lv_at hl 1 rfl) ?_
  refine law_ld F X hS hl hi 1 (by decide) (by omega) dL_law_619 dL_law_620 dL_law_621 dL_law_622 dL_law_623 ?_
  refine law_ld F X hS hl hi 2 (by decide) (by omega) dL_law_624 dL_law_625 dL_law_626 dL_law_627 dL_law_628 ?_
  refine tb_callV F hP hS hl.1 kX7_later km_L_85 (as := [.int (xs (i + 1)), .int (xs (i + 2))]) (tX7_later g l (xs (i + 1)) (xs (i + 2)) M1 M2 r e7) tb_l297 ⟨rfl, rfl, Nat.le_of_ble_eq_true rfl, Nat.le_of_ble_eq_true rfl⟩ rfl (rest := [.int r]) rfl (st1 := [.int r, .int r]) rfl (Nat.le_of_ble_eq_true rfl) ⟨Nat.le_of_ble_eq_true rfl, Nat.le_of_ble_eq_true rfl⟩ dL_law_629 (fun H locs hP hS => ?_)
  refine lv_icmp_eq (tgt := 1122) hx hb dL_law_632 (by decide) (fun _ => ?_) (fun c1 => absurd rfl c1)
  exact kk M2 H locs hI2 hP hS
set_option maxHeartbeats 4000000 in
set_option maxRecDepth 100000 in
theorem law_k17 (F : tb_F g cL_law 4 RL ret cw p s m #[Value.ref b] meth c) (X : lw_X g b L xs s) (hI : Inv M) (hP : tb_P g M H) (hS : va_S (tb_A g) s.heap H locs) (hl : lv_has ls 4 (lw_lv g b i)) (hi : i + 6 ≤ L)
    (kk : ∀ (M2 : tb_Mem) (H2 : Heap) (locs2 : List Loc), Inv M2 → tb_P g M2 H2 → va_S (tb_A g) s.heap H2 locs2 → W p l e room_1 s m #[Value.ref b] below meth c H2 locs2 600000 7302250 Q (F0 m 1122 ls [])) : W p l e room_1 s m #[Value.ref b] below meth c H locs 600000 7302250 Q (F0 m 637 ls []) := by
  have hx := F.1.1
  have hb := F.1.2.1
  obtain ⟨r, M1, M2, e6, e7, hI2⟩ := s_jam (xs (i + 1)) M hI
  refine lv_aload_n hx hb dL_law_637 rfl (lv_at hl 2 rfl) ?_
  refine law_ld F X hS hl hi 1 (by decide) (by omega) dL_law_638 dL_law_639 dL_law_640 dL_law_641 dL_law_642 ?_
  refine tb_callV F hP hS hl.1 kX6_jam km_L_86 (as := [.int (xs (i + 1))]) (tX6_jam g l (xs (i + 1)) M M1 r e6) tb_l0 ⟨rfl, rfl, Nat.le_of_ble_eq_true rfl, Nat.le_of_ble_eq_true rfl⟩ rfl (rest := []) rfl (st1 := [.int r]) rfl (Nat.le_of_ble_eq_true rfl) ⟨Nat.le_of_ble_eq_true rfl, Nat.le_of_ble_eq_true rfl⟩ dL_law_643 (fun H locs hP hS => ?_)
  refine lv_aload_n hx hb dL_law_646 rfl (lv_at hl 1 rfl) ?_
  refine law_ld F X hS hl hi 1 (by decide) (by omega) dL_law_647 dL_law_648 dL_law_649 dL_law_650 dL_law_651 ?_
  refine tb_callV F hP hS hl.1 kX7_jam km_L_89 (as := [.int (xs (i + 1))]) (tX7_jam g l (xs (i + 1)) M1 M2 r e7) tb_l297 ⟨rfl, rfl, Nat.le_of_ble_eq_true rfl, Nat.le_of_ble_eq_true rfl⟩ rfl (rest := [.int r]) rfl (st1 := [.int r, .int r]) rfl (Nat.le_of_ble_eq_true rfl) ⟨Nat.le_of_ble_eq_true rfl, Nat.le_of_ble_eq_true rfl⟩ dL_law_652 (fun H locs hP hS => ?_)
  refine lv_icmp_eq (tgt := 1122) hx hb dL_law_655 (by decide) (fun _ => ?_) (fun c1 => absurd rfl c1)
  exact kk M2 H locs hI2 hP hS
set_option maxHeartbeats 4000000 in
set_option maxRecDepth 100000 in
theorem law_k18 (F : tb_F g cL_law 4 RL ret cw p s m #[Value.ref b] meth c) (X : lw_X g b L xs s) (hI : Inv M) (hP : tb_P g M H) (hS : va_S (tb_A g) s.heap H locs) (hl : lv_has ls 4 (lw_lv g b i)) (hi : i + 6 ≤ L)
    (kk : ∀ (M2 : tb_Mem) (H2 : Heap) (locs2 : List Loc), Inv M2 → tb_P g M2 H2 → va_S (tb_A g) s.heap H2 locs2 → W p l e room_1 s m #[Value.ref b] below meth c H2 locs2 600000 7302250 Q (F0 m 1122 ls [])) : W p l e room_1 s m #[Value.ref b] below meth c H locs 600000 7302250 Q (F0 m 660 ls []) := by
  have hx := F.1.1
  have hb := F.1.2.1
  obtain ⟨r, M1, M2, e6, e7, hI2⟩ := s_waits (xs (i + 1)) M hI
  refine lv_aload_n hx hb dL_law_660 rfl (lv_at hl 2 rfl) ?_
  refine law_ld F X hS hl hi 1 (by decide) (by omega) dL_law_661 dL_law_662 dL_law_663 dL_law_664 dL_law_665 ?_
  refine tb_callV F hP hS hl.1 kX6_waits km_L_90 (as := [.int (xs (i + 1))]) (tX6_waits g l (xs (i + 1)) M M1 r e6) tb_l0 ⟨rfl, rfl, Nat.le_of_ble_eq_true rfl, Nat.le_of_ble_eq_true rfl⟩ rfl (rest := []) rfl (st1 := [.int r]) rfl (Nat.le_of_ble_eq_true rfl) ⟨Nat.le_of_ble_eq_true rfl, Nat.le_of_ble_eq_true rfl⟩ dL_law_666 (fun H locs hP hS => ?_)
  refine lv_aload_n hx hb dL_law_669 rfl (lv_at hl 1 rfl) ?_
  refine law_ld F X hS hl hi 1 (by decide) (by omega) dL_law_670 dL_law_671 dL_law_672 dL_law_673 dL_law_674 ?_
  refine tb_callV F hP hS hl.1 kX7_waits km_L_93 (as := [.int (xs (i + 1))]) (tX7_waits g l (xs (i + 1)) M1 M2 r e7) tb_l297 ⟨rfl, rfl, Nat.le_of_ble_eq_true rfl, Nat.le_of_ble_eq_true rfl⟩ rfl (rest := [.int r]) rfl (st1 := [.int r, .int r]) rfl (Nat.le_of_ble_eq_true rfl) ⟨Nat.le_of_ble_eq_true rfl, Nat.le_of_ble_eq_true rfl⟩ dL_law_675 (fun H locs hP hS => ?_)
  refine lv_icmp_eq (tgt := 1122) hx hb dL_law_678 (by decide) (fun _ => ?_) (fun c1 => absurd rfl c1)
  exact kk M2 H locs hI2 hP hS
set_option maxHeartbeats 4000000 in
set_option maxRecDepth 100000 in
theorem law_k19 (F : tb_F g cL_law 4 RL ret cw p s m #[Value.ref b] meth c) (X : lw_X g b L xs s) (hI : Inv M) (hP : tb_P g M H) (hS : va_S (tb_A g) s.heap H locs) (hl : lv_has ls 4 (lw_lv g b i)) (hi : i + 6 ≤ L)
    (kk : ∀ (M2 : tb_Mem) (H2 : Heap) (locs2 : List Loc), Inv M2 → tb_P g M2 H2 → va_S (tb_A g) s.heap H2 locs2 → W p l e room_1 s m #[Value.ref b] below meth c H2 locs2 600000 7302250 Q (F0 m 1122 ls [])) : W p l e room_1 s m #[Value.ref b] below meth c H locs 600000 7302250 Q (F0 m 683 ls []) := by
  have hx := F.1.1
  have hb := F.1.2.1
  obtain ⟨r, M1, M2, e6, e7, hI2⟩ := s_pace (xs (i + 1)) (xs (i + 2)) (xs (i + 3)) M hI
  refine lv_aload_n hx hb dL_law_683 rfl (lv_at hl 2 rfl) ?_
  refine law_ld F X hS hl hi 1 (by decide) (by omega) dL_law_684 dL_law_685 dL_law_686 dL_law_687 dL_law_688 ?_
  refine law_ld F X hS hl hi 2 (by decide) (by omega) dL_law_689 dL_law_690 dL_law_691 dL_law_692 dL_law_693 ?_
  refine law_ld F X hS hl hi 3 (by decide) (by omega) dL_law_694 dL_law_695 dL_law_696 dL_law_697 dL_law_698 ?_
  refine tb_callV F hP hS hl.1 kX6_pace km_L_94 (as := [.int (xs (i + 1)), .int (xs (i + 2)), .int (xs (i + 3))]) (tX6_pace g l (xs (i + 1)) (xs (i + 2)) (xs (i + 3)) M M1 r e6) tb_l0 ⟨rfl, rfl, Nat.le_of_ble_eq_true rfl, Nat.le_of_ble_eq_true rfl⟩ rfl (rest := []) rfl (st1 := [.int r]) rfl (Nat.le_of_ble_eq_true rfl) ⟨Nat.le_of_ble_eq_true rfl, Nat.le_of_ble_eq_true rfl⟩ dL_law_699 (fun H locs hP hS => ?_)
  refine lv_aload_n hx hb dL_law_702 rfl (lv_at hl 1 rfl) ?_
  refine law_ld F X hS hl hi 1 (by decide) (by omega) dL_law_703 dL_law_704 dL_law_705 dL_law_706 dL_law_707 ?_
  refine law_ld F X hS hl hi 2 (by decide) (by omega) dL_law_708 dL_law_709 dL_law_710 dL_law_711 dL_law_712 ?_
  refine law_ld F X hS hl hi 3 (by decide) (by omega) dL_law_713 dL_law_714 dL_law_715 dL_law_716 dL_law_717 ?_
  refine tb_callV F hP hS hl.1 kX7_pace km_L_97 (as := [.int (xs (i + 1)), .int (xs (i + 2)), .int (xs (i + 3))]) (tX7_pace g l (xs (i + 1)) (xs (i + 2)) (xs (i + 3)) M1 M2 r e7) tb_l297 ⟨rfl, rfl, Nat.le_of_ble_eq_true rfl, Nat.le_of_ble_eq_true rfl⟩ rfl (rest := [.int r]) rfl (st1 := [.int r, .int r]) rfl (Nat.le_of_ble_eq_true rfl) ⟨Nat.le_of_ble_eq_true rfl, Nat.le_of_ble_eq_true rfl⟩ dL_law_718 (fun H locs hP hS => ?_)
  refine lv_icmp_eq (tgt := 1122) hx hb dL_law_721 (by decide) (fun _ => ?_) (fun c1 => absurd rfl c1)
  exact kk M2 H locs hI2 hP hS
set_option maxHeartbeats 4000000 in
set_option maxRecDepth 100000 in
theorem law_k20 (F : tb_F g cL_law 4 RL ret cw p s m #[Value.ref b] meth c) (X : lw_X g b L xs s) (hI : Inv M) (hP : tb_P g M H) (hS : va_S (tb_A g) s.heap H locs) (hl : lv_has ls 4 (lw_lv g b i)) (hi : i + 6 ≤ L)
    (kk : ∀ (M2 : tb_Mem) (H2 : Heap) (locs2 : List Loc), Inv M2 → tb_P g M2 H2 → va_S (tb_A g) s.heap H2 locs2 → W p l e room_1 s m #[Value.ref b] below meth c H2 locs2 600000 7302250 Q (F0 m 1122 ls [])) : W p l e room_1 s m #[Value.ref b] below meth c H locs 600000 7302250 Q (F0 m 726 ls []) := by
  have hx := F.1.1
  have hb := F.1.2.1
  obtain ⟨r, M1, M2, e6, e7, hI2⟩ := s_better (xs (i + 1)) (xs (i + 2)) (xs (i + 3)) (xs (i + 4)) M hI
  refine lv_aload_n hx hb dL_law_726 rfl (lv_at hl 2 rfl) ?_
  refine law_ld F X hS hl hi 1 (by decide) (by omega) dL_law_727 dL_law_728 dL_law_729 dL_law_730 dL_law_731 ?_
  refine law_ld F X hS hl hi 2 (by decide) (by omega) dL_law_732 dL_law_733 dL_law_734 dL_law_735 dL_law_736 ?_
  refine law_ld F X hS hl hi 3 (by decide) (by omega) dL_law_737 dL_law_738 dL_law_739 dL_law_740 dL_law_741 ?_
  refine law_ld F X hS hl hi 4 (by decide) (by omega) dL_law_742 dL_law_743 dL_law_744 dL_law_745 dL_law_746 ?_
  refine tb_callV F hP hS hl.1 kX6_better km_L_98 (as := [.int (xs (i + 1)), .int (xs (i + 2)), .int (xs (i + 3)), .int (xs (i + 4))]) (tX6_better g l (xs (i + 1)) (xs (i + 2)) (xs (i + 3)) (xs (i + 4)) M M1 r e6) tb_l0 ⟨rfl, rfl, Nat.le_of_ble_eq_true rfl, Nat.le_of_ble_eq_true rfl⟩ rfl (rest := []) rfl (st1 := [.int r]) rfl (Nat.le_of_ble_eq_true rfl) ⟨Nat.le_of_ble_eq_true rfl, Nat.le_of_ble_eq_true rfl⟩ dL_law_747 (fun H locs hP hS => ?_)
  refine lv_aload_n hx hb dL_law_750 rfl (lv_at hl 1 rfl) ?_
  refine law_ld F X hS hl hi 1 (by decide) (by omega) dL_law_751 dL_law_752 dL_law_753 dL_law_754 dL_law_755 ?_
  refine law_ld F X hS hl hi 2 (by decide) (by omega) dL_law_756 dL_law_757 dL_law_758 dL_law_759 dL_law_760 ?_
  refine law_ld F X hS hl hi 3 (by decide) (by omega) dL_law_761 dL_law_762 dL_law_763 dL_law_764 dL_law_765 ?_
  refine law_ld F X hS hl hi 4 (by decide) (by omega) dL_law_766 dL_law_767 dL_law_768 dL_law_769 dL_law_770 ?_
  refine tb_callV F hP hS hl.1 kX7_better km_L_102 (as := [.int (xs (i + 1)), .int (xs (i + 2)), .int (xs (i + 3)), .int (xs (i + 4))]) (tX7_better g l (xs (i + 1)) (xs (i + 2)) (xs (i + 3)) (xs (i + 4)) M1 M2 r e7) tb_l297 ⟨rfl, rfl, Nat.le_of_ble_eq_true rfl, Nat.le_of_ble_eq_true rfl⟩ rfl (rest := [.int r]) rfl (st1 := [.int r, .int r]) rfl (Nat.le_of_ble_eq_true rfl) ⟨Nat.le_of_ble_eq_true rfl, Nat.le_of_ble_eq_true rfl⟩ dL_law_771 (fun H locs hP hS => ?_)
  refine lv_icmp_eq (tgt := 1122) hx hb dL_law_774 (by decide) (fun _ => ?_) (fun c1 => absurd rfl c1)
  exact kk M2 H locs hI2 hP hS
set_option maxHeartbeats 4000000 in
set_option maxRecDepth 100000 in
theorem law_k21 (F : tb_F g cL_law 4 RL ret cw p s m #[Value.ref b] meth c) (X : lw_X g b L xs s) (hI : Inv M) (hP : tb_P g M H) (hS : va_S (tb_A g) s.heap H locs) (hl : lv_has ls 4 (lw_lv g b i)) (hi : i + 6 ≤ L)
    (kk : ∀ (M2 : tb_Mem) (H2 : Heap) (locs2 : List Loc), Inv M2 → tb_P g M2 H2 → va_S (tb_A g) s.heap H2 locs2 → W p l e room_1 s m #[Value.ref b] below meth c H2 locs2 600000 7302250 Q (F0 m 1122 ls [])) : W p l e room_1 s m #[Value.ref b] below meth c H locs 600000 7302250 Q (F0 m 779 ls []) := by
  have hx := F.1.1
  have hb := F.1.2.1
  obtain ⟨r, M1, M2, e6, e7, hI2⟩ := s_fits (xs (i + 1)) (xs (i + 2)) (xs (i + 3)) (xs (i + 4)) (xs (i + 5)) M hI
  refine lv_aload_n hx hb dL_law_779 rfl (lv_at hl 2 rfl) ?_
  refine law_ld F X hS hl hi 1 (by decide) (by omega) dL_law_780 dL_law_781 dL_law_782 dL_law_783 dL_law_784 ?_
  refine law_ld F X hS hl hi 2 (by decide) (by omega) dL_law_785 dL_law_786 dL_law_787 dL_law_788 dL_law_789 ?_
  refine law_ld F X hS hl hi 3 (by decide) (by omega) dL_law_790 dL_law_791 dL_law_792 dL_law_793 dL_law_794 ?_
  refine law_ld F X hS hl hi 4 (by decide) (by omega) dL_law_795 dL_law_796 dL_law_797 dL_law_798 dL_law_799 ?_
  refine law_ld F X hS hl hi 5 (by decide) (by omega) dL_law_800 dL_law_801 dL_law_802 dL_law_803 dL_law_804 ?_
  refine tb_callV F hP hS hl.1 kX6_fits km_L_103 (as := [.int (xs (i + 1)), .int (xs (i + 2)), .int (xs (i + 3)), .int (xs (i + 4)), .int (xs (i + 5))]) (tX6_fits g l (xs (i + 1)) (xs (i + 2)) (xs (i + 3)) (xs (i + 4)) (xs (i + 5)) M M1 r e6) tb_l0 ⟨rfl, rfl, Nat.le_of_ble_eq_true rfl, Nat.le_of_ble_eq_true rfl⟩ rfl (rest := []) rfl (st1 := [.int r]) rfl (Nat.le_of_ble_eq_true rfl) ⟨Nat.le_of_ble_eq_true rfl, Nat.le_of_ble_eq_true rfl⟩ dL_law_805 (fun H locs hP hS => ?_)
  refine lv_aload_n hx hb dL_law_808 rfl (lv_at hl 1 rfl) ?_
  refine law_ld F X hS hl hi 1 (by decide) (by omega) dL_law_809 dL_law_810 dL_law_811 dL_law_812 dL_law_813 ?_
  refine law_ld F X hS hl hi 2 (by decide) (by omega) dL_law_814 dL_law_815 dL_law_816 dL_law_817 dL_law_818 ?_
  refine law_ld F X hS hl hi 3 (by decide) (by omega) dL_law_819 dL_law_820 dL_law_821 dL_law_822 dL_law_823 ?_
  refine law_ld F X hS hl hi 4 (by decide) (by omega) dL_law_824 dL_law_825 dL_law_826 dL_law_827 dL_law_828 ?_
  refine law_ld F X hS hl hi 5 (by decide) (by omega) dL_law_829 dL_law_830 dL_law_831 dL_law_832 dL_law_833 ?_
  refine tb_callV F hP hS hl.1 kX7_fits km_L_106 (as := [.int (xs (i + 1)), .int (xs (i + 2)), .int (xs (i + 3)), .int (xs (i + 4)), .int (xs (i + 5))]) (tX7_fits g l (xs (i + 1)) (xs (i + 2)) (xs (i + 3)) (xs (i + 4)) (xs (i + 5)) M1 M2 r e7) tb_l297 ⟨rfl, rfl, Nat.le_of_ble_eq_true rfl, Nat.le_of_ble_eq_true rfl⟩ rfl (rest := [.int r]) rfl (st1 := [.int r, .int r]) rfl (Nat.le_of_ble_eq_true rfl) ⟨Nat.le_of_ble_eq_true rfl, Nat.le_of_ble_eq_true rfl⟩ dL_law_834 (fun H locs hP hS => ?_)
  refine lv_icmp_eq (tgt := 1122) hx hb dL_law_837 (by decide) (fun _ => ?_) (fun c1 => absurd rfl c1)
  exact kk M2 H locs hI2 hP hS
set_option maxHeartbeats 4000000 in
set_option maxRecDepth 100000 in
theorem law_k22 (F : tb_F g cL_law 4 RL ret cw p s m #[Value.ref b] meth c) (X : lw_X g b L xs s) (hI : Inv M) (hP : tb_P g M H) (hS : va_S (tb_A g) s.heap H locs) (hl : lv_has ls 4 (lw_lv g b i)) (hi : i + 6 ≤ L)
    (kk : ∀ (M2 : tb_Mem) (H2 : Heap) (locs2 : List Loc), Inv M2 → tb_P g M2 H2 → va_S (tb_A g) s.heap H2 locs2 → W p l e room_1 s m #[Value.ref b] below meth c H2 locs2 600000 7302250 Q (F0 m 1122 ls [])) : W p l e room_1 s m #[Value.ref b] below meth c H locs 600000 7302250 Q (F0 m 842 ls []) := by
  have hx := F.1.1
  have hb := F.1.2.1
  obtain ⟨r, M1, M2, e6, e7, hI2⟩ := s_chance (xs (i + 1)) (xs (i + 2)) (xs (i + 3)) M hI
  refine lv_aload_n hx hb dL_law_842 rfl (lv_at hl 2 rfl) ?_
  refine law_ld F X hS hl hi 1 (by decide) (by omega) dL_law_843 dL_law_844 dL_law_845 dL_law_846 dL_law_847 ?_
  refine law_ld F X hS hl hi 2 (by decide) (by omega) dL_law_848 dL_law_849 dL_law_850 dL_law_851 dL_law_852 ?_
  refine law_ld F X hS hl hi 3 (by decide) (by omega) dL_law_853 dL_law_854 dL_law_855 dL_law_856 dL_law_857 ?_
  refine tb_callV F hP hS hl.1 kX6_chance km_L_107 (as := [.int (xs (i + 1)), .int (xs (i + 2)), .int (xs (i + 3))]) (tX6_chance g l (xs (i + 1)) (xs (i + 2)) (xs (i + 3)) M M1 r e6) tb_l0 ⟨rfl, rfl, Nat.le_of_ble_eq_true rfl, Nat.le_of_ble_eq_true rfl⟩ rfl (rest := []) rfl (st1 := [.int r]) rfl (Nat.le_of_ble_eq_true rfl) ⟨Nat.le_of_ble_eq_true rfl, Nat.le_of_ble_eq_true rfl⟩ dL_law_858 (fun H locs hP hS => ?_)
  refine lv_aload_n hx hb dL_law_861 rfl (lv_at hl 1 rfl) ?_
  refine law_ld F X hS hl hi 1 (by decide) (by omega) dL_law_862 dL_law_863 dL_law_864 dL_law_865 dL_law_866 ?_
  refine law_ld F X hS hl hi 2 (by decide) (by omega) dL_law_867 dL_law_868 dL_law_869 dL_law_870 dL_law_871 ?_
  refine law_ld F X hS hl hi 3 (by decide) (by omega) dL_law_872 dL_law_873 dL_law_874 dL_law_875 dL_law_876 ?_
  refine tb_callV F hP hS hl.1 kX7_chance km_L_110 (as := [.int (xs (i + 1)), .int (xs (i + 2)), .int (xs (i + 3))]) (tX7_chance g l (xs (i + 1)) (xs (i + 2)) (xs (i + 3)) M1 M2 r e7) tb_l297 ⟨rfl, rfl, Nat.le_of_ble_eq_true rfl, Nat.le_of_ble_eq_true rfl⟩ rfl (rest := [.int r]) rfl (st1 := [.int r, .int r]) rfl (Nat.le_of_ble_eq_true rfl) ⟨Nat.le_of_ble_eq_true rfl, Nat.le_of_ble_eq_true rfl⟩ dL_law_877 (fun H locs hP hS => ?_)
  refine lv_icmp_eq (tgt := 1122) hx hb dL_law_880 (by decide) (fun _ => ?_) (fun c1 => absurd rfl c1)
  exact kk M2 H locs hI2 hP hS
set_option maxHeartbeats 4000000 in
set_option maxRecDepth 100000 in
theorem law_k23 (F : tb_F g cL_law 4 RL ret cw p s m #[Value.ref b] meth c) (X : lw_X g b L xs s) (hI : Inv M) (hP : tb_P g M H) (hS : va_S (tb_A g) s.heap H locs) (hl : lv_has ls 4 (lw_lv g b i)) (hi : i + 6 ≤ L)
    (kk : ∀ (M2 : tb_Mem) (H2 : Heap) (locs2 : List Loc), Inv M2 → tb_P g M2 H2 → va_S (tb_A g) s.heap H2 locs2 → W p l e room_1 s m #[Value.ref b] below meth c H2 locs2 600000 7302250 Q (F0 m 1122 ls [])) : W p l e room_1 s m #[Value.ref b] below meth c H locs 600000 7302250 Q (F0 m 885 ls []) := by
  have hx := F.1.1
  have hb := F.1.2.1
  obtain ⟨r, M1, M2, e6, e7, hI2⟩ := s_drawn (xs (i + 1)) (xs (i + 2)) (xs (i + 3)) M hI
  refine lv_aload_n hx hb dL_law_885 rfl (lv_at hl 2 rfl) ?_
  refine law_ld F X hS hl hi 1 (by decide) (by omega) dL_law_886 dL_law_887 dL_law_888 dL_law_889 dL_law_890 ?_
  refine law_ld F X hS hl hi 2 (by decide) (by omega) dL_law_891 dL_law_892 dL_law_893 dL_law_894 dL_law_895 ?_
  refine law_ld F X hS hl hi 3 (by decide) (by omega) dL_law_896 dL_law_897 dL_law_898 dL_law_899 dL_law_900 ?_
  refine tb_callV F hP hS hl.1 kX6_drawn km_L_111 (as := [.int (xs (i + 1)), .int (xs (i + 2)), .int (xs (i + 3))]) (tX6_drawn g l (xs (i + 1)) (xs (i + 2)) (xs (i + 3)) M M1 r e6) tb_l0 ⟨rfl, rfl, Nat.le_of_ble_eq_true rfl, Nat.le_of_ble_eq_true rfl⟩ rfl (rest := []) rfl (st1 := [.int r]) rfl (Nat.le_of_ble_eq_true rfl) ⟨Nat.le_of_ble_eq_true rfl, Nat.le_of_ble_eq_true rfl⟩ dL_law_901 (fun H locs hP hS => ?_)
  refine lv_aload_n hx hb dL_law_904 rfl (lv_at hl 1 rfl) ?_
  refine law_ld F X hS hl hi 1 (by decide) (by omega) dL_law_905 dL_law_906 dL_law_907 dL_law_908 dL_law_909 ?_
  refine law_ld F X hS hl hi 2 (by decide) (by omega) dL_law_910 dL_law_911 dL_law_912 dL_law_913 dL_law_914 ?_
  refine law_ld F X hS hl hi 3 (by decide) (by omega) dL_law_915 dL_law_916 dL_law_917 dL_law_918 dL_law_919 ?_
  refine tb_callV F hP hS hl.1 kX7_drawn km_L_114 (as := [.int (xs (i + 1)), .int (xs (i + 2)), .int (xs (i + 3))]) (tX7_drawn g l (xs (i + 1)) (xs (i + 2)) (xs (i + 3)) M1 M2 r e7) tb_l297 ⟨rfl, rfl, Nat.le_of_ble_eq_true rfl, Nat.le_of_ble_eq_true rfl⟩ rfl (rest := [.int r]) rfl (st1 := [.int r, .int r]) rfl (Nat.le_of_ble_eq_true rfl) ⟨Nat.le_of_ble_eq_true rfl, Nat.le_of_ble_eq_true rfl⟩ dL_law_920 (fun H locs hP hS => ?_)
  refine lv_icmp_eq (tgt := 1122) hx hb dL_law_923 (by decide) (fun _ => ?_) (fun c1 => absurd rfl c1)
  exact kk M2 H locs hI2 hP hS
set_option maxHeartbeats 4000000 in
set_option maxRecDepth 100000 in
theorem law_k24 (F : tb_F g cL_law 4 RL ret cw p s m #[Value.ref b] meth c) (X : lw_X g b L xs s) (hI : Inv M) (hP : tb_P g M H) (hS : va_S (tb_A g) s.heap H locs) (hl : lv_has ls 4 (lw_lv g b i)) (hi : i + 6 ≤ L)
    (kk : ∀ (M2 : tb_Mem) (H2 : Heap) (locs2 : List Loc), Inv M2 → tb_P g M2 H2 → va_S (tb_A g) s.heap H2 locs2 → W p l e room_1 s m #[Value.ref b] below meth c H2 locs2 600000 7302250 Q (F0 m 1122 ls [])) : W p l e room_1 s m #[Value.ref b] below meth c H locs 600000 7302250 Q (F0 m 928 ls []) := by
  have hx := F.1.1
  have hb := F.1.2.1
  obtain ⟨r, M1, M2, e6, e7, hI2⟩ := s_image (xs (i + 1)) M hI
  refine lv_aload_n hx hb dL_law_928 rfl (lv_at hl 2 rfl) ?_
  refine law_ld F X hS hl hi 1 (by decide) (by omega) dL_law_929 dL_law_930 dL_law_931 dL_law_932 dL_law_933 ?_
  refine tb_callV F hP hS hl.1 kX6_image km_L_115 (as := [.int (xs (i + 1))]) (tX6_image g l (xs (i + 1)) M M1 r e6) tb_l0 ⟨rfl, rfl, Nat.le_of_ble_eq_true rfl, Nat.le_of_ble_eq_true rfl⟩ rfl (rest := []) rfl (st1 := [.int r]) rfl (Nat.le_of_ble_eq_true rfl) ⟨Nat.le_of_ble_eq_true rfl, Nat.le_of_ble_eq_true rfl⟩ dL_law_934 (fun H locs hP hS => ?_)
  refine lv_aload_n hx hb dL_law_937 rfl (lv_at hl 1 rfl) ?_
  refine law_ld F X hS hl hi 1 (by decide) (by omega) dL_law_938 dL_law_939 dL_law_940 dL_law_941 dL_law_942 ?_
  refine tb_callV F hP hS hl.1 kX7_image km_L_118 (as := [.int (xs (i + 1))]) (tX7_image g l (xs (i + 1)) M1 M2 r e7) tb_l297 ⟨rfl, rfl, Nat.le_of_ble_eq_true rfl, Nat.le_of_ble_eq_true rfl⟩ rfl (rest := [.int r]) rfl (st1 := [.int r, .int r]) rfl (Nat.le_of_ble_eq_true rfl) ⟨Nat.le_of_ble_eq_true rfl, Nat.le_of_ble_eq_true rfl⟩ dL_law_943 (fun H locs hP hS => ?_)
  refine lv_icmp_eq (tgt := 1122) hx hb dL_law_946 (by decide) (fun _ => ?_) (fun c1 => absurd rfl c1)
  exact kk M2 H locs hI2 hP hS
set_option maxHeartbeats 4000000 in
set_option maxRecDepth 100000 in
theorem law_k25 (F : tb_F g cL_law 4 RL ret cw p s m #[Value.ref b] meth c) (X : lw_X g b L xs s) (hI : Inv M) (hP : tb_P g M H) (hS : va_S (tb_A g) s.heap H locs) (hl : lv_has ls 4 (lw_lv g b i)) (hi : i + 6 ≤ L)
    (kk : ∀ (M2 : tb_Mem) (H2 : Heap) (locs2 : List Loc), Inv M2 → tb_P g M2 H2 → va_S (tb_A g) s.heap H2 locs2 → W p l e room_1 s m #[Value.ref b] below meth c H2 locs2 600000 7302250 Q (F0 m 1122 ls [])) : W p l e room_1 s m #[Value.ref b] below meth c H locs 600000 7302250 Q (F0 m 951 ls []) := by
  have hx := F.1.1
  have hb := F.1.2.1
  obtain ⟨r, M1, M2, e6, e7, hI2⟩ := s_restore (xs (i + 1)) M hI
  refine lv_aload_n hx hb dL_law_951 rfl (lv_at hl 2 rfl) ?_
  refine law_ld F X hS hl hi 1 (by decide) (by omega) dL_law_952 dL_law_953 dL_law_954 dL_law_955 dL_law_956 ?_
  refine tb_callV F hP hS hl.1 kX6_restore km_L_119 (as := [.int (xs (i + 1))]) (tX6_restore g l (xs (i + 1)) M M1 r e6) tb_l0 ⟨rfl, rfl, Nat.le_of_ble_eq_true rfl, Nat.le_of_ble_eq_true rfl⟩ rfl (rest := []) rfl (st1 := [.int r]) rfl (Nat.le_of_ble_eq_true rfl) ⟨Nat.le_of_ble_eq_true rfl, Nat.le_of_ble_eq_true rfl⟩ dL_law_957 (fun H locs hP hS => ?_)
  refine lv_aload_n hx hb dL_law_960 rfl (lv_at hl 1 rfl) ?_
  refine law_ld F X hS hl hi 1 (by decide) (by omega) dL_law_961 dL_law_962 dL_law_963 dL_law_964 dL_law_965 ?_
  refine tb_callV F hP hS hl.1 kX7_restore km_L_122 (as := [.int (xs (i + 1))]) (tX7_restore g l (xs (i + 1)) M1 M2 r e7) tb_l297 ⟨rfl, rfl, Nat.le_of_ble_eq_true rfl, Nat.le_of_ble_eq_true rfl⟩ rfl (rest := [.int r]) rfl (st1 := [.int r, .int r]) rfl (Nat.le_of_ble_eq_true rfl) ⟨Nat.le_of_ble_eq_true rfl, Nat.le_of_ble_eq_true rfl⟩ dL_law_966 (fun H locs hP hS => ?_)
  refine lv_icmp_eq (tgt := 1122) hx hb dL_law_969 (by decide) (fun _ => ?_) (fun c1 => absurd rfl c1)
  exact kk M2 H locs hI2 hP hS
set_option maxHeartbeats 4000000 in
set_option maxRecDepth 100000 in
theorem law_k26 (F : tb_F g cL_law 4 RL ret cw p s m #[Value.ref b] meth c) (X : lw_X g b L xs s) (hI : Inv M) (hP : tb_P g M H) (hS : va_S (tb_A g) s.heap H locs) (hl : lv_has ls 4 (lw_lv g b i)) (hi : i + 6 ≤ L)
    (kk : ∀ (M2 : tb_Mem) (H2 : Heap) (locs2 : List Loc), Inv M2 → tb_P g M2 H2 → va_S (tb_A g) s.heap H2 locs2 → W p l e room_1 s m #[Value.ref b] below meth c H2 locs2 600000 7302250 Q (F0 m 1122 ls [])) : W p l e room_1 s m #[Value.ref b] below meth c H locs 600000 7302250 Q (F0 m 974 ls []) := by
  have hx := F.1.1
  have hb := F.1.2.1
  obtain ⟨r, M1, M2, e6, e7, hI2⟩ := s_kind (xs (i + 1)) M hI
  refine lv_aload_n hx hb dL_law_974 rfl (lv_at hl 2 rfl) ?_
  refine law_ld F X hS hl hi 1 (by decide) (by omega) dL_law_975 dL_law_976 dL_law_977 dL_law_978 dL_law_979 ?_
  refine tb_callV F hP hS hl.1 kX6_kind km_L_123 (as := [.int (xs (i + 1))]) (tX6_kind g l (xs (i + 1)) M M1 r e6) tb_l0 ⟨rfl, rfl, Nat.le_of_ble_eq_true rfl, Nat.le_of_ble_eq_true rfl⟩ rfl (rest := []) rfl (st1 := [.int r]) rfl (Nat.le_of_ble_eq_true rfl) ⟨Nat.le_of_ble_eq_true rfl, Nat.le_of_ble_eq_true rfl⟩ dL_law_980 (fun H locs hP hS => ?_)
  refine lv_aload_n hx hb dL_law_983 rfl (lv_at hl 1 rfl) ?_
  refine law_ld F X hS hl hi 1 (by decide) (by omega) dL_law_984 dL_law_985 dL_law_986 dL_law_987 dL_law_988 ?_
  refine tb_callV F hP hS hl.1 kX7_kind km_L_126 (as := [.int (xs (i + 1))]) (tX7_kind g l (xs (i + 1)) M1 M2 r e7) tb_l297 ⟨rfl, rfl, Nat.le_of_ble_eq_true rfl, Nat.le_of_ble_eq_true rfl⟩ rfl (rest := [.int r]) rfl (st1 := [.int r, .int r]) rfl (Nat.le_of_ble_eq_true rfl) ⟨Nat.le_of_ble_eq_true rfl, Nat.le_of_ble_eq_true rfl⟩ dL_law_989 (fun H locs hP hS => ?_)
  refine lv_icmp_eq (tgt := 1122) hx hb dL_law_992 (by decide) (fun _ => ?_) (fun c1 => absurd rfl c1)
  exact kk M2 H locs hI2 hP hS
set_option maxHeartbeats 4000000 in
set_option maxRecDepth 100000 in
theorem law_k27 (F : tb_F g cL_law 4 RL ret cw p s m #[Value.ref b] meth c) (X : lw_X g b L xs s) (hI : Inv M) (hP : tb_P g M H) (hS : va_S (tb_A g) s.heap H locs) (hl : lv_has ls 4 (lw_lv g b i)) (hi : i + 6 ≤ L)
    (kk : ∀ (M2 : tb_Mem) (H2 : Heap) (locs2 : List Loc), Inv M2 → tb_P g M2 H2 → va_S (tb_A g) s.heap H2 locs2 → W p l e room_1 s m #[Value.ref b] below meth c H2 locs2 600000 7302250 Q (F0 m 1122 ls [])) : W p l e room_1 s m #[Value.ref b] below meth c H locs 600000 7302250 Q (F0 m 997 ls []) := by
  have hx := F.1.1
  have hb := F.1.2.1
  obtain ⟨r, M1, M2, e6, e7, hI2⟩ := s_as (xs (i + 1)) (xs (i + 2)) M hI
  refine lv_aload_n hx hb dL_law_997 rfl (lv_at hl 2 rfl) ?_
  refine law_ld F X hS hl hi 1 (by decide) (by omega) dL_law_998 dL_law_999 dL_law_1000 dL_law_1001 dL_law_1002 ?_
  refine law_ld F X hS hl hi 2 (by decide) (by omega) dL_law_1003 dL_law_1004 dL_law_1005 dL_law_1006 dL_law_1007 ?_
  refine tb_callV F hP hS hl.1 kX6_as km_L_127 (as := [.int (xs (i + 1)), .int (xs (i + 2))]) (tX6_as g l (xs (i + 1)) (xs (i + 2)) M M1 r e6) tb_l0 ⟨rfl, rfl, Nat.le_of_ble_eq_true rfl, Nat.le_of_ble_eq_true rfl⟩ rfl (rest := []) rfl (st1 := [.int r]) rfl (Nat.le_of_ble_eq_true rfl) ⟨Nat.le_of_ble_eq_true rfl, Nat.le_of_ble_eq_true rfl⟩ dL_law_1008 (fun H locs hP hS => ?_)
  refine lv_aload_n hx hb dL_law_1011 rfl (lv_at hl 1 rfl) ?_
  refine law_ld F X hS hl hi 1 (by decide) (by omega) dL_law_1012 dL_law_1013 dL_law_1014 dL_law_1015 dL_law_1016 ?_
  refine law_ld F X hS hl hi 2 (by decide) (by omega) dL_law_1017 dL_law_1018 dL_law_1019 dL_law_1020 dL_law_1021 ?_
  refine tb_callV F hP hS hl.1 kX7_as km_L_130 (as := [.int (xs (i + 1)), .int (xs (i + 2))]) (tX7_as g l (xs (i + 1)) (xs (i + 2)) M1 M2 r e7) tb_l297 ⟨rfl, rfl, Nat.le_of_ble_eq_true rfl, Nat.le_of_ble_eq_true rfl⟩ rfl (rest := [.int r]) rfl (st1 := [.int r, .int r]) rfl (Nat.le_of_ble_eq_true rfl) ⟨Nat.le_of_ble_eq_true rfl, Nat.le_of_ble_eq_true rfl⟩ dL_law_1022 (fun H locs hP hS => ?_)
  refine lv_icmp_eq (tgt := 1122) hx hb dL_law_1025 (by decide) (fun _ => ?_) (fun c1 => absurd rfl c1)
  exact kk M2 H locs hI2 hP hS
set_option maxHeartbeats 4000000 in
set_option maxRecDepth 100000 in
theorem law_k28 (F : tb_F g cL_law 4 RL ret cw p s m #[Value.ref b] meth c) (X : lw_X g b L xs s) (hI : Inv M) (hP : tb_P g M H) (hS : va_S (tb_A g) s.heap H locs) (hl : lv_has ls 4 (lw_lv g b i)) (hi : i + 6 ≤ L)
    (kk : ∀ (M2 : tb_Mem) (H2 : Heap) (locs2 : List Loc), Inv M2 → tb_P g M2 H2 → va_S (tb_A g) s.heap H2 locs2 → W p l e room_1 s m #[Value.ref b] below meth c H2 locs2 600000 7302250 Q (F0 m 1122 ls [])) : W p l e room_1 s m #[Value.ref b] below meth c H locs 600000 7302250 Q (F0 m 1030 ls []) := by
  have hx := F.1.1
  have hb := F.1.2.1
  obtain ⟨r, M1, M2, e6, e7, hI2⟩ := s_ask (xs (i + 1)) (xs (i + 2)) M hI
  refine lv_aload_n hx hb dL_law_1030 rfl (lv_at hl 2 rfl) ?_
  refine law_ld F X hS hl hi 1 (by decide) (by omega) dL_law_1031 dL_law_1032 dL_law_1033 dL_law_1034 dL_law_1035 ?_
  refine law_ld F X hS hl hi 2 (by decide) (by omega) dL_law_1036 dL_law_1037 dL_law_1038 dL_law_1039 dL_law_1040 ?_
  refine tb_callV F hP hS hl.1 kX6_ask km_L_131 (as := [.int (xs (i + 1)), .int (xs (i + 2))]) (tX6_ask g l (xs (i + 1)) (xs (i + 2)) M M1 r e6) tb_l0 ⟨rfl, rfl, Nat.le_of_ble_eq_true rfl, Nat.le_of_ble_eq_true rfl⟩ rfl (rest := []) rfl (st1 := [.int r]) rfl (Nat.le_of_ble_eq_true rfl) ⟨Nat.le_of_ble_eq_true rfl, Nat.le_of_ble_eq_true rfl⟩ dL_law_1041 (fun H locs hP hS => ?_)
  refine lv_aload_n hx hb dL_law_1044 rfl (lv_at hl 1 rfl) ?_
  refine law_ld F X hS hl hi 1 (by decide) (by omega) dL_law_1045 dL_law_1046 dL_law_1047 dL_law_1048 dL_law_1049 ?_
  refine law_ld F X hS hl hi 2 (by decide) (by omega) dL_law_1050 dL_law_1051 dL_law_1052 dL_law_1053 dL_law_1054 ?_
  refine tb_callV F hP hS hl.1 kX7_ask km_L_134 (as := [.int (xs (i + 1)), .int (xs (i + 2))]) (tX7_ask g l (xs (i + 1)) (xs (i + 2)) M1 M2 r e7) tb_l297 ⟨rfl, rfl, Nat.le_of_ble_eq_true rfl, Nat.le_of_ble_eq_true rfl⟩ rfl (rest := [.int r]) rfl (st1 := [.int r, .int r]) rfl (Nat.le_of_ble_eq_true rfl) ⟨Nat.le_of_ble_eq_true rfl, Nat.le_of_ble_eq_true rfl⟩ dL_law_1055 (fun H locs hP hS => ?_)
  refine lv_icmp_eq (tgt := 1122) hx hb dL_law_1058 (by decide) (fun _ => ?_) (fun c1 => absurd rfl c1)
  exact kk M2 H locs hI2 hP hS
set_option maxHeartbeats 4000000 in
set_option maxRecDepth 100000 in
theorem law_k29 (F : tb_F g cL_law 4 RL ret cw p s m #[Value.ref b] meth c) (X : lw_X g b L xs s) (hI : Inv M) (hP : tb_P g M H) (hS : va_S (tb_A g) s.heap H locs) (hl : lv_has ls 4 (lw_lv g b i)) (hi : i + 6 ≤ L)
    (kk : ∀ (M2 : tb_Mem) (H2 : Heap) (locs2 : List Loc), Inv M2 → tb_P g M2 H2 → va_S (tb_A g) s.heap H2 locs2 → W p l e room_1 s m #[Value.ref b] below meth c H2 locs2 600000 7302250 Q (F0 m 1122 ls [])) : W p l e room_1 s m #[Value.ref b] below meth c H locs 600000 7302250 Q (F0 m 1063 ls []) := by
  have hx := F.1.1
  have hb := F.1.2.1
  obtain ⟨r, M1, M2, e6, e7, hI2⟩ := s_trace (xs (i + 1)) M hI
  refine lv_aload_n hx hb dL_law_1063 rfl (lv_at hl 2 rfl) ?_
  refine law_ld F X hS hl hi 1 (by decide) (by omega) dL_law_1064 dL_law_1065 dL_law_1066 dL_law_1067 dL_law_1068 ?_
  refine tb_callV F hP hS hl.1 kX6_trace km_L_135 (as := [.int (xs (i + 1))]) (tX6_trace g l (xs (i + 1)) M M1 r e6) tb_l0 ⟨rfl, rfl, Nat.le_of_ble_eq_true rfl, Nat.le_of_ble_eq_true rfl⟩ rfl (rest := []) rfl (st1 := [.int r]) rfl (Nat.le_of_ble_eq_true rfl) ⟨Nat.le_of_ble_eq_true rfl, Nat.le_of_ble_eq_true rfl⟩ dL_law_1069 (fun H locs hP hS => ?_)
  refine lv_aload_n hx hb dL_law_1072 rfl (lv_at hl 1 rfl) ?_
  refine law_ld F X hS hl hi 1 (by decide) (by omega) dL_law_1073 dL_law_1074 dL_law_1075 dL_law_1076 dL_law_1077 ?_
  refine tb_callV F hP hS hl.1 kX7_trace km_L_138 (as := [.int (xs (i + 1))]) (tX7_trace g l (xs (i + 1)) M1 M2 r e7) tb_l297 ⟨rfl, rfl, Nat.le_of_ble_eq_true rfl, Nat.le_of_ble_eq_true rfl⟩ rfl (rest := [.int r]) rfl (st1 := [.int r, .int r]) rfl (Nat.le_of_ble_eq_true rfl) ⟨Nat.le_of_ble_eq_true rfl, Nat.le_of_ble_eq_true rfl⟩ dL_law_1078 (fun H locs hP hS => ?_)
  refine lv_icmp_eq (tgt := 1122) hx hb dL_law_1081 (by decide) (fun _ => ?_) (fun c1 => absurd rfl c1)
  exact kk M2 H locs hI2 hP hS
set_option maxHeartbeats 4000000 in
set_option maxRecDepth 100000 in
theorem law_k30 (F : tb_F g cL_law 4 RL ret cw p s m #[Value.ref b] meth c) (X : lw_X g b L xs s) (hI : Inv M) (hP : tb_P g M H) (hS : va_S (tb_A g) s.heap H locs) (hl : lv_has ls 4 (lw_lv g b i)) (hi : i + 6 ≤ L)
    (kk : ∀ (M2 : tb_Mem) (H2 : Heap) (locs2 : List Loc), Inv M2 → tb_P g M2 H2 → va_S (tb_A g) s.heap H2 locs2 → W p l e room_1 s m #[Value.ref b] below meth c H2 locs2 600000 7302250 Q (F0 m 1122 ls [])) : W p l e room_1 s m #[Value.ref b] below meth c H locs 600000 7302250 Q (F0 m 1086 ls []) := by
  have hx := F.1.1
  have hb := F.1.2.1
  obtain ⟨r, M1, M2, e6, e7, hI2⟩ := s_count (xs (i + 1)) M hI
  refine lv_aload_n hx hb dL_law_1086 rfl (lv_at hl 2 rfl) ?_
  refine law_ld F X hS hl hi 1 (by decide) (by omega) dL_law_1087 dL_law_1088 dL_law_1089 dL_law_1090 dL_law_1091 ?_
  refine tb_callV F hP hS hl.1 kX6_count km_L_139 (as := [.int (xs (i + 1))]) (tX6_count g l (xs (i + 1)) M M1 r e6) tb_l0 ⟨rfl, rfl, Nat.le_of_ble_eq_true rfl, Nat.le_of_ble_eq_true rfl⟩ rfl (rest := []) rfl (st1 := [.int r]) rfl (Nat.le_of_ble_eq_true rfl) ⟨Nat.le_of_ble_eq_true rfl, Nat.le_of_ble_eq_true rfl⟩ dL_law_1092 (fun H locs hP hS => ?_)
  refine lv_aload_n hx hb dL_law_1095 rfl (lv_at hl 1 rfl) ?_
  refine law_ld F X hS hl hi 1 (by decide) (by omega) dL_law_1096 dL_law_1097 dL_law_1098 dL_law_1099 dL_law_1100 ?_
  refine tb_callV F hP hS hl.1 kX7_count km_L_142 (as := [.int (xs (i + 1))]) (tX7_count g l (xs (i + 1)) M1 M2 r e7) tb_l297 ⟨rfl, rfl, Nat.le_of_ble_eq_true rfl, Nat.le_of_ble_eq_true rfl⟩ rfl (rest := [.int r]) rfl (st1 := [.int r, .int r]) rfl (Nat.le_of_ble_eq_true rfl) ⟨Nat.le_of_ble_eq_true rfl, Nat.le_of_ble_eq_true rfl⟩ dL_law_1101 (fun H locs hP hS => ?_)
  refine lv_icmp_eq (tgt := 1122) hx hb dL_law_1104 (by decide) (fun _ => ?_) (fun c1 => absurd rfl c1)
  exact kk M2 H locs hI2 hP hS
set_option maxHeartbeats 4000000 in
set_option maxRecDepth 100000 in
theorem law_k31 (F : tb_F g cL_law 4 RL ret cw p s m #[Value.ref b] meth c) (X : lw_X g b L xs s) (hI : Inv M) (hP : tb_P g M H) (hS : va_S (tb_A g) s.heap H locs) (hl : lv_has ls 4 (lw_lv g b i)) (hi : i + 6 ≤ L)
    (kk : ∀ (M2 : tb_Mem) (H2 : Heap) (locs2 : List Loc), Inv M2 → tb_P g M2 H2 → va_S (tb_A g) s.heap H2 locs2 → W p l e room_1 s m #[Value.ref b] below meth c H2 locs2 600000 7302250 Q (F0 m 1122 ls [])) : W p l e room_1 s m #[Value.ref b] below meth c H locs 600000 7302250 Q (F0 m 1109 ls []) := by
  have hx := F.1.1
  have hb := F.1.2.1
  obtain ⟨r, M1, M2, e6, e7, hI2⟩ := s_status M hI
  refine lv_aload_n hx hb dL_law_1109 rfl (lv_at hl 2 rfl) ?_
  refine tb_callV F hP hS hl.1 kX6_status km_L_143 (as := []) (tX6_status g l M M1 r e6) tb_l0 ⟨rfl, rfl, Nat.le_of_ble_eq_true rfl, Nat.le_of_ble_eq_true rfl⟩ rfl (rest := []) rfl (st1 := [.int r]) rfl (Nat.le_of_ble_eq_true rfl) ⟨Nat.le_of_ble_eq_true rfl, Nat.le_of_ble_eq_true rfl⟩ dL_law_1110 (fun H locs hP hS => ?_)
  refine lv_aload_n hx hb dL_law_1113 rfl (lv_at hl 1 rfl) ?_
  refine tb_callV F hP hS hl.1 kX7_status km_L_146 (as := []) (tX7_status g l M1 M2 r e7) tb_l297 ⟨rfl, rfl, Nat.le_of_ble_eq_true rfl, Nat.le_of_ble_eq_true rfl⟩ rfl (rest := [.int r]) rfl (st1 := [.int r, .int r]) rfl (Nat.le_of_ble_eq_true rfl) ⟨Nat.le_of_ble_eq_true rfl, Nat.le_of_ble_eq_true rfl⟩ dL_law_1114 (fun H locs hP hS => ?_)
  refine lv_icmp_eq (tgt := 1122) hx hb dL_law_1117 (by decide) (fun _ => ?_) (fun c1 => absurd rfl c1)
  exact kk M2 H locs hI2 hP hS
end LAWC
