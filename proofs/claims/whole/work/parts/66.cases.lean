theorem nar_i2c (x : Int32) : vp_nar .char (i_i2c x) = i_i2c x := by
  have e : (x.toUInt32 % 65536).toInt32.toUInt32.toUInt16.toUInt32 = x.toUInt32 % 65536 := by
    have e1 : (x.toUInt32 % 65536).toInt32.toUInt32 = x.toUInt32 % 65536 := by simp
    rw [e1]
    apply UInt32.toNat_inj.mp
    simp
  show ((i_i2c x).toUInt32.toUInt16.toUInt32).toInt32 = i_i2c x
  unfold i_i2c
  rw [e]
section LC
variable {p : Program} {l : Launch} {e : Env} {s : State} {m : MethodId} {args : Array Value} {below : List Frame} {meth : Method} {c : Code} {cells slots : Nat} {Q : State → Prop} {D : va_G} {q : Nat → ClassId} {ad : Nat → Nat} {d : UInt64} {S : Sx} {sa : Nat → Nat}
variable {b i L N : Nat} {xs : Nat → Int32}
theorem lc_rain (hst : l.stackTraces = false) (X : Cx p m c cL_law 9 s args RL D q ad) (F : XF ad s.heap.size sa s) (C : Scr b L xs ad s) (hi : i + 4 ≤ L) (hcs : cells + 2 ≤ 603072 ∧ slots + 12 ≤ 7207018) (hN : N + 4392 < 2 ^ 30) (I : Inv N S S) (nx : Nx p l e s m args below meth c cells slots Q D q ad b i N) : Jg p l e room_L s m args below meth c cells slots Q D q ad d 9 208 (lv0 b ad i) [] S := by
  obtain ⟨g1, g2, g3, g4, g5, g6⟩ := glue (N' := N) (codes := [(1, 1), (2, 2)]) (c := b_X6_rain_0 (xs (i + 1)) (xs (i + 2)) S) (mf := fun M => b_X7_rain_0 (xs (i + 1)) (xs (i + 2)) M) (om := fun M => o_X7_rain_0 (xs (i + 1)) (xs (i + 2)) M) (oc := o_X6_rain_0 (xs (i + 1)) (xs (i + 2)) S) (LR := b_L_rain (xs (i + 1)) (xs (i + 2)) S) I (fun M IM => L_rain IM (xs (i + 1)) (xs (i + 2))) (fun h => by simp [b_L_rain, h]) (fun e k hm he => by
    simp only [List.mem_cons, Prod.mk.injEq, List.not_mem_nil, or_false] at hm
    rcases hm with ⟨rfl, rfl⟩ | ⟨rfl, rfl⟩ <;> (unfold b_L_rain; rw [he]; rfl))
  have ho : o_L_rain (xs (i + 1)) (xs (i + 2)) S := by
    unfold o_L_rain
    simp only [List.mem_cons, List.not_mem_nil, or_false, exists_eq_or_imp, exists_eq_left] at g6
    exact ⟨g1, g6⟩
  refine j_aload_n X 2 dL_law_208 rfl ?_
  refine lw_arg X C 1 1 0 dL_law_209 dL_law_210 dL_law_212 rfl dL_law_213 dL_law_214 rfl rfl (by omega) ?_
  refine lw_arg X C 2 1 0 dL_law_215 dL_law_216 dL_law_218 rfl dL_law_219 dL_law_220 rfl rfl (by omega) ?_
  refine j_aload_n X 4 dL_law_221 rfl ?_
  refine lw_call (k := 4) (As := [.ref (ad 0), .int (xs (i + 1)), .int (xs (i + 2)), .ref (ad 13)]) (rest := []) X F (c_L_rain hst X.2.2.2.2.2.2.2 (xs (i + 1)) (xs (i + 2)) S ho) m_ml_L_137 m_st_L_rain m_in_L m_co_L_rain (by decide +kernel) ⟨rfl, rfl, Nat.le_of_ble_eq_true rfl, Nat.le_of_ble_eq_true rfl⟩ rfl rfl (Nat.le_of_ble_eq_true rfl) ⟨by show cells + 1 ≤ 603072; omega, by show slots + 6 ≤ 7207018; omega⟩ dL_law_222 ?_
  refine j_istore X ((6, .int (b_L_rain (xs (i + 1)) (xs (i + 2)) S).1) :: lv0 b ad i) dL_law_225 (by decide) rfl ?_
  refine j_aload_n X 4 dL_law_227 rfl ?_
  refine lw_arg X C 1 2 1 dL_law_228 dL_law_229 dL_law_231 rfl dL_law_232 dL_law_233 rfl rfl (by omega) ?_
  refine lw_arg X C 2 2 1 dL_law_234 dL_law_235 dL_law_237 rfl dL_law_238 dL_law_239 rfl rfl (by omega) ?_
  refine j_callVi (As := [.int (xs (i + 1)), .int (xs (i + 2))]) (rest := []) X (c_X7_rain X.2.2.2.2.2.2.2 (xs (i + 1)) (xs (i + 2)) _ g2) cw_L_142 kc25.1 (cl_25 kc25) rfl ⟨rfl, rfl, Nat.le_of_ble_eq_true rfl, Nat.le_of_ble_eq_true rfl⟩ rfl rfl (Nat.le_of_ble_eq_true rfl) ⟨by show cells + 1 ≤ 603072; omega, by show slots + 6 ≤ 7207018; omega⟩ dL_law_240 ?_
  refine j_istore X ((7, .int (b_X7_rain_0 (xs (i + 1)) (xs (i + 2)) (b_L_rain (xs (i + 1)) (xs (i + 2)) S).2).1) :: (6, .int (b_L_rain (xs (i + 1)) (xs (i + 2)) S).1) :: lv0 b ad i) dL_law_243 (by decide) rfl ?_
  refine lw_tail X ⟨by omega, by omega⟩ g3 (fun h => g4 h (by decide)) dL_law_245 dL_law_246 dL_law_249 dL_law_251 dL_law_256 dL_law_258 dL_law_261 dL_law_262 dL_law_263 dL_law_264 dL_law_266 dL_law_267 dL_law_268 dL_law_273 (by decide) ?_
  refine lw_next X [2, 3, 4, 5, 6, 7] rfl ?_
  exact j_widen (by omega) (by omega) (nx _ _ (g5.up (by omega)))
theorem lc_light (hst : l.stackTraces = false) (X : Cx p m c cL_law 9 s args RL D q ad) (F : XF ad s.heap.size sa s) (C : Scr b L xs ad s) (hi : i + 4 ≤ L) (hcs : cells + 2 ≤ 603072 ∧ slots + 12 ≤ 7207018) (hN : N + 4392 < 2 ^ 30) (I : Inv N S S) (nx : Nx p l e s m args below meth c cells slots Q D q ad b i N) : Jg p l e room_L s m args below meth c cells slots Q D q ad d 9 276 (lv0 b ad i) [] S := by
  obtain ⟨g1, g2, g3, g4, g5, g6⟩ := glue (N' := N) (codes := [(1, 1), (2, 2)]) (c := b_X6_light_0 (xs (i + 1)) (xs (i + 2)) S) (mf := fun M => b_X7_light_0 (xs (i + 1)) (xs (i + 2)) M) (om := fun M => o_X7_light_0 (xs (i + 1)) (xs (i + 2)) M) (oc := o_X6_light_0 (xs (i + 1)) (xs (i + 2)) S) (LR := b_L_light (xs (i + 1)) (xs (i + 2)) S) I (fun M IM => L_light IM (xs (i + 1)) (xs (i + 2))) (fun h => by simp [b_L_light, h]) (fun e k hm he => by
    simp only [List.mem_cons, Prod.mk.injEq, List.not_mem_nil, or_false] at hm
    rcases hm with ⟨rfl, rfl⟩ | ⟨rfl, rfl⟩ <;> (unfold b_L_light; rw [he]; rfl))
  have ho : o_L_light (xs (i + 1)) (xs (i + 2)) S := by
    unfold o_L_light
    simp only [List.mem_cons, List.not_mem_nil, or_false, exists_eq_or_imp, exists_eq_left] at g6
    exact ⟨g1, g6⟩
  refine j_aload_n X 2 dL_law_276 rfl ?_
  refine lw_arg X C 1 1 0 dL_law_277 dL_law_278 dL_law_280 rfl dL_law_281 dL_law_282 rfl rfl (by omega) ?_
  refine lw_arg X C 2 1 0 dL_law_283 dL_law_284 dL_law_286 rfl dL_law_287 dL_law_288 rfl rfl (by omega) ?_
  refine j_aload_n X 4 dL_law_289 rfl ?_
  refine lw_call (k := 4) (As := [.ref (ad 0), .int (xs (i + 1)), .int (xs (i + 2)), .ref (ad 13)]) (rest := []) X F (c_L_light hst X.2.2.2.2.2.2.2 (xs (i + 1)) (xs (i + 2)) S ho) m_ml_L_146 m_st_L_light m_in_L m_co_L_light (by decide +kernel) ⟨rfl, rfl, Nat.le_of_ble_eq_true rfl, Nat.le_of_ble_eq_true rfl⟩ rfl rfl (Nat.le_of_ble_eq_true rfl) ⟨by show cells + 1 ≤ 603072; omega, by show slots + 6 ≤ 7207018; omega⟩ dL_law_290 ?_
  refine j_istore X ((6, .int (b_L_light (xs (i + 1)) (xs (i + 2)) S).1) :: lv0 b ad i) dL_law_293 (by decide) rfl ?_
  refine j_aload_n X 4 dL_law_295 rfl ?_
  refine lw_arg X C 1 2 1 dL_law_296 dL_law_297 dL_law_299 rfl dL_law_300 dL_law_301 rfl rfl (by omega) ?_
  refine lw_arg X C 2 2 1 dL_law_302 dL_law_303 dL_law_305 rfl dL_law_306 dL_law_307 rfl rfl (by omega) ?_
  refine j_callVi (As := [.int (xs (i + 1)), .int (xs (i + 2))]) (rest := []) X (c_X7_light X.2.2.2.2.2.2.2 (xs (i + 1)) (xs (i + 2)) _ g2) cw_L_148 kc25.1 (cl_25 kc25) rfl ⟨rfl, rfl, Nat.le_of_ble_eq_true rfl, Nat.le_of_ble_eq_true rfl⟩ rfl rfl (Nat.le_of_ble_eq_true rfl) ⟨by show cells + 1 ≤ 603072; omega, by show slots + 6 ≤ 7207018; omega⟩ dL_law_308 ?_
  refine j_istore X ((7, .int (b_X7_light_0 (xs (i + 1)) (xs (i + 2)) (b_L_light (xs (i + 1)) (xs (i + 2)) S).2).1) :: (6, .int (b_L_light (xs (i + 1)) (xs (i + 2)) S).1) :: lv0 b ad i) dL_law_311 (by decide) rfl ?_
  refine lw_tail X ⟨by omega, by omega⟩ g3 (fun h => g4 h (by decide)) dL_law_313 dL_law_314 dL_law_317 dL_law_319 dL_law_324 dL_law_326 dL_law_329 dL_law_330 dL_law_331 dL_law_332 dL_law_334 dL_law_335 dL_law_336 dL_law_341 (by decide) ?_
  refine lw_next X [2, 3, 4, 5, 6, 7] rfl ?_
  exact j_widen (by omega) (by omega) (nx _ _ (g5.up (by omega)))
theorem lc_bell (hst : l.stackTraces = false) (X : Cx p m c cL_law 9 s args RL D q ad) (F : XF ad s.heap.size sa s) (C : Scr b L xs ad s) (hi : i + 4 ≤ L) (hcs : cells + 2 ≤ 603072 ∧ slots + 12 ≤ 7207018) (hN : N + 4392 < 2 ^ 30) (I : Inv N S S) (nx : Nx p l e s m args below meth c cells slots Q D q ad b i N) : Jg p l e room_L s m args below meth c cells slots Q D q ad d 9 344 (lv0 b ad i) [] S := by
  obtain ⟨g1, g2, g3, g4, g5, g6⟩ := glue (N' := N) (codes := [(1, 1)]) (c := b_X6_bell_0 (xs (i + 1)) S) (mf := fun M => b_X7_bell_0 (xs (i + 1)) M) (om := fun M => o_X7_bell_0 (xs (i + 1)) M) (oc := o_X6_bell_0 (xs (i + 1)) S) (LR := b_L_bell (xs (i + 1)) S) I (fun M IM => L_bell IM (xs (i + 1))) (fun h => by simp [b_L_bell, h]) (fun e k hm he => by
    simp only [List.mem_cons, Prod.mk.injEq, List.not_mem_nil, or_false] at hm
    rcases hm with ⟨rfl, rfl⟩ <;> (unfold b_L_bell; rw [he]; rfl))
  have ho : o_L_bell (xs (i + 1)) S := by
    unfold o_L_bell
    simp only [List.mem_cons, List.not_mem_nil, or_false, exists_eq_or_imp, exists_eq_left] at g6
    exact ⟨g1, g6⟩
  refine j_aload_n X 2 dL_law_344 rfl ?_
  refine lw_arg X C 1 1 0 dL_law_345 dL_law_346 dL_law_348 rfl dL_law_349 dL_law_350 rfl rfl (by omega) ?_
  refine j_aload_n X 4 dL_law_351 rfl ?_
  refine lw_call (k := 3) (As := [.ref (ad 0), .int (xs (i + 1)), .ref (ad 13)]) (rest := []) X F (c_L_bell hst X.2.2.2.2.2.2.2 (xs (i + 1)) S ho) m_ml_L_149 m_st_L_bell m_in_L m_co_L_bell (by decide +kernel) ⟨rfl, rfl, Nat.le_of_ble_eq_true rfl, Nat.le_of_ble_eq_true rfl⟩ rfl rfl (Nat.le_of_ble_eq_true rfl) ⟨by show cells + 1 ≤ 603072; omega, by show slots + 6 ≤ 7207018; omega⟩ dL_law_352 ?_
  refine j_istore X ((6, .int (b_L_bell (xs (i + 1)) S).1) :: lv0 b ad i) dL_law_355 (by decide) rfl ?_
  refine j_aload_n X 4 dL_law_357 rfl ?_
  refine lw_arg X C 1 2 1 dL_law_358 dL_law_359 dL_law_361 rfl dL_law_362 dL_law_363 rfl rfl (by omega) ?_
  refine j_callVi (As := [.int (xs (i + 1))]) (rest := []) X (c_X7_bell X.2.2.2.2.2.2.2 (xs (i + 1)) _ g2) cw_L_152 kc25.1 (cl_25 kc25) rfl ⟨rfl, rfl, Nat.le_of_ble_eq_true rfl, Nat.le_of_ble_eq_true rfl⟩ rfl rfl (Nat.le_of_ble_eq_true rfl) ⟨by show cells + 1 ≤ 603072; omega, by show slots + 6 ≤ 7207018; omega⟩ dL_law_364 ?_
  refine j_istore X ((7, .int (b_X7_bell_0 (xs (i + 1)) (b_L_bell (xs (i + 1)) S).2).1) :: (6, .int (b_L_bell (xs (i + 1)) S).1) :: lv0 b ad i) dL_law_367 (by decide) rfl ?_
  refine lw_tail X ⟨by omega, by omega⟩ g3 (fun h => g4 h (by decide)) dL_law_369 dL_law_370 dL_law_373 dL_law_375 dL_law_380 dL_law_382 dL_law_385 dL_law_386 dL_law_387 dL_law_388 dL_law_390 dL_law_391 dL_law_392 dL_law_397 (by decide) ?_
  refine lw_next X [2, 3, 4, 5, 6, 7] rfl ?_
  exact j_widen (by omega) (by omega) (nx _ _ (g5.up (by omega)))
theorem lc_weather (hst : l.stackTraces = false) (X : Cx p m c cL_law 9 s args RL D q ad) (F : XF ad s.heap.size sa s) (C : Scr b L xs ad s) (hi : i + 4 ≤ L) (hcs : cells + 2 ≤ 603072 ∧ slots + 12 ≤ 7207018) (hN : N + 4392 < 2 ^ 30) (I : Inv N S S) (nx : Nx p l e s m args below meth c cells slots Q D q ad b i N) : Jg p l e room_L s m args below meth c cells slots Q D q ad d 9 400 (lv0 b ad i) [] S := by
  obtain ⟨g1, g2, g3, g4, g5, g6⟩ := glue (N' := N) (codes := [(1, 1)]) (c := b_X6_weather_0 (xs (i + 1)) (bx (xs (i + 2))) S) (mf := fun M => b_X7_weather_0 (xs (i + 1)) (bx (xs (i + 2))) M) (om := fun M => o_X7_weather_0 (xs (i + 1)) (bx (xs (i + 2))) M) (oc := o_X6_weather_0 (xs (i + 1)) (bx (xs (i + 2))) S) (LR := b_L_weather (xs (i + 1)) (bx (xs (i + 2))) S) I (fun M IM => L_weather IM (xs (i + 1)) (bx (xs (i + 2)))) (fun h => by simp [b_L_weather, h]) (fun e k hm he => by
    simp only [List.mem_cons, Prod.mk.injEq, List.not_mem_nil, or_false] at hm
    rcases hm with ⟨rfl, rfl⟩ <;> (unfold b_L_weather; rw [he]; rfl))
  have ho : o_L_weather (xs (i + 1)) (bx (xs (i + 2))) S := by
    unfold o_L_weather
    simp only [List.mem_cons, List.not_mem_nil, or_false, exists_eq_or_imp, exists_eq_left] at g6
    exact ⟨g1, g6⟩
  refine j_aload_n X 2 dL_law_400 rfl ?_
  refine lw_arg X C 1 1 0 dL_law_401 dL_law_402 dL_law_404 rfl dL_law_405 dL_law_406 rfl rfl (by omega) ?_
  refine lw_arg X C 2 1 0 dL_law_407 dL_law_408 dL_law_410 rfl dL_law_411 dL_law_412 rfl rfl (by omega) ?_
  refine lw_bool X dL_law_413 dL_law_416 dL_law_417 dL_law_420 ?_
  refine j_aload_n X 4 dL_law_421 rfl ?_
  refine lw_call (k := 4) (As := [.ref (ad 0), .int (xs (i + 1)), .int (bx (xs (i + 2))), .ref (ad 13)]) (rest := []) X F (c_L_weather hst X.2.2.2.2.2.2.2 (xs (i + 1)) (bx (xs (i + 2))) S ho) m_ml_L_153 m_st_L_weather m_in_L m_co_L_weather (by decide +kernel) ⟨rfl, rfl, Nat.le_of_ble_eq_true rfl, Nat.le_of_ble_eq_true rfl⟩ rfl rfl (Nat.le_of_ble_eq_true rfl) ⟨by show cells + 1 ≤ 603072; omega, by show slots + 6 ≤ 7207018; omega⟩ dL_law_422 ?_
  refine j_istore X ((6, .int (b_L_weather (xs (i + 1)) (bx (xs (i + 2))) S).1) :: lv0 b ad i) dL_law_425 (by decide) rfl ?_
  refine j_aload_n X 4 dL_law_427 rfl ?_
  refine lw_arg X C 1 2 1 dL_law_428 dL_law_429 dL_law_431 rfl dL_law_432 dL_law_433 rfl rfl (by omega) ?_
  refine lw_arg X C 2 2 1 dL_law_434 dL_law_435 dL_law_437 rfl dL_law_438 dL_law_439 rfl rfl (by omega) ?_
  refine lw_bool X dL_law_440 dL_law_443 dL_law_444 dL_law_447 ?_
  refine j_callVi (As := [.int (xs (i + 1)), .int (bx (xs (i + 2)))]) (rest := []) X (c_X7_weather X.2.2.2.2.2.2.2 (xs (i + 1)) (bx (xs (i + 2))) _ g2) cw_L_156 kc25.1 (cl_25 kc25) rfl ⟨rfl, rfl, Nat.le_of_ble_eq_true rfl, Nat.le_of_ble_eq_true rfl⟩ rfl rfl (Nat.le_of_ble_eq_true rfl) ⟨by show cells + 1 ≤ 603072; omega, by show slots + 6 ≤ 7207018; omega⟩ dL_law_448 ?_
  refine j_istore X ((7, .int (b_X7_weather_0 (xs (i + 1)) (bx (xs (i + 2))) (b_L_weather (xs (i + 1)) (bx (xs (i + 2))) S).2).1) :: (6, .int (b_L_weather (xs (i + 1)) (bx (xs (i + 2))) S).1) :: lv0 b ad i) dL_law_451 (by decide) rfl ?_
  refine lw_tail X ⟨by omega, by omega⟩ g3 (fun h => g4 h (by decide)) dL_law_453 dL_law_454 dL_law_457 dL_law_459 dL_law_464 dL_law_466 dL_law_469 dL_law_470 dL_law_471 dL_law_472 dL_law_474 dL_law_475 dL_law_476 dL_law_481 (by decide) ?_
  refine lw_next X [2, 3, 4, 5, 6, 7] rfl ?_
  exact j_widen (by omega) (by omega) (nx _ _ (g5.up (by omega)))
theorem lc_pitch (hst : l.stackTraces = false) (X : Cx p m c cL_law 9 s args RL D q ad) (F : XF ad s.heap.size sa s) (C : Scr b L xs ad s) (hi : i + 4 ≤ L) (hcs : cells + 2 ≤ 603072 ∧ slots + 12 ≤ 7207018) (hN : N + 4392 < 2 ^ 30) (I : Inv N S S) (nx : Nx p l e s m args below meth c cells slots Q D q ad b i N) : Jg p l e room_L s m args below meth c cells slots Q D q ad d 9 484 (lv0 b ad i) [] S := by
  obtain ⟨g1, g2, g3, g4, g5, g6⟩ := glue (N' := N) (codes := [(3, 1)]) (c := b_X6_pitch_0 S) (mf := fun M => b_X7_pitch_0 M) (om := fun M => o_X7_pitch_0 M) (oc := o_X6_pitch_0 S) (LR := b_L_pitch S) I (fun M IM => L_pitch IM) (fun h => by simp [b_L_pitch, h]) (fun e k hm he => by
    simp only [List.mem_cons, Prod.mk.injEq, List.not_mem_nil, or_false] at hm
    rcases hm with ⟨rfl, rfl⟩ <;> (unfold b_L_pitch; rw [he]; rfl))
  have ho : o_L_pitch S := by
    unfold o_L_pitch
    simp only [List.mem_cons, List.not_mem_nil, or_false, exists_eq_or_imp, exists_eq_left] at g6
    exact ⟨g1, g6⟩
  refine j_aload_n X 2 dL_law_484 rfl ?_
  refine j_aload_n X 4 dL_law_485 rfl ?_
  refine lw_call (k := 2) (As := [.ref (ad 0), .ref (ad 13)]) (rest := []) X F (c_L_pitch hst X.2.2.2.2.2.2.2 S ho) m_ml_L_157 m_st_L_pitch m_in_L m_co_L_pitch (by decide +kernel) ⟨rfl, rfl, Nat.le_of_ble_eq_true rfl, Nat.le_of_ble_eq_true rfl⟩ rfl rfl (Nat.le_of_ble_eq_true rfl) ⟨by show cells + 1 ≤ 603072; omega, by show slots + 6 ≤ 7207018; omega⟩ dL_law_486 ?_
  refine j_istore X ((6, .int (b_L_pitch S).1) :: lv0 b ad i) dL_law_489 (by decide) rfl ?_
  refine j_aload_n X 4 dL_law_491 rfl ?_
  refine j_callVi (As := []) (rest := []) X (c_X7_pitch X.2.2.2.2.2.2.2 _ g2) cw_L_160 kc25.1 (cl_25 kc25) rfl ⟨rfl, rfl, Nat.le_of_ble_eq_true rfl, Nat.le_of_ble_eq_true rfl⟩ rfl rfl (Nat.le_of_ble_eq_true rfl) ⟨by show cells + 1 ≤ 603072; omega, by show slots + 6 ≤ 7207018; omega⟩ dL_law_492 ?_
  refine j_istore X ((7, .int (b_X7_pitch_0 (b_L_pitch S).2).1) :: (6, .int (b_L_pitch S).1) :: lv0 b ad i) dL_law_495 (by decide) rfl ?_
  refine lw_tail X ⟨by omega, by omega⟩ g3 (fun h => g4 h (by decide)) dL_law_497 dL_law_498 dL_law_501 dL_law_503 dL_law_508 dL_law_510 dL_law_513 dL_law_514 dL_law_515 dL_law_516 dL_law_518 dL_law_519 dL_law_520 dL_law_525 (by decide) ?_
  refine lw_next X [2, 3, 4, 5, 6, 7] rfl ?_
  exact j_widen (by omega) (by omega) (nx _ _ (g5.up (by omega)))
theorem lc_cover (hst : l.stackTraces = false) (X : Cx p m c cL_law 9 s args RL D q ad) (F : XF ad s.heap.size sa s) (C : Scr b L xs ad s) (hi : i + 4 ≤ L) (hcs : cells + 2 ≤ 603072 ∧ slots + 12 ≤ 7207018) (hN : N + 4392 < 2 ^ 30) (I : Inv N S S) (nx : Nx p l e s m args below meth c cells slots Q D q ad b i N) : Jg p l e room_L s m args below meth c cells slots Q D q ad d 9 528 (lv0 b ad i) [] S := by
  obtain ⟨g1, g2, g3, g4, g5, g6⟩ := glue (N' := N) (codes := [(1, 1), (3, 2)]) (c := b_X6_cover_0 (xs (i + 1)) (bx (xs (i + 2))) S) (mf := fun M => b_X7_cover_0 (xs (i + 1)) (bx (xs (i + 2))) M) (om := fun M => o_X7_cover_0 (xs (i + 1)) (bx (xs (i + 2))) M) (oc := o_X6_cover_0 (xs (i + 1)) (bx (xs (i + 2))) S) (LR := b_L_cover (xs (i + 1)) (bx (xs (i + 2))) S) I (fun M IM => L_cover IM (xs (i + 1)) (bx (xs (i + 2))) bz_bx) (fun h => by simp [b_L_cover, h]) (fun e k hm he => by
    simp only [List.mem_cons, Prod.mk.injEq, List.not_mem_nil, or_false] at hm
    rcases hm with ⟨rfl, rfl⟩ | ⟨rfl, rfl⟩ <;> (unfold b_L_cover; rw [he]; rfl))
  have ho : o_L_cover (xs (i + 1)) (bx (xs (i + 2))) S := by
    unfold o_L_cover
    simp only [List.mem_cons, List.not_mem_nil, or_false, exists_eq_or_imp, exists_eq_left] at g6
    exact ⟨g1, g6⟩
  refine j_aload_n X 2 dL_law_528 rfl ?_
  refine lw_arg X C 1 1 0 dL_law_529 dL_law_530 dL_law_532 rfl dL_law_533 dL_law_534 rfl rfl (by omega) ?_
  refine lw_arg X C 2 1 0 dL_law_535 dL_law_536 dL_law_538 rfl dL_law_539 dL_law_540 rfl rfl (by omega) ?_
  refine lw_bool X dL_law_541 dL_law_544 dL_law_545 dL_law_548 ?_
  refine j_aload_n X 4 dL_law_549 rfl ?_
  refine lw_call (k := 4) (As := [.ref (ad 0), .int (xs (i + 1)), .int (bx (xs (i + 2))), .ref (ad 13)]) (rest := []) X F (c_L_cover hst X.2.2.2.2.2.2.2 (xs (i + 1)) (bx (xs (i + 2))) S ho) m_ml_L_161 m_st_L_cover m_in_L m_co_L_cover (by decide +kernel) ⟨rfl, rfl, Nat.le_of_ble_eq_true rfl, Nat.le_of_ble_eq_true rfl⟩ rfl rfl (Nat.le_of_ble_eq_true rfl) ⟨by show cells + 1 ≤ 603072; omega, by show slots + 6 ≤ 7207018; omega⟩ dL_law_550 ?_
  refine j_istore X ((6, .int (b_L_cover (xs (i + 1)) (bx (xs (i + 2))) S).1) :: lv0 b ad i) dL_law_553 (by decide) rfl ?_
  refine j_aload_n X 4 dL_law_555 rfl ?_
  refine lw_arg X C 1 2 1 dL_law_556 dL_law_557 dL_law_559 rfl dL_law_560 dL_law_561 rfl rfl (by omega) ?_
  refine lw_arg X C 2 2 1 dL_law_562 dL_law_563 dL_law_565 rfl dL_law_566 dL_law_567 rfl rfl (by omega) ?_
  refine lw_bool X dL_law_568 dL_law_571 dL_law_572 dL_law_575 ?_
  refine j_callVi (As := [.int (xs (i + 1)), .int (bx (xs (i + 2)))]) (rest := []) X (c_X7_cover X.2.2.2.2.2.2.2 (xs (i + 1)) (bx (xs (i + 2))) _ g2) cw_L_163 kc25.1 (cl_25 kc25) rfl ⟨rfl, rfl, Nat.le_of_ble_eq_true rfl, Nat.le_of_ble_eq_true rfl⟩ rfl rfl (Nat.le_of_ble_eq_true rfl) ⟨by show cells + 1 ≤ 603072; omega, by show slots + 6 ≤ 7207018; omega⟩ dL_law_576 ?_
  refine j_istore X ((7, .int (b_X7_cover_0 (xs (i + 1)) (bx (xs (i + 2))) (b_L_cover (xs (i + 1)) (bx (xs (i + 2))) S).2).1) :: (6, .int (b_L_cover (xs (i + 1)) (bx (xs (i + 2))) S).1) :: lv0 b ad i) dL_law_579 (by decide) rfl ?_
  refine lw_tail X ⟨by omega, by omega⟩ g3 (fun h => g4 h (by decide)) dL_law_581 dL_law_582 dL_law_585 dL_law_587 dL_law_592 dL_law_594 dL_law_597 dL_law_598 dL_law_599 dL_law_600 dL_law_602 dL_law_603 dL_law_604 dL_law_609 (by decide) ?_
  refine lw_next X [2, 3, 4, 5, 6, 7] rfl ?_
  exact j_widen (by omega) (by omega) (nx _ _ (g5.up (by omega)))
theorem lc_pitchOf (hst : l.stackTraces = false) (X : Cx p m c cL_law 9 s args RL D q ad) (F : XF ad s.heap.size sa s) (C : Scr b L xs ad s) (hi : i + 4 ≤ L) (hcs : cells + 2 ≤ 603072 ∧ slots + 12 ≤ 7207018) (hN : N + 4392 < 2 ^ 30) (I : Inv N S S) (nx : Nx p l e s m args below meth c cells slots Q D q ad b i N) : Jg p l e room_L s m args below meth c cells slots Q D q ad d 9 612 (lv0 b ad i) [] S := by
  obtain ⟨g1, g2, g3, g4, g5, g6⟩ := glue (N' := N) (codes := [(1, 1), (2, 2)]) (c := b_X6_pitchOf_0 (xs (i + 1)) (xs (i + 2)) S) (mf := fun M => b_X7_pitchOf_0 (xs (i + 1)) (xs (i + 2)) M) (om := fun M => o_X7_pitchOf_0 (xs (i + 1)) (xs (i + 2)) M) (oc := o_X6_pitchOf_0 (xs (i + 1)) (xs (i + 2)) S) (LR := b_L_pitchOf (xs (i + 1)) (xs (i + 2)) S) I (fun M IM => L_pitchOf IM (xs (i + 1)) (xs (i + 2))) (fun h => by simp [b_L_pitchOf, h]) (fun e k hm he => by
    simp only [List.mem_cons, Prod.mk.injEq, List.not_mem_nil, or_false] at hm
    rcases hm with ⟨rfl, rfl⟩ | ⟨rfl, rfl⟩ <;> (unfold b_L_pitchOf; rw [he]; rfl))
  have ho : o_L_pitchOf (xs (i + 1)) (xs (i + 2)) S := by
    unfold o_L_pitchOf
    simp only [List.mem_cons, List.not_mem_nil, or_false, exists_eq_or_imp, exists_eq_left] at g6
    exact ⟨g1, g6⟩
  refine j_aload_n X 2 dL_law_612 rfl ?_
  refine lw_arg X C 1 1 0 dL_law_613 dL_law_614 dL_law_616 rfl dL_law_617 dL_law_618 rfl rfl (by omega) ?_
  refine lw_arg X C 2 1 0 dL_law_619 dL_law_620 dL_law_622 rfl dL_law_623 dL_law_624 rfl rfl (by omega) ?_
  refine j_aload_n X 4 dL_law_625 rfl ?_
  refine lw_call (k := 4) (As := [.ref (ad 0), .int (xs (i + 1)), .int (xs (i + 2)), .ref (ad 13)]) (rest := []) X F (c_L_pitchOf hst X.2.2.2.2.2.2.2 (xs (i + 1)) (xs (i + 2)) S ho) m_ml_L_164 m_st_L_pitchOf m_in_L m_co_L_pitchOf (by decide +kernel) ⟨rfl, rfl, Nat.le_of_ble_eq_true rfl, Nat.le_of_ble_eq_true rfl⟩ rfl rfl (Nat.le_of_ble_eq_true rfl) ⟨by show cells + 2 ≤ 603072; omega, by show slots + 12 ≤ 7207018; omega⟩ dL_law_626 ?_
  refine j_istore X ((6, .int (b_L_pitchOf (xs (i + 1)) (xs (i + 2)) S).1) :: lv0 b ad i) dL_law_629 (by decide) rfl ?_
  refine j_aload_n X 4 dL_law_631 rfl ?_
  refine lw_arg X C 1 2 1 dL_law_632 dL_law_633 dL_law_635 rfl dL_law_636 dL_law_637 rfl rfl (by omega) ?_
  refine lw_arg X C 2 2 1 dL_law_638 dL_law_639 dL_law_641 rfl dL_law_642 dL_law_643 rfl rfl (by omega) ?_
  refine j_callVi (As := [.int (xs (i + 1)), .int (xs (i + 2))]) (rest := []) X (c_X7_pitchOf X.2.2.2.2.2.2.2 (xs (i + 1)) (xs (i + 2)) _ g2) cw_L_166 kc25.1 (cl_25 kc25) rfl ⟨rfl, rfl, Nat.le_of_ble_eq_true rfl, Nat.le_of_ble_eq_true rfl⟩ rfl rfl (Nat.le_of_ble_eq_true rfl) ⟨by show cells + 2 ≤ 603072; omega, by show slots + 12 ≤ 7207018; omega⟩ dL_law_644 ?_
  refine j_istore X ((7, .int (b_X7_pitchOf_0 (xs (i + 1)) (xs (i + 2)) (b_L_pitchOf (xs (i + 1)) (xs (i + 2)) S).2).1) :: (6, .int (b_L_pitchOf (xs (i + 1)) (xs (i + 2)) S).1) :: lv0 b ad i) dL_law_647 (by decide) rfl ?_
  refine lw_tail X ⟨by omega, by omega⟩ g3 (fun h => g4 h (by decide)) dL_law_649 dL_law_650 dL_law_653 dL_law_655 dL_law_660 dL_law_662 dL_law_665 dL_law_666 dL_law_667 dL_law_668 dL_law_670 dL_law_671 dL_law_672 dL_law_677 (by decide) ?_
  refine lw_next X [2, 3, 4, 5, 6, 7] rfl ?_
  exact j_widen (by omega) (by omega) (nx _ _ (g5.up (by omega)))
theorem lc_sign (hst : l.stackTraces = false) (X : Cx p m c cL_law 9 s args RL D q ad) (F : XF ad s.heap.size sa s) (C : Scr b L xs ad s) (hi : i + 4 ≤ L) (hcs : cells + 2 ≤ 603072 ∧ slots + 12 ≤ 7207018) (hN : N + 4392 < 2 ^ 30) (I : Inv N S S) (nx : Nx p l e s m args below meth c cells slots Q D q ad b i N) : Jg p l e room_L s m args below meth c cells slots Q D q ad d 9 680 (lv0 b ad i) [] S := by
  obtain ⟨g1, g2, g3, g4, g5, g6⟩ := glue (N' := N) (codes := [(1, 1)]) (c := b_X6_sign_0 (xs (i + 1)) S) (mf := fun M => b_X7_sign_0 (xs (i + 1)) M) (om := fun M => o_X7_sign_0 (xs (i + 1)) M) (oc := o_X6_sign_0 (xs (i + 1)) S) (LR := b_L_sign (xs (i + 1)) S) I (fun M IM => L_sign IM (xs (i + 1))) (fun h => by simp [b_L_sign, h]) (fun e k hm he => by
    simp only [List.mem_cons, Prod.mk.injEq, List.not_mem_nil, or_false] at hm
    rcases hm with ⟨rfl, rfl⟩ <;> (unfold b_L_sign; rw [he]; rfl))
  have ho : o_L_sign (xs (i + 1)) S := by
    unfold o_L_sign
    simp only [List.mem_cons, List.not_mem_nil, or_false, exists_eq_or_imp, exists_eq_left] at g6
    exact ⟨g1, g6⟩
  refine j_aload_n X 2 dL_law_680 rfl ?_
  refine lw_arg X C 1 1 0 dL_law_681 dL_law_682 dL_law_684 rfl dL_law_685 dL_law_686 rfl rfl (by omega) ?_
  refine j_aload_n X 4 dL_law_687 rfl ?_
  refine lw_call (k := 3) (As := [.ref (ad 0), .int (xs (i + 1)), .ref (ad 13)]) (rest := []) X F (c_L_sign hst X.2.2.2.2.2.2.2 (xs (i + 1)) S ho) m_ml_L_167 m_st_L_sign m_in_L m_co_L_sign (by decide +kernel) ⟨rfl, rfl, Nat.le_of_ble_eq_true rfl, Nat.le_of_ble_eq_true rfl⟩ rfl rfl (Nat.le_of_ble_eq_true rfl) ⟨by show cells + 1 ≤ 603072; omega, by show slots + 6 ≤ 7207018; omega⟩ dL_law_688 ?_
  refine j_istore X ((6, .int (b_L_sign (xs (i + 1)) S).1) :: lv0 b ad i) dL_law_691 (by decide) rfl ?_
  refine j_aload_n X 4 dL_law_693 rfl ?_
  refine lw_arg X C 1 2 1 dL_law_694 dL_law_695 dL_law_697 rfl dL_law_698 dL_law_699 rfl rfl (by omega) ?_
  refine j_callVi (As := [.int (xs (i + 1))]) (rest := []) X (c_X7_sign X.2.2.2.2.2.2.2 (xs (i + 1)) _ g2) cw_L_169 kc25.1 (cl_25 kc25) rfl ⟨rfl, rfl, Nat.le_of_ble_eq_true rfl, Nat.le_of_ble_eq_true rfl⟩ rfl rfl (Nat.le_of_ble_eq_true rfl) ⟨by show cells + 1 ≤ 603072; omega, by show slots + 6 ≤ 7207018; omega⟩ dL_law_700 ?_
  refine j_istore X ((7, .int (b_X7_sign_0 (xs (i + 1)) (b_L_sign (xs (i + 1)) S).2).1) :: (6, .int (b_L_sign (xs (i + 1)) S).1) :: lv0 b ad i) dL_law_703 (by decide) rfl ?_
  refine lw_tail X ⟨by omega, by omega⟩ g3 (fun h => g4 h (by decide)) dL_law_705 dL_law_706 dL_law_709 dL_law_711 dL_law_716 dL_law_718 dL_law_721 dL_law_722 dL_law_723 dL_law_724 dL_law_726 dL_law_727 dL_law_728 dL_law_733 (by decide) ?_
  refine lw_next X [2, 3, 4, 5, 6, 7] rfl ?_
  exact j_widen (by omega) (by omega) (nx _ _ (g5.up (by omega)))
theorem lc_horse (hst : l.stackTraces = false) (X : Cx p m c cL_law 9 s args RL D q ad) (F : XF ad s.heap.size sa s) (C : Scr b L xs ad s) (hi : i + 4 ≤ L) (hcs : cells + 2 ≤ 603072 ∧ slots + 12 ≤ 7207018) (hN : N + 4392 < 2 ^ 30) (I : Inv N S S) (nx : Nx p l e s m args below meth c cells slots Q D q ad b i N) : Jg p l e room_L s m args below meth c cells slots Q D q ad d 9 736 (lv0 b ad i) [] S := by
  obtain ⟨g1, g2, g3, g4, g5, g6⟩ := glue (N' := N) (codes := [(2, 1), (3, 2)]) (c := b_X6_horse_0 (xs (i + 1)) (bx (xs (i + 2))) S) (mf := fun M => b_X7_horse_0 (xs (i + 1)) (bx (xs (i + 2))) M) (om := fun M => o_X7_horse_0 (xs (i + 1)) (bx (xs (i + 2))) M) (oc := o_X6_horse_0 (xs (i + 1)) (bx (xs (i + 2))) S) (LR := b_L_horse (xs (i + 1)) (bx (xs (i + 2))) S) I (fun M IM => L_horse IM (xs (i + 1)) (bx (xs (i + 2))) bz_bx) (fun h => by simp [b_L_horse, h]) (fun e k hm he => by
    simp only [List.mem_cons, Prod.mk.injEq, List.not_mem_nil, or_false] at hm
    rcases hm with ⟨rfl, rfl⟩ | ⟨rfl, rfl⟩ <;> (unfold b_L_horse; rw [he]; rfl))
  have ho : o_L_horse (xs (i + 1)) (bx (xs (i + 2))) S := by
    unfold o_L_horse
    simp only [List.mem_cons, List.not_mem_nil, or_false, exists_eq_or_imp, exists_eq_left] at g6
    exact ⟨g1, g6⟩
  refine j_aload_n X 2 dL_law_736 rfl ?_
  refine lw_arg X C 1 1 0 dL_law_737 dL_law_738 dL_law_740 rfl dL_law_741 dL_law_742 rfl rfl (by omega) ?_
  refine lw_arg X C 2 1 0 dL_law_743 dL_law_744 dL_law_746 rfl dL_law_747 dL_law_748 rfl rfl (by omega) ?_
  refine lw_bool X dL_law_749 dL_law_752 dL_law_753 dL_law_756 ?_
  refine j_aload_n X 4 dL_law_757 rfl ?_
  refine lw_call (k := 4) (As := [.ref (ad 0), .int (xs (i + 1)), .int (bx (xs (i + 2))), .ref (ad 13)]) (rest := []) X F (c_L_horse hst X.2.2.2.2.2.2.2 (xs (i + 1)) (bx (xs (i + 2))) S ho) m_ml_L_170 m_st_L_horse m_in_L m_co_L_horse (by decide +kernel) ⟨rfl, rfl, Nat.le_of_ble_eq_true rfl, Nat.le_of_ble_eq_true rfl⟩ rfl rfl (Nat.le_of_ble_eq_true rfl) ⟨by show cells + 2 ≤ 603072; omega, by show slots + 12 ≤ 7207018; omega⟩ dL_law_758 ?_
  refine j_istore X ((6, .int (b_L_horse (xs (i + 1)) (bx (xs (i + 2))) S).1) :: lv0 b ad i) dL_law_761 (by decide) rfl ?_
  refine j_aload_n X 4 dL_law_763 rfl ?_
  refine lw_arg X C 1 2 1 dL_law_764 dL_law_765 dL_law_767 rfl dL_law_768 dL_law_769 rfl rfl (by omega) ?_
  refine lw_arg X C 2 2 1 dL_law_770 dL_law_771 dL_law_773 rfl dL_law_774 dL_law_775 rfl rfl (by omega) ?_
  refine lw_bool X dL_law_776 dL_law_779 dL_law_780 dL_law_783 ?_
  refine j_callVi (As := [.int (xs (i + 1)), .int (bx (xs (i + 2)))]) (rest := []) X (c_X7_horse X.2.2.2.2.2.2.2 (xs (i + 1)) (bx (xs (i + 2))) _ g2) cw_L_172 kc25.1 (cl_25 kc25) rfl ⟨rfl, rfl, Nat.le_of_ble_eq_true rfl, Nat.le_of_ble_eq_true rfl⟩ rfl rfl (Nat.le_of_ble_eq_true rfl) ⟨by show cells + 2 ≤ 603072; omega, by show slots + 12 ≤ 7207018; omega⟩ dL_law_784 ?_
  refine j_istore X ((7, .int (b_X7_horse_0 (xs (i + 1)) (bx (xs (i + 2))) (b_L_horse (xs (i + 1)) (bx (xs (i + 2))) S).2).1) :: (6, .int (b_L_horse (xs (i + 1)) (bx (xs (i + 2))) S).1) :: lv0 b ad i) dL_law_787 (by decide) rfl ?_
  refine lw_tail X ⟨by omega, by omega⟩ g3 (fun h => g4 h (by decide)) dL_law_789 dL_law_790 dL_law_793 dL_law_795 dL_law_800 dL_law_802 dL_law_805 dL_law_806 dL_law_807 dL_law_808 dL_law_810 dL_law_811 dL_law_812 dL_law_817 (by decide) ?_
  refine lw_next X [2, 3, 4, 5, 6, 7] rfl ?_
  exact j_widen (by omega) (by omega) (nx _ _ (g5.up (by omega)))
theorem lc_boots (hst : l.stackTraces = false) (X : Cx p m c cL_law 9 s args RL D q ad) (F : XF ad s.heap.size sa s) (C : Scr b L xs ad s) (hi : i + 4 ≤ L) (hcs : cells + 2 ≤ 603072 ∧ slots + 12 ≤ 7207018) (hN : N + 4392 < 2 ^ 30) (I : Inv N S S) (nx : Nx p l e s m args below meth c cells slots Q D q ad b i N) : Jg p l e room_L s m args below meth c cells slots Q D q ad d 9 820 (lv0 b ad i) [] S := by
  obtain ⟨g1, g2, g3, g4, g5, g6⟩ := glue (N' := N) (codes := [(1, 1), (3, 2)]) (c := b_X6_boots_0 (xs (i + 1)) (bx (xs (i + 2))) S) (mf := fun M => b_X7_boots_0 (xs (i + 1)) (bx (xs (i + 2))) M) (om := fun M => o_X7_boots_0 (xs (i + 1)) (bx (xs (i + 2))) M) (oc := o_X6_boots_0 (xs (i + 1)) (bx (xs (i + 2))) S) (LR := b_L_boots (xs (i + 1)) (bx (xs (i + 2))) S) I (fun M IM => L_boots IM (xs (i + 1)) (bx (xs (i + 2))) bz_bx) (fun h => by simp [b_L_boots, h]) (fun e k hm he => by
    simp only [List.mem_cons, Prod.mk.injEq, List.not_mem_nil, or_false] at hm
    rcases hm with ⟨rfl, rfl⟩ | ⟨rfl, rfl⟩ <;> (unfold b_L_boots; rw [he]; rfl))
  have ho : o_L_boots (xs (i + 1)) (bx (xs (i + 2))) S := by
    unfold o_L_boots
    simp only [List.mem_cons, List.not_mem_nil, or_false, exists_eq_or_imp, exists_eq_left] at g6
    exact ⟨g1, g6⟩
  refine j_aload_n X 2 dL_law_820 rfl ?_
  refine lw_arg X C 1 1 0 dL_law_821 dL_law_822 dL_law_824 rfl dL_law_825 dL_law_826 rfl rfl (by omega) ?_
  refine lw_arg X C 2 1 0 dL_law_827 dL_law_828 dL_law_830 rfl dL_law_831 dL_law_832 rfl rfl (by omega) ?_
  refine lw_bool X dL_law_833 dL_law_836 dL_law_837 dL_law_840 ?_
  refine j_aload_n X 4 dL_law_841 rfl ?_
  refine lw_call (k := 4) (As := [.ref (ad 0), .int (xs (i + 1)), .int (bx (xs (i + 2))), .ref (ad 13)]) (rest := []) X F (c_L_boots hst X.2.2.2.2.2.2.2 (xs (i + 1)) (bx (xs (i + 2))) S ho) m_ml_L_173 m_st_L_boots m_in_L m_co_L_boots (by decide +kernel) ⟨rfl, rfl, Nat.le_of_ble_eq_true rfl, Nat.le_of_ble_eq_true rfl⟩ rfl rfl (Nat.le_of_ble_eq_true rfl) ⟨by show cells + 1 ≤ 603072; omega, by show slots + 6 ≤ 7207018; omega⟩ dL_law_842 ?_
  refine j_istore X ((6, .int (b_L_boots (xs (i + 1)) (bx (xs (i + 2))) S).1) :: lv0 b ad i) dL_law_845 (by decide) rfl ?_
  refine j_aload_n X 4 dL_law_847 rfl ?_
  refine lw_arg X C 1 2 1 dL_law_848 dL_law_849 dL_law_851 rfl dL_law_852 dL_law_853 rfl rfl (by omega) ?_
  refine lw_arg X C 2 2 1 dL_law_854 dL_law_855 dL_law_857 rfl dL_law_858 dL_law_859 rfl rfl (by omega) ?_
  refine lw_bool X dL_law_860 dL_law_863 dL_law_864 dL_law_867 ?_
  refine j_callVi (As := [.int (xs (i + 1)), .int (bx (xs (i + 2)))]) (rest := []) X (c_X7_boots X.2.2.2.2.2.2.2 (xs (i + 1)) (bx (xs (i + 2))) _ g2) cw_L_175 kc25.1 (cl_25 kc25) rfl ⟨rfl, rfl, Nat.le_of_ble_eq_true rfl, Nat.le_of_ble_eq_true rfl⟩ rfl rfl (Nat.le_of_ble_eq_true rfl) ⟨by show cells + 1 ≤ 603072; omega, by show slots + 6 ≤ 7207018; omega⟩ dL_law_868 ?_
  refine j_istore X ((7, .int (b_X7_boots_0 (xs (i + 1)) (bx (xs (i + 2))) (b_L_boots (xs (i + 1)) (bx (xs (i + 2))) S).2).1) :: (6, .int (b_L_boots (xs (i + 1)) (bx (xs (i + 2))) S).1) :: lv0 b ad i) dL_law_871 (by decide) rfl ?_
  refine lw_tail X ⟨by omega, by omega⟩ g3 (fun h => g4 h (by decide)) dL_law_873 dL_law_874 dL_law_877 dL_law_879 dL_law_884 dL_law_886 dL_law_889 dL_law_890 dL_law_891 dL_law_892 dL_law_894 dL_law_895 dL_law_896 dL_law_901 (by decide) ?_
  refine lw_next X [2, 3, 4, 5, 6, 7] rfl ?_
  exact j_widen (by omega) (by omega) (nx _ _ (g5.up (by omega)))
theorem lc_horseOf (hst : l.stackTraces = false) (X : Cx p m c cL_law 9 s args RL D q ad) (F : XF ad s.heap.size sa s) (C : Scr b L xs ad s) (hi : i + 4 ≤ L) (hcs : cells + 2 ≤ 603072 ∧ slots + 12 ≤ 7207018) (hN : N + 4392 < 2 ^ 30) (I : Inv N S S) (nx : Nx p l e s m args below meth c cells slots Q D q ad b i N) : Jg p l e room_L s m args below meth c cells slots Q D q ad d 9 904 (lv0 b ad i) [] S := by
  obtain ⟨g1, g2, g3, g4, g5, g6⟩ := glue (N' := N) (codes := [(1, 1), (2, 2)]) (c := b_X6_horseOf_0 (xs (i + 1)) (xs (i + 2)) S) (mf := fun M => b_X7_horseOf_0 (xs (i + 1)) (xs (i + 2)) M) (om := fun M => o_X7_horseOf_0 (xs (i + 1)) (xs (i + 2)) M) (oc := o_X6_horseOf_0 (xs (i + 1)) (xs (i + 2)) S) (LR := b_L_horseOf (xs (i + 1)) (xs (i + 2)) S) I (fun M IM => L_horseOf IM (xs (i + 1)) (xs (i + 2))) (fun h => by simp [b_L_horseOf, h]) (fun e k hm he => by
    simp only [List.mem_cons, Prod.mk.injEq, List.not_mem_nil, or_false] at hm
    rcases hm with ⟨rfl, rfl⟩ | ⟨rfl, rfl⟩ <;> (unfold b_L_horseOf; rw [he]; rfl))
  have ho : o_L_horseOf (xs (i + 1)) (xs (i + 2)) S := by
    unfold o_L_horseOf
    simp only [List.mem_cons, List.not_mem_nil, or_false, exists_eq_or_imp, exists_eq_left] at g6
    exact ⟨g1, g6⟩
  refine j_aload_n X 2 dL_law_904 rfl ?_
  refine lw_arg X C 1 1 0 dL_law_905 dL_law_906 dL_law_908 rfl dL_law_909 dL_law_910 rfl rfl (by omega) ?_
  refine lw_arg X C 2 1 0 dL_law_911 dL_law_912 dL_law_914 rfl dL_law_915 dL_law_916 rfl rfl (by omega) ?_
  refine j_aload_n X 4 dL_law_917 rfl ?_
  refine lw_call (k := 4) (As := [.ref (ad 0), .int (xs (i + 1)), .int (xs (i + 2)), .ref (ad 13)]) (rest := []) X F (c_L_horseOf hst X.2.2.2.2.2.2.2 (xs (i + 1)) (xs (i + 2)) S ho) m_ml_L_176 m_st_L_horseOf m_in_L m_co_L_horseOf (by decide +kernel) ⟨rfl, rfl, Nat.le_of_ble_eq_true rfl, Nat.le_of_ble_eq_true rfl⟩ rfl rfl (Nat.le_of_ble_eq_true rfl) ⟨by show cells + 2 ≤ 603072; omega, by show slots + 12 ≤ 7207018; omega⟩ dL_law_918 ?_
  refine j_istore X ((6, .int (b_L_horseOf (xs (i + 1)) (xs (i + 2)) S).1) :: lv0 b ad i) dL_law_921 (by decide) rfl ?_
  refine j_aload_n X 4 dL_law_923 rfl ?_
  refine lw_arg X C 1 2 1 dL_law_924 dL_law_925 dL_law_927 rfl dL_law_928 dL_law_929 rfl rfl (by omega) ?_
  refine lw_arg X C 2 2 1 dL_law_930 dL_law_931 dL_law_933 rfl dL_law_934 dL_law_935 rfl rfl (by omega) ?_
  refine j_callVi (As := [.int (xs (i + 1)), .int (xs (i + 2))]) (rest := []) X (c_X7_horseOf X.2.2.2.2.2.2.2 (xs (i + 1)) (xs (i + 2)) _ g2) cw_L_178 kc25.1 (cl_25 kc25) rfl ⟨rfl, rfl, Nat.le_of_ble_eq_true rfl, Nat.le_of_ble_eq_true rfl⟩ rfl rfl (Nat.le_of_ble_eq_true rfl) ⟨by show cells + 2 ≤ 603072; omega, by show slots + 12 ≤ 7207018; omega⟩ dL_law_936 ?_
  refine j_istore X ((7, .int (b_X7_horseOf_0 (xs (i + 1)) (xs (i + 2)) (b_L_horseOf (xs (i + 1)) (xs (i + 2)) S).2).1) :: (6, .int (b_L_horseOf (xs (i + 1)) (xs (i + 2)) S).1) :: lv0 b ad i) dL_law_939 (by decide) rfl ?_
  refine lw_tail X ⟨by omega, by omega⟩ g3 (fun h => g4 h (by decide)) dL_law_941 dL_law_942 dL_law_945 dL_law_947 dL_law_952 dL_law_954 dL_law_957 dL_law_958 dL_law_959 dL_law_960 dL_law_962 dL_law_963 dL_law_964 dL_law_969 (by decide) ?_
  refine lw_next X [2, 3, 4, 5, 6, 7] rfl ?_
  exact j_widen (by omega) (by omega) (nx _ _ (g5.up (by omega)))
theorem lc_roll (hst : l.stackTraces = false) (X : Cx p m c cL_law 9 s args RL D q ad) (F : XF ad s.heap.size sa s) (C : Scr b L xs ad s) (hi : i + 4 ≤ L) (hcs : cells + 2 ≤ 603072 ∧ slots + 12 ≤ 7207018) (hN : N + 4392 < 2 ^ 30) (I : Inv N S S) (nx : Nx p l e s m args below meth c cells slots Q D q ad b i N) : Jg p l e room_L s m args below meth c cells slots Q D q ad d 9 972 (lv0 b ad i) [] S := by
  obtain ⟨g1, g2, g3, g4, g5, g6⟩ := glue (N' := N) (codes := [(1, 1), (2, 2), (3, 3)]) (c := b_X6_roll_0 (xs (i + 1)) (xs (i + 2)) (xs (i + 3)) S) (mf := fun M => b_X7_roll_0 (xs (i + 1)) (xs (i + 2)) (xs (i + 3)) M) (om := fun M => o_X7_roll_0 (xs (i + 1)) (xs (i + 2)) (xs (i + 3)) M) (oc := o_X6_roll_0 (xs (i + 1)) (xs (i + 2)) (xs (i + 3)) S) (LR := b_L_roll (xs (i + 1)) (xs (i + 2)) (xs (i + 3)) S) I (fun M IM => L_roll IM (xs (i + 1)) (xs (i + 2)) (xs (i + 3))) (fun h => by simp [b_L_roll, h]) (fun e k hm he => by
    simp only [List.mem_cons, Prod.mk.injEq, List.not_mem_nil, or_false] at hm
    rcases hm with ⟨rfl, rfl⟩ | ⟨rfl, rfl⟩ | ⟨rfl, rfl⟩ <;> (unfold b_L_roll; rw [he]; rfl))
  have ho : o_L_roll (xs (i + 1)) (xs (i + 2)) (xs (i + 3)) S := by
    unfold o_L_roll
    simp only [List.mem_cons, List.not_mem_nil, or_false, exists_eq_or_imp, exists_eq_left] at g6
    exact ⟨g1, g6⟩
  refine j_aload_n X 2 dL_law_972 rfl ?_
  refine lw_arg X C 1 1 0 dL_law_973 dL_law_974 dL_law_976 rfl dL_law_977 dL_law_978 rfl rfl (by omega) ?_
  refine lw_arg X C 2 1 0 dL_law_979 dL_law_980 dL_law_982 rfl dL_law_983 dL_law_984 rfl rfl (by omega) ?_
  refine lw_arg X C 3 1 0 dL_law_985 dL_law_986 dL_law_988 rfl dL_law_989 dL_law_990 rfl rfl (by omega) ?_
  refine j_aload_n X 4 dL_law_991 rfl ?_
  refine lw_call (k := 5) (As := [.ref (ad 0), .int (xs (i + 1)), .int (xs (i + 2)), .int (xs (i + 3)), .ref (ad 13)]) (rest := []) X F (c_L_roll hst X.2.2.2.2.2.2.2 (xs (i + 1)) (xs (i + 2)) (xs (i + 3)) S ho) m_ml_L_179 m_st_L_roll m_in_L m_co_L_roll (by decide +kernel) ⟨rfl, rfl, Nat.le_of_ble_eq_true rfl, Nat.le_of_ble_eq_true rfl⟩ rfl rfl (Nat.le_of_ble_eq_true rfl) ⟨by show cells + 1 ≤ 603072; omega, by show slots + 6 ≤ 7207018; omega⟩ dL_law_992 ?_
  refine j_istore X ((6, .int (b_L_roll (xs (i + 1)) (xs (i + 2)) (xs (i + 3)) S).1) :: lv0 b ad i) dL_law_995 (by decide) rfl ?_
  refine j_aload_n X 4 dL_law_997 rfl ?_
  refine lw_arg X C 1 2 1 dL_law_998 dL_law_999 dL_law_1001 rfl dL_law_1002 dL_law_1003 rfl rfl (by omega) ?_
  refine lw_arg X C 2 2 1 dL_law_1004 dL_law_1005 dL_law_1007 rfl dL_law_1008 dL_law_1009 rfl rfl (by omega) ?_
  refine lw_arg X C 3 2 1 dL_law_1010 dL_law_1011 dL_law_1013 rfl dL_law_1014 dL_law_1015 rfl rfl (by omega) ?_
  refine j_callVi (As := [.int (xs (i + 1)), .int (xs (i + 2)), .int (xs (i + 3))]) (rest := []) X (c_X7_roll X.2.2.2.2.2.2.2 (xs (i + 1)) (xs (i + 2)) (xs (i + 3)) _ g2) cw_L_182 kc25.1 (cl_25 kc25) rfl ⟨rfl, rfl, Nat.le_of_ble_eq_true rfl, Nat.le_of_ble_eq_true rfl⟩ rfl rfl (Nat.le_of_ble_eq_true rfl) ⟨by show cells + 1 ≤ 603072; omega, by show slots + 6 ≤ 7207018; omega⟩ dL_law_1016 ?_
  refine j_istore X ((7, .int (b_X7_roll_0 (xs (i + 1)) (xs (i + 2)) (xs (i + 3)) (b_L_roll (xs (i + 1)) (xs (i + 2)) (xs (i + 3)) S).2).1) :: (6, .int (b_L_roll (xs (i + 1)) (xs (i + 2)) (xs (i + 3)) S).1) :: lv0 b ad i) dL_law_1019 (by decide) rfl ?_
  refine lw_tail X ⟨by omega, by omega⟩ g3 (fun h => g4 h (by decide)) dL_law_1021 dL_law_1022 dL_law_1025 dL_law_1027 dL_law_1032 dL_law_1034 dL_law_1037 dL_law_1038 dL_law_1039 dL_law_1040 dL_law_1042 dL_law_1043 dL_law_1044 dL_law_1049 (by decide) ?_
  refine lw_next X [2, 3, 4, 5, 6, 7] rfl ?_
  exact j_widen (by omega) (by omega) (nx _ _ (g5.up (by omega)))
theorem lc_bestHorse (hst : l.stackTraces = false) (X : Cx p m c cL_law 9 s args RL D q ad) (F : XF ad s.heap.size sa s) (C : Scr b L xs ad s) (hi : i + 4 ≤ L) (hcs : cells + 2 ≤ 603072 ∧ slots + 12 ≤ 7207018) (hN : N + 4392 < 2 ^ 30) (I : Inv N S S) (nx : Nx p l e s m args below meth c cells slots Q D q ad b i N) : Jg p l e room_L s m args below meth c cells slots Q D q ad d 9 1052 (lv0 b ad i) [] S := by
  obtain ⟨g1, g2, g3, g4, g5, g6⟩ := glue (N' := N) (codes := [(1, 1), (4, 2)]) (c := b_X6_bestHorse_0 (xs (i + 1)) S) (mf := fun M => b_X7_bestHorse_0 (xs (i + 1)) M) (om := fun M => o_X7_bestHorse_0 (xs (i + 1)) M) (oc := o_X6_bestHorse_0 (xs (i + 1)) S) (LR := b_L_bestHorse (xs (i + 1)) S) I (fun M IM => L_bestHorse IM (xs (i + 1))) (fun h => by simp [b_L_bestHorse, h]) (fun e k hm he => by
    simp only [List.mem_cons, Prod.mk.injEq, List.not_mem_nil, or_false] at hm
    rcases hm with ⟨rfl, rfl⟩ | ⟨rfl, rfl⟩ <;> (unfold b_L_bestHorse; rw [he]; rfl))
  have ho : o_L_bestHorse (xs (i + 1)) S := by
    unfold o_L_bestHorse
    simp only [List.mem_cons, List.not_mem_nil, or_false, exists_eq_or_imp, exists_eq_left] at g6
    exact ⟨g1, g6⟩
  refine j_aload_n X 2 dL_law_1052 rfl ?_
  refine lw_arg X C 1 1 0 dL_law_1053 dL_law_1054 dL_law_1056 rfl dL_law_1057 dL_law_1058 rfl rfl (by omega) ?_
  refine j_aload_n X 4 dL_law_1059 rfl ?_
  refine lw_call (k := 3) (As := [.ref (ad 0), .int (xs (i + 1)), .ref (ad 13)]) (rest := []) X F (c_L_bestHorse hst X.2.2.2.2.2.2.2 (xs (i + 1)) S ho) m_ml_L_183 m_st_L_bestHorse m_in_L m_co_L_bestHorse (by decide +kernel) ⟨rfl, rfl, Nat.le_of_ble_eq_true rfl, Nat.le_of_ble_eq_true rfl⟩ rfl rfl (Nat.le_of_ble_eq_true rfl) ⟨by show cells + 2 ≤ 603072; omega, by show slots + 12 ≤ 7207018; omega⟩ dL_law_1060 ?_
  refine j_istore X ((6, .int (b_L_bestHorse (xs (i + 1)) S).1) :: lv0 b ad i) dL_law_1063 (by decide) rfl ?_
  refine j_aload_n X 4 dL_law_1065 rfl ?_
  refine lw_arg X C 1 2 1 dL_law_1066 dL_law_1067 dL_law_1069 rfl dL_law_1070 dL_law_1071 rfl rfl (by omega) ?_
  refine j_callVi (As := [.int (xs (i + 1))]) (rest := []) X (c_X7_bestHorse X.2.2.2.2.2.2.2 (xs (i + 1)) _ g2) cw_L_185 kc25.1 (cl_25 kc25) rfl ⟨rfl, rfl, Nat.le_of_ble_eq_true rfl, Nat.le_of_ble_eq_true rfl⟩ rfl rfl (Nat.le_of_ble_eq_true rfl) ⟨by show cells + 2 ≤ 603072; omega, by show slots + 12 ≤ 7207018; omega⟩ dL_law_1072 ?_
  refine j_istore X ((7, .int (b_X7_bestHorse_0 (xs (i + 1)) (b_L_bestHorse (xs (i + 1)) S).2).1) :: (6, .int (b_L_bestHorse (xs (i + 1)) S).1) :: lv0 b ad i) dL_law_1075 (by decide) rfl ?_
  refine lw_tail X ⟨by omega, by omega⟩ g3 (fun h => g4 h (by decide)) dL_law_1077 dL_law_1078 dL_law_1081 dL_law_1083 dL_law_1088 dL_law_1090 dL_law_1093 dL_law_1094 dL_law_1095 dL_law_1096 dL_law_1098 dL_law_1099 dL_law_1100 dL_law_1105 (by decide) ?_
  refine lw_next X [2, 3, 4, 5, 6, 7] rfl ?_
  exact j_widen (by omega) (by omega) (nx _ _ (g5.up (by omega)))
theorem lc_umpire (hst : l.stackTraces = false) (X : Cx p m c cL_law 9 s args RL D q ad) (F : XF ad s.heap.size sa s) (C : Scr b L xs ad s) (hi : i + 4 ≤ L) (hcs : cells + 2 ≤ 603072 ∧ slots + 12 ≤ 7207018) (hN : N + 4392 < 2 ^ 30) (I : Inv N S S) (nx : Nx p l e s m args below meth c cells slots Q D q ad b i N) : Jg p l e room_L s m args below meth c cells slots Q D q ad d 9 1108 (lv0 b ad i) [] S := by
  obtain ⟨g1, g2, g3, g4, g5, g6⟩ := glue (N' := N) (codes := [(2, 1), (3, 2)]) (c := b_X6_umpire_0 (xs (i + 1)) S) (mf := fun M => b_X7_umpire_0 (xs (i + 1)) M) (om := fun M => o_X7_umpire_0 (xs (i + 1)) M) (oc := o_X6_umpire_0 (xs (i + 1)) S) (LR := b_L_umpire (xs (i + 1)) S) I (fun M IM => L_umpire IM (xs (i + 1))) (fun h => by simp [b_L_umpire, h]) (fun e k hm he => by
    simp only [List.mem_cons, Prod.mk.injEq, List.not_mem_nil, or_false] at hm
    rcases hm with ⟨rfl, rfl⟩ | ⟨rfl, rfl⟩ <;> (unfold b_L_umpire; rw [he]; rfl))
  have ho : o_L_umpire (xs (i + 1)) S := by
    unfold o_L_umpire
    simp only [List.mem_cons, List.not_mem_nil, or_false, exists_eq_or_imp, exists_eq_left] at g6
    exact ⟨g1, g6⟩
  refine j_aload_n X 2 dL_law_1108 rfl ?_
  refine lw_arg X C 1 1 0 dL_law_1109 dL_law_1110 dL_law_1112 rfl dL_law_1113 dL_law_1114 rfl rfl (by omega) ?_
  refine j_aload_n X 4 dL_law_1115 rfl ?_
  refine lw_call (k := 3) (As := [.ref (ad 0), .int (xs (i + 1)), .ref (ad 13)]) (rest := []) X F (c_L_umpire hst X.2.2.2.2.2.2.2 (xs (i + 1)) S ho) m_ml_L_186 m_st_L_umpire m_in_L m_co_L_umpire (by decide +kernel) ⟨rfl, rfl, Nat.le_of_ble_eq_true rfl, Nat.le_of_ble_eq_true rfl⟩ rfl rfl (Nat.le_of_ble_eq_true rfl) ⟨by show cells + 2 ≤ 603072; omega, by show slots + 12 ≤ 7207018; omega⟩ dL_law_1116 ?_
  refine j_istore X ((6, .int (b_L_umpire (xs (i + 1)) S).1) :: lv0 b ad i) dL_law_1119 (by decide) rfl ?_
  refine j_aload_n X 4 dL_law_1121 rfl ?_
  refine lw_arg X C 1 2 1 dL_law_1122 dL_law_1123 dL_law_1125 rfl dL_law_1126 dL_law_1127 rfl rfl (by omega) ?_
  refine j_callVi (As := [.int (xs (i + 1))]) (rest := []) X (c_X7_umpire X.2.2.2.2.2.2.2 (xs (i + 1)) _ g2) cw_L_188 kc25.1 (cl_25 kc25) rfl ⟨rfl, rfl, Nat.le_of_ble_eq_true rfl, Nat.le_of_ble_eq_true rfl⟩ rfl rfl (Nat.le_of_ble_eq_true rfl) ⟨by show cells + 2 ≤ 603072; omega, by show slots + 12 ≤ 7207018; omega⟩ dL_law_1128 ?_
  refine j_istore X ((7, .int (b_X7_umpire_0 (xs (i + 1)) (b_L_umpire (xs (i + 1)) S).2).1) :: (6, .int (b_L_umpire (xs (i + 1)) S).1) :: lv0 b ad i) dL_law_1131 (by decide) rfl ?_
  refine lw_tail X ⟨by omega, by omega⟩ g3 (fun h => g4 h (by decide)) dL_law_1133 dL_law_1134 dL_law_1137 dL_law_1139 dL_law_1144 dL_law_1146 dL_law_1149 dL_law_1150 dL_law_1151 dL_law_1152 dL_law_1154 dL_law_1155 dL_law_1156 dL_law_1161 (by decide) ?_
  refine lw_next X [2, 3, 4, 5, 6, 7] rfl ?_
  exact j_widen (by omega) (by omega) (nx _ _ (g5.up (by omega)))
theorem lc_call (hst : l.stackTraces = false) (X : Cx p m c cL_law 9 s args RL D q ad) (F : XF ad s.heap.size sa s) (C : Scr b L xs ad s) (hi : i + 4 ≤ L) (hcs : cells + 2 ≤ 603072 ∧ slots + 12 ≤ 7207018) (hN : N + 4392 < 2 ^ 30) (I : Inv N S S) (nx : Nx p l e s m args below meth c cells slots Q D q ad b i N) : Jg p l e room_L s m args below meth c cells slots Q D q ad d 9 1164 (lv0 b ad i) [] S := by
  obtain ⟨g1, g2, g3, g4, g5, g6⟩ := glue (N' := N) (codes := [(1, 1)]) (c := b_X6_call_0 (xs (i + 1)) (xs (i + 2)) S) (mf := fun M => b_X7_call_0 (xs (i + 1)) (xs (i + 2)) M) (om := fun M => o_X7_call_0 (xs (i + 1)) (xs (i + 2)) M) (oc := o_X6_call_0 (xs (i + 1)) (xs (i + 2)) S) (LR := b_L_call (xs (i + 1)) (xs (i + 2)) S) I (fun M IM => L_call IM (by omega) (xs (i + 1)) (xs (i + 2))) (fun h => by simp [b_L_call, h]) (fun e k hm he => by
    simp only [List.mem_cons, Prod.mk.injEq, List.not_mem_nil, or_false] at hm
    rcases hm with ⟨rfl, rfl⟩ <;> (unfold b_L_call; rw [he]; rfl))
  have ho : o_L_call (xs (i + 1)) (xs (i + 2)) S := by
    unfold o_L_call
    simp only [List.mem_cons, List.not_mem_nil, or_false, exists_eq_or_imp, exists_eq_left] at g6
    exact ⟨g1, g6⟩
  refine j_aload_n X 2 dL_law_1164 rfl ?_
  refine lw_arg X C 1 1 0 dL_law_1165 dL_law_1166 dL_law_1168 rfl dL_law_1169 dL_law_1170 rfl rfl (by omega) ?_
  refine lw_arg X C 2 1 0 dL_law_1171 dL_law_1172 dL_law_1174 rfl dL_law_1175 dL_law_1176 rfl rfl (by omega) ?_
  refine j_aload_n X 4 dL_law_1177 rfl ?_
  refine lw_call (k := 4) (As := [.ref (ad 0), .int (xs (i + 1)), .int (xs (i + 2)), .ref (ad 13)]) (rest := []) X F (c_L_call hst X.2.2.2.2.2.2.2 (xs (i + 1)) (xs (i + 2)) S ho) m_ml_L_189 m_st_L_call m_in_L m_co_L_call (by decide +kernel) ⟨rfl, rfl, Nat.le_of_ble_eq_true rfl, Nat.le_of_ble_eq_true rfl⟩ rfl rfl (Nat.le_of_ble_eq_true rfl) ⟨by show cells + 1 ≤ 603072; omega, by show slots + 6 ≤ 7207018; omega⟩ dL_law_1178 ?_
  refine j_istore X ((6, .int (b_L_call (xs (i + 1)) (xs (i + 2)) S).1) :: lv0 b ad i) dL_law_1181 (by decide) rfl ?_
  refine j_aload_n X 4 dL_law_1183 rfl ?_
  refine lw_arg X C 1 2 1 dL_law_1184 dL_law_1185 dL_law_1187 rfl dL_law_1188 dL_law_1189 rfl rfl (by omega) ?_
  refine lw_arg X C 2 2 1 dL_law_1190 dL_law_1191 dL_law_1193 rfl dL_law_1194 dL_law_1195 rfl rfl (by omega) ?_
  refine j_callVi (As := [.int (xs (i + 1)), .int (xs (i + 2))]) (rest := []) X (c_X7_call X.2.2.2.2.2.2.2 (xs (i + 1)) (xs (i + 2)) _ g2) cw_L_191 kc25.1 (cl_25 kc25) rfl ⟨rfl, rfl, Nat.le_of_ble_eq_true rfl, Nat.le_of_ble_eq_true rfl⟩ rfl rfl (Nat.le_of_ble_eq_true rfl) ⟨by show cells + 1 ≤ 603072; omega, by show slots + 6 ≤ 7207018; omega⟩ dL_law_1196 ?_
  refine j_istore X ((7, .int (b_X7_call_0 (xs (i + 1)) (xs (i + 2)) (b_L_call (xs (i + 1)) (xs (i + 2)) S).2).1) :: (6, .int (b_L_call (xs (i + 1)) (xs (i + 2)) S).1) :: lv0 b ad i) dL_law_1199 (by decide) rfl ?_
  refine lw_tail X ⟨by omega, by omega⟩ g3 (fun h => g4 h (by decide)) dL_law_1201 dL_law_1202 dL_law_1205 dL_law_1207 dL_law_1212 dL_law_1214 dL_law_1217 dL_law_1218 dL_law_1219 dL_law_1220 dL_law_1222 dL_law_1223 dL_law_1224 dL_law_1229 (by decide) ?_
  refine lw_next X [2, 3, 4, 5, 6, 7] rfl ?_
  exact j_widen (by omega) (by omega) (nx _ _ (g5.up (by omega)))
theorem lc_fitIn (hst : l.stackTraces = false) (X : Cx p m c cL_law 9 s args RL D q ad) (F : XF ad s.heap.size sa s) (C : Scr b L xs ad s) (hi : i + 4 ≤ L) (hcs : cells + 2 ≤ 603072 ∧ slots + 12 ≤ 7207018) (hN : N + 4392 < 2 ^ 30) (I : Inv N S S) (nx : Nx p l e s m args below meth c cells slots Q D q ad b i N) : Jg p l e room_L s m args below meth c cells slots Q D q ad d 9 1232 (lv0 b ad i) [] S := by
  obtain ⟨g1, g2, g3, g4, g5, g6⟩ := glue (N' := N) (codes := [(1, 1), (4, 2)]) (c := b_X6_fitIn_0 (xs (i + 1)) (xs (i + 2)) S) (mf := fun M => b_X7_fitIn_0 (xs (i + 1)) (xs (i + 2)) M) (om := fun M => o_X7_fitIn_0 (xs (i + 1)) (xs (i + 2)) M) (oc := o_X6_fitIn_0 (xs (i + 1)) (xs (i + 2)) S) (LR := b_L_fitIn (xs (i + 1)) (xs (i + 2)) S) I (fun M IM => L_fitIn IM (by omega) (xs (i + 1)) (xs (i + 2))) (fun h => by simp [b_L_fitIn, h]) (fun e k hm he => by
    simp only [List.mem_cons, Prod.mk.injEq, List.not_mem_nil, or_false] at hm
    rcases hm with ⟨rfl, rfl⟩ | ⟨rfl, rfl⟩ <;> (unfold b_L_fitIn; rw [he]; rfl))
  have ho : o_L_fitIn (xs (i + 1)) (xs (i + 2)) S := by
    unfold o_L_fitIn
    simp only [List.mem_cons, List.not_mem_nil, or_false, exists_eq_or_imp, exists_eq_left] at g6
    exact ⟨g1, g6⟩
  refine j_aload_n X 2 dL_law_1232 rfl ?_
  refine lw_arg X C 1 1 0 dL_law_1233 dL_law_1234 dL_law_1236 rfl dL_law_1237 dL_law_1238 rfl rfl (by omega) ?_
  refine lw_arg X C 2 1 0 dL_law_1239 dL_law_1240 dL_law_1242 rfl dL_law_1243 dL_law_1244 rfl rfl (by omega) ?_
  refine j_aload_n X 4 dL_law_1245 rfl ?_
  refine lw_call (k := 4) (As := [.ref (ad 0), .int (xs (i + 1)), .int (xs (i + 2)), .ref (ad 13)]) (rest := []) X F (c_L_fitIn hst X.2.2.2.2.2.2.2 (xs (i + 1)) (xs (i + 2)) S ho) m_ml_L_192 m_st_L_fitIn m_in_L m_co_L_fitIn (by decide +kernel) ⟨rfl, rfl, Nat.le_of_ble_eq_true rfl, Nat.le_of_ble_eq_true rfl⟩ rfl rfl (Nat.le_of_ble_eq_true rfl) ⟨by show cells + 2 ≤ 603072; omega, by show slots + 12 ≤ 7207018; omega⟩ dL_law_1246 ?_
  refine j_istore X ((6, .int (b_L_fitIn (xs (i + 1)) (xs (i + 2)) S).1) :: lv0 b ad i) dL_law_1249 (by decide) rfl ?_
  refine j_aload_n X 4 dL_law_1251 rfl ?_
  refine lw_arg X C 1 2 1 dL_law_1252 dL_law_1253 dL_law_1255 rfl dL_law_1256 dL_law_1257 rfl rfl (by omega) ?_
  refine lw_arg X C 2 2 1 dL_law_1258 dL_law_1259 dL_law_1261 rfl dL_law_1262 dL_law_1263 rfl rfl (by omega) ?_
  refine j_callVi (As := [.int (xs (i + 1)), .int (xs (i + 2))]) (rest := []) X (c_X7_fitIn X.2.2.2.2.2.2.2 (xs (i + 1)) (xs (i + 2)) _ g2) cw_L_194 kc25.1 (cl_25 kc25) rfl ⟨rfl, rfl, Nat.le_of_ble_eq_true rfl, Nat.le_of_ble_eq_true rfl⟩ rfl rfl (Nat.le_of_ble_eq_true rfl) ⟨by show cells + 2 ≤ 603072; omega, by show slots + 12 ≤ 7207018; omega⟩ dL_law_1264 ?_
  refine j_istore X ((7, .int (b_X7_fitIn_0 (xs (i + 1)) (xs (i + 2)) (b_L_fitIn (xs (i + 1)) (xs (i + 2)) S).2).1) :: (6, .int (b_L_fitIn (xs (i + 1)) (xs (i + 2)) S).1) :: lv0 b ad i) dL_law_1267 (by decide) rfl ?_
  refine lw_tail X ⟨by omega, by omega⟩ g3 (fun h => g4 h (by decide)) dL_law_1269 dL_law_1270 dL_law_1273 dL_law_1275 dL_law_1280 dL_law_1282 dL_law_1285 dL_law_1286 dL_law_1287 dL_law_1288 dL_law_1290 dL_law_1291 dL_law_1292 dL_law_1297 (by decide) ?_
  refine lw_next X [2, 3, 4, 5, 6, 7] rfl ?_
  exact j_widen (by omega) (by omega) (nx _ _ (g5.up (by omega)))
theorem lc_bestPitch (hst : l.stackTraces = false) (X : Cx p m c cL_law 9 s args RL D q ad) (F : XF ad s.heap.size sa s) (C : Scr b L xs ad s) (hi : i + 4 ≤ L) (hcs : cells + 2 ≤ 603072 ∧ slots + 12 ≤ 7207018) (hN : N + 4392 < 2 ^ 30) (I : Inv N S S) (nx : Nx p l e s m args below meth c cells slots Q D q ad b i N) : Jg p l e room_L s m args below meth c cells slots Q D q ad d 9 1300 (lv0 b ad i) [] S := by
  obtain ⟨g1, g2, g3, g4, g5, g6⟩ := glue (N' := N) (codes := [(1, 1), (4, 2)]) (c := b_X6_bestPitch_0 (xs (i + 1)) S) (mf := fun M => b_X7_bestPitch_0 (xs (i + 1)) M) (om := fun M => o_X7_bestPitch_0 (xs (i + 1)) M) (oc := o_X6_bestPitch_0 (xs (i + 1)) S) (LR := b_L_bestPitch (xs (i + 1)) S) I (fun M IM => L_bestPitch IM (by omega) (xs (i + 1))) (fun h => by simp [b_L_bestPitch, h]) (fun e k hm he => by
    simp only [List.mem_cons, Prod.mk.injEq, List.not_mem_nil, or_false] at hm
    rcases hm with ⟨rfl, rfl⟩ | ⟨rfl, rfl⟩ <;> (unfold b_L_bestPitch; rw [he]; rfl))
  have ho : o_L_bestPitch (xs (i + 1)) S := by
    unfold o_L_bestPitch
    simp only [List.mem_cons, List.not_mem_nil, or_false, exists_eq_or_imp, exists_eq_left] at g6
    exact ⟨g1, g6⟩
  refine j_aload_n X 2 dL_law_1300 rfl ?_
  refine lw_arg X C 1 1 0 dL_law_1301 dL_law_1302 dL_law_1304 rfl dL_law_1305 dL_law_1306 rfl rfl (by omega) ?_
  refine j_aload_n X 4 dL_law_1307 rfl ?_
  refine lw_call (k := 3) (As := [.ref (ad 0), .int (xs (i + 1)), .ref (ad 13)]) (rest := []) X F (c_L_bestPitch hst X.2.2.2.2.2.2.2 (xs (i + 1)) S ho) m_ml_L_195 m_st_L_bestPitch m_in_L m_co_L_bestPitch (by decide +kernel) ⟨rfl, rfl, Nat.le_of_ble_eq_true rfl, Nat.le_of_ble_eq_true rfl⟩ rfl rfl (Nat.le_of_ble_eq_true rfl) ⟨by show cells + 2 ≤ 603072; omega, by show slots + 12 ≤ 7207018; omega⟩ dL_law_1308 ?_
  refine j_istore X ((6, .int (b_L_bestPitch (xs (i + 1)) S).1) :: lv0 b ad i) dL_law_1311 (by decide) rfl ?_
  refine j_aload_n X 4 dL_law_1313 rfl ?_
  refine lw_arg X C 1 2 1 dL_law_1314 dL_law_1315 dL_law_1317 rfl dL_law_1318 dL_law_1319 rfl rfl (by omega) ?_
  refine j_callVi (As := [.int (xs (i + 1))]) (rest := []) X (c_X7_bestPitch X.2.2.2.2.2.2.2 (xs (i + 1)) _ g2) cw_L_197 kc25.1 (cl_25 kc25) rfl ⟨rfl, rfl, Nat.le_of_ble_eq_true rfl, Nat.le_of_ble_eq_true rfl⟩ rfl rfl (Nat.le_of_ble_eq_true rfl) ⟨by show cells + 2 ≤ 603072; omega, by show slots + 12 ≤ 7207018; omega⟩ dL_law_1320 ?_
  refine j_istore X ((7, .int (b_X7_bestPitch_0 (xs (i + 1)) (b_L_bestPitch (xs (i + 1)) S).2).1) :: (6, .int (b_L_bestPitch (xs (i + 1)) S).1) :: lv0 b ad i) dL_law_1323 (by decide) rfl ?_
  refine lw_tail X ⟨by omega, by omega⟩ g3 (fun h => g4 h (by decide)) dL_law_1325 dL_law_1326 dL_law_1329 dL_law_1331 dL_law_1336 dL_law_1338 dL_law_1341 dL_law_1342 dL_law_1343 dL_law_1344 dL_law_1346 dL_law_1347 dL_law_1348 dL_law_1353 (by decide) ?_
  refine lw_next X [2, 3, 4, 5, 6, 7] rfl ?_
  exact j_widen (by omega) (by omega) (nx _ _ (g5.up (by omega)))
theorem lc_innings (hst : l.stackTraces = false) (X : Cx p m c cL_law 9 s args RL D q ad) (F : XF ad s.heap.size sa s) (C : Scr b L xs ad s) (hi : i + 4 ≤ L) (hcs : cells + 2 ≤ 603072 ∧ slots + 12 ≤ 7207018) (hN : N + 4392 < 2 ^ 30) (I : Inv N S S) (nx : Nx p l e s m args below meth c cells slots Q D q ad b i N) : Jg p l e room_L s m args below meth c cells slots Q D q ad d 9 1356 (lv0 b ad i) [] S := by
  obtain ⟨g1, g2, g3, g4, g5, g6⟩ := glue (N' := N) (codes := [(1, 1), (2, 2), (3, 3)]) (c := b_X6_innings_0 (xs (i + 1)) (xs (i + 2)) (xs (i + 3)) S) (mf := fun M => b_X7_innings_0 (xs (i + 1)) (xs (i + 2)) (xs (i + 3)) M) (om := fun M => o_X7_innings_0 (xs (i + 1)) (xs (i + 2)) (xs (i + 3)) M) (oc := o_X6_innings_0 (xs (i + 1)) (xs (i + 2)) (xs (i + 3)) S) (LR := b_L_innings (xs (i + 1)) (xs (i + 2)) (xs (i + 3)) S) I (fun M IM => L_innings IM (by omega) (xs (i + 1)) (xs (i + 2)) (xs (i + 3))) (fun h => by simp [b_L_innings, h]) (fun e k hm he => by
    simp only [List.mem_cons, Prod.mk.injEq, List.not_mem_nil, or_false] at hm
    rcases hm with ⟨rfl, rfl⟩ | ⟨rfl, rfl⟩ | ⟨rfl, rfl⟩ <;> (unfold b_L_innings; rw [he]; rfl))
  have ho : o_L_innings (xs (i + 1)) (xs (i + 2)) (xs (i + 3)) S := by
    unfold o_L_innings
    simp only [List.mem_cons, List.not_mem_nil, or_false, exists_eq_or_imp, exists_eq_left] at g6
    exact ⟨g1, g6⟩
  refine j_aload_n X 2 dL_law_1356 rfl ?_
  refine lw_arg X C 1 1 0 dL_law_1357 dL_law_1358 dL_law_1360 rfl dL_law_1361 dL_law_1362 rfl rfl (by omega) ?_
  refine lw_arg X C 2 1 0 dL_law_1363 dL_law_1364 dL_law_1366 rfl dL_law_1367 dL_law_1368 rfl rfl (by omega) ?_
  refine lw_arg X C 3 1 0 dL_law_1369 dL_law_1370 dL_law_1372 rfl dL_law_1373 dL_law_1374 rfl rfl (by omega) ?_
  refine j_aload_n X 4 dL_law_1375 rfl ?_
  refine lw_call (k := 5) (As := [.ref (ad 0), .int (xs (i + 1)), .int (xs (i + 2)), .int (xs (i + 3)), .ref (ad 13)]) (rest := []) X F (c_L_innings hst X.2.2.2.2.2.2.2 (xs (i + 1)) (xs (i + 2)) (xs (i + 3)) S ho) m_ml_L_198 m_st_L_innings m_in_L m_co_L_innings (by decide +kernel) ⟨rfl, rfl, Nat.le_of_ble_eq_true rfl, Nat.le_of_ble_eq_true rfl⟩ rfl rfl (Nat.le_of_ble_eq_true rfl) ⟨by show cells + 1 ≤ 603072; omega, by show slots + 6 ≤ 7207018; omega⟩ dL_law_1376 ?_
  refine j_istore X ((6, .int (b_L_innings (xs (i + 1)) (xs (i + 2)) (xs (i + 3)) S).1) :: lv0 b ad i) dL_law_1379 (by decide) rfl ?_
  refine j_aload_n X 4 dL_law_1381 rfl ?_
  refine lw_arg X C 1 2 1 dL_law_1382 dL_law_1383 dL_law_1385 rfl dL_law_1386 dL_law_1387 rfl rfl (by omega) ?_
  refine lw_arg X C 2 2 1 dL_law_1388 dL_law_1389 dL_law_1391 rfl dL_law_1392 dL_law_1393 rfl rfl (by omega) ?_
  refine lw_arg X C 3 2 1 dL_law_1394 dL_law_1395 dL_law_1397 rfl dL_law_1398 dL_law_1399 rfl rfl (by omega) ?_
  refine j_callVi (As := [.int (xs (i + 1)), .int (xs (i + 2)), .int (xs (i + 3))]) (rest := []) X (c_X7_innings X.2.2.2.2.2.2.2 (xs (i + 1)) (xs (i + 2)) (xs (i + 3)) _ g2) cw_L_200 kc25.1 (cl_25 kc25) rfl ⟨rfl, rfl, Nat.le_of_ble_eq_true rfl, Nat.le_of_ble_eq_true rfl⟩ rfl rfl (Nat.le_of_ble_eq_true rfl) ⟨by show cells + 1 ≤ 603072; omega, by show slots + 6 ≤ 7207018; omega⟩ dL_law_1400 ?_
  refine j_istore X ((7, .int (b_X7_innings_0 (xs (i + 1)) (xs (i + 2)) (xs (i + 3)) (b_L_innings (xs (i + 1)) (xs (i + 2)) (xs (i + 3)) S).2).1) :: (6, .int (b_L_innings (xs (i + 1)) (xs (i + 2)) (xs (i + 3)) S).1) :: lv0 b ad i) dL_law_1403 (by decide) rfl ?_
  refine lw_tail X ⟨by omega, by omega⟩ g3 (fun h => g4 h (by decide)) dL_law_1405 dL_law_1406 dL_law_1409 dL_law_1411 dL_law_1416 dL_law_1418 dL_law_1421 dL_law_1422 dL_law_1423 dL_law_1424 dL_law_1426 dL_law_1427 dL_law_1428 dL_law_1433 (by decide) ?_
  refine lw_next X [2, 3, 4, 5, 6, 7] rfl ?_
  exact j_widen (by omega) (by omega) (nx _ _ (g5.up (by omega)))
theorem lc_bowl (hst : l.stackTraces = false) (X : Cx p m c cL_law 9 s args RL D q ad) (F : XF ad s.heap.size sa s) (C : Scr b L xs ad s) (hi : i + 4 ≤ L) (hcs : cells + 2 ≤ 603072 ∧ slots + 12 ≤ 7207018) (hN : N + 4392 < 2 ^ 30) (I : Inv N S S) (nx : Nx p l e s m args below meth c cells slots Q D q ad b i N) : Jg p l e room_L s m args below meth c cells slots Q D q ad d 9 1436 (lv0 b ad i) [] S := by
  obtain ⟨g1, g2, g3, g4, g5, g6⟩ := glue (N' := N) (codes := [(1, 1), (2, 2), (3, 3)]) (c := b_X6_bowl_0 (xs (i + 1)) (xs (i + 2)) S) (mf := fun M => b_X7_bowl_0 (xs (i + 1)) (xs (i + 2)) M) (om := fun M => o_X7_bowl_0 (xs (i + 1)) (xs (i + 2)) M) (oc := o_X6_bowl_0 (xs (i + 1)) (xs (i + 2)) S) (LR := b_L_bowl (xs (i + 1)) (xs (i + 2)) S) I (fun M IM => L_bowl IM (by omega) (xs (i + 1)) (xs (i + 2))) (fun h => by simp [b_L_bowl, h]) (fun e k hm he => by
    simp only [List.mem_cons, Prod.mk.injEq, List.not_mem_nil, or_false] at hm
    rcases hm with ⟨rfl, rfl⟩ | ⟨rfl, rfl⟩ | ⟨rfl, rfl⟩ <;> (unfold b_L_bowl; rw [he]; rfl))
  have ho : o_L_bowl (xs (i + 1)) (xs (i + 2)) S := by
    unfold o_L_bowl
    simp only [List.mem_cons, List.not_mem_nil, or_false, exists_eq_or_imp, exists_eq_left] at g6
    exact ⟨g1, g6⟩
  refine j_aload_n X 2 dL_law_1436 rfl ?_
  refine lw_arg X C 1 1 0 dL_law_1437 dL_law_1438 dL_law_1440 rfl dL_law_1441 dL_law_1442 rfl rfl (by omega) ?_
  refine lw_arg X C 2 1 0 dL_law_1443 dL_law_1444 dL_law_1446 rfl dL_law_1447 dL_law_1448 rfl rfl (by omega) ?_
  refine j_aload_n X 4 dL_law_1449 rfl ?_
  refine lw_call (k := 4) (As := [.ref (ad 0), .int (xs (i + 1)), .int (xs (i + 2)), .ref (ad 13)]) (rest := []) X F (c_L_bowl hst X.2.2.2.2.2.2.2 (xs (i + 1)) (xs (i + 2)) S ho) m_ml_L_201 m_st_L_bowl m_in_L m_co_L_bowl (by decide +kernel) ⟨rfl, rfl, Nat.le_of_ble_eq_true rfl, Nat.le_of_ble_eq_true rfl⟩ rfl rfl (Nat.le_of_ble_eq_true rfl) ⟨by show cells + 1 ≤ 603072; omega, by show slots + 6 ≤ 7207018; omega⟩ dL_law_1450 ?_
  refine j_istore X ((6, .int (b_L_bowl (xs (i + 1)) (xs (i + 2)) S).1) :: lv0 b ad i) dL_law_1453 (by decide) rfl ?_
  refine j_aload_n X 4 dL_law_1455 rfl ?_
  refine lw_arg X C 1 2 1 dL_law_1456 dL_law_1457 dL_law_1459 rfl dL_law_1460 dL_law_1461 rfl rfl (by omega) ?_
  refine lw_arg X C 2 2 1 dL_law_1462 dL_law_1463 dL_law_1465 rfl dL_law_1466 dL_law_1467 rfl rfl (by omega) ?_
  refine j_callVi (As := [.int (xs (i + 1)), .int (xs (i + 2))]) (rest := []) X (c_X7_bowl X.2.2.2.2.2.2.2 (xs (i + 1)) (xs (i + 2)) _ g2) cw_L_203 kc25.1 (cl_25 kc25) rfl ⟨rfl, rfl, Nat.le_of_ble_eq_true rfl, Nat.le_of_ble_eq_true rfl⟩ rfl rfl (Nat.le_of_ble_eq_true rfl) ⟨by show cells + 1 ≤ 603072; omega, by show slots + 6 ≤ 7207018; omega⟩ dL_law_1468 ?_
  refine j_istore X ((7, .int (b_X7_bowl_0 (xs (i + 1)) (xs (i + 2)) (b_L_bowl (xs (i + 1)) (xs (i + 2)) S).2).1) :: (6, .int (b_L_bowl (xs (i + 1)) (xs (i + 2)) S).1) :: lv0 b ad i) dL_law_1471 (by decide) rfl ?_
  refine lw_tail X ⟨by omega, by omega⟩ g3 (fun h => g4 h (by decide)) dL_law_1473 dL_law_1474 dL_law_1477 dL_law_1479 dL_law_1484 dL_law_1486 dL_law_1489 dL_law_1490 dL_law_1491 dL_law_1492 dL_law_1494 dL_law_1495 dL_law_1496 dL_law_1501 (by decide) ?_
  refine lw_next X [2, 3, 4, 5, 6, 7] rfl ?_
  exact j_widen (by omega) (by omega) (nx _ _ (g5.up (by omega)))
theorem lc_would (hst : l.stackTraces = false) (X : Cx p m c cL_law 9 s args RL D q ad) (F : XF ad s.heap.size sa s) (C : Scr b L xs ad s) (hi : i + 4 ≤ L) (hcs : cells + 2 ≤ 603072 ∧ slots + 12 ≤ 7207018) (hN : N + 4392 < 2 ^ 30) (I : Inv N S S) (nx : Nx p l e s m args below meth c cells slots Q D q ad b i N) : Jg p l e room_L s m args below meth c cells slots Q D q ad d 9 1504 (lv0 b ad i) [] S := by
  obtain ⟨g1, g2, g3, g4, g5, g6⟩ := glue (N' := N) (codes := [(1, 1), (2, 2)]) (c := b_X6_would_0 (xs (i + 1)) (xs (i + 2)) S) (mf := fun M => b_X7_would_0 (xs (i + 1)) (xs (i + 2)) M) (om := fun M => o_X7_would_0 (xs (i + 1)) (xs (i + 2)) M) (oc := o_X6_would_0 (xs (i + 1)) (xs (i + 2)) S) (LR := b_L_would (xs (i + 1)) (xs (i + 2)) S) I (fun M IM => L_would IM (xs (i + 1)) (xs (i + 2))) (fun h => by simp [b_L_would, h]) (fun e k hm he => by
    simp only [List.mem_cons, Prod.mk.injEq, List.not_mem_nil, or_false] at hm
    rcases hm with ⟨rfl, rfl⟩ | ⟨rfl, rfl⟩ <;> (unfold b_L_would; rw [he]; rfl))
  have ho : o_L_would (xs (i + 1)) (xs (i + 2)) S := by
    unfold o_L_would
    simp only [List.mem_cons, List.not_mem_nil, or_false, exists_eq_or_imp, exists_eq_left] at g6
    exact ⟨g1, g6⟩
  refine j_aload_n X 2 dL_law_1504 rfl ?_
  refine lw_arg X C 1 1 0 dL_law_1505 dL_law_1506 dL_law_1508 rfl dL_law_1509 dL_law_1510 rfl rfl (by omega) ?_
  refine lw_arg X C 2 1 0 dL_law_1511 dL_law_1512 dL_law_1514 rfl dL_law_1515 dL_law_1516 rfl rfl (by omega) ?_
  refine j_aload_n X 4 dL_law_1517 rfl ?_
  refine lw_call (k := 4) (As := [.ref (ad 0), .int (xs (i + 1)), .int (xs (i + 2)), .ref (ad 13)]) (rest := []) X F (c_L_would hst X.2.2.2.2.2.2.2 (xs (i + 1)) (xs (i + 2)) S ho) m_ml_L_204 m_st_L_would m_in_L m_co_L_would (by decide +kernel) ⟨rfl, rfl, Nat.le_of_ble_eq_true rfl, Nat.le_of_ble_eq_true rfl⟩ rfl rfl (Nat.le_of_ble_eq_true rfl) ⟨by show cells + 1 ≤ 603072; omega, by show slots + 6 ≤ 7207018; omega⟩ dL_law_1518 ?_
  refine j_istore X ((6, .int (b_L_would (xs (i + 1)) (xs (i + 2)) S).1) :: lv0 b ad i) dL_law_1521 (by decide) rfl ?_
  refine j_aload_n X 4 dL_law_1523 rfl ?_
  refine lw_arg X C 1 2 1 dL_law_1524 dL_law_1525 dL_law_1527 rfl dL_law_1528 dL_law_1529 rfl rfl (by omega) ?_
  refine lw_arg X C 2 2 1 dL_law_1530 dL_law_1531 dL_law_1533 rfl dL_law_1534 dL_law_1535 rfl rfl (by omega) ?_
  refine j_callVi (As := [.int (xs (i + 1)), .int (xs (i + 2))]) (rest := []) X (c_X7_would X.2.2.2.2.2.2.2 (xs (i + 1)) (xs (i + 2)) _ g2) cw_L_206 kc25.1 (cl_25 kc25) rfl ⟨rfl, rfl, Nat.le_of_ble_eq_true rfl, Nat.le_of_ble_eq_true rfl⟩ rfl rfl (Nat.le_of_ble_eq_true rfl) ⟨by show cells + 1 ≤ 603072; omega, by show slots + 6 ≤ 7207018; omega⟩ dL_law_1536 ?_
  refine j_istore X ((7, .int (b_X7_would_0 (xs (i + 1)) (xs (i + 2)) (b_L_would (xs (i + 1)) (xs (i + 2)) S).2).1) :: (6, .int (b_L_would (xs (i + 1)) (xs (i + 2)) S).1) :: lv0 b ad i) dL_law_1539 (by decide) rfl ?_
  refine lw_tail X ⟨by omega, by omega⟩ g3 (fun h => g4 h (by decide)) dL_law_1541 dL_law_1542 dL_law_1545 dL_law_1547 dL_law_1552 dL_law_1554 dL_law_1557 dL_law_1558 dL_law_1559 dL_law_1560 dL_law_1562 dL_law_1563 dL_law_1564 dL_law_1569 (by decide) ?_
  refine lw_next X [2, 3, 4, 5, 6, 7] rfl ?_
  exact j_widen (by omega) (by omega) (nx _ _ (g5.up (by omega)))
theorem lc_end (hst : l.stackTraces = false) (X : Cx p m c cL_law 9 s args RL D q ad) (F : XF ad s.heap.size sa s) (C : Scr b L xs ad s) (hi : i + 4 ≤ L) (hcs : cells + 2 ≤ 603072 ∧ slots + 12 ≤ 7207018) (hN : N + 4392 < 2 ^ 30) (I : Inv N S S) (nx : Nx p l e s m args below meth c cells slots Q D q ad b i N) : Jg p l e room_L s m args below meth c cells slots Q D q ad d 9 1572 (lv0 b ad i) [] S := by
  obtain ⟨g1, g2, g3, g4, g5, g6⟩ := glue (N' := N) (codes := [(1, 1), (3, 2)]) (c := b_X6_end_0 (xs (i + 1)) S) (mf := fun M => b_X7_end_0 (xs (i + 1)) M) (om := fun M => o_X7_end_0 (xs (i + 1)) M) (oc := o_X6_end_0 (xs (i + 1)) S) (LR := b_L_end (xs (i + 1)) S) I (fun M IM => L_end IM (xs (i + 1))) (fun h => by simp [b_L_end, h]) (fun e k hm he => by
    simp only [List.mem_cons, Prod.mk.injEq, List.not_mem_nil, or_false] at hm
    rcases hm with ⟨rfl, rfl⟩ | ⟨rfl, rfl⟩ <;> (unfold b_L_end; rw [he]; rfl))
  have ho : o_L_end (xs (i + 1)) S := by
    unfold o_L_end
    simp only [List.mem_cons, List.not_mem_nil, or_false, exists_eq_or_imp, exists_eq_left] at g6
    exact ⟨g1, g6⟩
  refine j_aload_n X 2 dL_law_1572 rfl ?_
  refine lw_arg X C 1 1 0 dL_law_1573 dL_law_1574 dL_law_1576 rfl dL_law_1577 dL_law_1578 rfl rfl (by omega) ?_
  refine j_aload_n X 4 dL_law_1579 rfl ?_
  refine lw_call (k := 3) (As := [.ref (ad 0), .int (xs (i + 1)), .ref (ad 13)]) (rest := []) X F (c_L_end hst X.2.2.2.2.2.2.2 (xs (i + 1)) S ho) m_ml_L_207 m_st_L_end m_in_L m_co_L_end (by decide +kernel) ⟨rfl, rfl, Nat.le_of_ble_eq_true rfl, Nat.le_of_ble_eq_true rfl⟩ rfl rfl (Nat.le_of_ble_eq_true rfl) ⟨by show cells + 1 ≤ 603072; omega, by show slots + 6 ≤ 7207018; omega⟩ dL_law_1580 ?_
  refine j_istore X ((6, .int (b_L_end (xs (i + 1)) S).1) :: lv0 b ad i) dL_law_1583 (by decide) rfl ?_
  refine j_aload_n X 4 dL_law_1585 rfl ?_
  refine lw_arg X C 1 2 1 dL_law_1586 dL_law_1587 dL_law_1589 rfl dL_law_1590 dL_law_1591 rfl rfl (by omega) ?_
  refine j_callVi (As := [.int (xs (i + 1))]) (rest := []) X (c_X7_end X.2.2.2.2.2.2.2 (xs (i + 1)) _ g2) cw_L_209 kc25.1 (cl_25 kc25) rfl ⟨rfl, rfl, Nat.le_of_ble_eq_true rfl, Nat.le_of_ble_eq_true rfl⟩ rfl rfl (Nat.le_of_ble_eq_true rfl) ⟨by show cells + 1 ≤ 603072; omega, by show slots + 6 ≤ 7207018; omega⟩ dL_law_1592 ?_
  refine j_istore X ((7, .int (b_X7_end_0 (xs (i + 1)) (b_L_end (xs (i + 1)) S).2).1) :: (6, .int (b_L_end (xs (i + 1)) S).1) :: lv0 b ad i) dL_law_1595 (by decide) rfl ?_
  refine lw_tail X ⟨by omega, by omega⟩ g3 (fun h => g4 h (by decide)) dL_law_1597 dL_law_1598 dL_law_1601 dL_law_1603 dL_law_1608 dL_law_1610 dL_law_1613 dL_law_1614 dL_law_1615 dL_law_1616 dL_law_1618 dL_law_1619 dL_law_1620 dL_law_1625 (by decide) ?_
  refine lw_next X [2, 3, 4, 5, 6, 7] rfl ?_
  exact j_widen (by omega) (by omega) (nx _ _ (g5.up (by omega)))
theorem lc_inningsOf (hst : l.stackTraces = false) (X : Cx p m c cL_law 9 s args RL D q ad) (F : XF ad s.heap.size sa s) (C : Scr b L xs ad s) (hi : i + 4 ≤ L) (hcs : cells + 2 ≤ 603072 ∧ slots + 12 ≤ 7207018) (hN : N + 4392 < 2 ^ 30) (I : Inv N S S) (nx : Nx p l e s m args below meth c cells slots Q D q ad b i N) : Jg p l e room_L s m args below meth c cells slots Q D q ad d 9 1628 (lv0 b ad i) [] S := by
  obtain ⟨g1, g2, g3, g4, g5, g6⟩ := glue (N' := N) (codes := [(1, 1), (2, 2)]) (c := b_X6_inningsOf_0 (xs (i + 1)) (xs (i + 2)) S) (mf := fun M => b_X7_inningsOf_0 (xs (i + 1)) (xs (i + 2)) M) (om := fun M => o_X7_inningsOf_0 (xs (i + 1)) (xs (i + 2)) M) (oc := o_X6_inningsOf_0 (xs (i + 1)) (xs (i + 2)) S) (LR := b_L_inningsOf (xs (i + 1)) (xs (i + 2)) S) I (fun M IM => L_inningsOf IM (xs (i + 1)) (xs (i + 2))) (fun h => by simp [b_L_inningsOf, h]) (fun e k hm he => by
    simp only [List.mem_cons, Prod.mk.injEq, List.not_mem_nil, or_false] at hm
    rcases hm with ⟨rfl, rfl⟩ | ⟨rfl, rfl⟩ <;> (unfold b_L_inningsOf; rw [he]; rfl))
  have ho : o_L_inningsOf (xs (i + 1)) (xs (i + 2)) S := by
    unfold o_L_inningsOf
    simp only [List.mem_cons, List.not_mem_nil, or_false, exists_eq_or_imp, exists_eq_left] at g6
    exact ⟨g1, g6⟩
  refine j_aload_n X 2 dL_law_1628 rfl ?_
  refine lw_arg X C 1 1 0 dL_law_1629 dL_law_1630 dL_law_1632 rfl dL_law_1633 dL_law_1634 rfl rfl (by omega) ?_
  refine lw_arg X C 2 1 0 dL_law_1635 dL_law_1636 dL_law_1638 rfl dL_law_1639 dL_law_1640 rfl rfl (by omega) ?_
  refine j_aload_n X 4 dL_law_1641 rfl ?_
  refine lw_call (k := 4) (As := [.ref (ad 0), .int (xs (i + 1)), .int (xs (i + 2)), .ref (ad 13)]) (rest := []) X F (c_L_inningsOf hst X.2.2.2.2.2.2.2 (xs (i + 1)) (xs (i + 2)) S ho) m_ml_L_210 m_st_L_inningsOf m_in_L m_co_L_inningsOf (by decide +kernel) ⟨rfl, rfl, Nat.le_of_ble_eq_true rfl, Nat.le_of_ble_eq_true rfl⟩ rfl rfl (Nat.le_of_ble_eq_true rfl) ⟨by show cells + 2 ≤ 603072; omega, by show slots + 12 ≤ 7207018; omega⟩ dL_law_1642 ?_
  refine j_istore X ((6, .int (b_L_inningsOf (xs (i + 1)) (xs (i + 2)) S).1) :: lv0 b ad i) dL_law_1645 (by decide) rfl ?_
  refine j_aload_n X 4 dL_law_1647 rfl ?_
  refine lw_arg X C 1 2 1 dL_law_1648 dL_law_1649 dL_law_1651 rfl dL_law_1652 dL_law_1653 rfl rfl (by omega) ?_
  refine lw_arg X C 2 2 1 dL_law_1654 dL_law_1655 dL_law_1657 rfl dL_law_1658 dL_law_1659 rfl rfl (by omega) ?_
  refine j_callVi (As := [.int (xs (i + 1)), .int (xs (i + 2))]) (rest := []) X (c_X7_inningsOf X.2.2.2.2.2.2.2 (xs (i + 1)) (xs (i + 2)) _ g2) cw_L_212 kc25.1 (cl_25 kc25) rfl ⟨rfl, rfl, Nat.le_of_ble_eq_true rfl, Nat.le_of_ble_eq_true rfl⟩ rfl rfl (Nat.le_of_ble_eq_true rfl) ⟨by show cells + 2 ≤ 603072; omega, by show slots + 12 ≤ 7207018; omega⟩ dL_law_1660 ?_
  refine j_istore X ((7, .int (b_X7_inningsOf_0 (xs (i + 1)) (xs (i + 2)) (b_L_inningsOf (xs (i + 1)) (xs (i + 2)) S).2).1) :: (6, .int (b_L_inningsOf (xs (i + 1)) (xs (i + 2)) S).1) :: lv0 b ad i) dL_law_1663 (by decide) rfl ?_
  refine lw_tail X ⟨by omega, by omega⟩ g3 (fun h => g4 h (by decide)) dL_law_1665 dL_law_1666 dL_law_1669 dL_law_1671 dL_law_1676 dL_law_1678 dL_law_1681 dL_law_1682 dL_law_1683 dL_law_1684 dL_law_1686 dL_law_1687 dL_law_1688 dL_law_1693 (by decide) ?_
  refine lw_next X [2, 3, 4, 5, 6, 7] rfl ?_
  exact j_widen (by omega) (by omega) (nx _ _ (g5.up (by omega)))
theorem lc_balls (hst : l.stackTraces = false) (X : Cx p m c cL_law 9 s args RL D q ad) (F : XF ad s.heap.size sa s) (C : Scr b L xs ad s) (hi : i + 4 ≤ L) (hcs : cells + 2 ≤ 603072 ∧ slots + 12 ≤ 7207018) (hN : N + 4392 < 2 ^ 30) (I : Inv N S S) (nx : Nx p l e s m args below meth c cells slots Q D q ad b i N) : Jg p l e room_L s m args below meth c cells slots Q D q ad d 9 1696 (lv0 b ad i) [] S := by
  obtain ⟨g1, g2, g3, g4, g5, g6⟩ := glue (N' := N) (codes := [(1, 1), (2, 2)]) (c := b_X6_balls_0 (xs (i + 1)) (xs (i + 2)) S) (mf := fun M => b_X7_balls_0 (xs (i + 1)) (xs (i + 2)) M) (om := fun M => o_X7_balls_0 (xs (i + 1)) (xs (i + 2)) M) (oc := o_X6_balls_0 (xs (i + 1)) (xs (i + 2)) S) (LR := b_L_balls (xs (i + 1)) (xs (i + 2)) S) I (fun M IM => L_balls IM (xs (i + 1)) (xs (i + 2))) (fun h => by simp [b_L_balls, h]) (fun e k hm he => by
    simp only [List.mem_cons, Prod.mk.injEq, List.not_mem_nil, or_false] at hm
    rcases hm with ⟨rfl, rfl⟩ | ⟨rfl, rfl⟩ <;> (unfold b_L_balls; rw [he]; rfl))
  have ho : o_L_balls (xs (i + 1)) (xs (i + 2)) S := by
    unfold o_L_balls
    simp only [List.mem_cons, List.not_mem_nil, or_false, exists_eq_or_imp, exists_eq_left] at g6
    exact ⟨g1, g6⟩
  refine j_aload_n X 2 dL_law_1696 rfl ?_
  refine lw_arg X C 1 1 0 dL_law_1697 dL_law_1698 dL_law_1700 rfl dL_law_1701 dL_law_1702 rfl rfl (by omega) ?_
  refine lw_arg X C 2 1 0 dL_law_1703 dL_law_1704 dL_law_1706 rfl dL_law_1707 dL_law_1708 rfl rfl (by omega) ?_
  refine j_aload_n X 4 dL_law_1709 rfl ?_
  refine lw_call (k := 4) (As := [.ref (ad 0), .int (xs (i + 1)), .int (xs (i + 2)), .ref (ad 13)]) (rest := []) X F (c_L_balls hst X.2.2.2.2.2.2.2 (xs (i + 1)) (xs (i + 2)) S ho) m_ml_L_213 m_st_L_balls m_in_L m_co_L_balls (by decide +kernel) ⟨rfl, rfl, Nat.le_of_ble_eq_true rfl, Nat.le_of_ble_eq_true rfl⟩ rfl rfl (Nat.le_of_ble_eq_true rfl) ⟨by show cells + 2 ≤ 603072; omega, by show slots + 12 ≤ 7207018; omega⟩ dL_law_1710 ?_
  refine j_istore X ((6, .int (b_L_balls (xs (i + 1)) (xs (i + 2)) S).1) :: lv0 b ad i) dL_law_1713 (by decide) rfl ?_
  refine j_aload_n X 4 dL_law_1715 rfl ?_
  refine lw_arg X C 1 2 1 dL_law_1716 dL_law_1717 dL_law_1719 rfl dL_law_1720 dL_law_1721 rfl rfl (by omega) ?_
  refine lw_arg X C 2 2 1 dL_law_1722 dL_law_1723 dL_law_1725 rfl dL_law_1726 dL_law_1727 rfl rfl (by omega) ?_
  refine j_callVi (As := [.int (xs (i + 1)), .int (xs (i + 2))]) (rest := []) X (c_X7_balls X.2.2.2.2.2.2.2 (xs (i + 1)) (xs (i + 2)) _ g2) cw_L_215 kc25.1 (cl_25 kc25) rfl ⟨rfl, rfl, Nat.le_of_ble_eq_true rfl, Nat.le_of_ble_eq_true rfl⟩ rfl rfl (Nat.le_of_ble_eq_true rfl) ⟨by show cells + 2 ≤ 603072; omega, by show slots + 12 ≤ 7207018; omega⟩ dL_law_1728 ?_
  refine j_istore X ((7, .int (b_X7_balls_0 (xs (i + 1)) (xs (i + 2)) (b_L_balls (xs (i + 1)) (xs (i + 2)) S).2).1) :: (6, .int (b_L_balls (xs (i + 1)) (xs (i + 2)) S).1) :: lv0 b ad i) dL_law_1731 (by decide) rfl ?_
  refine lw_tail X ⟨by omega, by omega⟩ g3 (fun h => g4 h (by decide)) dL_law_1733 dL_law_1734 dL_law_1737 dL_law_1739 dL_law_1744 dL_law_1746 dL_law_1749 dL_law_1750 dL_law_1751 dL_law_1752 dL_law_1754 dL_law_1755 dL_law_1756 dL_law_1761 (by decide) ?_
  refine lw_next X [2, 3, 4, 5, 6, 7] rfl ?_
  exact j_widen (by omega) (by omega) (nx _ _ (g5.up (by omega)))
theorem lc_runsAgain (hst : l.stackTraces = false) (X : Cx p m c cL_law 9 s args RL D q ad) (F : XF ad s.heap.size sa s) (C : Scr b L xs ad s) (hi : i + 4 ≤ L) (hcs : cells + 2 ≤ 603072 ∧ slots + 12 ≤ 7207018) (hN : N + 4392 < 2 ^ 30) (I : Inv N S S) (nx : Nx p l e s m args below meth c cells slots Q D q ad b i N) : Jg p l e room_L s m args below meth c cells slots Q D q ad d 9 1764 (lv0 b ad i) [] S := by
  obtain ⟨g1, g2, g3, g4, g5, g6⟩ := glue (N' := N) (codes := [(1, 1)]) (c := b_X6_runsAgain_0 (xs (i + 1)) S) (mf := fun M => b_X7_runsAgain_0 (xs (i + 1)) M) (om := fun M => o_X7_runsAgain_0 (xs (i + 1)) M) (oc := o_X6_runsAgain_0 (xs (i + 1)) S) (LR := b_L_runsAgain (xs (i + 1)) S) I (fun M IM => L_runsAgain IM (xs (i + 1))) (fun h => by simp [b_L_runsAgain, h]) (fun e k hm he => by
    simp only [List.mem_cons, Prod.mk.injEq, List.not_mem_nil, or_false] at hm
    rcases hm with ⟨rfl, rfl⟩ <;> (unfold b_L_runsAgain; rw [he]; rfl))
  have ho : o_L_runsAgain (xs (i + 1)) S := by
    unfold o_L_runsAgain
    simp only [List.mem_cons, List.not_mem_nil, or_false, exists_eq_or_imp, exists_eq_left] at g6
    exact ⟨g1, g6⟩
  refine j_aload_n X 2 dL_law_1764 rfl ?_
  refine lw_arg X C 1 1 0 dL_law_1765 dL_law_1766 dL_law_1768 rfl dL_law_1769 dL_law_1770 rfl rfl (by omega) ?_
  refine j_aload_n X 4 dL_law_1771 rfl ?_
  refine lw_call (k := 3) (As := [.ref (ad 0), .int (xs (i + 1)), .ref (ad 13)]) (rest := []) X F (c_L_runsAgain hst X.2.2.2.2.2.2.2 (xs (i + 1)) S ho) m_ml_L_216 m_st_L_runsAgain m_in_L m_co_L_runsAgain (by decide +kernel) ⟨rfl, rfl, Nat.le_of_ble_eq_true rfl, Nat.le_of_ble_eq_true rfl⟩ rfl rfl (Nat.le_of_ble_eq_true rfl) ⟨by show cells + 1 ≤ 603072; omega, by show slots + 6 ≤ 7207018; omega⟩ dL_law_1772 ?_
  refine j_istore X ((6, .int (b_L_runsAgain (xs (i + 1)) S).1) :: lv0 b ad i) dL_law_1775 (by decide) rfl ?_
  refine j_aload_n X 4 dL_law_1777 rfl ?_
  refine lw_arg X C 1 2 1 dL_law_1778 dL_law_1779 dL_law_1781 rfl dL_law_1782 dL_law_1783 rfl rfl (by omega) ?_
  refine j_callVi (As := [.int (xs (i + 1))]) (rest := []) X (c_X7_runsAgain X.2.2.2.2.2.2.2 (xs (i + 1)) _ g2) cw_L_218 kc25.1 (cl_25 kc25) rfl ⟨rfl, rfl, Nat.le_of_ble_eq_true rfl, Nat.le_of_ble_eq_true rfl⟩ rfl rfl (Nat.le_of_ble_eq_true rfl) ⟨by show cells + 1 ≤ 603072; omega, by show slots + 6 ≤ 7207018; omega⟩ dL_law_1784 ?_
  refine j_istore X ((7, .int (b_X7_runsAgain_0 (xs (i + 1)) (b_L_runsAgain (xs (i + 1)) S).2).1) :: (6, .int (b_L_runsAgain (xs (i + 1)) S).1) :: lv0 b ad i) dL_law_1787 (by decide) rfl ?_
  refine lw_tail X ⟨by omega, by omega⟩ g3 (fun h => g4 h (by decide)) dL_law_1789 dL_law_1790 dL_law_1793 dL_law_1795 dL_law_1800 dL_law_1802 dL_law_1805 dL_law_1806 dL_law_1807 dL_law_1808 dL_law_1810 dL_law_1811 dL_law_1812 dL_law_1817 (by decide) ?_
  refine lw_next X [2, 3, 4, 5, 6, 7] rfl ?_
  exact j_widen (by omega) (by omega) (nx _ _ (g5.up (by omega)))
theorem lc_ranked (hst : l.stackTraces = false) (X : Cx p m c cL_law 9 s args RL D q ad) (F : XF ad s.heap.size sa s) (C : Scr b L xs ad s) (hi : i + 4 ≤ L) (hcs : cells + 2 ≤ 603072 ∧ slots + 12 ≤ 7207018) (hN : N + 4392 < 2 ^ 30) (I : Inv N S S) (nx : Nx p l e s m args below meth c cells slots Q D q ad b i N) : Jg p l e room_L s m args below meth c cells slots Q D q ad d 9 1820 (lv0 b ad i) [] S := by
  obtain ⟨g1, g2, g3, g4, g5, g6⟩ := glue (N' := N) (codes := [(4, 1)]) (c := b_X6_ranked_0 (xs (i + 1)) S) (mf := fun M => b_X7_ranked_0 (xs (i + 1)) M) (om := fun M => o_X7_ranked_0 (xs (i + 1)) M) (oc := o_X6_ranked_0 (xs (i + 1)) S) (LR := b_L_ranked (xs (i + 1)) S) I (fun M IM => L_ranked IM (xs (i + 1))) (fun h => by simp [b_L_ranked, h]) (fun e k hm he => by
    simp only [List.mem_cons, Prod.mk.injEq, List.not_mem_nil, or_false] at hm
    rcases hm with ⟨rfl, rfl⟩ <;> (unfold b_L_ranked; rw [he]; rfl))
  have ho : o_L_ranked (xs (i + 1)) S := by
    unfold o_L_ranked
    simp only [List.mem_cons, List.not_mem_nil, or_false, exists_eq_or_imp, exists_eq_left] at g6
    exact ⟨g1, g6⟩
  refine j_aload_n X 2 dL_law_1820 rfl ?_
  refine lw_arg X C 1 1 0 dL_law_1821 dL_law_1822 dL_law_1824 rfl dL_law_1825 dL_law_1826 rfl rfl (by omega) ?_
  refine j_aload_n X 4 dL_law_1827 rfl ?_
  refine lw_call (k := 3) (As := [.ref (ad 0), .int (xs (i + 1)), .ref (ad 13)]) (rest := []) X F (c_L_ranked hst X.2.2.2.2.2.2.2 (xs (i + 1)) S ho) m_ml_L_219 m_st_L_ranked m_in_L m_co_L_ranked (by decide +kernel) ⟨rfl, rfl, Nat.le_of_ble_eq_true rfl, Nat.le_of_ble_eq_true rfl⟩ rfl rfl (Nat.le_of_ble_eq_true rfl) ⟨by show cells + 1 ≤ 603072; omega, by show slots + 6 ≤ 7207018; omega⟩ dL_law_1828 ?_
  refine j_istore X ((6, .int (b_L_ranked (xs (i + 1)) S).1) :: lv0 b ad i) dL_law_1831 (by decide) rfl ?_
  refine j_aload_n X 4 dL_law_1833 rfl ?_
  refine lw_arg X C 1 2 1 dL_law_1834 dL_law_1835 dL_law_1837 rfl dL_law_1838 dL_law_1839 rfl rfl (by omega) ?_
  refine j_callVi (As := [.int (xs (i + 1))]) (rest := []) X (c_X7_ranked X.2.2.2.2.2.2.2 (xs (i + 1)) _ g2) cw_L_221 kc25.1 (cl_25 kc25) rfl ⟨rfl, rfl, Nat.le_of_ble_eq_true rfl, Nat.le_of_ble_eq_true rfl⟩ rfl rfl (Nat.le_of_ble_eq_true rfl) ⟨by show cells + 1 ≤ 603072; omega, by show slots + 6 ≤ 7207018; omega⟩ dL_law_1840 ?_
  refine j_istore X ((7, .int (b_X7_ranked_0 (xs (i + 1)) (b_L_ranked (xs (i + 1)) S).2).1) :: (6, .int (b_L_ranked (xs (i + 1)) S).1) :: lv0 b ad i) dL_law_1843 (by decide) rfl ?_
  refine lw_tail X ⟨by omega, by omega⟩ g3 (fun h => g4 h (by decide)) dL_law_1845 dL_law_1846 dL_law_1849 dL_law_1851 dL_law_1856 dL_law_1858 dL_law_1861 dL_law_1862 dL_law_1863 dL_law_1864 dL_law_1866 dL_law_1867 dL_law_1868 dL_law_1873 (by decide) ?_
  refine lw_next X [2, 3, 4, 5, 6, 7] rfl ?_
  exact j_widen (by omega) (by omega) (nx _ _ (g5.up (by omega)))
theorem lc_pass (hst : l.stackTraces = false) (X : Cx p m c cL_law 9 s args RL D q ad) (F : XF ad s.heap.size sa s) (C : Scr b L xs ad s) (hi : i + 4 ≤ L) (hcs : cells + 2 ≤ 603072 ∧ slots + 12 ≤ 7207018) (hN : N + 4392 < 2 ^ 30) (I : Inv N S S) (nx : Nx p l e s m args below meth c cells slots Q D q ad b i N) : Jg p l e room_L s m args below meth c cells slots Q D q ad d 9 1876 (lv0 b ad i) [] S := by
  obtain ⟨g1, g2, g3, g4, g5, g6⟩ := glue (N' := (N + 72)) (codes := [(2, 1)]) (c := b_X6_pass_0 (xs (i + 1)) S) (mf := fun M => b_X7_pass_0 (xs (i + 1)) M) (om := fun M => o_X7_pass_0 (xs (i + 1)) M) (oc := o_X6_pass_0 (xs (i + 1)) S) (LR := b_L_pass (xs (i + 1)) S) I (fun M IM => L_pass IM (by omega) (xs (i + 1))) (fun h => by simp [b_L_pass, h]) (fun e k hm he => by
    simp only [List.mem_cons, Prod.mk.injEq, List.not_mem_nil, or_false] at hm
    rcases hm with ⟨rfl, rfl⟩ <;> (unfold b_L_pass; rw [he]; rfl))
  have ho : o_L_pass (xs (i + 1)) S := by
    unfold o_L_pass
    simp only [List.mem_cons, List.not_mem_nil, or_false, exists_eq_or_imp, exists_eq_left] at g6
    exact ⟨g1, g6⟩
  refine j_aload_n X 2 dL_law_1876 rfl ?_
  refine lw_arg X C 1 1 0 dL_law_1877 dL_law_1878 dL_law_1880 rfl dL_law_1881 dL_law_1882 rfl rfl (by omega) ?_
  refine j_aload_n X 4 dL_law_1883 rfl ?_
  refine lw_call (k := 3) (As := [.ref (ad 0), .int (xs (i + 1)), .ref (ad 13)]) (rest := []) X F (c_L_pass hst X.2.2.2.2.2.2.2 (xs (i + 1)) S ho) m_ml_L_222 m_st_L_pass m_in_L m_co_L_pass (by decide +kernel) ⟨rfl, rfl, Nat.le_of_ble_eq_true rfl, Nat.le_of_ble_eq_true rfl⟩ rfl rfl (Nat.le_of_ble_eq_true rfl) ⟨by show cells + 1 ≤ 603072; omega, by show slots + 6 ≤ 7207018; omega⟩ dL_law_1884 ?_
  refine j_istore X ((6, .int (b_L_pass (xs (i + 1)) S).1) :: lv0 b ad i) dL_law_1887 (by decide) rfl ?_
  refine j_aload_n X 4 dL_law_1889 rfl ?_
  refine lw_arg X C 1 2 1 dL_law_1890 dL_law_1891 dL_law_1893 rfl dL_law_1894 dL_law_1895 rfl rfl (by omega) ?_
  refine j_callVi (As := [.int (xs (i + 1))]) (rest := []) X (c_X7_pass X.2.2.2.2.2.2.2 (xs (i + 1)) _ g2) cw_L_224 kc25.1 (cl_25 kc25) rfl ⟨rfl, rfl, Nat.le_of_ble_eq_true rfl, Nat.le_of_ble_eq_true rfl⟩ rfl rfl (Nat.le_of_ble_eq_true rfl) ⟨by show cells + 1 ≤ 603072; omega, by show slots + 6 ≤ 7207018; omega⟩ dL_law_1896 ?_
  refine j_istore X ((7, .int (b_X7_pass_0 (xs (i + 1)) (b_L_pass (xs (i + 1)) S).2).1) :: (6, .int (b_L_pass (xs (i + 1)) S).1) :: lv0 b ad i) dL_law_1899 (by decide) rfl ?_
  refine lw_tail X ⟨by omega, by omega⟩ g3 (fun h => g4 h (by decide)) dL_law_1901 dL_law_1902 dL_law_1905 dL_law_1907 dL_law_1912 dL_law_1914 dL_law_1917 dL_law_1918 dL_law_1919 dL_law_1920 dL_law_1922 dL_law_1923 dL_law_1924 dL_law_1929 (by decide) ?_
  refine lw_next X [2, 3, 4, 5, 6, 7] rfl ?_
  exact j_widen (by omega) (by omega) (nx _ _ (g5.up (by omega)))
theorem lc_append (hst : l.stackTraces = false) (X : Cx p m c cL_law 9 s args RL D q ad) (F : XF ad s.heap.size sa s) (C : Scr b L xs ad s) (hi : i + 4 ≤ L) (hcs : cells + 2 ≤ 603072 ∧ slots + 12 ≤ 7207018) (hN : N + 4392 < 2 ^ 30) (I : Inv N S S) (nx : Nx p l e s m args below meth c cells slots Q D q ad b i N) : Jg p l e room_L s m args below meth c cells slots Q D q ad d 9 1932 (lv0 b ad i) [] S := by
  obtain ⟨g1, g2, g3, g4, g5, g6⟩ := glue (N' := N) (codes := [(5, 1)]) (c := b_X6_append_0 (i_i2c (xs (i + 1))) S) (mf := fun M => b_X7_append_0 (i_i2c (xs (i + 1))) M) (om := fun M => o_X7_append_0 (i_i2c (xs (i + 1))) M) (oc := o_X6_append_0 (i_i2c (xs (i + 1))) S) (LR := b_L_append (i_i2c (xs (i + 1))) S) I (fun M IM => L_append IM (i_i2c (xs (i + 1))) (nar_i2c _)) (fun h => by simp [b_L_append, h]) (fun e k hm he => by
    simp only [List.mem_cons, Prod.mk.injEq, List.not_mem_nil, or_false] at hm
    rcases hm with ⟨rfl, rfl⟩ <;> (unfold b_L_append; rw [he]; rfl))
  have ho : o_L_append (i_i2c (xs (i + 1))) S := by
    unfold o_L_append
    simp only [List.mem_cons, List.not_mem_nil, or_false, exists_eq_or_imp, exists_eq_left] at g6
    exact ⟨g1, g6⟩
  refine j_aload_n X 2 dL_law_1932 rfl ?_
  refine lw_arg X C 1 1 0 dL_law_1933 dL_law_1934 dL_law_1936 rfl dL_law_1937 dL_law_1938 rfl rfl (by omega) ?_
  refine j_i2c X dL_law_1939 ?_
  refine j_aload_n X 4 dL_law_1940 rfl ?_
  refine lw_call (k := 3) (As := [.ref (ad 0), .int (i_i2c (xs (i + 1))), .ref (ad 13)]) (rest := []) X F (c_L_append hst X.2.2.2.2.2.2.2 (i_i2c (xs (i + 1))) S ho) m_ml_L_225 m_st_L_append m_in_L m_co_L_append (by decide +kernel) ⟨rfl, rfl, Nat.le_of_ble_eq_true rfl, Nat.le_of_ble_eq_true rfl⟩ rfl rfl (Nat.le_of_ble_eq_true rfl) ⟨by show cells + 1 ≤ 603072; omega, by show slots + 6 ≤ 7207018; omega⟩ dL_law_1941 ?_
  refine j_istore X ((6, .int (b_L_append (i_i2c (xs (i + 1))) S).1) :: lv0 b ad i) dL_law_1944 (by decide) rfl ?_
  refine j_aload_n X 4 dL_law_1946 rfl ?_
  refine lw_arg X C 1 2 1 dL_law_1947 dL_law_1948 dL_law_1950 rfl dL_law_1951 dL_law_1952 rfl rfl (by omega) ?_
  refine j_i2c X dL_law_1953 ?_
  refine j_callVi (As := [.int (i_i2c (xs (i + 1)))]) (rest := []) X (c_X7_append X.2.2.2.2.2.2.2 (i_i2c (xs (i + 1))) _ g2) cw_L_228 kc25.1 (cl_25 kc25) rfl ⟨rfl, rfl, Nat.le_of_ble_eq_true rfl, Nat.le_of_ble_eq_true rfl⟩ rfl rfl (Nat.le_of_ble_eq_true rfl) ⟨by show cells + 1 ≤ 603072; omega, by show slots + 6 ≤ 7207018; omega⟩ dL_law_1954 ?_
  refine j_istore X ((7, .int (b_X7_append_0 (i_i2c (xs (i + 1))) (b_L_append (i_i2c (xs (i + 1))) S).2).1) :: (6, .int (b_L_append (i_i2c (xs (i + 1))) S).1) :: lv0 b ad i) dL_law_1957 (by decide) rfl ?_
  refine lw_tail X ⟨by omega, by omega⟩ g3 (fun h => g4 h (by decide)) dL_law_1959 dL_law_1960 dL_law_1963 dL_law_1965 dL_law_1970 dL_law_1972 dL_law_1975 dL_law_1976 dL_law_1977 dL_law_1978 dL_law_1980 dL_law_1981 dL_law_1982 dL_law_1987 (by decide) ?_
  refine lw_next X [2, 3, 4, 5, 6, 7] rfl ?_
  exact j_widen (by omega) (by omega) (nx _ _ (g5.up (by omega)))
theorem lc_read (hst : l.stackTraces = false) (X : Cx p m c cL_law 9 s args RL D q ad) (F : XF ad s.heap.size sa s) (C : Scr b L xs ad s) (hi : i + 4 ≤ L) (hcs : cells + 2 ≤ 603072 ∧ slots + 12 ≤ 7207018) (hN : N + 4392 < 2 ^ 30) (I : Inv N S S) (nx : Nx p l e s m args below meth c cells slots Q D q ad b i N) : Jg p l e room_L s m args below meth c cells slots Q D q ad d 9 1990 (lv0 b ad i) [] S := by
  obtain ⟨g1, g2, g3, g4, g5, g6⟩ := glue (N' := (N + 72 * 61)) (codes := [(2, 1), (3, 2)]) (c := b_X6_read_0 S) (mf := fun M => b_X7_read_0 M) (om := fun M => o_X7_read_0 M) (oc := o_X6_read_0 S) (LR := b_L_read S) I (fun M IM => L_read IM (by omega)) (fun h => by simp [b_L_read, h]) (fun e k hm he => by
    simp only [List.mem_cons, Prod.mk.injEq, List.not_mem_nil, or_false] at hm
    rcases hm with ⟨rfl, rfl⟩ | ⟨rfl, rfl⟩ <;> (unfold b_L_read; rw [he]; rfl))
  have ho : o_L_read S := by
    unfold o_L_read
    simp only [List.mem_cons, List.not_mem_nil, or_false, exists_eq_or_imp, exists_eq_left] at g6
    exact ⟨g1, g6⟩
  refine j_aload_n X 2 dL_law_1990 rfl ?_
  refine j_aload_n X 4 dL_law_1991 rfl ?_
  refine lw_call (k := 2) (As := [.ref (ad 0), .ref (ad 13)]) (rest := []) X F (c_L_read hst X.2.2.2.2.2.2.2 S ho) m_ml_L_229 m_st_L_read m_in_L m_co_L_read (by decide +kernel) ⟨rfl, rfl, Nat.le_of_ble_eq_true rfl, Nat.le_of_ble_eq_true rfl⟩ rfl rfl (Nat.le_of_ble_eq_true rfl) ⟨by show cells + 1 ≤ 603072; omega, by show slots + 6 ≤ 7207018; omega⟩ dL_law_1992 ?_
  refine j_istore X ((6, .int (b_L_read S).1) :: lv0 b ad i) dL_law_1995 (by decide) rfl ?_
  refine j_aload_n X 4 dL_law_1997 rfl ?_
  refine j_callVi (As := []) (rest := []) X (c_X7_read X.2.2.2.2.2.2.2 _ g2) cw_L_231 kc25.1 (cl_25 kc25) rfl ⟨rfl, rfl, Nat.le_of_ble_eq_true rfl, Nat.le_of_ble_eq_true rfl⟩ rfl rfl (Nat.le_of_ble_eq_true rfl) ⟨by show cells + 1 ≤ 603072; omega, by show slots + 6 ≤ 7207018; omega⟩ dL_law_1998 ?_
  refine j_istore X ((7, .int (b_X7_read_0 (b_L_read S).2).1) :: (6, .int (b_L_read S).1) :: lv0 b ad i) dL_law_2001 (by decide) rfl ?_
  refine lw_tail X ⟨by omega, by omega⟩ g3 (fun h => g4 h (by decide)) dL_law_2003 dL_law_2004 dL_law_2007 dL_law_2009 dL_law_2014 dL_law_2016 dL_law_2019 dL_law_2020 dL_law_2021 dL_law_2022 dL_law_2024 dL_law_2025 dL_law_2026 dL_law_2031 (by decide) ?_
  refine lw_next X [2, 3, 4, 5, 6, 7] rfl ?_
  exact j_widen (by omega) (by omega) (nx _ _ (g5.up (by omega)))
theorem lc_refusal (hst : l.stackTraces = false) (X : Cx p m c cL_law 9 s args RL D q ad) (F : XF ad s.heap.size sa s) (C : Scr b L xs ad s) (hi : i + 4 ≤ L) (hcs : cells + 2 ≤ 603072 ∧ slots + 12 ≤ 7207018) (hN : N + 4392 < 2 ^ 30) (I : Inv N S S) (nx : Nx p l e s m args below meth c cells slots Q D q ad b i N) : Jg p l e room_L s m args below meth c cells slots Q D q ad d 9 2047 (lv0 b ad i) [] S := by
  obtain ⟨g1, g2, g3, g4, g5, g6⟩ := glue (N' := N) (codes := [(4, 1)]) (c := b_X6_refusal_0 (bx (xs (i + 1))) S) (mf := fun M => b_X7_refusal_0 (bx (xs (i + 1))) M) (om := fun M => o_X7_refusal_0 (bx (xs (i + 1))) M) (oc := True) (LR := b_L_refusal (bx (xs (i + 1))) S) I (fun M IM => ⟨trivial, L_refusal IM (bx (xs (i + 1)))⟩) (fun h => by simp [b_L_refusal, h]) (fun e k hm he => by
    simp only [List.mem_cons, Prod.mk.injEq, List.not_mem_nil, or_false] at hm
    rcases hm with ⟨rfl, rfl⟩ <;> (unfold b_L_refusal; rw [he]; rfl))
  have ho : o_L_refusal (bx (xs (i + 1))) S := by
    unfold o_L_refusal
    simp only [List.mem_cons, List.not_mem_nil, or_false, exists_eq_or_imp, exists_eq_left] at g6
    exact g6
  refine j_aload_n X 2 dL_law_2047 rfl ?_
  refine lw_arg X C 1 1 0 dL_law_2048 dL_law_2049 dL_law_2051 rfl dL_law_2052 dL_law_2053 rfl rfl (by omega) ?_
  refine lw_bool X dL_law_2054 dL_law_2057 dL_law_2058 dL_law_2061 ?_
  refine j_aload_n X 4 dL_law_2062 rfl ?_
  refine lw_call (k := 3) (As := [.ref (ad 0), .int (bx (xs (i + 1))), .ref (ad 13)]) (rest := []) X F (c_L_refusal hst X.2.2.2.2.2.2.2 (bx (xs (i + 1))) S ho) m_ml_L_236 m_st_L_refusal m_in_L m_co_L_refusal (by decide +kernel) ⟨rfl, rfl, Nat.le_of_ble_eq_true rfl, Nat.le_of_ble_eq_true rfl⟩ rfl rfl (Nat.le_of_ble_eq_true rfl) ⟨by show cells + 1 ≤ 603072; omega, by show slots + 6 ≤ 7207018; omega⟩ dL_law_2063 ?_
  refine j_istore X ((6, .int (b_L_refusal (bx (xs (i + 1))) S).1) :: lv0 b ad i) dL_law_2066 (by decide) rfl ?_
  refine j_aload_n X 4 dL_law_2068 rfl ?_
  refine lw_arg X C 1 2 1 dL_law_2069 dL_law_2070 dL_law_2072 rfl dL_law_2073 dL_law_2074 rfl rfl (by omega) ?_
  refine lw_bool X dL_law_2075 dL_law_2078 dL_law_2079 dL_law_2082 ?_
  refine j_callVi (As := [.int (bx (xs (i + 1)))]) (rest := []) X (c_X7_refusal X.2.2.2.2.2.2.2 (bx (xs (i + 1))) _ g2) cw_L_239 kc25.1 (cl_25 kc25) rfl ⟨rfl, rfl, Nat.le_of_ble_eq_true rfl, Nat.le_of_ble_eq_true rfl⟩ rfl rfl (Nat.le_of_ble_eq_true rfl) ⟨by show cells + 1 ≤ 603072; omega, by show slots + 6 ≤ 7207018; omega⟩ dL_law_2083 ?_
  refine j_istore X ((7, .int (b_X7_refusal_0 (bx (xs (i + 1))) (b_L_refusal (bx (xs (i + 1))) S).2).1) :: (6, .int (b_L_refusal (bx (xs (i + 1))) S).1) :: lv0 b ad i) dL_law_2086 (by decide) rfl ?_
  refine lw_tail X ⟨by omega, by omega⟩ g3 (fun h => g4 h (by decide)) dL_law_2088 dL_law_2089 dL_law_2092 dL_law_2094 dL_law_2099 dL_law_2101 dL_law_2104 dL_law_2105 dL_law_2106 dL_law_2107 dL_law_2109 dL_law_2110 dL_law_2111 dL_law_2116 (by decide) ?_
  refine lw_next X [2, 3, 4, 5, 6, 7] rfl ?_
  exact j_widen (by omega) (by omega) (nx _ _ (g5.up (by omega)))
theorem lc_account (hst : l.stackTraces = false) (X : Cx p m c cL_law 9 s args RL D q ad) (F : XF ad s.heap.size sa s) (C : Scr b L xs ad s) (hi : i + 4 ≤ L) (hcs : cells + 2 ≤ 603072 ∧ slots + 12 ≤ 7207018) (hN : N + 4392 < 2 ^ 30) (I : Inv N S S) (nx : Nx p l e s m args below meth c cells slots Q D q ad b i N) : Jg p l e room_L s m args below meth c cells slots Q D q ad d 9 2119 (lv0 b ad i) [] S := by
  obtain ⟨g1, g2, g3, g4, g5, g6⟩ := glue (N' := N) (codes := [(2, 1)]) (c := b_X6_account_0 (xs (i + 1)) S) (mf := fun M => b_X7_account_0 (xs (i + 1)) M) (om := fun M => o_X7_account_0 (xs (i + 1)) M) (oc := o_X6_account_0 (xs (i + 1)) S) (LR := b_L_account (xs (i + 1)) S) I (fun M IM => L_account IM (xs (i + 1))) (fun h => by simp [b_L_account, h]) (fun e k hm he => by
    simp only [List.mem_cons, Prod.mk.injEq, List.not_mem_nil, or_false] at hm
    rcases hm with ⟨rfl, rfl⟩ <;> (unfold b_L_account; rw [he]; rfl))
  have ho : o_L_account (xs (i + 1)) S := by
    unfold o_L_account
    simp only [List.mem_cons, List.not_mem_nil, or_false, exists_eq_or_imp, exists_eq_left] at g6
    exact ⟨g1, g6⟩
  refine j_aload_n X 2 dL_law_2119 rfl ?_
  refine lw_arg X C 1 1 0 dL_law_2120 dL_law_2121 dL_law_2123 rfl dL_law_2124 dL_law_2125 rfl rfl (by omega) ?_
  refine j_aload_n X 4 dL_law_2126 rfl ?_
  refine lw_call (k := 3) (As := [.ref (ad 0), .int (xs (i + 1)), .ref (ad 13)]) (rest := []) X F (c_L_account hst X.2.2.2.2.2.2.2 (xs (i + 1)) S ho) m_ml_L_240 m_st_L_account m_in_L m_co_L_account (by decide +kernel) ⟨rfl, rfl, Nat.le_of_ble_eq_true rfl, Nat.le_of_ble_eq_true rfl⟩ rfl rfl (Nat.le_of_ble_eq_true rfl) ⟨by show cells + 1 ≤ 603072; omega, by show slots + 6 ≤ 7207018; omega⟩ dL_law_2127 ?_
  refine j_istore X ((6, .int (b_L_account (xs (i + 1)) S).1) :: lv0 b ad i) dL_law_2130 (by decide) rfl ?_
  refine j_aload_n X 4 dL_law_2132 rfl ?_
  refine lw_arg X C 1 2 1 dL_law_2133 dL_law_2134 dL_law_2136 rfl dL_law_2137 dL_law_2138 rfl rfl (by omega) ?_
  refine j_callVi (As := [.int (xs (i + 1))]) (rest := []) X (c_X7_account X.2.2.2.2.2.2.2 (xs (i + 1)) _ g2) cw_L_242 kc25.1 (cl_25 kc25) rfl ⟨rfl, rfl, Nat.le_of_ble_eq_true rfl, Nat.le_of_ble_eq_true rfl⟩ rfl rfl (Nat.le_of_ble_eq_true rfl) ⟨by show cells + 1 ≤ 603072; omega, by show slots + 6 ≤ 7207018; omega⟩ dL_law_2139 ?_
  refine j_istore X ((7, .int (b_X7_account_0 (xs (i + 1)) (b_L_account (xs (i + 1)) S).2).1) :: (6, .int (b_L_account (xs (i + 1)) S).1) :: lv0 b ad i) dL_law_2142 (by decide) rfl ?_
  refine lw_tail X ⟨by omega, by omega⟩ g3 (fun h => g4 h (by decide)) dL_law_2144 dL_law_2145 dL_law_2148 dL_law_2150 dL_law_2155 dL_law_2157 dL_law_2160 dL_law_2161 dL_law_2162 dL_law_2163 dL_law_2165 dL_law_2166 dL_law_2167 dL_law_2172 (by decide) ?_
  refine lw_next X [2, 3, 4, 5, 6, 7] rfl ?_
  exact j_widen (by omega) (by omega) (nx _ _ (g5.up (by omega)))
theorem lc_undo (hst : l.stackTraces = false) (X : Cx p m c cL_law 9 s args RL D q ad) (F : XF ad s.heap.size sa s) (C : Scr b L xs ad s) (hi : i + 4 ≤ L) (hcs : cells + 2 ≤ 603072 ∧ slots + 12 ≤ 7207018) (hN : N + 4392 < 2 ^ 30) (I : Inv N S S) (nx : Nx p l e s m args below meth c cells slots Q D q ad b i N) : Jg p l e room_L s m args below meth c cells slots Q D q ad d 9 2319 (lv0 b ad i) [] S := by
  obtain ⟨g1, g2, g3, g4, g5, g6⟩ := glue (N' := N) (codes := [(5, 1)]) (c := b_X6_undo_0 S) (mf := fun M => b_X7_undo_0 M) (om := fun M => o_X7_undo_0 M) (oc := o_X6_undo_0 S) (LR := b_L_undo S) I (fun M IM => L_undo IM) (fun h => by simp [b_L_undo, h]) (fun e k hm he => by
    simp only [List.mem_cons, Prod.mk.injEq, List.not_mem_nil, or_false] at hm
    rcases hm with ⟨rfl, rfl⟩ <;> (unfold b_L_undo; rw [he]; rfl))
  have ho : o_L_undo S := by
    unfold o_L_undo
    simp only [List.mem_cons, List.not_mem_nil, or_false, exists_eq_or_imp, exists_eq_left] at g6
    exact ⟨g1, g6⟩
  refine j_aload_n X 2 dL_law_2319 rfl ?_
  refine j_aload_n X 4 dL_law_2320 rfl ?_
  refine lw_call (k := 2) (As := [.ref (ad 0), .ref (ad 13)]) (rest := []) X F (c_L_undo hst X.2.2.2.2.2.2.2 S ho) m_ml_L_255 m_st_L_undo m_in_L m_co_L_undo (by decide +kernel) ⟨rfl, rfl, Nat.le_of_ble_eq_true rfl, Nat.le_of_ble_eq_true rfl⟩ rfl rfl (Nat.le_of_ble_eq_true rfl) ⟨by show cells + 1 ≤ 603072; omega, by show slots + 6 ≤ 7207018; omega⟩ dL_law_2321 ?_
  refine j_istore X ((6, .int (b_L_undo S).1) :: lv0 b ad i) dL_law_2324 (by decide) rfl ?_
  refine j_aload_n X 4 dL_law_2326 rfl ?_
  refine j_callVi (As := []) (rest := []) X (c_X7_undo X.2.2.2.2.2.2.2 _ g2) cw_L_257 kc25.1 (cl_25 kc25) rfl ⟨rfl, rfl, Nat.le_of_ble_eq_true rfl, Nat.le_of_ble_eq_true rfl⟩ rfl rfl (Nat.le_of_ble_eq_true rfl) ⟨by show cells + 1 ≤ 603072; omega, by show slots + 6 ≤ 7207018; omega⟩ dL_law_2327 ?_
  refine j_istore X ((7, .int (b_X7_undo_0 (b_L_undo S).2).1) :: (6, .int (b_L_undo S).1) :: lv0 b ad i) dL_law_2330 (by decide) rfl ?_
  refine lw_tail X ⟨by omega, by omega⟩ g3 (fun h => g4 h (by decide)) dL_law_2332 dL_law_2333 dL_law_2336 dL_law_2338 dL_law_2343 dL_law_2345 dL_law_2348 dL_law_2349 dL_law_2350 dL_law_2351 dL_law_2353 dL_law_2354 dL_law_2355 dL_law_2360 (by decide) ?_
  refine lw_next X [2, 3, 4, 5, 6, 7] rfl ?_
  exact j_widen (by omega) (by omega) (nx _ _ (g5.up (by omega)))
theorem lc_restore (hst : l.stackTraces = false) (X : Cx p m c cL_law 9 s args RL D q ad) (F : XF ad s.heap.size sa s) (C : Scr b L xs ad s) (hi : i + 4 ≤ L) (hcs : cells + 2 ≤ 603072 ∧ slots + 12 ≤ 7207018) (hN : N + 4392 < 2 ^ 30) (I : Inv N S S) (nx : Nx p l e s m args below meth c cells slots Q D q ad b i N) : Jg p l e room_L s m args below meth c cells slots Q D q ad d 9 2376 (lv0 b ad i) [] S := by
  obtain ⟨g1, g2, g3, g4, g5, g6⟩ := glue (N' := N) (codes := [(5, 1)]) (c := b_X6_restore_0 S) (mf := fun M => b_X7_restore_0 M) (om := fun M => o_X7_restore_0 M) (oc := o_X6_restore_0 S) (LR := b_L_restore S) I (fun M IM => L_restore IM) (fun h => by simp [b_L_restore, h]) (fun e k hm he => by
    simp only [List.mem_cons, Prod.mk.injEq, List.not_mem_nil, or_false] at hm
    rcases hm with ⟨rfl, rfl⟩ <;> (unfold b_L_restore; rw [he]; rfl))
  have ho : o_L_restore S := by
    unfold o_L_restore
    simp only [List.mem_cons, List.not_mem_nil, or_false, exists_eq_or_imp, exists_eq_left] at g6
    exact ⟨g1, g6⟩
  refine j_aload_n X 2 dL_law_2376 rfl ?_
  refine j_aload_n X 4 dL_law_2377 rfl ?_
  refine lw_call (k := 2) (As := [.ref (ad 0), .ref (ad 13)]) (rest := []) X F (c_L_restore hst X.2.2.2.2.2.2.2 S ho) m_ml_L_262 m_st_L_restore m_in_L m_co_L_restore (by decide +kernel) ⟨rfl, rfl, Nat.le_of_ble_eq_true rfl, Nat.le_of_ble_eq_true rfl⟩ rfl rfl (Nat.le_of_ble_eq_true rfl) ⟨by show cells + 1 ≤ 603072; omega, by show slots + 6 ≤ 7207018; omega⟩ dL_law_2378 ?_
  refine j_istore X ((6, .int (b_L_restore S).1) :: lv0 b ad i) dL_law_2381 (by decide) rfl ?_
  refine j_aload_n X 4 dL_law_2383 rfl ?_
  refine j_callVi (As := []) (rest := []) X (c_X7_restore X.2.2.2.2.2.2.2 _ g2) cw_L_264 kc25.1 (cl_25 kc25) rfl ⟨rfl, rfl, Nat.le_of_ble_eq_true rfl, Nat.le_of_ble_eq_true rfl⟩ rfl rfl (Nat.le_of_ble_eq_true rfl) ⟨by show cells + 1 ≤ 603072; omega, by show slots + 6 ≤ 7207018; omega⟩ dL_law_2384 ?_
  refine j_istore X ((7, .int (b_X7_restore_0 (b_L_restore S).2).1) :: (6, .int (b_L_restore S).1) :: lv0 b ad i) dL_law_2387 (by decide) rfl ?_
  refine lw_tail X ⟨by omega, by omega⟩ g3 (fun h => g4 h (by decide)) dL_law_2389 dL_law_2390 dL_law_2393 dL_law_2395 dL_law_2400 dL_law_2402 dL_law_2405 dL_law_2406 dL_law_2407 dL_law_2408 dL_law_2410 dL_law_2411 dL_law_2412 dL_law_2417 (by decide) ?_
  refine lw_next X [2, 3, 4, 5, 6, 7] rfl ?_
  exact j_widen (by omega) (by omega) (nx _ _ (g5.up (by omega)))
end LC
