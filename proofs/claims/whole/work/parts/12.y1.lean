section LAWK
variable {p : Program} {l : Launch} {e : Env} {s : State} {m : MethodId} {args : Array Value} {below : List Frame} {meth : Method} {c : Code} {H : Heap} {locs : List Loc} {cells slots : Nat} {Q : State → Prop} {V : EV} {b L x y o n : Nat} {xs : Nat → Int32} {i : Int32} {ls : Array Slot}
theorem ini_L : Cond.initialized RL ∈ TB := List.mem_filter.mpr ⟨by decide +kernel, by decide +kernel⟩
theorem par_len {α β : Type} {P : Option α} {g : α → List β} {n : Nat} (h : P.map (fun d => (g d).length) = some n) {sig : α} (hs : P = some sig) : n = (g sig).length := by
  rw [hs] at h
  exact (Option.some.inj h).symm
theorem preg_at {G : GS} {S : HS} {f : Nat → Int64} (C : CX p s m args meth c RL cL_law 7 ret V G00) (hP : HP V G S H) (hO : HO V o f H) (hG : ∀ q, q ∈ G.1 → s.heap.size ≤ q) (ho : s.heap.size ≤ o) (hS : va_S (AG G00 s.heap.size) s.heap H locs) (av : List Value) : ∀ U : State, U.heap = H → s.WarmedH U.vm → PREg V G S o f H.size av av.toArray U := by
  intro U hU hW
  obtain ⟨-, -, -, -, -, -, hK, -, hT, -, hnw⟩ := C
  refine ⟨rfl, by rw [hU], by rw [hU]; exact hP, by rw [hU]; exact hO, va_K.moved hW.alike hK, ?_, nx_warm hW hnw⟩
  rw [hU]
  exact str_moved hW.alike (fun q hq => vk_R.warm hW (hT.1.2 q hq)) (str_kept hT hS.2.1 (fun q h => Or.inr (h.elim (fun z => z.elim (hG q) (fun z => Nat.le_trans hS.1 z)) (fun z => z ▸ ho))))
set_option maxRecDepth 100000 in
set_option maxHeartbeats 4000000 in
theorem k_feed (LC : LCX p s m args meth c V b L xs i n cells slots) (I : INV V s.heap.size x y o n H) (hS : va_S (AG G00 s.heap.size) s.heap H locs) (hl : lv_has ls 7 (LL b x y o i)) (kk : KK p l e s m args below meth c Q V x y o b i n cells slots) : W p l e room_1 s m args below meth c H locs cells slots Q (F0 m 268 ls []) := by
  obtain ⟨C0, hXs, hbl, hn, hin, hce, hsl⟩ := LC
  obtain ⟨GX, GM, SX, SM, A, B, f, hI, hPX, hPM, hPO, hWX, hWM, ⟨h_x, k_x⟩, ⟨h_y, k_y⟩, nX, nM, dX, dM, oX, oM, dO⟩ := I
  have hx := C0.1
  have hb := C0.2.1
  have hbA : ¬ AG G00 s.heap.size b := fun z => z.elim (fun z => nomatch z) (fun z => Nat.not_le.mpr hbl z)
  have cX := cx_w C0 nX (fun q h => (dX q h).1)
  have cM := cx_w C0 nM dM
  have aX := ag_00 (fun q h => (dX q h).1)
  have aM := ag_00 dM
  have fc : cells ≤ room_1.cells := Nat.le_trans (Nat.le_add_right _ _) hce
  have fs : slots ≤ room_1.slots := Nat.le_trans (Nat.le_add_right _ _) hsl
  obtain ⟨v, S', S2', e1, e2, hs⟩ := q_feed hn hI (SCl xs i 1 2) (SCl xs i 3 4) (SCl xs i 5 6)
  refine lv_aload_n hx hb dL_law_268 rfl (lv_at hl 1 rfl) ?_
  refine lv_aload_n hx hb dL_law_269 rfl (lv_at hl 0 rfl) ?_
  refine lv_iload hx hb dL_law_270 (lv_at hl 4 rfl) ?_
  refine lv_iconst (v := 1) hx hb dL_law_272 rfl ?_
  refine lv_iadd hx hb dL_law_273 ?_
  refine va_sld hx hb hXs hbl hbA hS (hin 1 (by decide) (by decide)) dL_law_274 ?_
  refine lv_i2l hx hb dL_law_275 rfl ?_
  refine lv_bipush (v := 32) hx hb dL_law_276 kc_bipush_32 ?_
  refine lv_lshl hx hb dL_law_278 rfl ?_
  refine lv_aload_n hx hb dL_law_279 rfl (lv_at hl 0 rfl) ?_
  refine lv_iload hx hb dL_law_280 (lv_at hl 4 rfl) ?_
  refine lv_iconst (v := 2) hx hb dL_law_282 rfl ?_
  refine lv_iadd hx hb dL_law_283 ?_
  refine va_sld hx hb hXs hbl hbA hS (hin 2 (by decide) (by decide)) dL_law_284 ?_
  refine lv_i2l hx hb dL_law_285 rfl ?_
  refine lv_ldc2 (v := 4294967295) hx hb C0.2.2.2.2.1 (C0.2.2.2.2.2.1 _ qc_L_23) dL_law_286 ?_
  refine lv_land hx hb dL_law_289 ?_
  refine lv_lor hx hb dL_law_290 ?_
  refine lv_aload_n hx hb dL_law_291 rfl (lv_at hl 0 rfl) ?_
  refine lv_iload hx hb dL_law_292 (lv_at hl 4 rfl) ?_
  refine lv_iconst (v := 3) hx hb dL_law_294 rfl ?_
  refine lv_iadd hx hb dL_law_295 ?_
  refine va_sld hx hb hXs hbl hbA hS (hin 3 (by decide) (by decide)) dL_law_296 ?_
  refine lv_i2l hx hb dL_law_297 rfl ?_
  refine lv_bipush (v := 32) hx hb dL_law_298 kc_bipush_32 ?_
  refine lv_lshl hx hb dL_law_300 rfl ?_
  refine lv_aload_n hx hb dL_law_301 rfl (lv_at hl 0 rfl) ?_
  refine lv_iload hx hb dL_law_302 (lv_at hl 4 rfl) ?_
  refine lv_iconst (v := 4) hx hb dL_law_304 rfl ?_
  refine lv_iadd hx hb dL_law_305 ?_
  refine va_sld hx hb hXs hbl hbA hS (hin 4 (by decide) (by decide)) dL_law_306 ?_
  refine lv_i2l hx hb dL_law_307 rfl ?_
  refine lv_ldc2 (v := 4294967295) hx hb C0.2.2.2.2.1 (C0.2.2.2.2.2.1 _ qc_L_23) dL_law_308 ?_
  refine lv_land hx hb dL_law_311 ?_
  refine lv_lor hx hb dL_law_312 ?_
  refine lv_aload_n hx hb dL_law_313 rfl (lv_at hl 0 rfl) ?_
  refine lv_iload hx hb dL_law_314 (lv_at hl 4 rfl) ?_
  refine lv_iconst (v := 5) hx hb dL_law_316 rfl ?_
  refine lv_iadd hx hb dL_law_317 ?_
  refine va_sld hx hb hXs hbl hbA hS (hin 5 (by decide) (by decide)) dL_law_318 ?_
  refine lv_i2l hx hb dL_law_319 rfl ?_
  refine lv_bipush (v := 32) hx hb dL_law_320 kc_bipush_32 ?_
  refine lv_lshl hx hb dL_law_322 rfl ?_
  refine lv_aload_n hx hb dL_law_323 rfl (lv_at hl 0 rfl) ?_
  refine lv_iload hx hb dL_law_324 (lv_at hl 4 rfl) ?_
  refine lv_bipush (v := 6) hx hb dL_law_326 kc_bipush_6 ?_
  refine lv_iadd hx hb dL_law_328 ?_
  refine va_sld hx hb hXs hbl hbA hS (hin 6 (by decide) (by decide)) dL_law_329 ?_
  refine lv_i2l hx hb dL_law_330 rfl ?_
  refine lv_ldc2 (v := 4294967295) hx hb C0.2.2.2.2.1 (C0.2.2.2.2.2.1 _ qc_L_23) dL_law_331 ?_
  refine lv_land hx hb dL_law_334 ?_
  refine lv_lor hx hb dL_law_335 ?_
  refine z_aft_i aX (x_runV (As := [.long (SCl xs i 1 2), .long (SCl xs i 3 4), .long (SCl xs i 5 6)]) (rest := []) cX hPX (by rw [aX]; exact hS) (c_X11_feed (l := l) nX hWX h_x k_x e1 H.size) h_x k_x (by decide) rfl rfl km_X11_feed ki_X11_feed qm_L_25 ⟨(Nat.le_of_ble_eq_true rfl), (Nat.le_of_ble_eq_true rfl)⟩ rfl hl.1 rfl (Nat.le_of_ble_eq_true rfl) ⟨fc, fs⟩ dL_law_336) hS (fun H1 locs1 hPX hS hWX hk => ?_)
  have hPM := hp_dis hPM hk (fun q h1 h2 => (dX q h2).2 h1)
  have hPO := ho_dis hPO hk oX
  refine lv_aload_n hx hb dL_law_339 rfl (lv_at hl 2 rfl) ?_
  refine lv_aload_n hx hb dL_law_340 rfl (lv_at hl 0 rfl) ?_
  refine lv_iload hx hb dL_law_341 (lv_at hl 4 rfl) ?_
  refine lv_iconst (v := 1) hx hb dL_law_343 rfl ?_
  refine lv_iadd hx hb dL_law_344 ?_
  refine va_sld hx hb hXs hbl hbA hS (hin 1 (by decide) (by decide)) dL_law_345 ?_
  refine lv_i2l hx hb dL_law_346 rfl ?_
  refine lv_bipush (v := 32) hx hb dL_law_347 kc_bipush_32 ?_
  refine lv_lshl hx hb dL_law_349 rfl ?_
  refine lv_aload_n hx hb dL_law_350 rfl (lv_at hl 0 rfl) ?_
  refine lv_iload hx hb dL_law_351 (lv_at hl 4 rfl) ?_
  refine lv_iconst (v := 2) hx hb dL_law_353 rfl ?_
  refine lv_iadd hx hb dL_law_354 ?_
  refine va_sld hx hb hXs hbl hbA hS (hin 2 (by decide) (by decide)) dL_law_355 ?_
  refine lv_i2l hx hb dL_law_356 rfl ?_
  refine lv_ldc2 (v := 4294967295) hx hb C0.2.2.2.2.1 (C0.2.2.2.2.2.1 _ qc_L_23) dL_law_357 ?_
  refine lv_land hx hb dL_law_360 ?_
  refine lv_lor hx hb dL_law_361 ?_
  refine lv_aload_n hx hb dL_law_362 rfl (lv_at hl 0 rfl) ?_
  refine lv_iload hx hb dL_law_363 (lv_at hl 4 rfl) ?_
  refine lv_iconst (v := 3) hx hb dL_law_365 rfl ?_
  refine lv_iadd hx hb dL_law_366 ?_
  refine va_sld hx hb hXs hbl hbA hS (hin 3 (by decide) (by decide)) dL_law_367 ?_
  refine lv_i2l hx hb dL_law_368 rfl ?_
  refine lv_bipush (v := 32) hx hb dL_law_369 kc_bipush_32 ?_
  refine lv_lshl hx hb dL_law_371 rfl ?_
  refine lv_aload_n hx hb dL_law_372 rfl (lv_at hl 0 rfl) ?_
  refine lv_iload hx hb dL_law_373 (lv_at hl 4 rfl) ?_
  refine lv_iconst (v := 4) hx hb dL_law_375 rfl ?_
  refine lv_iadd hx hb dL_law_376 ?_
  refine va_sld hx hb hXs hbl hbA hS (hin 4 (by decide) (by decide)) dL_law_377 ?_
  refine lv_i2l hx hb dL_law_378 rfl ?_
  refine lv_ldc2 (v := 4294967295) hx hb C0.2.2.2.2.1 (C0.2.2.2.2.2.1 _ qc_L_23) dL_law_379 ?_
  refine lv_land hx hb dL_law_382 ?_
  refine lv_lor hx hb dL_law_383 ?_
  refine lv_aload_n hx hb dL_law_384 rfl (lv_at hl 0 rfl) ?_
  refine lv_iload hx hb dL_law_385 (lv_at hl 4 rfl) ?_
  refine lv_iconst (v := 5) hx hb dL_law_387 rfl ?_
  refine lv_iadd hx hb dL_law_388 ?_
  refine va_sld hx hb hXs hbl hbA hS (hin 5 (by decide) (by decide)) dL_law_389 ?_
  refine lv_i2l hx hb dL_law_390 rfl ?_
  refine lv_bipush (v := 32) hx hb dL_law_391 kc_bipush_32 ?_
  refine lv_lshl hx hb dL_law_393 rfl ?_
  refine lv_aload_n hx hb dL_law_394 rfl (lv_at hl 0 rfl) ?_
  refine lv_iload hx hb dL_law_395 (lv_at hl 4 rfl) ?_
  refine lv_bipush (v := 6) hx hb dL_law_397 kc_bipush_6 ?_
  refine lv_iadd hx hb dL_law_399 ?_
  refine va_sld hx hb hXs hbl hbA hS (hin 6 (by decide) (by decide)) dL_law_400 ?_
  refine lv_i2l hx hb dL_law_401 rfl ?_
  refine lv_ldc2 (v := 4294967295) hx hb C0.2.2.2.2.1 (C0.2.2.2.2.2.1 _ qc_L_23) dL_law_402 ?_
  refine lv_land hx hb dL_law_405 ?_
  refine lv_lor hx hb dL_law_406 ?_
  refine z_aft_i aM (x_runV (As := [.long (SCl xs i 1 2), .long (SCl xs i 3 4), .long (SCl xs i 5 6)]) (rest := [.int v]) cM hPM (by rw [aM]; exact hS) (c_X12_feed (l := l) nM hWM h_y k_y e2 H1.size) h_y k_y (by decide) rfl rfl km_X12_feed ki_X12_feed qm_L_29 ⟨(Nat.le_of_ble_eq_true rfl), (Nat.le_of_ble_eq_true rfl)⟩ rfl hl.1 rfl (Nat.le_of_ble_eq_true rfl) ⟨fc, fs⟩ dL_law_407) hS (fun H2 locs2 hPM hS hWM hk => ?_)
  have hPX := hp_dis hPX hk (fun q h1 => (dX q h1).2)
  have hPO := ho_dis hPO hk oM
  refine lv_icmp_eq (tgt := 2429) hx hb dL_law_410 (by decide) (fun _ => ?_) (fun c9 => absurd rfl c9)
  exact kk _ _ _ _ _ ⟨GX, GM, S', S2', A, B, f, hs, hPX, hPM, hPO, hWX, hWM, ⟨h_x, k_x⟩, ⟨h_y, k_y⟩, nX, nM, dX, dM, oX, oM, dO⟩ hS hl (Nat.le_add_right _ _) (Nat.le_add_right _ _)
set_option maxRecDepth 100000 in
set_option maxHeartbeats 4000000 in
theorem k_unit (LC : LCX p s m args meth c V b L xs i n cells slots) (I : INV V s.heap.size x y o n H) (hS : va_S (AG G00 s.heap.size) s.heap H locs) (hl : lv_has ls 7 (LL b x y o i)) (kk : KK p l e s m args below meth c Q V x y o b i n cells slots) : W p l e room_1 s m args below meth c H locs cells slots Q (F0 m 415 ls []) := by
  obtain ⟨C0, hXs, hbl, hn, hin, hce, hsl⟩ := LC
  obtain ⟨GX, GM, SX, SM, A, B, f, hI, hPX, hPM, hPO, hWX, hWM, ⟨h_x, k_x⟩, ⟨h_y, k_y⟩, nX, nM, dX, dM, oX, oM, dO⟩ := I
  have hx := C0.1
  have hb := C0.2.1
  have hbA : ¬ AG G00 s.heap.size b := fun z => z.elim (fun z => nomatch z) (fun z => Nat.not_le.mpr hbl z)
  have cX := cx_w C0 nX (fun q h => (dX q h).1)
  have cM := cx_w C0 nM dM
  have aX := ag_00 (fun q h => (dX q h).1)
  have aM := ag_00 dM
  have fc : cells ≤ room_1.cells := Nat.le_trans (Nat.le_add_right _ _) hce
  have fs : slots ≤ room_1.slots := Nat.le_trans (Nat.le_add_right _ _) hsl
  have hS0 := hS
  have dX0 := dX
  obtain ⟨v, S2', e2, hw⟩ := q_unit hn hI hWX h_x k_x
  refine lv_aload_n hx hb dL_law_415 rfl (lv_at hl 1 rfl) ?_
  refine z_aft_iw (mc := 1003) (ms := 8018) (P := fun r G' S' => r = v ∧ SIM G'.2.2 GM.2.2 S' S2' x y A B (n + 1)) aX (y_runV (rm := RMA 224 8122 1003 8018) (As := []) (rest := []) cX hPX (by rw [aX]; exact hS) (c_X11_unit (l := l) nX hWX h_x k_x (hw _ (fun G' S' h9 => ⟨rfl, h9⟩)) H.size) h_x k_x (by decide) rfl rfl km_X11_unit ki_X11_unit qm_L_30 ⟨(Nat.le_of_ble_eq_true rfl), (Nat.le_of_ble_eq_true rfl)⟩ rfl hl.1 rfl (Nat.le_of_ble_eq_true rfl) ⟨Nat.le_trans (Nat.add_le_add_left (Nat.le_of_ble_eq_true rfl) _) hce, Nat.le_trans (Nat.add_le_add_left (Nat.le_of_ble_eq_true rfl) _) hsl⟩ dL_law_416) hS (fun r G1 S' H1 locs1 hp hg hPX hS hWX hk => ?_)
  obtain ⟨rfl, hs⟩ := hp
  have hlt : ∀ q, q ∈ GM.1 → q < H.size := fun q h => hp_lt hPM h
  have olt := ho_lt hPO
  have dX : ∀ q, q ∈ G1.1 → s.heap.size ≤ q ∧ q ∉ GM.1 := fun q h => (hg.2.1 q h).elim (dX q) (fun z => ⟨Nat.le_trans hS0.1 z, fun z2 => Nat.not_le.mpr (hlt q z2) z⟩)
  have oX' : o ∉ G1.1 := fun h => (hg.2.1 o h).elim oX (fun z => Nat.not_le.mpr olt z)
  have hPM := hp_dis hPM hk (fun q h1 h2 => (dX0 q h2).2 h1)
  have hPO := ho_dis hPO hk oX
  have h_x9 := (hg.1 x h_x).1
  have k_x9 : G1.2.1 x = 11 := (hg.1 x h_x).2.1.trans k_x
  refine lv_aload_n hx hb dL_law_419 rfl (lv_at hl 2 rfl) ?_
  refine z_aft_i aM (x_runV (As := []) (rest := [.int r]) cM hPM (by rw [aM]; exact hS) (c_X12_unit (l := l) nM hWM h_y k_y e2 H1.size) h_y k_y (by decide) rfl rfl km_X12_unit ki_X12_unit qm_L_34 ⟨(Nat.le_of_ble_eq_true rfl), (Nat.le_of_ble_eq_true rfl)⟩ rfl hl.1 rfl (Nat.le_of_ble_eq_true rfl) ⟨Nat.le_trans (Nat.add_le_add_left (Nat.le_of_ble_eq_true rfl) _) hce, Nat.le_trans (Nat.add_le_add_left (Nat.le_of_ble_eq_true rfl) _) hsl⟩ dL_law_420) hS (fun H2 locs2 hPM hS hWM hk => ?_)
  have hPX := hp_dis hPX hk (fun q h1 => (dX q h1).2)
  have hPO := ho_dis hPO hk oM
  refine lv_icmp_eq (tgt := 2429) hx hb dL_law_423 (by decide) (fun _ => ?_) (fun c9 => absurd rfl c9)
  exact kk _ _ _ _ _ ⟨G1, GM, S', S2', A, B, f, hs, hPX, hPM, hPO, hWX, hWM, ⟨h_x9, k_x9⟩, ⟨h_y, k_y⟩, hg.2.2, nM, dX, dM, oX', oM, dO⟩ hS hl (Nat.add_le_add_left (Nat.le_of_ble_eq_true rfl) _) (Nat.add_le_add_left (Nat.le_of_ble_eq_true rfl) _)
set_option maxRecDepth 100000 in
set_option maxHeartbeats 4000000 in
theorem k_plan (LC : LCX p s m args meth c V b L xs i n cells slots) (I : INV V s.heap.size x y o n H) (hS : va_S (AG G00 s.heap.size) s.heap H locs) (hl : lv_has ls 7 (LL b x y o i)) (kk : KK p l e s m args below meth c Q V x y o b i n cells slots) : W p l e room_1 s m args below meth c H locs cells slots Q (F0 m 428 ls []) := by
  obtain ⟨C0, hXs, hbl, hn, hin, hce, hsl⟩ := LC
  obtain ⟨GX, GM, SX, SM, A, B, f, hI, hPX, hPM, hPO, hWX, hWM, ⟨h_x, k_x⟩, ⟨h_y, k_y⟩, nX, nM, dX, dM, oX, oM, dO⟩ := I
  have hx := C0.1
  have hb := C0.2.1
  have hbA : ¬ AG G00 s.heap.size b := fun z => z.elim (fun z => nomatch z) (fun z => Nat.not_le.mpr hbl z)
  have cX := cx_w C0 nX (fun q h => (dX q h).1)
  have cM := cx_w C0 nM dM
  have aX := ag_00 (fun q h => (dX q h).1)
  have aM := ag_00 dM
  have fc : cells ≤ room_1.cells := Nat.le_trans (Nat.le_add_right _ _) hce
  have fs : slots ≤ room_1.slots := Nat.le_trans (Nat.le_add_right _ _) hsl
  have hS0 := hS
  have dX0 := dX
  obtain ⟨v, S2', e2, hw⟩ := q_plan hn hI hWX h_x k_x
  refine lv_aload_n hx hb dL_law_428 rfl (lv_at hl 1 rfl) ?_
  refine z_aft_iw (mc := 1) (ms := 3) (P := fun r G' S' => r = v ∧ SIM G'.2.2 GM.2.2 S' S2' x y A B (n + 1)) aX (y_runV (rm := RMA 18 636 1 3) (As := []) (rest := []) cX hPX (by rw [aX]; exact hS) (c_X11_plan (l := l) nX hWX h_x k_x (hw _ (fun G' S' h9 => ⟨rfl, h9⟩)) H.size) h_x k_x (by decide) rfl rfl km_X11_plan ki_X11_plan qm_L_35 ⟨(Nat.le_of_ble_eq_true rfl), (Nat.le_of_ble_eq_true rfl)⟩ rfl hl.1 rfl (Nat.le_of_ble_eq_true rfl) ⟨Nat.le_trans (Nat.add_le_add_left (Nat.le_of_ble_eq_true rfl) _) hce, Nat.le_trans (Nat.add_le_add_left (Nat.le_of_ble_eq_true rfl) _) hsl⟩ dL_law_429) hS (fun r G1 S' H1 locs1 hp hg hPX hS hWX hk => ?_)
  obtain ⟨rfl, hs⟩ := hp
  have hlt : ∀ q, q ∈ GM.1 → q < H.size := fun q h => hp_lt hPM h
  have olt := ho_lt hPO
  have dX : ∀ q, q ∈ G1.1 → s.heap.size ≤ q ∧ q ∉ GM.1 := fun q h => (hg.2.1 q h).elim (dX q) (fun z => ⟨Nat.le_trans hS0.1 z, fun z2 => Nat.not_le.mpr (hlt q z2) z⟩)
  have oX' : o ∉ G1.1 := fun h => (hg.2.1 o h).elim oX (fun z => Nat.not_le.mpr olt z)
  have hPM := hp_dis hPM hk (fun q h1 h2 => (dX0 q h2).2 h1)
  have hPO := ho_dis hPO hk oX
  have h_x9 := (hg.1 x h_x).1
  have k_x9 : G1.2.1 x = 11 := (hg.1 x h_x).2.1.trans k_x
  refine lv_aload_n hx hb dL_law_432 rfl (lv_at hl 2 rfl) ?_
  refine z_aft_i aM (x_runV (As := []) (rest := [.int r]) cM hPM (by rw [aM]; exact hS) (c_X12_plan (l := l) nM hWM h_y k_y e2 H1.size) h_y k_y (by decide) rfl rfl km_X12_plan ki_X12_plan qm_L_38 ⟨(Nat.le_of_ble_eq_true rfl), (Nat.le_of_ble_eq_true rfl)⟩ rfl hl.1 rfl (Nat.le_of_ble_eq_true rfl) ⟨Nat.le_trans (Nat.add_le_add_left (Nat.le_of_ble_eq_true rfl) _) hce, Nat.le_trans (Nat.add_le_add_left (Nat.le_of_ble_eq_true rfl) _) hsl⟩ dL_law_433) hS (fun H2 locs2 hPM hS hWM hk => ?_)
  have hPX := hp_dis hPX hk (fun q h1 => (dX q h1).2)
  have hPO := ho_dis hPO hk oM
  refine lv_icmp_eq (tgt := 2429) hx hb dL_law_436 (by decide) (fun _ => ?_) (fun c9 => absurd rfl c9)
  exact kk _ _ _ _ _ ⟨G1, GM, S', S2', A, B, f, hs, hPX, hPM, hPO, hWX, hWM, ⟨h_x9, k_x9⟩, ⟨h_y, k_y⟩, hg.2.2, nM, dX, dM, oX', oM, dO⟩ hS hl (Nat.add_le_add_left (Nat.le_of_ble_eq_true rfl) _) (Nat.add_le_add_left (Nat.le_of_ble_eq_true rfl) _)
set_option maxRecDepth 100000 in
set_option maxHeartbeats 4000000 in
theorem k_form (LC : LCX p s m args meth c V b L xs i n cells slots) (I : INV V s.heap.size x y o n H) (hS : va_S (AG G00 s.heap.size) s.heap H locs) (hl : lv_has ls 7 (LL b x y o i)) (kk : KK p l e s m args below meth c Q V x y o b i n cells slots) : W p l e room_1 s m args below meth c H locs cells slots Q (F0 m 441 ls []) := by
  obtain ⟨C0, hXs, hbl, hn, hin, hce, hsl⟩ := LC
  obtain ⟨GX, GM, SX, SM, A, B, f, hI, hPX, hPM, hPO, hWX, hWM, ⟨h_x, k_x⟩, ⟨h_y, k_y⟩, nX, nM, dX, dM, oX, oM, dO⟩ := I
  have hx := C0.1
  have hb := C0.2.1
  have hbA : ¬ AG G00 s.heap.size b := fun z => z.elim (fun z => nomatch z) (fun z => Nat.not_le.mpr hbl z)
  have cX := cx_w C0 nX (fun q h => (dX q h).1)
  have cM := cx_w C0 nM dM
  have aX := ag_00 (fun q h => (dX q h).1)
  have aM := ag_00 dM
  have fc : cells ≤ room_1.cells := Nat.le_trans (Nat.le_add_right _ _) hce
  have fs : slots ≤ room_1.slots := Nat.le_trans (Nat.le_add_right _ _) hsl
  obtain ⟨v, S2', e1, e2, hs⟩ := q_form hn hI (SCi xs i 1) (SCi xs i 2)
  refine lv_aload_n hx hb dL_law_441 rfl (lv_at hl 1 rfl) ?_
  refine lv_aload_n hx hb dL_law_442 rfl (lv_at hl 0 rfl) ?_
  refine lv_iload hx hb dL_law_443 (lv_at hl 4 rfl) ?_
  refine lv_iconst (v := 1) hx hb dL_law_445 rfl ?_
  refine lv_iadd hx hb dL_law_446 ?_
  refine va_sld hx hb hXs hbl hbA hS (hin 1 (by decide) (by decide)) dL_law_447 ?_
  refine lv_aload_n hx hb dL_law_448 rfl (lv_at hl 0 rfl) ?_
  refine lv_iload hx hb dL_law_449 (lv_at hl 4 rfl) ?_
  refine lv_iconst (v := 2) hx hb dL_law_451 rfl ?_
  refine lv_iadd hx hb dL_law_452 ?_
  refine va_sld hx hb hXs hbl hbA hS (hin 2 (by decide) (by decide)) dL_law_453 ?_
  refine z_aft_i aX (x_runV (As := [.int (SCi xs i 1), .int (SCi xs i 2)]) (rest := []) cX hPX (by rw [aX]; exact hS) (c_X11_form (l := l) nX hWX h_x k_x e1 H.size) h_x k_x (by decide) rfl rfl km_X11_form ki_X11_form qm_L_39 ⟨(Nat.le_of_ble_eq_true rfl), (Nat.le_of_ble_eq_true rfl)⟩ rfl hl.1 rfl (Nat.le_of_ble_eq_true rfl) ⟨fc, fs⟩ dL_law_454) hS (fun H1 locs1 hPX hS hWX hk => ?_)
  have hPM := hp_dis hPM hk (fun q h1 h2 => (dX q h2).2 h1)
  have hPO := ho_dis hPO hk oX
  refine lv_aload_n hx hb dL_law_457 rfl (lv_at hl 2 rfl) ?_
  refine lv_aload_n hx hb dL_law_458 rfl (lv_at hl 0 rfl) ?_
  refine lv_iload hx hb dL_law_459 (lv_at hl 4 rfl) ?_
  refine lv_iconst (v := 1) hx hb dL_law_461 rfl ?_
  refine lv_iadd hx hb dL_law_462 ?_
  refine va_sld hx hb hXs hbl hbA hS (hin 1 (by decide) (by decide)) dL_law_463 ?_
  refine lv_aload_n hx hb dL_law_464 rfl (lv_at hl 0 rfl) ?_
  refine lv_iload hx hb dL_law_465 (lv_at hl 4 rfl) ?_
  refine lv_iconst (v := 2) hx hb dL_law_467 rfl ?_
  refine lv_iadd hx hb dL_law_468 ?_
  refine va_sld hx hb hXs hbl hbA hS (hin 2 (by decide) (by decide)) dL_law_469 ?_
  refine z_aft_i aM (x_runV (As := [.int (SCi xs i 1), .int (SCi xs i 2)]) (rest := [.int v]) cM hPM (by rw [aM]; exact hS) (c_X12_form (l := l) nM hWM h_y k_y e2 H1.size) h_y k_y (by decide) rfl rfl km_X12_form ki_X12_form qm_L_43 ⟨(Nat.le_of_ble_eq_true rfl), (Nat.le_of_ble_eq_true rfl)⟩ rfl hl.1 rfl (Nat.le_of_ble_eq_true rfl) ⟨fc, fs⟩ dL_law_470) hS (fun H2 locs2 hPM hS hWM hk => ?_)
  have hPX := hp_dis hPX hk (fun q h1 => (dX q h1).2)
  have hPO := ho_dis hPO hk oM
  refine lv_icmp_eq (tgt := 2429) hx hb dL_law_473 (by decide) (fun _ => ?_) (fun c9 => absurd rfl c9)
  exact kk _ _ _ _ _ ⟨GX, GM, SX, S2', A, B, f, hs, hPX, hPM, hPO, hWX, hWM, ⟨h_x, k_x⟩, ⟨h_y, k_y⟩, nX, nM, dX, dM, oX, oM, dO⟩ hS hl (Nat.le_add_right _ _) (Nat.le_add_right _ _)
set_option maxRecDepth 100000 in
set_option maxHeartbeats 4000000 in
theorem k_reg (LC : LCX p s m args meth c V b L xs i n cells slots) (I : INV V s.heap.size x y o n H) (hS : va_S (AG G00 s.heap.size) s.heap H locs) (hl : lv_has ls 7 (LL b x y o i)) (kk : KK p l e s m args below meth c Q V x y o b i n cells slots) : W p l e room_1 s m args below meth c H locs cells slots Q (F0 m 478 ls []) := by
  obtain ⟨C0, hXs, hbl, hn, hin, hce, hsl⟩ := LC
  obtain ⟨GX, GM, SX, SM, A, B, f, hI, hPX, hPM, hPO, hWX, hWM, ⟨h_x, k_x⟩, ⟨h_y, k_y⟩, nX, nM, dX, dM, oX, oM, dO⟩ := I
  have hx := C0.1
  have hb := C0.2.1
  have hbA : ¬ AG G00 s.heap.size b := fun z => z.elim (fun z => nomatch z) (fun z => Nat.not_le.mpr hbl z)
  have cX := cx_w C0 nX (fun q h => (dX q h).1)
  have cM := cx_w C0 nM dM
  have aX := ag_00 (fun q h => (dX q h).1)
  have aM := ag_00 dM
  have fc : cells ≤ room_1.cells := Nat.le_trans (Nat.le_add_right _ _) hce
  have fs : slots ≤ room_1.slots := Nat.le_trans (Nat.le_add_right _ _) hsl
  obtain ⟨v, S2', e1, e2, hs⟩ := q_reg hn hI (SCi xs i 1)
  refine lv_aload_n hx hb dL_law_478 rfl (lv_at hl 1 rfl) ?_
  refine lv_aload_n hx hb dL_law_479 rfl (lv_at hl 0 rfl) ?_
  refine lv_iload hx hb dL_law_480 (lv_at hl 4 rfl) ?_
  refine lv_iconst (v := 1) hx hb dL_law_482 rfl ?_
  refine lv_iadd hx hb dL_law_483 ?_
  refine va_sld hx hb hXs hbl hbA hS (hin 1 (by decide) (by decide)) dL_law_484 ?_
  refine z_aft_i aX (x_runV (As := [.int (SCi xs i 1)]) (rest := []) cX hPX (by rw [aX]; exact hS) (c_X11_reg (l := l) nX hWX h_x k_x e1 H.size) h_x k_x (by decide) rfl rfl km_X11_reg ki_X11_reg qm_L_44 ⟨(Nat.le_of_ble_eq_true rfl), (Nat.le_of_ble_eq_true rfl)⟩ rfl hl.1 rfl (Nat.le_of_ble_eq_true rfl) ⟨fc, fs⟩ dL_law_485) hS (fun H1 locs1 hPX hS hWX hk => ?_)
  have hPM := hp_dis hPM hk (fun q h1 h2 => (dX q h2).2 h1)
  have hPO := ho_dis hPO hk oX
  refine lv_aload_n hx hb dL_law_488 rfl (lv_at hl 2 rfl) ?_
  refine lv_aload_n hx hb dL_law_489 rfl (lv_at hl 0 rfl) ?_
  refine lv_iload hx hb dL_law_490 (lv_at hl 4 rfl) ?_
  refine lv_iconst (v := 1) hx hb dL_law_492 rfl ?_
  refine lv_iadd hx hb dL_law_493 ?_
  refine va_sld hx hb hXs hbl hbA hS (hin 1 (by decide) (by decide)) dL_law_494 ?_
  refine z_aft_i aM (x_runV (As := [.int (SCi xs i 1)]) (rest := [.int v]) cM hPM (by rw [aM]; exact hS) (c_X12_reg (l := l) nM hWM h_y k_y e2 H1.size) h_y k_y (by decide) rfl rfl km_X12_reg ki_X12_reg qm_L_47 ⟨(Nat.le_of_ble_eq_true rfl), (Nat.le_of_ble_eq_true rfl)⟩ rfl hl.1 rfl (Nat.le_of_ble_eq_true rfl) ⟨fc, fs⟩ dL_law_495) hS (fun H2 locs2 hPM hS hWM hk => ?_)
  have hPX := hp_dis hPX hk (fun q h1 => (dX q h1).2)
  have hPO := ho_dis hPO hk oM
  refine lv_icmp_eq (tgt := 2429) hx hb dL_law_498 (by decide) (fun _ => ?_) (fun c9 => absurd rfl c9)
  exact kk _ _ _ _ _ ⟨GX, GM, SX, S2', A, B, f, hs, hPX, hPM, hPO, hWX, hWM, ⟨h_x, k_x⟩, ⟨h_y, k_y⟩, nX, nM, dX, dM, oX, oM, dO⟩ hS hl (Nat.le_add_right _ _) (Nat.le_add_right _ _)
set_option maxRecDepth 100000 in
set_option maxHeartbeats 4000000 in
theorem k_set (LC : LCX p s m args meth c V b L xs i n cells slots) (I : INV V s.heap.size x y o n H) (hS : va_S (AG G00 s.heap.size) s.heap H locs) (hl : lv_has ls 7 (LL b x y o i)) (kk : KK p l e s m args below meth c Q V x y o b i n cells slots) : W p l e room_1 s m args below meth c H locs cells slots Q (F0 m 503 ls []) := by
  obtain ⟨C0, hXs, hbl, hn, hin, hce, hsl⟩ := LC
  obtain ⟨GX, GM, SX, SM, A, B, f, hI, hPX, hPM, hPO, hWX, hWM, ⟨h_x, k_x⟩, ⟨h_y, k_y⟩, nX, nM, dX, dM, oX, oM, dO⟩ := I
  have hx := C0.1
  have hb := C0.2.1
  have hbA : ¬ AG G00 s.heap.size b := fun z => z.elim (fun z => nomatch z) (fun z => Nat.not_le.mpr hbl z)
  have cX := cx_w C0 nX (fun q h => (dX q h).1)
  have cM := cx_w C0 nM dM
  have aX := ag_00 (fun q h => (dX q h).1)
  have aM := ag_00 dM
  have fc : cells ≤ room_1.cells := Nat.le_trans (Nat.le_add_right _ _) hce
  have fs : slots ≤ room_1.slots := Nat.le_trans (Nat.le_add_right _ _) hsl
  obtain ⟨v, S', S2', e1, e2, hs⟩ := q_set hn hI (SCi xs i 1) (SCi xs i 2)
  refine lv_aload_n hx hb dL_law_503 rfl (lv_at hl 1 rfl) ?_
  refine lv_aload_n hx hb dL_law_504 rfl (lv_at hl 0 rfl) ?_
  refine lv_iload hx hb dL_law_505 (lv_at hl 4 rfl) ?_
  refine lv_iconst (v := 1) hx hb dL_law_507 rfl ?_
  refine lv_iadd hx hb dL_law_508 ?_
  refine va_sld hx hb hXs hbl hbA hS (hin 1 (by decide) (by decide)) dL_law_509 ?_
  refine lv_aload_n hx hb dL_law_510 rfl (lv_at hl 0 rfl) ?_
  refine lv_iload hx hb dL_law_511 (lv_at hl 4 rfl) ?_
  refine lv_iconst (v := 2) hx hb dL_law_513 rfl ?_
  refine lv_iadd hx hb dL_law_514 ?_
  refine va_sld hx hb hXs hbl hbA hS (hin 2 (by decide) (by decide)) dL_law_515 ?_
  refine z_aft_i aX (x_runV (As := [.int (SCi xs i 1), .int (SCi xs i 2)]) (rest := []) cX hPX (by rw [aX]; exact hS) (c_X11_set (l := l) nX hWX h_x k_x e1 H.size) h_x k_x (by decide) rfl rfl km_X11_set ki_X11_set qm_L_48 ⟨(Nat.le_of_ble_eq_true rfl), (Nat.le_of_ble_eq_true rfl)⟩ rfl hl.1 rfl (Nat.le_of_ble_eq_true rfl) ⟨fc, fs⟩ dL_law_516) hS (fun H1 locs1 hPX hS hWX hk => ?_)
  have hPM := hp_dis hPM hk (fun q h1 h2 => (dX q h2).2 h1)
  have hPO := ho_dis hPO hk oX
  refine lv_aload_n hx hb dL_law_519 rfl (lv_at hl 2 rfl) ?_
  refine lv_aload_n hx hb dL_law_520 rfl (lv_at hl 0 rfl) ?_
  refine lv_iload hx hb dL_law_521 (lv_at hl 4 rfl) ?_
  refine lv_iconst (v := 1) hx hb dL_law_523 rfl ?_
  refine lv_iadd hx hb dL_law_524 ?_
  refine va_sld hx hb hXs hbl hbA hS (hin 1 (by decide) (by decide)) dL_law_525 ?_
  refine lv_aload_n hx hb dL_law_526 rfl (lv_at hl 0 rfl) ?_
  refine lv_iload hx hb dL_law_527 (lv_at hl 4 rfl) ?_
  refine lv_iconst (v := 2) hx hb dL_law_529 rfl ?_
  refine lv_iadd hx hb dL_law_530 ?_
  refine va_sld hx hb hXs hbl hbA hS (hin 2 (by decide) (by decide)) dL_law_531 ?_
  refine z_aft_i aM (x_runV (As := [.int (SCi xs i 1), .int (SCi xs i 2)]) (rest := [.int v]) cM hPM (by rw [aM]; exact hS) (c_X12_set (l := l) nM hWM h_y k_y e2 H1.size) h_y k_y (by decide) rfl rfl km_X12_set ki_X12_set qm_L_51 ⟨(Nat.le_of_ble_eq_true rfl), (Nat.le_of_ble_eq_true rfl)⟩ rfl hl.1 rfl (Nat.le_of_ble_eq_true rfl) ⟨fc, fs⟩ dL_law_532) hS (fun H2 locs2 hPM hS hWM hk => ?_)
  have hPX := hp_dis hPX hk (fun q h1 => (dX q h1).2)
  have hPO := ho_dis hPO hk oM
  refine lv_icmp_eq (tgt := 2429) hx hb dL_law_535 (by decide) (fun _ => ?_) (fun c9 => absurd rfl c9)
  exact kk _ _ _ _ _ ⟨GX, GM, S', S2', A, B, f, hs, hPX, hPM, hPO, hWX, hWM, ⟨h_x, k_x⟩, ⟨h_y, k_y⟩, nX, nM, dX, dM, oX, oM, dO⟩ hS hl (Nat.le_add_right _ _) (Nat.le_add_right _ _)
set_option maxRecDepth 100000 in
set_option maxHeartbeats 4000000 in
theorem k_fma (LC : LCX p s m args meth c V b L xs i n cells slots) (I : INV V s.heap.size x y o n H) (hS : va_S (AG G00 s.heap.size) s.heap H locs) (hl : lv_has ls 7 (LL b x y o i)) (kk : KK p l e s m args below meth c Q V x y o b i n cells slots) : W p l e room_1 s m args below meth c H locs cells slots Q (F0 m 540 ls []) := by
  obtain ⟨C0, hXs, hbl, hn, hin, hce, hsl⟩ := LC
  obtain ⟨GX, GM, SX, SM, A, B, f, hI, hPX, hPM, hPO, hWX, hWM, ⟨h_x, k_x⟩, ⟨h_y, k_y⟩, nX, nM, dX, dM, oX, oM, dO⟩ := I
  have hx := C0.1
  have hb := C0.2.1
  have hbA : ¬ AG G00 s.heap.size b := fun z => z.elim (fun z => nomatch z) (fun z => Nat.not_le.mpr hbl z)
  have cX := cx_w C0 nX (fun q h => (dX q h).1)
  have cM := cx_w C0 nM dM
  have aX := ag_00 (fun q h => (dX q h).1)
  have aM := ag_00 dM
  have fc : cells ≤ room_1.cells := Nat.le_trans (Nat.le_add_right _ _) hce
  have fs : slots ≤ room_1.slots := Nat.le_trans (Nat.le_add_right _ _) hsl
  obtain ⟨v, S', S2', e1, e2, hs⟩ := q_fma hn hI (SCi xs i 1) (SCi xs i 2) (SCi xs i 3) (SCi xs i 4)
  refine lv_aload_n hx hb dL_law_540 rfl (lv_at hl 1 rfl) ?_
  refine lv_aload_n hx hb dL_law_541 rfl (lv_at hl 0 rfl) ?_
  refine lv_iload hx hb dL_law_542 (lv_at hl 4 rfl) ?_
  refine lv_iconst (v := 1) hx hb dL_law_544 rfl ?_
  refine lv_iadd hx hb dL_law_545 ?_
  refine va_sld hx hb hXs hbl hbA hS (hin 1 (by decide) (by decide)) dL_law_546 ?_
  refine lv_aload_n hx hb dL_law_547 rfl (lv_at hl 0 rfl) ?_
  refine lv_iload hx hb dL_law_548 (lv_at hl 4 rfl) ?_
  refine lv_iconst (v := 2) hx hb dL_law_550 rfl ?_
  refine lv_iadd hx hb dL_law_551 ?_
  refine va_sld hx hb hXs hbl hbA hS (hin 2 (by decide) (by decide)) dL_law_552 ?_
  refine lv_aload_n hx hb dL_law_553 rfl (lv_at hl 0 rfl) ?_
  refine lv_iload hx hb dL_law_554 (lv_at hl 4 rfl) ?_
  refine lv_iconst (v := 3) hx hb dL_law_556 rfl ?_
  refine lv_iadd hx hb dL_law_557 ?_
  refine va_sld hx hb hXs hbl hbA hS (hin 3 (by decide) (by decide)) dL_law_558 ?_
  refine lv_aload_n hx hb dL_law_559 rfl (lv_at hl 0 rfl) ?_
  refine lv_iload hx hb dL_law_560 (lv_at hl 4 rfl) ?_
  refine lv_iconst (v := 4) hx hb dL_law_562 rfl ?_
  refine lv_iadd hx hb dL_law_563 ?_
  refine va_sld hx hb hXs hbl hbA hS (hin 4 (by decide) (by decide)) dL_law_564 ?_
  refine z_aft_i aX (x_runV (As := [.int (SCi xs i 1), .int (SCi xs i 2), .int (SCi xs i 3), .int (SCi xs i 4)]) (rest := []) cX hPX (by rw [aX]; exact hS) (c_X11_fma (l := l) nX hWX h_x k_x e1 H.size) h_x k_x (by decide) rfl rfl km_X11_fma ki_X11_fma qm_L_52 ⟨(Nat.le_of_ble_eq_true rfl), (Nat.le_of_ble_eq_true rfl)⟩ rfl hl.1 rfl (Nat.le_of_ble_eq_true rfl) ⟨fc, fs⟩ dL_law_565) hS (fun H1 locs1 hPX hS hWX hk => ?_)
  have hPM := hp_dis hPM hk (fun q h1 h2 => (dX q h2).2 h1)
  have hPO := ho_dis hPO hk oX
  refine lv_aload_n hx hb dL_law_568 rfl (lv_at hl 2 rfl) ?_
  refine lv_aload_n hx hb dL_law_569 rfl (lv_at hl 0 rfl) ?_
  refine lv_iload hx hb dL_law_570 (lv_at hl 4 rfl) ?_
  refine lv_iconst (v := 1) hx hb dL_law_572 rfl ?_
  refine lv_iadd hx hb dL_law_573 ?_
  refine va_sld hx hb hXs hbl hbA hS (hin 1 (by decide) (by decide)) dL_law_574 ?_
  refine lv_aload_n hx hb dL_law_575 rfl (lv_at hl 0 rfl) ?_
  refine lv_iload hx hb dL_law_576 (lv_at hl 4 rfl) ?_
  refine lv_iconst (v := 2) hx hb dL_law_578 rfl ?_
  refine lv_iadd hx hb dL_law_579 ?_
  refine va_sld hx hb hXs hbl hbA hS (hin 2 (by decide) (by decide)) dL_law_580 ?_
  refine lv_aload_n hx hb dL_law_581 rfl (lv_at hl 0 rfl) ?_
  refine lv_iload hx hb dL_law_582 (lv_at hl 4 rfl) ?_
  refine lv_iconst (v := 3) hx hb dL_law_584 rfl ?_
  refine lv_iadd hx hb dL_law_585 ?_
  refine va_sld hx hb hXs hbl hbA hS (hin 3 (by decide) (by decide)) dL_law_586 ?_
  refine lv_aload_n hx hb dL_law_587 rfl (lv_at hl 0 rfl) ?_
  refine lv_iload hx hb dL_law_588 (lv_at hl 4 rfl) ?_
  refine lv_iconst (v := 4) hx hb dL_law_590 rfl ?_
  refine lv_iadd hx hb dL_law_591 ?_
  refine va_sld hx hb hXs hbl hbA hS (hin 4 (by decide) (by decide)) dL_law_592 ?_
  refine z_aft_i aM (x_runV (As := [.int (SCi xs i 1), .int (SCi xs i 2), .int (SCi xs i 3), .int (SCi xs i 4)]) (rest := [.int v]) cM hPM (by rw [aM]; exact hS) (c_X12_fma (l := l) nM hWM h_y k_y e2 H1.size) h_y k_y (by decide) rfl rfl km_X12_fma ki_X12_fma qm_L_56 ⟨(Nat.le_of_ble_eq_true rfl), (Nat.le_of_ble_eq_true rfl)⟩ rfl hl.1 rfl (Nat.le_of_ble_eq_true rfl) ⟨fc, fs⟩ dL_law_593) hS (fun H2 locs2 hPM hS hWM hk => ?_)
  have hPX := hp_dis hPX hk (fun q h1 => (dX q h1).2)
  have hPO := ho_dis hPO hk oM
  refine lv_icmp_eq (tgt := 2429) hx hb dL_law_596 (by decide) (fun _ => ?_) (fun c9 => absurd rfl c9)
  exact kk _ _ _ _ _ ⟨GX, GM, S', S2', A, B, f, hs, hPX, hPM, hPO, hWX, hWM, ⟨h_x, k_x⟩, ⟨h_y, k_y⟩, nX, nM, dX, dM, oX, oM, dO⟩ hS hl (Nat.le_add_right _ _) (Nat.le_add_right _ _)
set_option maxRecDepth 100000 in
set_option maxHeartbeats 4000000 in
theorem k_mode (LC : LCX p s m args meth c V b L xs i n cells slots) (I : INV V s.heap.size x y o n H) (hS : va_S (AG G00 s.heap.size) s.heap H locs) (hl : lv_has ls 7 (LL b x y o i)) (kk : KK p l e s m args below meth c Q V x y o b i n cells slots) : W p l e room_1 s m args below meth c H locs cells slots Q (F0 m 601 ls []) := by
  obtain ⟨C0, hXs, hbl, hn, hin, hce, hsl⟩ := LC
  obtain ⟨GX, GM, SX, SM, A, B, f, hI, hPX, hPM, hPO, hWX, hWM, ⟨h_x, k_x⟩, ⟨h_y, k_y⟩, nX, nM, dX, dM, oX, oM, dO⟩ := I
  have hx := C0.1
  have hb := C0.2.1
  have hbA : ¬ AG G00 s.heap.size b := fun z => z.elim (fun z => nomatch z) (fun z => Nat.not_le.mpr hbl z)
  have cX := cx_w C0 nX (fun q h => (dX q h).1)
  have cM := cx_w C0 nM dM
  have aX := ag_00 (fun q h => (dX q h).1)
  have aM := ag_00 dM
  have fc : cells ≤ room_1.cells := Nat.le_trans (Nat.le_add_right _ _) hce
  have fs : slots ≤ room_1.slots := Nat.le_trans (Nat.le_add_right _ _) hsl
  obtain ⟨v, S', S2', e1, e2, hs⟩ := q_mode hn hI (SCi xs i 1)
  refine lv_aload_n hx hb dL_law_601 rfl (lv_at hl 1 rfl) ?_
  refine lv_aload_n hx hb dL_law_602 rfl (lv_at hl 0 rfl) ?_
  refine lv_iload hx hb dL_law_603 (lv_at hl 4 rfl) ?_
  refine lv_iconst (v := 1) hx hb dL_law_605 rfl ?_
  refine lv_iadd hx hb dL_law_606 ?_
  refine va_sld hx hb hXs hbl hbA hS (hin 1 (by decide) (by decide)) dL_law_607 ?_
  refine z_aft_i aX (x_runV (As := [.int (SCi xs i 1)]) (rest := []) cX hPX (by rw [aX]; exact hS) (c_X11_mode (l := l) nX hWX h_x k_x e1 H.size) h_x k_x (by decide) rfl rfl km_X11_mode ki_X11_mode qm_L_57 ⟨(Nat.le_of_ble_eq_true rfl), (Nat.le_of_ble_eq_true rfl)⟩ rfl hl.1 rfl (Nat.le_of_ble_eq_true rfl) ⟨fc, fs⟩ dL_law_608) hS (fun H1 locs1 hPX hS hWX hk => ?_)
  have hPM := hp_dis hPM hk (fun q h1 h2 => (dX q h2).2 h1)
  have hPO := ho_dis hPO hk oX
  refine lv_aload_n hx hb dL_law_611 rfl (lv_at hl 2 rfl) ?_
  refine lv_aload_n hx hb dL_law_612 rfl (lv_at hl 0 rfl) ?_
  refine lv_iload hx hb dL_law_613 (lv_at hl 4 rfl) ?_
  refine lv_iconst (v := 1) hx hb dL_law_615 rfl ?_
  refine lv_iadd hx hb dL_law_616 ?_
  refine va_sld hx hb hXs hbl hbA hS (hin 1 (by decide) (by decide)) dL_law_617 ?_
  refine z_aft_i aM (x_runV (As := [.int (SCi xs i 1)]) (rest := [.int v]) cM hPM (by rw [aM]; exact hS) (c_X12_mode (l := l) nM hWM h_y k_y e2 H1.size) h_y k_y (by decide) rfl rfl km_X12_mode ki_X12_mode qm_L_60 ⟨(Nat.le_of_ble_eq_true rfl), (Nat.le_of_ble_eq_true rfl)⟩ rfl hl.1 rfl (Nat.le_of_ble_eq_true rfl) ⟨fc, fs⟩ dL_law_618) hS (fun H2 locs2 hPM hS hWM hk => ?_)
  have hPX := hp_dis hPX hk (fun q h1 => (dX q h1).2)
  have hPO := ho_dis hPO hk oM
  refine lv_icmp_eq (tgt := 2429) hx hb dL_law_621 (by decide) (fun _ => ?_) (fun c9 => absurd rfl c9)
  exact kk _ _ _ _ _ ⟨GX, GM, S', S2', A, B, f, hs, hPX, hPM, hPO, hWX, hWM, ⟨h_x, k_x⟩, ⟨h_y, k_y⟩, nX, nM, dX, dM, oX, oM, dO⟩ hS hl (Nat.le_add_right _ _) (Nat.le_add_right _ _)
set_option maxRecDepth 100000 in
set_option maxHeartbeats 4000000 in
theorem k_clear (LC : LCX p s m args meth c V b L xs i n cells slots) (I : INV V s.heap.size x y o n H) (hS : va_S (AG G00 s.heap.size) s.heap H locs) (hl : lv_has ls 7 (LL b x y o i)) (kk : KK p l e s m args below meth c Q V x y o b i n cells slots) : W p l e room_1 s m args below meth c H locs cells slots Q (F0 m 626 ls []) := by
  obtain ⟨C0, hXs, hbl, hn, hin, hce, hsl⟩ := LC
  obtain ⟨GX, GM, SX, SM, A, B, f, hI, hPX, hPM, hPO, hWX, hWM, ⟨h_x, k_x⟩, ⟨h_y, k_y⟩, nX, nM, dX, dM, oX, oM, dO⟩ := I
  have hx := C0.1
  have hb := C0.2.1
  have hbA : ¬ AG G00 s.heap.size b := fun z => z.elim (fun z => nomatch z) (fun z => Nat.not_le.mpr hbl z)
  have cX := cx_w C0 nX (fun q h => (dX q h).1)
  have cM := cx_w C0 nM dM
  have aX := ag_00 (fun q h => (dX q h).1)
  have aM := ag_00 dM
  have fc : cells ≤ room_1.cells := Nat.le_trans (Nat.le_add_right _ _) hce
  have fs : slots ≤ room_1.slots := Nat.le_trans (Nat.le_add_right _ _) hsl
  obtain ⟨v, S', S2', e1, e2, hs⟩ := q_clear hn hI 
  refine lv_aload_n hx hb dL_law_626 rfl (lv_at hl 1 rfl) ?_
  refine z_aft_i aX (x_runV (As := []) (rest := []) cX hPX (by rw [aX]; exact hS) (c_X11_clear (l := l) nX hWX h_x k_x e1 H.size) h_x k_x (by decide) rfl rfl km_X11_clear ki_X11_clear qm_L_61 ⟨(Nat.le_of_ble_eq_true rfl), (Nat.le_of_ble_eq_true rfl)⟩ rfl hl.1 rfl (Nat.le_of_ble_eq_true rfl) ⟨fc, fs⟩ dL_law_627) hS (fun H1 locs1 hPX hS hWX hk => ?_)
  have hPM := hp_dis hPM hk (fun q h1 h2 => (dX q h2).2 h1)
  have hPO := ho_dis hPO hk oX
  refine lv_aload_n hx hb dL_law_630 rfl (lv_at hl 2 rfl) ?_
  refine z_aft_i aM (x_runV (As := []) (rest := [.int v]) cM hPM (by rw [aM]; exact hS) (c_X12_clear (l := l) nM hWM h_y k_y e2 H1.size) h_y k_y (by decide) rfl rfl km_X12_clear ki_X12_clear qm_L_64 ⟨(Nat.le_of_ble_eq_true rfl), (Nat.le_of_ble_eq_true rfl)⟩ rfl hl.1 rfl (Nat.le_of_ble_eq_true rfl) ⟨fc, fs⟩ dL_law_631) hS (fun H2 locs2 hPM hS hWM hk => ?_)
  have hPX := hp_dis hPX hk (fun q h1 => (dX q h1).2)
  have hPO := ho_dis hPO hk oM
  refine lv_icmp_eq (tgt := 2429) hx hb dL_law_634 (by decide) (fun _ => ?_) (fun c9 => absurd rfl c9)
  exact kk _ _ _ _ _ ⟨GX, GM, S', S2', A, B, f, hs, hPX, hPM, hPO, hWX, hWM, ⟨h_x, k_x⟩, ⟨h_y, k_y⟩, nX, nM, dX, dM, oX, oM, dO⟩ hS hl (Nat.le_add_right _ _) (Nat.le_add_right _ _)
set_option maxRecDepth 100000 in
set_option maxHeartbeats 4000000 in
theorem k_use (LC : LCX p s m args meth c V b L xs i n cells slots) (I : INV V s.heap.size x y o n H) (hS : va_S (AG G00 s.heap.size) s.heap H locs) (hl : lv_has ls 7 (LL b x y o i)) (kk : KK p l e s m args below meth c Q V x y o b i n cells slots) : W p l e room_1 s m args below meth c H locs cells slots Q (F0 m 639 ls []) := by
  obtain ⟨C0, hXs, hbl, hn, hin, hce, hsl⟩ := LC
  obtain ⟨GX, GM, SX, SM, A, B, f, hI, hPX, hPM, hPO, hWX, hWM, ⟨h_x, k_x⟩, ⟨h_y, k_y⟩, nX, nM, dX, dM, oX, oM, dO⟩ := I
  have hx := C0.1
  have hb := C0.2.1
  have hbA : ¬ AG G00 s.heap.size b := fun z => z.elim (fun z => nomatch z) (fun z => Nat.not_le.mpr hbl z)
  have cX := cx_w C0 nX (fun q h => (dX q h).1)
  have cM := cx_w C0 nM dM
  have aX := ag_00 (fun q h => (dX q h).1)
  have aM := ag_00 dM
  have fc : cells ≤ room_1.cells := Nat.le_trans (Nat.le_add_right _ _) hce
  have fs : slots ≤ room_1.slots := Nat.le_trans (Nat.le_add_right _ _) hsl
  obtain ⟨v, S', S2', e1, e2, hs⟩ := q_use hn hI (SCi xs i 1)
  refine lv_aload_n hx hb dL_law_639 rfl (lv_at hl 1 rfl) ?_
  refine lv_aload_n hx hb dL_law_640 rfl (lv_at hl 0 rfl) ?_
  refine lv_iload hx hb dL_law_641 (lv_at hl 4 rfl) ?_
  refine lv_iconst (v := 1) hx hb dL_law_643 rfl ?_
  refine lv_iadd hx hb dL_law_644 ?_
  refine va_sld hx hb hXs hbl hbA hS (hin 1 (by decide) (by decide)) dL_law_645 ?_
  refine z_aft_i aX (x_runV (As := [.int (SCi xs i 1)]) (rest := []) cX hPX (by rw [aX]; exact hS) (c_X11_use (l := l) nX hWX h_x k_x e1 H.size) h_x k_x (by decide) rfl rfl km_X11_use ki_X11_use qm_L_65 ⟨(Nat.le_of_ble_eq_true rfl), (Nat.le_of_ble_eq_true rfl)⟩ rfl hl.1 rfl (Nat.le_of_ble_eq_true rfl) ⟨fc, fs⟩ dL_law_646) hS (fun H1 locs1 hPX hS hWX hk => ?_)
  have hPM := hp_dis hPM hk (fun q h1 h2 => (dX q h2).2 h1)
  have hPO := ho_dis hPO hk oX
  refine lv_aload_n hx hb dL_law_649 rfl (lv_at hl 2 rfl) ?_
  refine lv_aload_n hx hb dL_law_650 rfl (lv_at hl 0 rfl) ?_
  refine lv_iload hx hb dL_law_651 (lv_at hl 4 rfl) ?_
  refine lv_iconst (v := 1) hx hb dL_law_653 rfl ?_
  refine lv_iadd hx hb dL_law_654 ?_
  refine va_sld hx hb hXs hbl hbA hS (hin 1 (by decide) (by decide)) dL_law_655 ?_
  refine z_aft_i aM (x_runV (As := [.int (SCi xs i 1)]) (rest := [.int v]) cM hPM (by rw [aM]; exact hS) (c_X12_use (l := l) nM hWM h_y k_y e2 H1.size) h_y k_y (by decide) rfl rfl km_X12_use ki_X12_use qm_L_68 ⟨(Nat.le_of_ble_eq_true rfl), (Nat.le_of_ble_eq_true rfl)⟩ rfl hl.1 rfl (Nat.le_of_ble_eq_true rfl) ⟨fc, fs⟩ dL_law_656) hS (fun H2 locs2 hPM hS hWM hk => ?_)
  have hPX := hp_dis hPX hk (fun q h1 => (dX q h1).2)
  have hPO := ho_dis hPO hk oM
  refine lv_icmp_eq (tgt := 2429) hx hb dL_law_659 (by decide) (fun _ => ?_) (fun c9 => absurd rfl c9)
  exact kk _ _ _ _ _ ⟨GX, GM, S', S2', A, B, f, hs, hPX, hPM, hPO, hWX, hWM, ⟨h_x, k_x⟩, ⟨h_y, k_y⟩, nX, nM, dX, dM, oX, oM, dO⟩ hS hl (Nat.le_add_right _ _) (Nat.le_add_right _ _)
set_option maxRecDepth 100000 in
set_option maxHeartbeats 4000000 in
theorem k_undo (LC : LCX p s m args meth c V b L xs i n cells slots) (I : INV V s.heap.size x y o n H) (hS : va_S (AG G00 s.heap.size) s.heap H locs) (hl : lv_has ls 7 (LL b x y o i)) (kk : KK p l e s m args below meth c Q V x y o b i n cells slots) : W p l e room_1 s m args below meth c H locs cells slots Q (F0 m 664 ls []) := by
  obtain ⟨C0, hXs, hbl, hn, hin, hce, hsl⟩ := LC
  obtain ⟨GX, GM, SX, SM, A, B, f, hI, hPX, hPM, hPO, hWX, hWM, ⟨h_x, k_x⟩, ⟨h_y, k_y⟩, nX, nM, dX, dM, oX, oM, dO⟩ := I
  have hx := C0.1
  have hb := C0.2.1
  have hbA : ¬ AG G00 s.heap.size b := fun z => z.elim (fun z => nomatch z) (fun z => Nat.not_le.mpr hbl z)
  have cX := cx_w C0 nX (fun q h => (dX q h).1)
  have cM := cx_w C0 nM dM
  have aX := ag_00 (fun q h => (dX q h).1)
  have aM := ag_00 dM
  have fc : cells ≤ room_1.cells := Nat.le_trans (Nat.le_add_right _ _) hce
  have fs : slots ≤ room_1.slots := Nat.le_trans (Nat.le_add_right _ _) hsl
  obtain ⟨v, S', S2', e1, e2, hs⟩ := q_undo hn hI 
  refine lv_aload_n hx hb dL_law_664 rfl (lv_at hl 1 rfl) ?_
  refine z_aft_z aX (x_runV (As := []) (rest := []) cX hPX (by rw [aX]; exact hS) (c_X11_undo (l := l) nX hWX h_x k_x e1 H.size) h_x k_x (by decide) rfl rfl km_X11_undo ki_X11_undo qm_L_69 ⟨(Nat.le_of_ble_eq_true rfl), (Nat.le_of_ble_eq_true rfl)⟩ rfl hl.1 rfl (Nat.le_of_ble_eq_true rfl) ⟨fc, fs⟩ dL_law_665) hS (fun H1 locs1 hPX hS hWX hk => ?_)
  have hPM := hp_dis hPM hk (fun q h1 h2 => (dX q h2).2 h1)
  have hPO := ho_dis hPO hk oX
  refine lv_aload_n hx hb dL_law_668 rfl (lv_at hl 2 rfl) ?_
  refine z_aft_z aM (x_runV (As := []) (rest := [.int v]) cM hPM (by rw [aM]; exact hS) (c_X12_undo (l := l) nM hWM h_y k_y e2 H1.size) h_y k_y (by decide) rfl rfl km_X12_undo ki_X12_undo qm_L_73 ⟨(Nat.le_of_ble_eq_true rfl), (Nat.le_of_ble_eq_true rfl)⟩ rfl hl.1 rfl (Nat.le_of_ble_eq_true rfl) ⟨fc, fs⟩ dL_law_669) hS (fun H2 locs2 hPM hS hWM hk => ?_)
  have hPX := hp_dis hPX hk (fun q h1 => (dX q h1).2)
  have hPO := ho_dis hPO hk oM
  refine lv_icmp_eq (tgt := 2429) hx hb dL_law_672 (by decide) (fun _ => ?_) (fun c9 => absurd rfl c9)
  exact kk _ _ _ _ _ ⟨GX, GM, S', S2', A, B, f, hs, hPX, hPM, hPO, hWX, hWM, ⟨h_x, k_x⟩, ⟨h_y, k_y⟩, nX, nM, dX, dM, oX, oM, dO⟩ hS hl (Nat.le_add_right _ _) (Nat.le_add_right _ _)
set_option maxRecDepth 100000 in
set_option maxHeartbeats 4000000 in
theorem k_judged (LC : LCX p s m args meth c V b L xs i n cells slots) (I : INV V s.heap.size x y o n H) (hS : va_S (AG G00 s.heap.size) s.heap H locs) (hl : lv_has ls 7 (LL b x y o i)) (kk : KK p l e s m args below meth c Q V x y o b i n cells slots) : W p l e room_1 s m args below meth c H locs cells slots Q (F0 m 677 ls []) := by
  obtain ⟨C0, hXs, hbl, hn, hin, hce, hsl⟩ := LC
  obtain ⟨GX, GM, SX, SM, A, B, f, hI, hPX, hPM, hPO, hWX, hWM, ⟨h_x, k_x⟩, ⟨h_y, k_y⟩, nX, nM, dX, dM, oX, oM, dO⟩ := I
  have hx := C0.1
  have hb := C0.2.1
  have hbA : ¬ AG G00 s.heap.size b := fun z => z.elim (fun z => nomatch z) (fun z => Nat.not_le.mpr hbl z)
  have cX := cx_w C0 nX (fun q h => (dX q h).1)
  have cM := cx_w C0 nM dM
  have aX := ag_00 (fun q h => (dX q h).1)
  have aM := ag_00 dM
  have fc : cells ≤ room_1.cells := Nat.le_trans (Nat.le_add_right _ _) hce
  have fs : slots ≤ room_1.slots := Nat.le_trans (Nat.le_add_right _ _) hsl
  obtain ⟨v, S', S2', e1, e2, hs⟩ := q_judged hn hI (SCi xs i 1)
  refine lv_aload_n hx hb dL_law_677 rfl (lv_at hl 1 rfl) ?_
  refine lv_aload_n hx hb dL_law_678 rfl (lv_at hl 0 rfl) ?_
  refine lv_iload hx hb dL_law_679 (lv_at hl 4 rfl) ?_
  refine lv_iconst (v := 1) hx hb dL_law_681 rfl ?_
  refine lv_iadd hx hb dL_law_682 ?_
  refine va_sld hx hb hXs hbl hbA hS (hin 1 (by decide) (by decide)) dL_law_683 ?_
  refine z_aft_i aX (x_runV (As := [.int (SCi xs i 1)]) (rest := []) cX hPX (by rw [aX]; exact hS) (c_X11_judged (l := l) nX hWX h_x k_x e1 H.size) h_x k_x (by decide) rfl rfl km_X11_judged ki_X11_judged qm_L_74 ⟨(Nat.le_of_ble_eq_true rfl), (Nat.le_of_ble_eq_true rfl)⟩ rfl hl.1 rfl (Nat.le_of_ble_eq_true rfl) ⟨fc, fs⟩ dL_law_684) hS (fun H1 locs1 hPX hS hWX hk => ?_)
  have hPM := hp_dis hPM hk (fun q h1 h2 => (dX q h2).2 h1)
  have hPO := ho_dis hPO hk oX
  refine lv_aload_n hx hb dL_law_687 rfl (lv_at hl 2 rfl) ?_
  refine lv_aload_n hx hb dL_law_688 rfl (lv_at hl 0 rfl) ?_
  refine lv_iload hx hb dL_law_689 (lv_at hl 4 rfl) ?_
  refine lv_iconst (v := 1) hx hb dL_law_691 rfl ?_
  refine lv_iadd hx hb dL_law_692 ?_
  refine va_sld hx hb hXs hbl hbA hS (hin 1 (by decide) (by decide)) dL_law_693 ?_
  refine z_aft_i aM (x_runV (As := [.int (SCi xs i 1)]) (rest := [.int v]) cM hPM (by rw [aM]; exact hS) (c_X12_judged (l := l) nM hWM h_y k_y e2 H1.size) h_y k_y (by decide) rfl rfl km_X12_judged ki_X12_judged qm_L_77 ⟨(Nat.le_of_ble_eq_true rfl), (Nat.le_of_ble_eq_true rfl)⟩ rfl hl.1 rfl (Nat.le_of_ble_eq_true rfl) ⟨fc, fs⟩ dL_law_694) hS (fun H2 locs2 hPM hS hWM hk => ?_)
  have hPX := hp_dis hPX hk (fun q h1 => (dX q h1).2)
  have hPO := ho_dis hPO hk oM
  refine lv_icmp_eq (tgt := 2429) hx hb dL_law_697 (by decide) (fun _ => ?_) (fun c9 => absurd rfl c9)
  exact kk _ _ _ _ _ ⟨GX, GM, S', S2', A, B, f, hs, hPX, hPM, hPO, hWX, hWM, ⟨h_x, k_x⟩, ⟨h_y, k_y⟩, nX, nM, dX, dM, oX, oM, dO⟩ hS hl (Nat.le_add_right _ _) (Nat.le_add_right _ _)
set_option maxRecDepth 100000 in
set_option maxHeartbeats 4000000 in
theorem k_sort (LC : LCX p s m args meth c V b L xs i n cells slots) (I : INV V s.heap.size x y o n H) (hS : va_S (AG G00 s.heap.size) s.heap H locs) (hl : lv_has ls 7 (LL b x y o i)) (kk : KK p l e s m args below meth c Q V x y o b i n cells slots) : W p l e room_1 s m args below meth c H locs cells slots Q (F0 m 702 ls []) := by
  obtain ⟨C0, hXs, hbl, hn, hin, hce, hsl⟩ := LC
  obtain ⟨GX, GM, SX, SM, A, B, f, hI, hPX, hPM, hPO, hWX, hWM, ⟨h_x, k_x⟩, ⟨h_y, k_y⟩, nX, nM, dX, dM, oX, oM, dO⟩ := I
  have hx := C0.1
  have hb := C0.2.1
  have hbA : ¬ AG G00 s.heap.size b := fun z => z.elim (fun z => nomatch z) (fun z => Nat.not_le.mpr hbl z)
  have cX := cx_w C0 nX (fun q h => (dX q h).1)
  have cM := cx_w C0 nM dM
  have aX := ag_00 (fun q h => (dX q h).1)
  have aM := ag_00 dM
  have fc : cells ≤ room_1.cells := Nat.le_trans (Nat.le_add_right _ _) hce
  have fs : slots ≤ room_1.slots := Nat.le_trans (Nat.le_add_right _ _) hsl
  obtain ⟨v, S2', e1, e2, hs⟩ := q_sort hn hI (SCi xs i 1)
  refine lv_aload_n hx hb dL_law_702 rfl (lv_at hl 1 rfl) ?_
  refine lv_aload_n hx hb dL_law_703 rfl (lv_at hl 0 rfl) ?_
  refine lv_iload hx hb dL_law_704 (lv_at hl 4 rfl) ?_
  refine lv_iconst (v := 1) hx hb dL_law_706 rfl ?_
  refine lv_iadd hx hb dL_law_707 ?_
  refine va_sld hx hb hXs hbl hbA hS (hin 1 (by decide) (by decide)) dL_law_708 ?_
  refine z_aft_i aX (x_runV (As := [.int (SCi xs i 1)]) (rest := []) cX hPX (by rw [aX]; exact hS) (c_X11_sort (l := l) nX hWX h_x k_x e1 H.size) h_x k_x (by decide) rfl rfl km_X11_sort ki_X11_sort qm_L_78 ⟨(Nat.le_of_ble_eq_true rfl), (Nat.le_of_ble_eq_true rfl)⟩ rfl hl.1 rfl (Nat.le_of_ble_eq_true rfl) ⟨fc, fs⟩ dL_law_709) hS (fun H1 locs1 hPX hS hWX hk => ?_)
  have hPM := hp_dis hPM hk (fun q h1 h2 => (dX q h2).2 h1)
  have hPO := ho_dis hPO hk oX
  refine lv_aload_n hx hb dL_law_712 rfl (lv_at hl 2 rfl) ?_
  refine lv_aload_n hx hb dL_law_713 rfl (lv_at hl 0 rfl) ?_
  refine lv_iload hx hb dL_law_714 (lv_at hl 4 rfl) ?_
  refine lv_iconst (v := 1) hx hb dL_law_716 rfl ?_
  refine lv_iadd hx hb dL_law_717 ?_
  refine va_sld hx hb hXs hbl hbA hS (hin 1 (by decide) (by decide)) dL_law_718 ?_
  refine z_aft_i aM (x_runV (As := [.int (SCi xs i 1)]) (rest := [.int v]) cM hPM (by rw [aM]; exact hS) (c_X12_sort (l := l) nM hWM h_y k_y e2 H1.size) h_y k_y (by decide) rfl rfl km_X12_sort ki_X12_sort qm_L_81 ⟨(Nat.le_of_ble_eq_true rfl), (Nat.le_of_ble_eq_true rfl)⟩ rfl hl.1 rfl (Nat.le_of_ble_eq_true rfl) ⟨fc, fs⟩ dL_law_719) hS (fun H2 locs2 hPM hS hWM hk => ?_)
  have hPX := hp_dis hPX hk (fun q h1 => (dX q h1).2)
  have hPO := ho_dis hPO hk oM
  refine lv_icmp_eq (tgt := 2429) hx hb dL_law_722 (by decide) (fun _ => ?_) (fun c9 => absurd rfl c9)
  exact kk _ _ _ _ _ ⟨GX, GM, SX, S2', A, B, f, hs, hPX, hPM, hPO, hWX, hWM, ⟨h_x, k_x⟩, ⟨h_y, k_y⟩, nX, nM, dX, dM, oX, oM, dO⟩ hS hl (Nat.le_add_right _ _) (Nat.le_add_right _ _)
set_option maxRecDepth 100000 in
set_option maxHeartbeats 4000000 in
theorem k_order (LC : LCX p s m args meth c V b L xs i n cells slots) (I : INV V s.heap.size x y o n H) (hS : va_S (AG G00 s.heap.size) s.heap H locs) (hl : lv_has ls 7 (LL b x y o i)) (kk : KK p l e s m args below meth c Q V x y o b i n cells slots) : W p l e room_1 s m args below meth c H locs cells slots Q (F0 m 727 ls []) := by
  obtain ⟨C0, hXs, hbl, hn, hin, hce, hsl⟩ := LC
  obtain ⟨GX, GM, SX, SM, A, B, f, hI, hPX, hPM, hPO, hWX, hWM, ⟨h_x, k_x⟩, ⟨h_y, k_y⟩, nX, nM, dX, dM, oX, oM, dO⟩ := I
  have hx := C0.1
  have hb := C0.2.1
  have hbA : ¬ AG G00 s.heap.size b := fun z => z.elim (fun z => nomatch z) (fun z => Nat.not_le.mpr hbl z)
  have cX := cx_w C0 nX (fun q h => (dX q h).1)
  have cM := cx_w C0 nM dM
  have aX := ag_00 (fun q h => (dX q h).1)
  have aM := ag_00 dM
  have fc : cells ≤ room_1.cells := Nat.le_trans (Nat.le_add_right _ _) hce
  have fs : slots ≤ room_1.slots := Nat.le_trans (Nat.le_add_right _ _) hsl
  obtain ⟨v, S2', e1, e2, hs⟩ := q_order hn hI (SCi xs i 1) (SCi xs i 2)
  refine lv_aload_n hx hb dL_law_727 rfl (lv_at hl 1 rfl) ?_
  refine lv_aload_n hx hb dL_law_728 rfl (lv_at hl 0 rfl) ?_
  refine lv_iload hx hb dL_law_729 (lv_at hl 4 rfl) ?_
  refine lv_iconst (v := 1) hx hb dL_law_731 rfl ?_
  refine lv_iadd hx hb dL_law_732 ?_
  refine va_sld hx hb hXs hbl hbA hS (hin 1 (by decide) (by decide)) dL_law_733 ?_
  refine lv_aload_n hx hb dL_law_734 rfl (lv_at hl 0 rfl) ?_
  refine lv_iload hx hb dL_law_735 (lv_at hl 4 rfl) ?_
  refine lv_iconst (v := 2) hx hb dL_law_737 rfl ?_
  refine lv_iadd hx hb dL_law_738 ?_
  refine va_sld hx hb hXs hbl hbA hS (hin 2 (by decide) (by decide)) dL_law_739 ?_
  refine z_aft_i aX (x_runV (As := [.int (SCi xs i 1), .int (SCi xs i 2)]) (rest := []) cX hPX (by rw [aX]; exact hS) (c_X11_order (l := l) nX hWX h_x k_x e1 H.size) h_x k_x (by decide) rfl rfl km_X11_order ki_X11_order qm_L_82 ⟨(Nat.le_of_ble_eq_true rfl), (Nat.le_of_ble_eq_true rfl)⟩ rfl hl.1 rfl (Nat.le_of_ble_eq_true rfl) ⟨fc, fs⟩ dL_law_740) hS (fun H1 locs1 hPX hS hWX hk => ?_)
  have hPM := hp_dis hPM hk (fun q h1 h2 => (dX q h2).2 h1)
  have hPO := ho_dis hPO hk oX
  refine lv_aload_n hx hb dL_law_743 rfl (lv_at hl 2 rfl) ?_
  refine lv_aload_n hx hb dL_law_744 rfl (lv_at hl 0 rfl) ?_
  refine lv_iload hx hb dL_law_745 (lv_at hl 4 rfl) ?_
  refine lv_iconst (v := 1) hx hb dL_law_747 rfl ?_
  refine lv_iadd hx hb dL_law_748 ?_
  refine va_sld hx hb hXs hbl hbA hS (hin 1 (by decide) (by decide)) dL_law_749 ?_
  refine lv_aload_n hx hb dL_law_750 rfl (lv_at hl 0 rfl) ?_
  refine lv_iload hx hb dL_law_751 (lv_at hl 4 rfl) ?_
  refine lv_iconst (v := 2) hx hb dL_law_753 rfl ?_
  refine lv_iadd hx hb dL_law_754 ?_
  refine va_sld hx hb hXs hbl hbA hS (hin 2 (by decide) (by decide)) dL_law_755 ?_
  refine z_aft_i aM (x_runV (As := [.int (SCi xs i 1), .int (SCi xs i 2)]) (rest := [.int v]) cM hPM (by rw [aM]; exact hS) (c_X12_order (l := l) nM hWM h_y k_y e2 H1.size) h_y k_y (by decide) rfl rfl km_X12_order ki_X12_order qm_L_85 ⟨(Nat.le_of_ble_eq_true rfl), (Nat.le_of_ble_eq_true rfl)⟩ rfl hl.1 rfl (Nat.le_of_ble_eq_true rfl) ⟨fc, fs⟩ dL_law_756) hS (fun H2 locs2 hPM hS hWM hk => ?_)
  have hPX := hp_dis hPX hk (fun q h1 => (dX q h1).2)
  have hPO := ho_dis hPO hk oM
  refine lv_icmp_eq (tgt := 2429) hx hb dL_law_759 (by decide) (fun _ => ?_) (fun c9 => absurd rfl c9)
  exact kk _ _ _ _ _ ⟨GX, GM, SX, S2', A, B, f, hs, hPX, hPM, hPO, hWX, hWM, ⟨h_x, k_x⟩, ⟨h_y, k_y⟩, nX, nM, dX, dM, oX, oM, dO⟩ hS hl (Nat.le_add_right _ _) (Nat.le_add_right _ _)
set_option maxRecDepth 100000 in
set_option maxHeartbeats 4000000 in
theorem k_above (LC : LCX p s m args meth c V b L xs i n cells slots) (I : INV V s.heap.size x y o n H) (hS : va_S (AG G00 s.heap.size) s.heap H locs) (hl : lv_has ls 7 (LL b x y o i)) (kk : KK p l e s m args below meth c Q V x y o b i n cells slots) : W p l e room_1 s m args below meth c H locs cells slots Q (F0 m 764 ls []) := by
  obtain ⟨C0, hXs, hbl, hn, hin, hce, hsl⟩ := LC
  obtain ⟨GX, GM, SX, SM, A, B, f, hI, hPX, hPM, hPO, hWX, hWM, ⟨h_x, k_x⟩, ⟨h_y, k_y⟩, nX, nM, dX, dM, oX, oM, dO⟩ := I
  have hx := C0.1
  have hb := C0.2.1
  have hbA : ¬ AG G00 s.heap.size b := fun z => z.elim (fun z => nomatch z) (fun z => Nat.not_le.mpr hbl z)
  have cX := cx_w C0 nX (fun q h => (dX q h).1)
  have cM := cx_w C0 nM dM
  have aX := ag_00 (fun q h => (dX q h).1)
  have aM := ag_00 dM
  have fc : cells ≤ room_1.cells := Nat.le_trans (Nat.le_add_right _ _) hce
  have fs : slots ≤ room_1.slots := Nat.le_trans (Nat.le_add_right _ _) hsl
  obtain ⟨v, S2', e1, e2, hs⟩ := q_above hn hI (SCi xs i 1)
  refine lv_aload_n hx hb dL_law_764 rfl (lv_at hl 1 rfl) ?_
  refine lv_aload_n hx hb dL_law_765 rfl (lv_at hl 0 rfl) ?_
  refine lv_iload hx hb dL_law_766 (lv_at hl 4 rfl) ?_
  refine lv_iconst (v := 1) hx hb dL_law_768 rfl ?_
  refine lv_iadd hx hb dL_law_769 ?_
  refine va_sld hx hb hXs hbl hbA hS (hin 1 (by decide) (by decide)) dL_law_770 ?_
  refine z_aft_i aX (x_runV (As := [.int (SCi xs i 1)]) (rest := []) cX hPX (by rw [aX]; exact hS) (c_X11_above (l := l) nX hWX h_x k_x e1 H.size) h_x k_x (by decide) rfl rfl km_X11_above ki_X11_above qm_L_86 ⟨(Nat.le_of_ble_eq_true rfl), (Nat.le_of_ble_eq_true rfl)⟩ rfl hl.1 rfl (Nat.le_of_ble_eq_true rfl) ⟨fc, fs⟩ dL_law_771) hS (fun H1 locs1 hPX hS hWX hk => ?_)
  have hPM := hp_dis hPM hk (fun q h1 h2 => (dX q h2).2 h1)
  have hPO := ho_dis hPO hk oX
  refine lv_aload_n hx hb dL_law_774 rfl (lv_at hl 2 rfl) ?_
  refine lv_aload_n hx hb dL_law_775 rfl (lv_at hl 0 rfl) ?_
  refine lv_iload hx hb dL_law_776 (lv_at hl 4 rfl) ?_
  refine lv_iconst (v := 1) hx hb dL_law_778 rfl ?_
  refine lv_iadd hx hb dL_law_779 ?_
  refine va_sld hx hb hXs hbl hbA hS (hin 1 (by decide) (by decide)) dL_law_780 ?_
  refine z_aft_i aM (x_runV (As := [.int (SCi xs i 1)]) (rest := [.int v]) cM hPM (by rw [aM]; exact hS) (c_X12_above (l := l) nM hWM h_y k_y e2 H1.size) h_y k_y (by decide) rfl rfl km_X12_above ki_X12_above qm_L_89 ⟨(Nat.le_of_ble_eq_true rfl), (Nat.le_of_ble_eq_true rfl)⟩ rfl hl.1 rfl (Nat.le_of_ble_eq_true rfl) ⟨fc, fs⟩ dL_law_781) hS (fun H2 locs2 hPM hS hWM hk => ?_)
  have hPX := hp_dis hPX hk (fun q h1 => (dX q h1).2)
  have hPO := ho_dis hPO hk oM
  refine lv_icmp_eq (tgt := 2429) hx hb dL_law_784 (by decide) (fun _ => ?_) (fun c9 => absurd rfl c9)
  exact kk _ _ _ _ _ ⟨GX, GM, SX, S2', A, B, f, hs, hPX, hPM, hPO, hWX, hWM, ⟨h_x, k_x⟩, ⟨h_y, k_y⟩, nX, nM, dX, dM, oX, oM, dO⟩ hS hl (Nat.le_add_right _ _) (Nat.le_add_right _ _)
set_option maxRecDepth 100000 in
set_option maxHeartbeats 4000000 in
theorem k_below (LC : LCX p s m args meth c V b L xs i n cells slots) (I : INV V s.heap.size x y o n H) (hS : va_S (AG G00 s.heap.size) s.heap H locs) (hl : lv_has ls 7 (LL b x y o i)) (kk : KK p l e s m args below meth c Q V x y o b i n cells slots) : W p l e room_1 s m args below meth c H locs cells slots Q (F0 m 789 ls []) := by
  obtain ⟨C0, hXs, hbl, hn, hin, hce, hsl⟩ := LC
  obtain ⟨GX, GM, SX, SM, A, B, f, hI, hPX, hPM, hPO, hWX, hWM, ⟨h_x, k_x⟩, ⟨h_y, k_y⟩, nX, nM, dX, dM, oX, oM, dO⟩ := I
  have hx := C0.1
  have hb := C0.2.1
  have hbA : ¬ AG G00 s.heap.size b := fun z => z.elim (fun z => nomatch z) (fun z => Nat.not_le.mpr hbl z)
  have cX := cx_w C0 nX (fun q h => (dX q h).1)
  have cM := cx_w C0 nM dM
  have aX := ag_00 (fun q h => (dX q h).1)
  have aM := ag_00 dM
  have fc : cells ≤ room_1.cells := Nat.le_trans (Nat.le_add_right _ _) hce
  have fs : slots ≤ room_1.slots := Nat.le_trans (Nat.le_add_right _ _) hsl
  obtain ⟨v, S2', e1, e2, hs⟩ := q_below hn hI (SCi xs i 1)
  refine lv_aload_n hx hb dL_law_789 rfl (lv_at hl 1 rfl) ?_
  refine lv_aload_n hx hb dL_law_790 rfl (lv_at hl 0 rfl) ?_
  refine lv_iload hx hb dL_law_791 (lv_at hl 4 rfl) ?_
  refine lv_iconst (v := 1) hx hb dL_law_793 rfl ?_
  refine lv_iadd hx hb dL_law_794 ?_
  refine va_sld hx hb hXs hbl hbA hS (hin 1 (by decide) (by decide)) dL_law_795 ?_
  refine z_aft_i aX (x_runV (As := [.int (SCi xs i 1)]) (rest := []) cX hPX (by rw [aX]; exact hS) (c_X11_below (l := l) nX hWX h_x k_x e1 H.size) h_x k_x (by decide) rfl rfl km_X11_below ki_X11_below qm_L_90 ⟨(Nat.le_of_ble_eq_true rfl), (Nat.le_of_ble_eq_true rfl)⟩ rfl hl.1 rfl (Nat.le_of_ble_eq_true rfl) ⟨fc, fs⟩ dL_law_796) hS (fun H1 locs1 hPX hS hWX hk => ?_)
  have hPM := hp_dis hPM hk (fun q h1 h2 => (dX q h2).2 h1)
  have hPO := ho_dis hPO hk oX
  refine lv_aload_n hx hb dL_law_799 rfl (lv_at hl 2 rfl) ?_
  refine lv_aload_n hx hb dL_law_800 rfl (lv_at hl 0 rfl) ?_
  refine lv_iload hx hb dL_law_801 (lv_at hl 4 rfl) ?_
  refine lv_iconst (v := 1) hx hb dL_law_803 rfl ?_
  refine lv_iadd hx hb dL_law_804 ?_
  refine va_sld hx hb hXs hbl hbA hS (hin 1 (by decide) (by decide)) dL_law_805 ?_
  refine z_aft_i aM (x_runV (As := [.int (SCi xs i 1)]) (rest := [.int v]) cM hPM (by rw [aM]; exact hS) (c_X12_below (l := l) nM hWM h_y k_y e2 H1.size) h_y k_y (by decide) rfl rfl km_X12_below ki_X12_below qm_L_93 ⟨(Nat.le_of_ble_eq_true rfl), (Nat.le_of_ble_eq_true rfl)⟩ rfl hl.1 rfl (Nat.le_of_ble_eq_true rfl) ⟨fc, fs⟩ dL_law_806) hS (fun H2 locs2 hPM hS hWM hk => ?_)
  have hPX := hp_dis hPX hk (fun q h1 => (dX q h1).2)
  have hPO := ho_dis hPO hk oM
  refine lv_icmp_eq (tgt := 2429) hx hb dL_law_809 (by decide) (fun _ => ?_) (fun c9 => absurd rfl c9)
  exact kk _ _ _ _ _ ⟨GX, GM, SX, S2', A, B, f, hs, hPX, hPM, hPO, hWX, hWM, ⟨h_x, k_x⟩, ⟨h_y, k_y⟩, nX, nM, dX, dM, oX, oM, dO⟩ hS hl (Nat.le_add_right _ _) (Nat.le_add_right _ _)
set_option maxRecDepth 100000 in
set_option maxHeartbeats 4000000 in
theorem k_sum (LC : LCX p s m args meth c V b L xs i n cells slots) (I : INV V s.heap.size x y o n H) (hS : va_S (AG G00 s.heap.size) s.heap H locs) (hl : lv_has ls 7 (LL b x y o i)) (kk : KK p l e s m args below meth c Q V x y o b i n cells slots) : W p l e room_1 s m args below meth c H locs cells slots Q (F0 m 814 ls []) := by
  obtain ⟨C0, hXs, hbl, hn, hin, hce, hsl⟩ := LC
  obtain ⟨GX, GM, SX, SM, A, B, f, hI, hPX, hPM, hPO, hWX, hWM, ⟨h_x, k_x⟩, ⟨h_y, k_y⟩, nX, nM, dX, dM, oX, oM, dO⟩ := I
  have hx := C0.1
  have hb := C0.2.1
  have hbA : ¬ AG G00 s.heap.size b := fun z => z.elim (fun z => nomatch z) (fun z => Nat.not_le.mpr hbl z)
  have cX := cx_w C0 nX (fun q h => (dX q h).1)
  have cM := cx_w C0 nM dM
  have aX := ag_00 (fun q h => (dX q h).1)
  have aM := ag_00 dM
  have fc : cells ≤ room_1.cells := Nat.le_trans (Nat.le_add_right _ _) hce
  have fs : slots ≤ room_1.slots := Nat.le_trans (Nat.le_add_right _ _) hsl
  obtain ⟨v, S', S2', e1, e2, hs⟩ := q_sum hn hI (SCi xs i 1) (SCi xs i 2) (SCi xs i 3) (SCi xs i 4)
  refine lv_aload_n hx hb dL_law_814 rfl (lv_at hl 1 rfl) ?_
  refine lv_aload_n hx hb dL_law_815 rfl (lv_at hl 0 rfl) ?_
  refine lv_iload hx hb dL_law_816 (lv_at hl 4 rfl) ?_
  refine lv_iconst (v := 1) hx hb dL_law_818 rfl ?_
  refine lv_iadd hx hb dL_law_819 ?_
  refine va_sld hx hb hXs hbl hbA hS (hin 1 (by decide) (by decide)) dL_law_820 ?_
  refine lv_aload_n hx hb dL_law_821 rfl (lv_at hl 0 rfl) ?_
  refine lv_iload hx hb dL_law_822 (lv_at hl 4 rfl) ?_
  refine lv_iconst (v := 2) hx hb dL_law_824 rfl ?_
  refine lv_iadd hx hb dL_law_825 ?_
  refine va_sld hx hb hXs hbl hbA hS (hin 2 (by decide) (by decide)) dL_law_826 ?_
  refine lv_aload_n hx hb dL_law_827 rfl (lv_at hl 0 rfl) ?_
  refine lv_iload hx hb dL_law_828 (lv_at hl 4 rfl) ?_
  refine lv_iconst (v := 3) hx hb dL_law_830 rfl ?_
  refine lv_iadd hx hb dL_law_831 ?_
  refine va_sld hx hb hXs hbl hbA hS (hin 3 (by decide) (by decide)) dL_law_832 ?_
  refine lv_aload_n hx hb dL_law_833 rfl (lv_at hl 0 rfl) ?_
  refine lv_iload hx hb dL_law_834 (lv_at hl 4 rfl) ?_
  refine lv_iconst (v := 4) hx hb dL_law_836 rfl ?_
  refine lv_iadd hx hb dL_law_837 ?_
  refine va_sld hx hb hXs hbl hbA hS (hin 4 (by decide) (by decide)) dL_law_838 ?_
  refine z_aft_i aX (x_runV (As := [.int (SCi xs i 1), .int (SCi xs i 2), .int (SCi xs i 3), .int (SCi xs i 4)]) (rest := []) cX hPX (by rw [aX]; exact hS) (c_X11_sum (l := l) nX hWX h_x k_x e1 H.size) h_x k_x (by decide) rfl rfl km_X11_sum ki_X11_sum qm_L_94 ⟨(Nat.le_of_ble_eq_true rfl), (Nat.le_of_ble_eq_true rfl)⟩ rfl hl.1 rfl (Nat.le_of_ble_eq_true rfl) ⟨fc, fs⟩ dL_law_839) hS (fun H1 locs1 hPX hS hWX hk => ?_)
  have hPM := hp_dis hPM hk (fun q h1 h2 => (dX q h2).2 h1)
  have hPO := ho_dis hPO hk oX
  refine lv_aload_n hx hb dL_law_842 rfl (lv_at hl 2 rfl) ?_
  refine lv_aload_n hx hb dL_law_843 rfl (lv_at hl 0 rfl) ?_
  refine lv_iload hx hb dL_law_844 (lv_at hl 4 rfl) ?_
  refine lv_iconst (v := 1) hx hb dL_law_846 rfl ?_
  refine lv_iadd hx hb dL_law_847 ?_
  refine va_sld hx hb hXs hbl hbA hS (hin 1 (by decide) (by decide)) dL_law_848 ?_
  refine lv_aload_n hx hb dL_law_849 rfl (lv_at hl 0 rfl) ?_
  refine lv_iload hx hb dL_law_850 (lv_at hl 4 rfl) ?_
  refine lv_iconst (v := 2) hx hb dL_law_852 rfl ?_
  refine lv_iadd hx hb dL_law_853 ?_
  refine va_sld hx hb hXs hbl hbA hS (hin 2 (by decide) (by decide)) dL_law_854 ?_
  refine lv_aload_n hx hb dL_law_855 rfl (lv_at hl 0 rfl) ?_
  refine lv_iload hx hb dL_law_856 (lv_at hl 4 rfl) ?_
  refine lv_iconst (v := 3) hx hb dL_law_858 rfl ?_
  refine lv_iadd hx hb dL_law_859 ?_
  refine va_sld hx hb hXs hbl hbA hS (hin 3 (by decide) (by decide)) dL_law_860 ?_
  refine lv_aload_n hx hb dL_law_861 rfl (lv_at hl 0 rfl) ?_
  refine lv_iload hx hb dL_law_862 (lv_at hl 4 rfl) ?_
  refine lv_iconst (v := 4) hx hb dL_law_864 rfl ?_
  refine lv_iadd hx hb dL_law_865 ?_
  refine va_sld hx hb hXs hbl hbA hS (hin 4 (by decide) (by decide)) dL_law_866 ?_
  refine z_aft_i aM (x_runV (As := [.int (SCi xs i 1), .int (SCi xs i 2), .int (SCi xs i 3), .int (SCi xs i 4)]) (rest := [.int v]) cM hPM (by rw [aM]; exact hS) (c_X12_sum (l := l) nM hWM h_y k_y e2 H1.size) h_y k_y (by decide) rfl rfl km_X12_sum ki_X12_sum qm_L_97 ⟨(Nat.le_of_ble_eq_true rfl), (Nat.le_of_ble_eq_true rfl)⟩ rfl hl.1 rfl (Nat.le_of_ble_eq_true rfl) ⟨fc, fs⟩ dL_law_867) hS (fun H2 locs2 hPM hS hWM hk => ?_)
  have hPX := hp_dis hPX hk (fun q h1 => (dX q h1).2)
  have hPO := ho_dis hPO hk oM
  refine lv_icmp_eq (tgt := 2429) hx hb dL_law_870 (by decide) (fun _ => ?_) (fun c9 => absurd rfl c9)
  exact kk _ _ _ _ _ ⟨GX, GM, S', S2', A, B, f, hs, hPX, hPM, hPO, hWX, hWM, ⟨h_x, k_x⟩, ⟨h_y, k_y⟩, nX, nM, dX, dM, oX, oM, dO⟩ hS hl (Nat.le_add_right _ _) (Nat.le_add_right _ _)
set_option maxRecDepth 100000 in
set_option maxHeartbeats 4000000 in
theorem k_marks (LC : LCX p s m args meth c V b L xs i n cells slots) (I : INV V s.heap.size x y o n H) (hS : va_S (AG G00 s.heap.size) s.heap H locs) (hl : lv_has ls 7 (LL b x y o i)) (kk : KK p l e s m args below meth c Q V x y o b i n cells slots) : W p l e room_1 s m args below meth c H locs cells slots Q (F0 m 875 ls []) := by
  obtain ⟨C0, hXs, hbl, hn, hin, hce, hsl⟩ := LC
  obtain ⟨GX, GM, SX, SM, A, B, f, hI, hPX, hPM, hPO, hWX, hWM, ⟨h_x, k_x⟩, ⟨h_y, k_y⟩, nX, nM, dX, dM, oX, oM, dO⟩ := I
  have hx := C0.1
  have hb := C0.2.1
  have hbA : ¬ AG G00 s.heap.size b := fun z => z.elim (fun z => nomatch z) (fun z => Nat.not_le.mpr hbl z)
  have cX := cx_w C0 nX (fun q h => (dX q h).1)
  have cM := cx_w C0 nM dM
  have aX := ag_00 (fun q h => (dX q h).1)
  have aM := ag_00 dM
  have fc : cells ≤ room_1.cells := Nat.le_trans (Nat.le_add_right _ _) hce
  have fs : slots ≤ room_1.slots := Nat.le_trans (Nat.le_add_right _ _) hsl
  obtain ⟨v, S', S2', e1, e2, hs⟩ := q_marks hn hI (SCi xs i 1) (SCi xs i 2) (SCi xs i 3) (SCi xs i 4)
  refine lv_aload_n hx hb dL_law_875 rfl (lv_at hl 1 rfl) ?_
  refine lv_aload_n hx hb dL_law_876 rfl (lv_at hl 0 rfl) ?_
  refine lv_iload hx hb dL_law_877 (lv_at hl 4 rfl) ?_
  refine lv_iconst (v := 1) hx hb dL_law_879 rfl ?_
  refine lv_iadd hx hb dL_law_880 ?_
  refine va_sld hx hb hXs hbl hbA hS (hin 1 (by decide) (by decide)) dL_law_881 ?_
  refine lv_aload_n hx hb dL_law_882 rfl (lv_at hl 0 rfl) ?_
  refine lv_iload hx hb dL_law_883 (lv_at hl 4 rfl) ?_
  refine lv_iconst (v := 2) hx hb dL_law_885 rfl ?_
  refine lv_iadd hx hb dL_law_886 ?_
  refine va_sld hx hb hXs hbl hbA hS (hin 2 (by decide) (by decide)) dL_law_887 ?_
  refine lv_aload_n hx hb dL_law_888 rfl (lv_at hl 0 rfl) ?_
  refine lv_iload hx hb dL_law_889 (lv_at hl 4 rfl) ?_
  refine lv_iconst (v := 3) hx hb dL_law_891 rfl ?_
  refine lv_iadd hx hb dL_law_892 ?_
  refine va_sld hx hb hXs hbl hbA hS (hin 3 (by decide) (by decide)) dL_law_893 ?_
  refine lv_aload_n hx hb dL_law_894 rfl (lv_at hl 0 rfl) ?_
  refine lv_iload hx hb dL_law_895 (lv_at hl 4 rfl) ?_
  refine lv_iconst (v := 4) hx hb dL_law_897 rfl ?_
  refine lv_iadd hx hb dL_law_898 ?_
  refine va_sld hx hb hXs hbl hbA hS (hin 4 (by decide) (by decide)) dL_law_899 ?_
  refine z_aft_i aX (x_runV (As := [.int (SCi xs i 1), .int (SCi xs i 2), .int (SCi xs i 3), .int (SCi xs i 4)]) (rest := []) cX hPX (by rw [aX]; exact hS) (c_X11_marks (l := l) nX hWX h_x k_x e1 H.size) h_x k_x (by decide) rfl rfl km_X11_marks ki_X11_marks qm_L_98 ⟨(Nat.le_of_ble_eq_true rfl), (Nat.le_of_ble_eq_true rfl)⟩ rfl hl.1 rfl (Nat.le_of_ble_eq_true rfl) ⟨fc, fs⟩ dL_law_900) hS (fun H1 locs1 hPX hS hWX hk => ?_)
  have hPM := hp_dis hPM hk (fun q h1 h2 => (dX q h2).2 h1)
  have hPO := ho_dis hPO hk oX
  refine lv_aload_n hx hb dL_law_903 rfl (lv_at hl 2 rfl) ?_
  refine lv_aload_n hx hb dL_law_904 rfl (lv_at hl 0 rfl) ?_
  refine lv_iload hx hb dL_law_905 (lv_at hl 4 rfl) ?_
  refine lv_iconst (v := 1) hx hb dL_law_907 rfl ?_
  refine lv_iadd hx hb dL_law_908 ?_
  refine va_sld hx hb hXs hbl hbA hS (hin 1 (by decide) (by decide)) dL_law_909 ?_
  refine lv_aload_n hx hb dL_law_910 rfl (lv_at hl 0 rfl) ?_
  refine lv_iload hx hb dL_law_911 (lv_at hl 4 rfl) ?_
  refine lv_iconst (v := 2) hx hb dL_law_913 rfl ?_
  refine lv_iadd hx hb dL_law_914 ?_
  refine va_sld hx hb hXs hbl hbA hS (hin 2 (by decide) (by decide)) dL_law_915 ?_
  refine lv_aload_n hx hb dL_law_916 rfl (lv_at hl 0 rfl) ?_
  refine lv_iload hx hb dL_law_917 (lv_at hl 4 rfl) ?_
  refine lv_iconst (v := 3) hx hb dL_law_919 rfl ?_
  refine lv_iadd hx hb dL_law_920 ?_
  refine va_sld hx hb hXs hbl hbA hS (hin 3 (by decide) (by decide)) dL_law_921 ?_
  refine lv_aload_n hx hb dL_law_922 rfl (lv_at hl 0 rfl) ?_
  refine lv_iload hx hb dL_law_923 (lv_at hl 4 rfl) ?_
  refine lv_iconst (v := 4) hx hb dL_law_925 rfl ?_
  refine lv_iadd hx hb dL_law_926 ?_
  refine va_sld hx hb hXs hbl hbA hS (hin 4 (by decide) (by decide)) dL_law_927 ?_
  refine z_aft_i aM (x_runV (As := [.int (SCi xs i 1), .int (SCi xs i 2), .int (SCi xs i 3), .int (SCi xs i 4)]) (rest := [.int v]) cM hPM (by rw [aM]; exact hS) (c_X12_marks (l := l) nM hWM h_y k_y e2 H1.size) h_y k_y (by decide) rfl rfl km_X12_marks ki_X12_marks qm_L_101 ⟨(Nat.le_of_ble_eq_true rfl), (Nat.le_of_ble_eq_true rfl)⟩ rfl hl.1 rfl (Nat.le_of_ble_eq_true rfl) ⟨fc, fs⟩ dL_law_928) hS (fun H2 locs2 hPM hS hWM hk => ?_)
  have hPX := hp_dis hPX hk (fun q h1 => (dX q h1).2)
  have hPO := ho_dis hPO hk oM
  refine lv_icmp_eq (tgt := 2429) hx hb dL_law_931 (by decide) (fun _ => ?_) (fun c9 => absurd rfl c9)
  exact kk _ _ _ _ _ ⟨GX, GM, S', S2', A, B, f, hs, hPX, hPM, hPO, hWX, hWM, ⟨h_x, k_x⟩, ⟨h_y, k_y⟩, nX, nM, dX, dM, oX, oM, dO⟩ hS hl (Nat.le_add_right _ _) (Nat.le_add_right _ _)
end LAWK
