set_option maxHeartbeats 8000000 in
set_option maxRecDepth 100000 in
theorem law_4 {rr : RT} (op_drop : OP_drop rr) {p : Program} {l : Launch} {e : Env} {s : State} {m : MethodId} {below : List Frame} {meth : Method} {c : Code} {b L : Nat} {xs : Nat → Int32} {A : Nat → Prop} {G : GX} {Q : State → Prop} (X : CX RL code 4 ret p s m #[Value.ref b] meth c) (E : EX G A s) (hX : va_X b L xs s s.heap) (hbl : b < s.heap.size) (hbA : ¬ A b) {i C S : Nat} (hi : i + 6 ≤ L) (hL : L ≤ 3072) (hC : C + 1 ≤ room_1.cells) (hS : S + 4096 ≤ room_1.slots) {H : Heap} {locs : List Loc} {ls : Array Slot} (hLI : LI rr G A s b i H locs ls)
    (kk : ∀ (H : Heap) (locs : List Loc) (ls : Array Slot), LI rr G A s b i H locs ls → W p l e room_1 s m #[Value.ref b] below meth c H locs (C + 1) (S + 4096) Q (F0 m 1492 ls [])) : W p l e room_1 s m #[Value.ref b] below meth c H locs C S Q (F0 m 316 ls []) := by
  obtain ⟨hx, hb, hml, hown, hts, hr, hlk⟩ := id X
  obtain ⟨h, g, n_m0, n_m1, n_m2, n_s0, n_s1, n_s2, n_uq, n_wq, tp, ta, ti, x_hasImage, f_places, f_kinds, f_weights, f_howManyGenerators, f_generators, f_racks, f_howManySeen, f_seenFirst, f_seenSecond, f_seenIs, f_seenPlaces, f_howManyEvents, f_eventWhat, f_eventNumber, g_places, g_kinds, g_weights, g_howManyGenerators, g_generators, g_racks, g_howManySeen, g_seenFirst, g_seenSecond, g_seenIs, g_seenPlaces, g_howManyEvents, g_eventWhat, g_eventNumber, v_keys, v_asFound, v_found, v_turns, v_places, p_keys, p_asFound, p_found, p_turns, p_places, i_sort, i_howOften, i_sorts, i_moves, n_u, u_leasts, u_howMany, u_known, n_w, w_leasts, w_howMany, w_known, t_signs, t_length, t_whole, t_begins, t_ends, r_sorts, r_numbers, r_length, sr, ln, it, z_thrown, z_s, z_kept, z_isKept, z_moveMany, z_moves, z_hands, z_troubles, z_troubleSorts, z_troubleNumbers, z_asked, z_paint, z_leasts, z_isSeen, z_classMany, z_types, z_typeCounts, z_typeMany, z_text, z_signs, z_at, z_lacks, z_clauses, z_begun, z_letters, z_firsts, z_seconds, z_aside, z_sorts, z_sizes, z_items, htp, hR, hI, hl⟩ := hLI
  have hv1 := q_v1 hi hL
  have hv2 := q_v2 hi hL
  have hv3 := q_v3 hi hL
  have hv4 := q_v4 hi hL
  have hv5 := q_v5 hi hL
  refine lv_aload_n (pc := 316) hx hb dL_law_316 rfl (lv_at hl 1 rfl) ?_
  obtain ⟨rm, em, rx, ex, er, hR⟩ := op_drop hR 
  refine x_cVs (pc := 317) (st1 := [.int rx.1]) (w1 := ((xb G h x_hasImage f_places f_kinds f_weights rx.2.1 f_generators rx.2.2.1 f_howManySeen f_seenFirst f_seenSecond f_seenIs f_seenPlaces f_howManyEvents f_eventWhat f_eventNumber g_places g_kinds g_weights g_howManyGenerators g_generators g_racks g_howManySeen g_seenFirst g_seenSecond g_seenIs g_seenPlaces g_howManyEvents g_eventWhat g_eventNumber n_m0 n_m1 n_m2 n_s0 n_s1 n_s2 rx.2.2.2.1 rx.2.2.2.2.1 rx.2.2.2.2.2.1 rx.2.2.2.2.2.2.1 rx.2.2.2.2.2.2.2.1 p_keys p_asFound p_found p_turns p_places i_sort i_howOften i_sorts i_moves n_uq n_u u_leasts u_howMany rx.2.2.2.2.2.2.2.2.1 n_wq n_w w_leasts w_howMany rx.2.2.2.2.2.2.2.2.2 t_signs t_length t_whole t_begins t_ends r_sorts r_numbers r_length) ++ ((tl G h tp ta ti sr ln it) ++ (mw G g z_thrown z_s z_kept z_isKept z_moveMany z_moves z_hands z_troubles z_troubleSorts z_troubleNumbers z_asked z_paint z_leasts z_isSeen z_classMany z_types z_typeCounts z_typeMany z_text z_signs z_at z_lacks z_clauses z_begun z_letters z_firsts z_seconds z_aside z_sorts z_sizes z_items)))) X E hI (c_X9_drop l G h ex) kv_L_31 hd_X9_drop ⟨rfl, rfl⟩ (by decide) 0 rfl rfl rfl rfl hl.1 rfl (Nat.le_of_ble_eq_true rfl) dL_law_317 ⟨by show C + 0 ≤ room_1.cells; omega, by show S + 0 ≤ room_1.slots; omega⟩ rfl (fun H locs hI => ?_)
  refine lv_aload_n (pc := 320) hx hb dL_law_320 rfl (lv_at hl 2 rfl) ?_
  refine x_cVR (pc := 321) (st1 := [.int rm.1, .int rx.1]) (w1 := (mw G g z_thrown rm.2 z_kept z_isKept z_moveMany z_moves z_hands z_troubles z_troubleSorts z_troubleNumbers z_asked z_paint z_leasts z_isSeen z_classMany z_types z_typeCounts z_typeMany z_text z_signs z_at z_lacks z_clauses z_begun z_letters z_firsts z_seconds z_aside z_sorts z_sizes z_items)) X E hI (c_X10_drop l G g em) kv_L_35 hd_X10_drop ⟨rfl, rfl⟩ (by decide) 0 rfl rfl rfl rfl hl.1 rfl (Nat.le_of_ble_eq_true rfl) dL_law_321 ⟨by show C + 0 + 0 ≤ room_1.cells; omega, by show S + 0 + 0 ≤ room_1.slots; omega⟩ rfl (fun H locs hI => ?_)
  refine lv_icmp_eq (pc := 324) (tgt := 1492) hx hb dL_law_324 (by decide) (fun c1 => ?_) (fun c1 => ?_)
  rotate_left
  · exact absurd er c1
  refine W.widen (k := C + 1) (n := S + 4096) (by omega) (by omega) ?_
  exact kk _ _ _ ⟨h, g, n_m0, n_m1, n_m2, n_s0, n_s1, n_s2, n_uq, n_wq, tp, ta, ti, x_hasImage, f_places, f_kinds, f_weights, rx.2.1, f_generators, rx.2.2.1, f_howManySeen, f_seenFirst, f_seenSecond, f_seenIs, f_seenPlaces, f_howManyEvents, f_eventWhat, f_eventNumber, g_places, g_kinds, g_weights, g_howManyGenerators, g_generators, g_racks, g_howManySeen, g_seenFirst, g_seenSecond, g_seenIs, g_seenPlaces, g_howManyEvents, g_eventWhat, g_eventNumber, rx.2.2.2.1, rx.2.2.2.2.1, rx.2.2.2.2.2.1, rx.2.2.2.2.2.2.1, rx.2.2.2.2.2.2.2.1, p_keys, p_asFound, p_found, p_turns, p_places, i_sort, i_howOften, i_sorts, i_moves, n_u, u_leasts, u_howMany, rx.2.2.2.2.2.2.2.2.1, n_w, w_leasts, w_howMany, rx.2.2.2.2.2.2.2.2.2, t_signs, t_length, t_whole, t_begins, t_ends, r_sorts, r_numbers, r_length, sr, ln, it, z_thrown, rm.2, z_kept, z_isKept, z_moveMany, z_moves, z_hands, z_troubles, z_troubleSorts, z_troubleNumbers, z_asked, z_paint, z_leasts, z_isSeen, z_classMany, z_types, z_typeCounts, z_typeMany, z_text, z_signs, z_at, z_lacks, z_clauses, z_begun, z_letters, z_firsts, z_seconds, z_aside, z_sorts, z_sizes, z_items, htp, hR, hI, hl⟩
set_option maxHeartbeats 8000000 in
set_option maxRecDepth 100000 in
theorem law_5 {rr : RT} (op_of : OP_of rr) {p : Program} {l : Launch} {e : Env} {s : State} {m : MethodId} {below : List Frame} {meth : Method} {c : Code} {b L : Nat} {xs : Nat → Int32} {A : Nat → Prop} {G : GX} {Q : State → Prop} (X : CX RL code 4 ret p s m #[Value.ref b] meth c) (E : EX G A s) (hX : va_X b L xs s s.heap) (hbl : b < s.heap.size) (hbA : ¬ A b) {i C S : Nat} (hi : i + 6 ≤ L) (hL : L ≤ 3072) (hC : C + 1 ≤ room_1.cells) (hS : S + 4096 ≤ room_1.slots) {H : Heap} {locs : List Loc} {ls : Array Slot} (hLI : LI rr G A s b i H locs ls)
    (kk : ∀ (H : Heap) (locs : List Loc) (ls : Array Slot), LI rr G A s b i H locs ls → W p l e room_1 s m #[Value.ref b] below meth c H locs (C + 1) (S + 4096) Q (F0 m 1492 ls [])) : W p l e room_1 s m #[Value.ref b] below meth c H locs C S Q (F0 m 329 ls []) := by
  obtain ⟨hx, hb, hml, hown, hts, hr, hlk⟩ := id X
  obtain ⟨h, g, n_m0, n_m1, n_m2, n_s0, n_s1, n_s2, n_uq, n_wq, tp, ta, ti, x_hasImage, f_places, f_kinds, f_weights, f_howManyGenerators, f_generators, f_racks, f_howManySeen, f_seenFirst, f_seenSecond, f_seenIs, f_seenPlaces, f_howManyEvents, f_eventWhat, f_eventNumber, g_places, g_kinds, g_weights, g_howManyGenerators, g_generators, g_racks, g_howManySeen, g_seenFirst, g_seenSecond, g_seenIs, g_seenPlaces, g_howManyEvents, g_eventWhat, g_eventNumber, v_keys, v_asFound, v_found, v_turns, v_places, p_keys, p_asFound, p_found, p_turns, p_places, i_sort, i_howOften, i_sorts, i_moves, n_u, u_leasts, u_howMany, u_known, n_w, w_leasts, w_howMany, w_known, t_signs, t_length, t_whole, t_begins, t_ends, r_sorts, r_numbers, r_length, sr, ln, it, z_thrown, z_s, z_kept, z_isKept, z_moveMany, z_moves, z_hands, z_troubles, z_troubleSorts, z_troubleNumbers, z_asked, z_paint, z_leasts, z_isSeen, z_classMany, z_types, z_typeCounts, z_typeMany, z_text, z_signs, z_at, z_lacks, z_clauses, z_begun, z_letters, z_firsts, z_seconds, z_aside, z_sorts, z_sizes, z_items, htp, hR, hI, hl⟩ := hLI
  have hv1 := q_v1 hi hL
  have hv2 := q_v2 hi hL
  have hv3 := q_v3 hi hL
  have hv4 := q_v4 hi hL
  have hv5 := q_v5 hi hL
  refine lv_aload_n (pc := 329) hx hb dL_law_329 rfl (lv_at hl 1 rfl) ?_
  refine lv_aload_n (pc := 330) hx hb dL_law_330 rfl (lv_at hl 0 rfl) ?_
  refine lv_iload_n (pc := 331) hx hb dL_law_331 rfl (lv_at hl 3 rfl) ?_
  refine lv_iconst (pc := 332) (v := 1) hx hb dL_law_332 (by decide) ?_
  refine lv_iadd (pc := 333) hx hb dL_law_333 ?_
  refine va_sld (pc := 334) hx hb hX hbl hbA hI.2.2 hv1 dL_law_334 ?_
  refine lv_aload_n (pc := 335) hx hb dL_law_335 rfl (lv_at hl 0 rfl) ?_
  refine lv_iload_n (pc := 336) hx hb dL_law_336 rfl (lv_at hl 3 rfl) ?_
  refine lv_iconst (pc := 337) (v := 2) hx hb dL_law_337 (by decide) ?_
  refine lv_iadd (pc := 338) hx hb dL_law_338 ?_
  refine va_sld (pc := 339) hx hb hX hbl hbA hI.2.2 hv2 dL_law_339 ?_
  obtain ⟨rm, em, rx, ex, er, hR⟩ := op_of hR (xs (nI i + 1).toNatClampNeg) (xs (nI i + 2).toNatClampNeg)
  refine x_cVs (pc := 340) (st1 := [.int rx]) (w1 := ((xb G h x_hasImage f_places f_kinds f_weights f_howManyGenerators f_generators f_racks f_howManySeen f_seenFirst f_seenSecond f_seenIs f_seenPlaces f_howManyEvents f_eventWhat f_eventNumber g_places g_kinds g_weights g_howManyGenerators g_generators g_racks g_howManySeen g_seenFirst g_seenSecond g_seenIs g_seenPlaces g_howManyEvents g_eventWhat g_eventNumber n_m0 n_m1 n_m2 n_s0 n_s1 n_s2 v_keys v_asFound v_found v_turns v_places p_keys p_asFound p_found p_turns p_places i_sort i_howOften i_sorts i_moves n_uq n_u u_leasts u_howMany u_known n_wq n_w w_leasts w_howMany w_known t_signs t_length t_whole t_begins t_ends r_sorts r_numbers r_length) ++ ((tl G h tp ta ti sr ln it) ++ (mw G g z_thrown z_s z_kept z_isKept z_moveMany z_moves z_hands z_troubles z_troubleSorts z_troubleNumbers z_asked z_paint z_leasts z_isSeen z_classMany z_types z_typeCounts z_typeMany z_text z_signs z_at z_lacks z_clauses z_begun z_letters z_firsts z_seconds z_aside z_sorts z_sizes z_items)))) X E hI (c_X9_of l G h ex) kv_L_36 hd_X9_of ⟨rfl, rfl⟩ (by decide) 0 rfl rfl rfl rfl hl.1 rfl (Nat.le_of_ble_eq_true rfl) dL_law_340 ⟨by show C + 0 ≤ room_1.cells; omega, by show S + 0 ≤ room_1.slots; omega⟩ rfl (fun H locs hI => ?_)
  refine lv_aload_n (pc := 343) hx hb dL_law_343 rfl (lv_at hl 2 rfl) ?_
  refine lv_aload_n (pc := 344) hx hb dL_law_344 rfl (lv_at hl 0 rfl) ?_
  refine lv_iload_n (pc := 345) hx hb dL_law_345 rfl (lv_at hl 3 rfl) ?_
  refine lv_iconst (pc := 346) (v := 1) hx hb dL_law_346 (by decide) ?_
  refine lv_iadd (pc := 347) hx hb dL_law_347 ?_
  refine va_sld (pc := 348) hx hb hX hbl hbA hI.2.2 hv1 dL_law_348 ?_
  refine lv_aload_n (pc := 349) hx hb dL_law_349 rfl (lv_at hl 0 rfl) ?_
  refine lv_iload_n (pc := 350) hx hb dL_law_350 rfl (lv_at hl 3 rfl) ?_
  refine lv_iconst (pc := 351) (v := 2) hx hb dL_law_351 (by decide) ?_
  refine lv_iadd (pc := 352) hx hb dL_law_352 ?_
  refine va_sld (pc := 353) hx hb hX hbl hbA hI.2.2 hv2 dL_law_353 ?_
  refine x_cVR (pc := 354) (st1 := [.int rm.1, .int rx]) (w1 := (mw G g z_thrown z_s z_kept z_isKept z_moveMany z_moves z_hands z_troubles z_troubleSorts z_troubleNumbers rm.2 z_paint z_leasts z_isSeen z_classMany z_types z_typeCounts z_typeMany z_text z_signs z_at z_lacks z_clauses z_begun z_letters z_firsts z_seconds z_aside z_sorts z_sizes z_items)) X E hI (c_X10_of l G g em) kv_L_39 hd_X10_of ⟨rfl, rfl⟩ (by decide) 0 rfl rfl rfl rfl hl.1 rfl (Nat.le_of_ble_eq_true rfl) dL_law_354 ⟨by show C + 0 + 0 ≤ room_1.cells; omega, by show S + 0 + 0 ≤ room_1.slots; omega⟩ rfl (fun H locs hI => ?_)
  refine lv_icmp_eq (pc := 357) (tgt := 1492) hx hb dL_law_357 (by decide) (fun c1 => ?_) (fun c1 => ?_)
  rotate_left
  · exact absurd er c1
  refine W.widen (k := C + 1) (n := S + 4096) (by omega) (by omega) ?_
  exact kk _ _ _ ⟨h, g, n_m0, n_m1, n_m2, n_s0, n_s1, n_s2, n_uq, n_wq, tp, ta, ti, x_hasImage, f_places, f_kinds, f_weights, f_howManyGenerators, f_generators, f_racks, f_howManySeen, f_seenFirst, f_seenSecond, f_seenIs, f_seenPlaces, f_howManyEvents, f_eventWhat, f_eventNumber, g_places, g_kinds, g_weights, g_howManyGenerators, g_generators, g_racks, g_howManySeen, g_seenFirst, g_seenSecond, g_seenIs, g_seenPlaces, g_howManyEvents, g_eventWhat, g_eventNumber, v_keys, v_asFound, v_found, v_turns, v_places, p_keys, p_asFound, p_found, p_turns, p_places, i_sort, i_howOften, i_sorts, i_moves, n_u, u_leasts, u_howMany, u_known, n_w, w_leasts, w_howMany, w_known, t_signs, t_length, t_whole, t_begins, t_ends, r_sorts, r_numbers, r_length, sr, ln, it, z_thrown, z_s, z_kept, z_isKept, z_moveMany, z_moves, z_hands, z_troubles, z_troubleSorts, z_troubleNumbers, rm.2, z_paint, z_leasts, z_isSeen, z_classMany, z_types, z_typeCounts, z_typeMany, z_text, z_signs, z_at, z_lacks, z_clauses, z_begun, z_letters, z_firsts, z_seconds, z_aside, z_sorts, z_sizes, z_items, htp, hR, hI, hl⟩
set_option maxHeartbeats 8000000 in
set_option maxRecDepth 100000 in
theorem law_6 {rr : RT} (op_lay : OP_lay rr) {p : Program} {l : Launch} {e : Env} {s : State} {m : MethodId} {below : List Frame} {meth : Method} {c : Code} {b L : Nat} {xs : Nat → Int32} {A : Nat → Prop} {G : GX} {Q : State → Prop} (X : CX RL code 4 ret p s m #[Value.ref b] meth c) (E : EX G A s) (hX : va_X b L xs s s.heap) (hbl : b < s.heap.size) (hbA : ¬ A b) {i C S : Nat} (hi : i + 6 ≤ L) (hL : L ≤ 3072) (hC : C + 1 ≤ room_1.cells) (hS : S + 4096 ≤ room_1.slots) {H : Heap} {locs : List Loc} {ls : Array Slot} (hLI : LI rr G A s b i H locs ls)
    (kk : ∀ (H : Heap) (locs : List Loc) (ls : Array Slot), LI rr G A s b i H locs ls → W p l e room_1 s m #[Value.ref b] below meth c H locs (C + 1) (S + 4096) Q (F0 m 1492 ls [])) : W p l e room_1 s m #[Value.ref b] below meth c H locs C S Q (F0 m 362 ls []) := by
  obtain ⟨hx, hb, hml, hown, hts, hr, hlk⟩ := id X
  obtain ⟨h, g, n_m0, n_m1, n_m2, n_s0, n_s1, n_s2, n_uq, n_wq, tp, ta, ti, x_hasImage, f_places, f_kinds, f_weights, f_howManyGenerators, f_generators, f_racks, f_howManySeen, f_seenFirst, f_seenSecond, f_seenIs, f_seenPlaces, f_howManyEvents, f_eventWhat, f_eventNumber, g_places, g_kinds, g_weights, g_howManyGenerators, g_generators, g_racks, g_howManySeen, g_seenFirst, g_seenSecond, g_seenIs, g_seenPlaces, g_howManyEvents, g_eventWhat, g_eventNumber, v_keys, v_asFound, v_found, v_turns, v_places, p_keys, p_asFound, p_found, p_turns, p_places, i_sort, i_howOften, i_sorts, i_moves, n_u, u_leasts, u_howMany, u_known, n_w, w_leasts, w_howMany, w_known, t_signs, t_length, t_whole, t_begins, t_ends, r_sorts, r_numbers, r_length, sr, ln, it, z_thrown, z_s, z_kept, z_isKept, z_moveMany, z_moves, z_hands, z_troubles, z_troubleSorts, z_troubleNumbers, z_asked, z_paint, z_leasts, z_isSeen, z_classMany, z_types, z_typeCounts, z_typeMany, z_text, z_signs, z_at, z_lacks, z_clauses, z_begun, z_letters, z_firsts, z_seconds, z_aside, z_sorts, z_sizes, z_items, htp, hR, hI, hl⟩ := hLI
  have hv1 := q_v1 hi hL
  have hv2 := q_v2 hi hL
  have hv3 := q_v3 hi hL
  have hv4 := q_v4 hi hL
  have hv5 := q_v5 hi hL
  refine lv_aload_n (pc := 362) hx hb dL_law_362 rfl (lv_at hl 1 rfl) ?_
  refine lv_aload_n (pc := 363) hx hb dL_law_363 rfl (lv_at hl 0 rfl) ?_
  refine lv_iload_n (pc := 364) hx hb dL_law_364 rfl (lv_at hl 3 rfl) ?_
  refine lv_iconst (pc := 365) (v := 1) hx hb dL_law_365 (by decide) ?_
  refine lv_iadd (pc := 366) hx hb dL_law_366 ?_
  refine va_sld (pc := 367) hx hb hX hbl hbA hI.2.2 hv1 dL_law_367 ?_
  refine lv_aload_n (pc := 368) hx hb dL_law_368 rfl (lv_at hl 0 rfl) ?_
  refine lv_iload_n (pc := 369) hx hb dL_law_369 rfl (lv_at hl 3 rfl) ?_
  refine lv_iconst (pc := 370) (v := 2) hx hb dL_law_370 (by decide) ?_
  refine lv_iadd (pc := 371) hx hb dL_law_371 ?_
  refine va_sld (pc := 372) hx hb hX hbl hbA hI.2.2 hv2 dL_law_372 ?_
  refine lv_aload_n (pc := 373) hx hb dL_law_373 rfl (lv_at hl 0 rfl) ?_
  refine lv_iload_n (pc := 374) hx hb dL_law_374 rfl (lv_at hl 3 rfl) ?_
  refine lv_iconst (pc := 375) (v := 3) hx hb dL_law_375 (by decide) ?_
  refine lv_iadd (pc := 376) hx hb dL_law_376 ?_
  refine va_sld (pc := 377) hx hb hX hbl hbA hI.2.2 hv3 dL_law_377 ?_
  obtain ⟨rm, em, rx, ex, er, hR⟩ := op_lay hR (xs (nI i + 1).toNatClampNeg) (xs (nI i + 2).toNatClampNeg) (xs (nI i + 3).toNatClampNeg)
  refine x_cVs (pc := 378) (st1 := [.int rx.1]) (w1 := ((xb G h x_hasImage f_places f_kinds f_weights f_howManyGenerators f_generators rx.2 f_howManySeen f_seenFirst f_seenSecond f_seenIs f_seenPlaces f_howManyEvents f_eventWhat f_eventNumber g_places g_kinds g_weights g_howManyGenerators g_generators g_racks g_howManySeen g_seenFirst g_seenSecond g_seenIs g_seenPlaces g_howManyEvents g_eventWhat g_eventNumber n_m0 n_m1 n_m2 n_s0 n_s1 n_s2 v_keys v_asFound v_found v_turns v_places p_keys p_asFound p_found p_turns p_places i_sort i_howOften i_sorts i_moves n_uq n_u u_leasts u_howMany u_known n_wq n_w w_leasts w_howMany w_known t_signs t_length t_whole t_begins t_ends r_sorts r_numbers r_length) ++ ((tl G h tp ta ti sr ln it) ++ (mw G g z_thrown z_s z_kept z_isKept z_moveMany z_moves z_hands z_troubles z_troubleSorts z_troubleNumbers z_asked z_paint z_leasts z_isSeen z_classMany z_types z_typeCounts z_typeMany z_text z_signs z_at z_lacks z_clauses z_begun z_letters z_firsts z_seconds z_aside z_sorts z_sizes z_items)))) X E hI (c_X9_lay l G h ex) kv_L_40 hd_X9_lay ⟨rfl, rfl⟩ (by decide) 0 rfl rfl rfl rfl hl.1 rfl (Nat.le_of_ble_eq_true rfl) dL_law_378 ⟨by show C + 0 ≤ room_1.cells; omega, by show S + 0 ≤ room_1.slots; omega⟩ rfl (fun H locs hI => ?_)
  refine lv_aload_n (pc := 381) hx hb dL_law_381 rfl (lv_at hl 2 rfl) ?_
  refine lv_aload_n (pc := 382) hx hb dL_law_382 rfl (lv_at hl 0 rfl) ?_
  refine lv_iload_n (pc := 383) hx hb dL_law_383 rfl (lv_at hl 3 rfl) ?_
  refine lv_iconst (pc := 384) (v := 1) hx hb dL_law_384 (by decide) ?_
  refine lv_iadd (pc := 385) hx hb dL_law_385 ?_
  refine va_sld (pc := 386) hx hb hX hbl hbA hI.2.2 hv1 dL_law_386 ?_
  refine lv_aload_n (pc := 387) hx hb dL_law_387 rfl (lv_at hl 0 rfl) ?_
  refine lv_iload_n (pc := 388) hx hb dL_law_388 rfl (lv_at hl 3 rfl) ?_
  refine lv_iconst (pc := 389) (v := 2) hx hb dL_law_389 (by decide) ?_
  refine lv_iadd (pc := 390) hx hb dL_law_390 ?_
  refine va_sld (pc := 391) hx hb hX hbl hbA hI.2.2 hv2 dL_law_391 ?_
  refine lv_aload_n (pc := 392) hx hb dL_law_392 rfl (lv_at hl 0 rfl) ?_
  refine lv_iload_n (pc := 393) hx hb dL_law_393 rfl (lv_at hl 3 rfl) ?_
  refine lv_iconst (pc := 394) (v := 3) hx hb dL_law_394 (by decide) ?_
  refine lv_iadd (pc := 395) hx hb dL_law_395 ?_
  refine va_sld (pc := 396) hx hb hX hbl hbA hI.2.2 hv3 dL_law_396 ?_
  refine x_cVR (pc := 397) (st1 := [.int rm.1, .int rx.1]) (w1 := (mw G g z_thrown rm.2 z_kept z_isKept z_moveMany z_moves z_hands z_troubles z_troubleSorts z_troubleNumbers z_asked z_paint z_leasts z_isSeen z_classMany z_types z_typeCounts z_typeMany z_text z_signs z_at z_lacks z_clauses z_begun z_letters z_firsts z_seconds z_aside z_sorts z_sizes z_items)) X E hI (c_X10_lay l G g em) kv_L_44 hd_X10_lay ⟨rfl, rfl⟩ (by decide) 0 rfl rfl rfl rfl hl.1 rfl (Nat.le_of_ble_eq_true rfl) dL_law_397 ⟨by show C + 0 + 0 ≤ room_1.cells; omega, by show S + 0 + 0 ≤ room_1.slots; omega⟩ rfl (fun H locs hI => ?_)
  refine lv_icmp_eq (pc := 400) (tgt := 1492) hx hb dL_law_400 (by decide) (fun c1 => ?_) (fun c1 => ?_)
  rotate_left
  · exact absurd er c1
  refine W.widen (k := C + 1) (n := S + 4096) (by omega) (by omega) ?_
  exact kk _ _ _ ⟨h, g, n_m0, n_m1, n_m2, n_s0, n_s1, n_s2, n_uq, n_wq, tp, ta, ti, x_hasImage, f_places, f_kinds, f_weights, f_howManyGenerators, f_generators, rx.2, f_howManySeen, f_seenFirst, f_seenSecond, f_seenIs, f_seenPlaces, f_howManyEvents, f_eventWhat, f_eventNumber, g_places, g_kinds, g_weights, g_howManyGenerators, g_generators, g_racks, g_howManySeen, g_seenFirst, g_seenSecond, g_seenIs, g_seenPlaces, g_howManyEvents, g_eventWhat, g_eventNumber, v_keys, v_asFound, v_found, v_turns, v_places, p_keys, p_asFound, p_found, p_turns, p_places, i_sort, i_howOften, i_sorts, i_moves, n_u, u_leasts, u_howMany, u_known, n_w, w_leasts, w_howMany, w_known, t_signs, t_length, t_whole, t_begins, t_ends, r_sorts, r_numbers, r_length, sr, ln, it, z_thrown, rm.2, z_kept, z_isKept, z_moveMany, z_moves, z_hands, z_troubles, z_troubleSorts, z_troubleNumbers, z_asked, z_paint, z_leasts, z_isSeen, z_classMany, z_types, z_typeCounts, z_typeMany, z_text, z_signs, z_at, z_lacks, z_clauses, z_begun, z_letters, z_firsts, z_seconds, z_aside, z_sorts, z_sizes, z_items, htp, hR, hI, hl⟩
set_option maxHeartbeats 8000000 in
set_option maxRecDepth 100000 in
theorem law_7 {rr : RT} (op_rack : OP_rack rr) {p : Program} {l : Launch} {e : Env} {s : State} {m : MethodId} {below : List Frame} {meth : Method} {c : Code} {b L : Nat} {xs : Nat → Int32} {A : Nat → Prop} {G : GX} {Q : State → Prop} (X : CX RL code 4 ret p s m #[Value.ref b] meth c) (E : EX G A s) (hX : va_X b L xs s s.heap) (hbl : b < s.heap.size) (hbA : ¬ A b) {i C S : Nat} (hi : i + 6 ≤ L) (hL : L ≤ 3072) (hC : C + 1 ≤ room_1.cells) (hS : S + 4096 ≤ room_1.slots) {H : Heap} {locs : List Loc} {ls : Array Slot} (hLI : LI rr G A s b i H locs ls)
    (kk : ∀ (H : Heap) (locs : List Loc) (ls : Array Slot), LI rr G A s b i H locs ls → W p l e room_1 s m #[Value.ref b] below meth c H locs (C + 1) (S + 4096) Q (F0 m 1492 ls [])) : W p l e room_1 s m #[Value.ref b] below meth c H locs C S Q (F0 m 405 ls []) := by
  obtain ⟨hx, hb, hml, hown, hts, hr, hlk⟩ := id X
  obtain ⟨h, g, n_m0, n_m1, n_m2, n_s0, n_s1, n_s2, n_uq, n_wq, tp, ta, ti, x_hasImage, f_places, f_kinds, f_weights, f_howManyGenerators, f_generators, f_racks, f_howManySeen, f_seenFirst, f_seenSecond, f_seenIs, f_seenPlaces, f_howManyEvents, f_eventWhat, f_eventNumber, g_places, g_kinds, g_weights, g_howManyGenerators, g_generators, g_racks, g_howManySeen, g_seenFirst, g_seenSecond, g_seenIs, g_seenPlaces, g_howManyEvents, g_eventWhat, g_eventNumber, v_keys, v_asFound, v_found, v_turns, v_places, p_keys, p_asFound, p_found, p_turns, p_places, i_sort, i_howOften, i_sorts, i_moves, n_u, u_leasts, u_howMany, u_known, n_w, w_leasts, w_howMany, w_known, t_signs, t_length, t_whole, t_begins, t_ends, r_sorts, r_numbers, r_length, sr, ln, it, z_thrown, z_s, z_kept, z_isKept, z_moveMany, z_moves, z_hands, z_troubles, z_troubleSorts, z_troubleNumbers, z_asked, z_paint, z_leasts, z_isSeen, z_classMany, z_types, z_typeCounts, z_typeMany, z_text, z_signs, z_at, z_lacks, z_clauses, z_begun, z_letters, z_firsts, z_seconds, z_aside, z_sorts, z_sizes, z_items, htp, hR, hI, hl⟩ := hLI
  have hv1 := q_v1 hi hL
  have hv2 := q_v2 hi hL
  have hv3 := q_v3 hi hL
  have hv4 := q_v4 hi hL
  have hv5 := q_v5 hi hL
  refine lv_aload_n (pc := 405) hx hb dL_law_405 rfl (lv_at hl 1 rfl) ?_
  refine lv_aload_n (pc := 406) hx hb dL_law_406 rfl (lv_at hl 0 rfl) ?_
  refine lv_iload_n (pc := 407) hx hb dL_law_407 rfl (lv_at hl 3 rfl) ?_
  refine lv_iconst (pc := 408) (v := 1) hx hb dL_law_408 (by decide) ?_
  refine lv_iadd (pc := 409) hx hb dL_law_409 ?_
  refine va_sld (pc := 410) hx hb hX hbl hbA hI.2.2 hv1 dL_law_410 ?_
  refine lv_aload_n (pc := 411) hx hb dL_law_411 rfl (lv_at hl 0 rfl) ?_
  refine lv_iload_n (pc := 412) hx hb dL_law_412 rfl (lv_at hl 3 rfl) ?_
  refine lv_iconst (pc := 413) (v := 2) hx hb dL_law_413 (by decide) ?_
  refine lv_iadd (pc := 414) hx hb dL_law_414 ?_
  refine va_sld (pc := 415) hx hb hX hbl hbA hI.2.2 hv2 dL_law_415 ?_
  obtain ⟨rm, em, rx, ex, er, hR⟩ := op_rack hR (xs (nI i + 1).toNatClampNeg) (xs (nI i + 2).toNatClampNeg)
  refine x_cVs (pc := 416) (st1 := [.int rx]) (w1 := ((xb G h x_hasImage f_places f_kinds f_weights f_howManyGenerators f_generators f_racks f_howManySeen f_seenFirst f_seenSecond f_seenIs f_seenPlaces f_howManyEvents f_eventWhat f_eventNumber g_places g_kinds g_weights g_howManyGenerators g_generators g_racks g_howManySeen g_seenFirst g_seenSecond g_seenIs g_seenPlaces g_howManyEvents g_eventWhat g_eventNumber n_m0 n_m1 n_m2 n_s0 n_s1 n_s2 v_keys v_asFound v_found v_turns v_places p_keys p_asFound p_found p_turns p_places i_sort i_howOften i_sorts i_moves n_uq n_u u_leasts u_howMany u_known n_wq n_w w_leasts w_howMany w_known t_signs t_length t_whole t_begins t_ends r_sorts r_numbers r_length) ++ ((tl G h tp ta ti sr ln it) ++ (mw G g z_thrown z_s z_kept z_isKept z_moveMany z_moves z_hands z_troubles z_troubleSorts z_troubleNumbers z_asked z_paint z_leasts z_isSeen z_classMany z_types z_typeCounts z_typeMany z_text z_signs z_at z_lacks z_clauses z_begun z_letters z_firsts z_seconds z_aside z_sorts z_sizes z_items)))) X E hI (c_X9_rack l G h ex) kv_L_45 hd_X9_rack ⟨rfl, rfl⟩ (by decide) 0 rfl rfl rfl rfl hl.1 rfl (Nat.le_of_ble_eq_true rfl) dL_law_416 ⟨by show C + 0 ≤ room_1.cells; omega, by show S + 0 ≤ room_1.slots; omega⟩ rfl (fun H locs hI => ?_)
  refine lv_aload_n (pc := 419) hx hb dL_law_419 rfl (lv_at hl 2 rfl) ?_
  refine lv_aload_n (pc := 420) hx hb dL_law_420 rfl (lv_at hl 0 rfl) ?_
  refine lv_iload_n (pc := 421) hx hb dL_law_421 rfl (lv_at hl 3 rfl) ?_
  refine lv_iconst (pc := 422) (v := 1) hx hb dL_law_422 (by decide) ?_
  refine lv_iadd (pc := 423) hx hb dL_law_423 ?_
  refine va_sld (pc := 424) hx hb hX hbl hbA hI.2.2 hv1 dL_law_424 ?_
  refine lv_aload_n (pc := 425) hx hb dL_law_425 rfl (lv_at hl 0 rfl) ?_
  refine lv_iload_n (pc := 426) hx hb dL_law_426 rfl (lv_at hl 3 rfl) ?_
  refine lv_iconst (pc := 427) (v := 2) hx hb dL_law_427 (by decide) ?_
  refine lv_iadd (pc := 428) hx hb dL_law_428 ?_
  refine va_sld (pc := 429) hx hb hX hbl hbA hI.2.2 hv2 dL_law_429 ?_
  refine x_cVR (pc := 430) (st1 := [.int rm.1, .int rx]) (w1 := (mw G g z_thrown z_s z_kept z_isKept rm.2.1 rm.2.2.1 rm.2.2.2 z_troubles z_troubleSorts z_troubleNumbers z_asked z_paint z_leasts z_isSeen z_classMany z_types z_typeCounts z_typeMany z_text z_signs z_at z_lacks z_clauses z_begun z_letters z_firsts z_seconds z_aside z_sorts z_sizes z_items)) X E hI (c_X10_rack l G g em) kv_L_48 hd_X10_rack ⟨rfl, rfl⟩ (by decide) 0 rfl rfl rfl rfl hl.1 rfl (Nat.le_of_ble_eq_true rfl) dL_law_430 ⟨by show C + 0 + 0 ≤ room_1.cells; omega, by show S + 0 + 0 ≤ room_1.slots; omega⟩ rfl (fun H locs hI => ?_)
  refine lv_icmp_eq (pc := 433) (tgt := 1492) hx hb dL_law_433 (by decide) (fun c1 => ?_) (fun c1 => ?_)
  rotate_left
  · exact absurd er c1
  refine W.widen (k := C + 1) (n := S + 4096) (by omega) (by omega) ?_
  exact kk _ _ _ ⟨h, g, n_m0, n_m1, n_m2, n_s0, n_s1, n_s2, n_uq, n_wq, tp, ta, ti, x_hasImage, f_places, f_kinds, f_weights, f_howManyGenerators, f_generators, f_racks, f_howManySeen, f_seenFirst, f_seenSecond, f_seenIs, f_seenPlaces, f_howManyEvents, f_eventWhat, f_eventNumber, g_places, g_kinds, g_weights, g_howManyGenerators, g_generators, g_racks, g_howManySeen, g_seenFirst, g_seenSecond, g_seenIs, g_seenPlaces, g_howManyEvents, g_eventWhat, g_eventNumber, v_keys, v_asFound, v_found, v_turns, v_places, p_keys, p_asFound, p_found, p_turns, p_places, i_sort, i_howOften, i_sorts, i_moves, n_u, u_leasts, u_howMany, u_known, n_w, w_leasts, w_howMany, w_known, t_signs, t_length, t_whole, t_begins, t_ends, r_sorts, r_numbers, r_length, sr, ln, it, z_thrown, z_s, z_kept, z_isKept, rm.2.1, rm.2.2.1, rm.2.2.2, z_troubles, z_troubleSorts, z_troubleNumbers, z_asked, z_paint, z_leasts, z_isSeen, z_classMany, z_types, z_typeCounts, z_typeMany, z_text, z_signs, z_at, z_lacks, z_clauses, z_begun, z_letters, z_firsts, z_seconds, z_aside, z_sorts, z_sizes, z_items, htp, hR, hI, hl⟩
