set_option maxHeartbeats 8000000 in
set_option maxRecDepth 100000 in
theorem law_8 {rr : RT} (op_move : OP_move rr) {p : Program} {l : Launch} {e : Env} {s : State} {m : MethodId} {below : List Frame} {meth : Method} {c : Code} {b L : Nat} {xs : Nat → Int32} {A : Nat → Prop} {G : GX} {Q : State → Prop} (X : CX RL code 4 ret p s m #[Value.ref b] meth c) (E : EX G A s) (hX : va_X b L xs s s.heap) (hbl : b < s.heap.size) (hbA : ¬ A b) {i C S : Nat} (hi : i + 6 ≤ L) (hL : L ≤ 3072) (hC : C + 1 ≤ room_1.cells) (hS : S + 4096 ≤ room_1.slots) {H : Heap} {locs : List Loc} {ls : Array Slot} (hLI : LI rr G A s b i H locs ls)
    (kk : ∀ (H : Heap) (locs : List Loc) (ls : Array Slot), LI rr G A s b i H locs ls → W p l e room_1 s m #[Value.ref b] below meth c H locs (C + 1) (S + 4096) Q (F0 m 1492 ls [])) : W p l e room_1 s m #[Value.ref b] below meth c H locs C S Q (F0 m 438 ls []) := by
  obtain ⟨hx, hb, hml, hown, hts, hr, hlk⟩ := id X
  obtain ⟨h, g, n_m0, n_m1, n_m2, n_s0, n_s1, n_s2, n_uq, n_wq, tp, ta, ti, x_hasImage, f_places, f_kinds, f_weights, f_howManyGenerators, f_generators, f_racks, f_howManySeen, f_seenFirst, f_seenSecond, f_seenIs, f_seenPlaces, f_howManyEvents, f_eventWhat, f_eventNumber, g_places, g_kinds, g_weights, g_howManyGenerators, g_generators, g_racks, g_howManySeen, g_seenFirst, g_seenSecond, g_seenIs, g_seenPlaces, g_howManyEvents, g_eventWhat, g_eventNumber, v_keys, v_asFound, v_found, v_turns, v_places, p_keys, p_asFound, p_found, p_turns, p_places, i_sort, i_howOften, i_sorts, i_moves, n_u, u_leasts, u_howMany, u_known, n_w, w_leasts, w_howMany, w_known, t_signs, t_length, t_whole, t_begins, t_ends, r_sorts, r_numbers, r_length, sr, ln, it, z_thrown, z_s, z_kept, z_isKept, z_moveMany, z_moves, z_hands, z_troubles, z_troubleSorts, z_troubleNumbers, z_asked, z_paint, z_leasts, z_isSeen, z_classMany, z_types, z_typeCounts, z_typeMany, z_text, z_signs, z_at, z_lacks, z_clauses, z_begun, z_letters, z_firsts, z_seconds, z_aside, z_sorts, z_sizes, z_items, htp, hR, hI, hl⟩ := hLI
  have hv1 := q_v1 hi hL
  have hv2 := q_v2 hi hL
  have hv3 := q_v3 hi hL
  have hv4 := q_v4 hi hL
  have hv5 := q_v5 hi hL
  refine lv_aload_n (pc := 438) hx hb dL_law_438 rfl (lv_at hl 1 rfl) ?_
  refine lv_aload_n (pc := 439) hx hb dL_law_439 rfl (lv_at hl 0 rfl) ?_
  refine lv_iload_n (pc := 440) hx hb dL_law_440 rfl (lv_at hl 3 rfl) ?_
  refine lv_iconst (pc := 441) (v := 1) hx hb dL_law_441 (by decide) ?_
  refine lv_iadd (pc := 442) hx hb dL_law_442 ?_
  refine va_sld (pc := 443) hx hb hX hbl hbA hI.2.2 hv1 dL_law_443 ?_
  refine lv_aload_n (pc := 444) hx hb dL_law_444 rfl (lv_at hl 0 rfl) ?_
  refine lv_iload_n (pc := 445) hx hb dL_law_445 rfl (lv_at hl 3 rfl) ?_
  refine lv_iconst (pc := 446) (v := 2) hx hb dL_law_446 (by decide) ?_
  refine lv_iadd (pc := 447) hx hb dL_law_447 ?_
  refine va_sld (pc := 448) hx hb hX hbl hbA hI.2.2 hv2 dL_law_448 ?_
  obtain ⟨rm, em, rx, ex, er, hR⟩ := op_move hR (xs (nI i + 1).toNatClampNeg) (xs (nI i + 2).toNatClampNeg)
  refine x_cVs (pc := 449) (st1 := [.int rx]) (w1 := ((xb G h x_hasImage f_places f_kinds f_weights f_howManyGenerators f_generators f_racks f_howManySeen f_seenFirst f_seenSecond f_seenIs f_seenPlaces f_howManyEvents f_eventWhat f_eventNumber g_places g_kinds g_weights g_howManyGenerators g_generators g_racks g_howManySeen g_seenFirst g_seenSecond g_seenIs g_seenPlaces g_howManyEvents g_eventWhat g_eventNumber n_m0 n_m1 n_m2 n_s0 n_s1 n_s2 v_keys v_asFound v_found v_turns v_places p_keys p_asFound p_found p_turns p_places i_sort i_howOften i_sorts i_moves n_uq n_u u_leasts u_howMany u_known n_wq n_w w_leasts w_howMany w_known t_signs t_length t_whole t_begins t_ends r_sorts r_numbers r_length) ++ ((tl G h tp ta ti sr ln it) ++ (mw G g z_thrown z_s z_kept z_isKept z_moveMany z_moves z_hands z_troubles z_troubleSorts z_troubleNumbers z_asked z_paint z_leasts z_isSeen z_classMany z_types z_typeCounts z_typeMany z_text z_signs z_at z_lacks z_clauses z_begun z_letters z_firsts z_seconds z_aside z_sorts z_sizes z_items)))) X E hI (c_X9_move l G h ex) kv_L_49 hd_X9_move ⟨rfl, rfl⟩ (by decide) 0 rfl rfl rfl rfl hl.1 rfl (Nat.le_of_ble_eq_true rfl) dL_law_449 ⟨by show C + 0 ≤ room_1.cells; omega, by show S + 0 ≤ room_1.slots; omega⟩ rfl (fun H locs hI => ?_)
  refine lv_aload_n (pc := 452) hx hb dL_law_452 rfl (lv_at hl 2 rfl) ?_
  refine lv_aload_n (pc := 453) hx hb dL_law_453 rfl (lv_at hl 0 rfl) ?_
  refine lv_iload_n (pc := 454) hx hb dL_law_454 rfl (lv_at hl 3 rfl) ?_
  refine lv_iconst (pc := 455) (v := 1) hx hb dL_law_455 (by decide) ?_
  refine lv_iadd (pc := 456) hx hb dL_law_456 ?_
  refine va_sld (pc := 457) hx hb hX hbl hbA hI.2.2 hv1 dL_law_457 ?_
  refine lv_aload_n (pc := 458) hx hb dL_law_458 rfl (lv_at hl 0 rfl) ?_
  refine lv_iload_n (pc := 459) hx hb dL_law_459 rfl (lv_at hl 3 rfl) ?_
  refine lv_iconst (pc := 460) (v := 2) hx hb dL_law_460 (by decide) ?_
  refine lv_iadd (pc := 461) hx hb dL_law_461 ?_
  refine va_sld (pc := 462) hx hb hX hbl hbA hI.2.2 hv2 dL_law_462 ?_
  refine x_cVR (pc := 463) (st1 := [.int rm.1, .int rx]) (w1 := (mw G g z_thrown z_s z_kept z_isKept rm.2.1 rm.2.2.1 rm.2.2.2.1 z_troubles z_troubleSorts z_troubleNumbers rm.2.2.2.2 z_paint z_leasts z_isSeen z_classMany z_types z_typeCounts z_typeMany z_text z_signs z_at z_lacks z_clauses z_begun z_letters z_firsts z_seconds z_aside z_sorts z_sizes z_items)) X E hI (c_X10_move l G g em) kv_L_52 hd_X10_move ⟨rfl, rfl⟩ (by decide) 0 rfl rfl rfl rfl hl.1 rfl (Nat.le_of_ble_eq_true rfl) dL_law_463 ⟨by show C + 0 + 0 ≤ room_1.cells; omega, by show S + 0 + 0 ≤ room_1.slots; omega⟩ rfl (fun H locs hI => ?_)
  refine lv_icmp_eq (pc := 466) (tgt := 1492) hx hb dL_law_466 (by decide) (fun c1 => ?_) (fun c1 => ?_)
  rotate_left
  · exact absurd er c1
  refine W.widen (k := C + 1) (n := S + 4096) (by omega) (by omega) ?_
  exact kk _ _ _ ⟨h, g, n_m0, n_m1, n_m2, n_s0, n_s1, n_s2, n_uq, n_wq, tp, ta, ti, x_hasImage, f_places, f_kinds, f_weights, f_howManyGenerators, f_generators, f_racks, f_howManySeen, f_seenFirst, f_seenSecond, f_seenIs, f_seenPlaces, f_howManyEvents, f_eventWhat, f_eventNumber, g_places, g_kinds, g_weights, g_howManyGenerators, g_generators, g_racks, g_howManySeen, g_seenFirst, g_seenSecond, g_seenIs, g_seenPlaces, g_howManyEvents, g_eventWhat, g_eventNumber, v_keys, v_asFound, v_found, v_turns, v_places, p_keys, p_asFound, p_found, p_turns, p_places, i_sort, i_howOften, i_sorts, i_moves, n_u, u_leasts, u_howMany, u_known, n_w, w_leasts, w_howMany, w_known, t_signs, t_length, t_whole, t_begins, t_ends, r_sorts, r_numbers, r_length, sr, ln, it, z_thrown, z_s, z_kept, z_isKept, rm.2.1, rm.2.2.1, rm.2.2.2.1, z_troubles, z_troubleSorts, z_troubleNumbers, rm.2.2.2.2, z_paint, z_leasts, z_isSeen, z_classMany, z_types, z_typeCounts, z_typeMany, z_text, z_signs, z_at, z_lacks, z_clauses, z_begun, z_letters, z_firsts, z_seconds, z_aside, z_sorts, z_sizes, z_items, htp, hR, hI, hl⟩
set_option maxHeartbeats 8000000 in
set_option maxRecDepth 100000 in
theorem law_9 {rr : RT} (op_told : OP_told rr) {p : Program} {l : Launch} {e : Env} {s : State} {m : MethodId} {below : List Frame} {meth : Method} {c : Code} {b L : Nat} {xs : Nat → Int32} {A : Nat → Prop} {G : GX} {Q : State → Prop} (X : CX RL code 4 ret p s m #[Value.ref b] meth c) (E : EX G A s) (hX : va_X b L xs s s.heap) (hbl : b < s.heap.size) (hbA : ¬ A b) {i C S : Nat} (hi : i + 6 ≤ L) (hL : L ≤ 3072) (hC : C + 1 ≤ room_1.cells) (hS : S + 4096 ≤ room_1.slots) {H : Heap} {locs : List Loc} {ls : Array Slot} (hLI : LI rr G A s b i H locs ls)
    (kk : ∀ (H : Heap) (locs : List Loc) (ls : Array Slot), LI rr G A s b i H locs ls → W p l e room_1 s m #[Value.ref b] below meth c H locs (C + 1) (S + 4096) Q (F0 m 1492 ls [])) : W p l e room_1 s m #[Value.ref b] below meth c H locs C S Q (F0 m 471 ls []) := by
  obtain ⟨hx, hb, hml, hown, hts, hr, hlk⟩ := id X
  obtain ⟨h, g, n_m0, n_m1, n_m2, n_s0, n_s1, n_s2, n_uq, n_wq, tp, ta, ti, x_hasImage, f_places, f_kinds, f_weights, f_howManyGenerators, f_generators, f_racks, f_howManySeen, f_seenFirst, f_seenSecond, f_seenIs, f_seenPlaces, f_howManyEvents, f_eventWhat, f_eventNumber, g_places, g_kinds, g_weights, g_howManyGenerators, g_generators, g_racks, g_howManySeen, g_seenFirst, g_seenSecond, g_seenIs, g_seenPlaces, g_howManyEvents, g_eventWhat, g_eventNumber, v_keys, v_asFound, v_found, v_turns, v_places, p_keys, p_asFound, p_found, p_turns, p_places, i_sort, i_howOften, i_sorts, i_moves, n_u, u_leasts, u_howMany, u_known, n_w, w_leasts, w_howMany, w_known, t_signs, t_length, t_whole, t_begins, t_ends, r_sorts, r_numbers, r_length, sr, ln, it, z_thrown, z_s, z_kept, z_isKept, z_moveMany, z_moves, z_hands, z_troubles, z_troubleSorts, z_troubleNumbers, z_asked, z_paint, z_leasts, z_isSeen, z_classMany, z_types, z_typeCounts, z_typeMany, z_text, z_signs, z_at, z_lacks, z_clauses, z_begun, z_letters, z_firsts, z_seconds, z_aside, z_sorts, z_sizes, z_items, htp, hR, hI, hl⟩ := hLI
  have hv1 := q_v1 hi hL
  have hv2 := q_v2 hi hL
  have hv3 := q_v3 hi hL
  have hv4 := q_v4 hi hL
  have hv5 := q_v5 hi hL
  refine lv_aload_n (pc := 471) hx hb dL_law_471 rfl (lv_at hl 1 rfl) ?_
  refine lv_aload_n (pc := 472) hx hb dL_law_472 rfl (lv_at hl 0 rfl) ?_
  refine lv_iload_n (pc := 473) hx hb dL_law_473 rfl (lv_at hl 3 rfl) ?_
  refine lv_iconst (pc := 474) (v := 1) hx hb dL_law_474 (by decide) ?_
  refine lv_iadd (pc := 475) hx hb dL_law_475 ?_
  refine va_sld (pc := 476) hx hb hX hbl hbA hI.2.2 hv1 dL_law_476 ?_
  obtain ⟨rm, em, rx, ex, er, hR⟩ := op_told hR (xs (nI i + 1).toNatClampNeg)
  refine x_cVs (pc := 477) (st1 := [.int rx.1]) (w1 := ((xb G h x_hasImage f_places f_kinds f_weights f_howManyGenerators f_generators f_racks f_howManySeen f_seenFirst f_seenSecond f_seenIs f_seenPlaces f_howManyEvents f_eventWhat f_eventNumber g_places g_kinds g_weights g_howManyGenerators g_generators g_racks g_howManySeen g_seenFirst g_seenSecond g_seenIs g_seenPlaces g_howManyEvents g_eventWhat g_eventNumber n_m0 n_m1 n_m2 n_s0 n_s1 n_s2 v_keys v_asFound v_found v_turns v_places p_keys p_asFound p_found p_turns p_places rx.2.1 rx.2.2.1 rx.2.2.2.1 rx.2.2.2.2 n_uq n_u u_leasts u_howMany u_known n_wq n_w w_leasts w_howMany w_known t_signs t_length t_whole t_begins t_ends r_sorts r_numbers r_length) ++ ((tl G h tp ta ti sr ln it) ++ (mw G g z_thrown z_s z_kept z_isKept z_moveMany z_moves z_hands z_troubles z_troubleSorts z_troubleNumbers z_asked z_paint z_leasts z_isSeen z_classMany z_types z_typeCounts z_typeMany z_text z_signs z_at z_lacks z_clauses z_begun z_letters z_firsts z_seconds z_aside z_sorts z_sizes z_items)))) X E hI (c_X9_told l G h ex) kv_L_53 hd_X9_told ⟨rfl, rfl⟩ (by decide) 0 rfl rfl rfl rfl hl.1 rfl (Nat.le_of_ble_eq_true rfl) dL_law_477 ⟨by show C + 0 ≤ room_1.cells; omega, by show S + 0 ≤ room_1.slots; omega⟩ rfl (fun H locs hI => ?_)
  refine lv_aload_n (pc := 480) hx hb dL_law_480 rfl (lv_at hl 2 rfl) ?_
  refine lv_aload_n (pc := 481) hx hb dL_law_481 rfl (lv_at hl 0 rfl) ?_
  refine lv_iload_n (pc := 482) hx hb dL_law_482 rfl (lv_at hl 3 rfl) ?_
  refine lv_iconst (pc := 483) (v := 1) hx hb dL_law_483 (by decide) ?_
  refine lv_iadd (pc := 484) hx hb dL_law_484 ?_
  refine va_sld (pc := 485) hx hb hX hbl hbA hI.2.2 hv1 dL_law_485 ?_
  refine x_cVR (pc := 486) (st1 := [.int rm.1, .int rx.1]) (w1 := (mw G g z_thrown z_s z_kept z_isKept rm.2.1 rm.2.2.1 rm.2.2.2.1 z_troubles z_troubleSorts z_troubleNumbers z_asked rm.2.2.2.2.1 rm.2.2.2.2.2.1 rm.2.2.2.2.2.2.1 rm.2.2.2.2.2.2.2 z_types z_typeCounts z_typeMany z_text z_signs z_at z_lacks z_clauses z_begun z_letters z_firsts z_seconds z_aside z_sorts z_sizes z_items)) X E hI (c_X10_told l G g em) kv_L_56 hd_X10_told ⟨rfl, rfl⟩ (by decide) 0 rfl rfl rfl rfl hl.1 rfl (Nat.le_of_ble_eq_true rfl) dL_law_486 ⟨by show C + 0 + 0 ≤ room_1.cells; omega, by show S + 0 + 0 ≤ room_1.slots; omega⟩ rfl (fun H locs hI => ?_)
  refine lv_icmp_eq (pc := 489) (tgt := 1492) hx hb dL_law_489 (by decide) (fun c1 => ?_) (fun c1 => ?_)
  rotate_left
  · exact absurd er c1
  refine W.widen (k := C + 1) (n := S + 4096) (by omega) (by omega) ?_
  exact kk _ _ _ ⟨h, g, n_m0, n_m1, n_m2, n_s0, n_s1, n_s2, n_uq, n_wq, tp, ta, ti, x_hasImage, f_places, f_kinds, f_weights, f_howManyGenerators, f_generators, f_racks, f_howManySeen, f_seenFirst, f_seenSecond, f_seenIs, f_seenPlaces, f_howManyEvents, f_eventWhat, f_eventNumber, g_places, g_kinds, g_weights, g_howManyGenerators, g_generators, g_racks, g_howManySeen, g_seenFirst, g_seenSecond, g_seenIs, g_seenPlaces, g_howManyEvents, g_eventWhat, g_eventNumber, v_keys, v_asFound, v_found, v_turns, v_places, p_keys, p_asFound, p_found, p_turns, p_places, rx.2.1, rx.2.2.1, rx.2.2.2.1, rx.2.2.2.2, n_u, u_leasts, u_howMany, u_known, n_w, w_leasts, w_howMany, w_known, t_signs, t_length, t_whole, t_begins, t_ends, r_sorts, r_numbers, r_length, sr, ln, it, z_thrown, z_s, z_kept, z_isKept, rm.2.1, rm.2.2.1, rm.2.2.2.1, z_troubles, z_troubleSorts, z_troubleNumbers, z_asked, rm.2.2.2.2.1, rm.2.2.2.2.2.1, rm.2.2.2.2.2.2.1, rm.2.2.2.2.2.2.2, z_types, z_typeCounts, z_typeMany, z_text, z_signs, z_at, z_lacks, z_clauses, z_begun, z_letters, z_firsts, z_seconds, z_aside, z_sorts, z_sizes, z_items, htp, hR, hI, hl⟩
set_option maxHeartbeats 8000000 in
set_option maxRecDepth 100000 in
theorem law_10 {rr : RT} (op_index : OP_index rr) {p : Program} {l : Launch} {e : Env} {s : State} {m : MethodId} {below : List Frame} {meth : Method} {c : Code} {b L : Nat} {xs : Nat → Int32} {A : Nat → Prop} {G : GX} {Q : State → Prop} (X : CX RL code 4 ret p s m #[Value.ref b] meth c) (E : EX G A s) (hX : va_X b L xs s s.heap) (hbl : b < s.heap.size) (hbA : ¬ A b) {i C S : Nat} (hi : i + 6 ≤ L) (hL : L ≤ 3072) (hC : C + 1 ≤ room_1.cells) (hS : S + 4096 ≤ room_1.slots) {H : Heap} {locs : List Loc} {ls : Array Slot} (hLI : LI rr G A s b i H locs ls)
    (kk : ∀ (H : Heap) (locs : List Loc) (ls : Array Slot), LI rr G A s b i H locs ls → W p l e room_1 s m #[Value.ref b] below meth c H locs (C + 1) (S + 4096) Q (F0 m 1492 ls [])) : W p l e room_1 s m #[Value.ref b] below meth c H locs C S Q (F0 m 494 ls []) := by
  obtain ⟨hx, hb, hml, hown, hts, hr, hlk⟩ := id X
  obtain ⟨h, g, n_m0, n_m1, n_m2, n_s0, n_s1, n_s2, n_uq, n_wq, tp, ta, ti, x_hasImage, f_places, f_kinds, f_weights, f_howManyGenerators, f_generators, f_racks, f_howManySeen, f_seenFirst, f_seenSecond, f_seenIs, f_seenPlaces, f_howManyEvents, f_eventWhat, f_eventNumber, g_places, g_kinds, g_weights, g_howManyGenerators, g_generators, g_racks, g_howManySeen, g_seenFirst, g_seenSecond, g_seenIs, g_seenPlaces, g_howManyEvents, g_eventWhat, g_eventNumber, v_keys, v_asFound, v_found, v_turns, v_places, p_keys, p_asFound, p_found, p_turns, p_places, i_sort, i_howOften, i_sorts, i_moves, n_u, u_leasts, u_howMany, u_known, n_w, w_leasts, w_howMany, w_known, t_signs, t_length, t_whole, t_begins, t_ends, r_sorts, r_numbers, r_length, sr, ln, it, z_thrown, z_s, z_kept, z_isKept, z_moveMany, z_moves, z_hands, z_troubles, z_troubleSorts, z_troubleNumbers, z_asked, z_paint, z_leasts, z_isSeen, z_classMany, z_types, z_typeCounts, z_typeMany, z_text, z_signs, z_at, z_lacks, z_clauses, z_begun, z_letters, z_firsts, z_seconds, z_aside, z_sorts, z_sizes, z_items, htp, hR, hI, hl⟩ := hLI
  have hv1 := q_v1 hi hL
  have hv2 := q_v2 hi hL
  have hv3 := q_v3 hi hL
  have hv4 := q_v4 hi hL
  have hv5 := q_v5 hi hL
  refine lv_aload_n (pc := 494) hx hb dL_law_494 rfl (lv_at hl 1 rfl) ?_
  refine lv_aload_n (pc := 495) hx hb dL_law_495 rfl (lv_at hl 0 rfl) ?_
  refine lv_iload_n (pc := 496) hx hb dL_law_496 rfl (lv_at hl 3 rfl) ?_
  refine lv_iconst (pc := 497) (v := 1) hx hb dL_law_497 (by decide) ?_
  refine lv_iadd (pc := 498) hx hb dL_law_498 ?_
  refine va_sld (pc := 499) hx hb hX hbl hbA hI.2.2 hv1 dL_law_499 ?_
  refine lv_aload_n (pc := 500) hx hb dL_law_500 rfl (lv_at hl 0 rfl) ?_
  refine lv_iload_n (pc := 501) hx hb dL_law_501 rfl (lv_at hl 3 rfl) ?_
  refine lv_iconst (pc := 502) (v := 2) hx hb dL_law_502 (by decide) ?_
  refine lv_iadd (pc := 503) hx hb dL_law_503 ?_
  refine va_sld (pc := 504) hx hb hX hbl hbA hI.2.2 hv2 dL_law_504 ?_
  refine lv_aload_n (pc := 505) hx hb dL_law_505 rfl (lv_at hl 0 rfl) ?_
  refine lv_iload_n (pc := 506) hx hb dL_law_506 rfl (lv_at hl 3 rfl) ?_
  refine lv_iconst (pc := 507) (v := 3) hx hb dL_law_507 (by decide) ?_
  refine lv_iadd (pc := 508) hx hb dL_law_508 ?_
  refine va_sld (pc := 509) hx hb hX hbl hbA hI.2.2 hv3 dL_law_509 ?_
  obtain ⟨rm, em, rx, ex, er, hR⟩ := op_index hR (xs (nI i + 1).toNatClampNeg) (xs (nI i + 2).toNatClampNeg) (xs (nI i + 3).toNatClampNeg)
  refine x_cVs (pc := 510) (st1 := [.int rx.1]) (w1 := ((xb G h x_hasImage f_places f_kinds f_weights f_howManyGenerators f_generators f_racks f_howManySeen f_seenFirst f_seenSecond f_seenIs f_seenPlaces f_howManyEvents f_eventWhat f_eventNumber g_places g_kinds g_weights g_howManyGenerators g_generators g_racks g_howManySeen g_seenFirst g_seenSecond g_seenIs g_seenPlaces g_howManyEvents g_eventWhat g_eventNumber n_m0 n_m1 n_m2 n_s0 n_s1 n_s2 v_keys v_asFound v_found v_turns v_places p_keys p_asFound p_found p_turns p_places rx.2.1 rx.2.2.1 rx.2.2.2.1 rx.2.2.2.2 n_uq n_u u_leasts u_howMany u_known n_wq n_w w_leasts w_howMany w_known t_signs t_length t_whole t_begins t_ends r_sorts r_numbers r_length) ++ ((tl G h tp ta ti sr ln it) ++ (mw G g z_thrown z_s z_kept z_isKept z_moveMany z_moves z_hands z_troubles z_troubleSorts z_troubleNumbers z_asked z_paint z_leasts z_isSeen z_classMany z_types z_typeCounts z_typeMany z_text z_signs z_at z_lacks z_clauses z_begun z_letters z_firsts z_seconds z_aside z_sorts z_sizes z_items)))) X E hI (c_X9_index l G h ex) kv_L_57 hd_X9_index ⟨rfl, rfl⟩ (by decide) 0 rfl rfl rfl rfl hl.1 rfl (Nat.le_of_ble_eq_true rfl) dL_law_510 ⟨by show C + 0 ≤ room_1.cells; omega, by show S + 0 ≤ room_1.slots; omega⟩ rfl (fun H locs hI => ?_)
  refine lv_aload_n (pc := 513) hx hb dL_law_513 rfl (lv_at hl 2 rfl) ?_
  refine lv_aload_n (pc := 514) hx hb dL_law_514 rfl (lv_at hl 0 rfl) ?_
  refine lv_iload_n (pc := 515) hx hb dL_law_515 rfl (lv_at hl 3 rfl) ?_
  refine lv_iconst (pc := 516) (v := 1) hx hb dL_law_516 (by decide) ?_
  refine lv_iadd (pc := 517) hx hb dL_law_517 ?_
  refine va_sld (pc := 518) hx hb hX hbl hbA hI.2.2 hv1 dL_law_518 ?_
  refine lv_aload_n (pc := 519) hx hb dL_law_519 rfl (lv_at hl 0 rfl) ?_
  refine lv_iload_n (pc := 520) hx hb dL_law_520 rfl (lv_at hl 3 rfl) ?_
  refine lv_iconst (pc := 521) (v := 2) hx hb dL_law_521 (by decide) ?_
  refine lv_iadd (pc := 522) hx hb dL_law_522 ?_
  refine va_sld (pc := 523) hx hb hX hbl hbA hI.2.2 hv2 dL_law_523 ?_
  refine lv_aload_n (pc := 524) hx hb dL_law_524 rfl (lv_at hl 0 rfl) ?_
  refine lv_iload_n (pc := 525) hx hb dL_law_525 rfl (lv_at hl 3 rfl) ?_
  refine lv_iconst (pc := 526) (v := 3) hx hb dL_law_526 (by decide) ?_
  refine lv_iadd (pc := 527) hx hb dL_law_527 ?_
  refine va_sld (pc := 528) hx hb hX hbl hbA hI.2.2 hv3 dL_law_528 ?_
  refine x_cVR (pc := 529) (st1 := [.int rm.1, .int rx.1]) (w1 := (mw G g z_thrown z_s z_kept z_isKept rm.2.1 rm.2.2.1 rm.2.2.2.1 z_troubles z_troubleSorts z_troubleNumbers rm.2.2.2.2.1 z_paint z_leasts z_isSeen z_classMany rm.2.2.2.2.2.1 rm.2.2.2.2.2.2.1 rm.2.2.2.2.2.2.2 z_text z_signs z_at z_lacks z_clauses z_begun z_letters z_firsts z_seconds z_aside z_sorts z_sizes z_items)) X E hI (c_X10_index l G g em) kv_L_60 hd_X10_index ⟨rfl, rfl⟩ (by decide) 0 rfl rfl rfl rfl hl.1 rfl (Nat.le_of_ble_eq_true rfl) dL_law_529 ⟨by show C + 0 + 0 ≤ room_1.cells; omega, by show S + 0 + 0 ≤ room_1.slots; omega⟩ rfl (fun H locs hI => ?_)
  refine lv_icmp_eq (pc := 532) (tgt := 1492) hx hb dL_law_532 (by decide) (fun c1 => ?_) (fun c1 => ?_)
  rotate_left
  · exact absurd er c1
  refine W.widen (k := C + 1) (n := S + 4096) (by omega) (by omega) ?_
  exact kk _ _ _ ⟨h, g, n_m0, n_m1, n_m2, n_s0, n_s1, n_s2, n_uq, n_wq, tp, ta, ti, x_hasImage, f_places, f_kinds, f_weights, f_howManyGenerators, f_generators, f_racks, f_howManySeen, f_seenFirst, f_seenSecond, f_seenIs, f_seenPlaces, f_howManyEvents, f_eventWhat, f_eventNumber, g_places, g_kinds, g_weights, g_howManyGenerators, g_generators, g_racks, g_howManySeen, g_seenFirst, g_seenSecond, g_seenIs, g_seenPlaces, g_howManyEvents, g_eventWhat, g_eventNumber, v_keys, v_asFound, v_found, v_turns, v_places, p_keys, p_asFound, p_found, p_turns, p_places, rx.2.1, rx.2.2.1, rx.2.2.2.1, rx.2.2.2.2, n_u, u_leasts, u_howMany, u_known, n_w, w_leasts, w_howMany, w_known, t_signs, t_length, t_whole, t_begins, t_ends, r_sorts, r_numbers, r_length, sr, ln, it, z_thrown, z_s, z_kept, z_isKept, rm.2.1, rm.2.2.1, rm.2.2.2.1, z_troubles, z_troubleSorts, z_troubleNumbers, rm.2.2.2.2.1, z_paint, z_leasts, z_isSeen, z_classMany, rm.2.2.2.2.2.1, rm.2.2.2.2.2.2.1, rm.2.2.2.2.2.2.2, z_text, z_signs, z_at, z_lacks, z_clauses, z_begun, z_letters, z_firsts, z_seconds, z_aside, z_sorts, z_sizes, z_items, htp, hR, hI, hl⟩
set_option maxHeartbeats 8000000 in
set_option maxRecDepth 100000 in
theorem law_11 {rr : RT} (op_part : OP_part rr) {p : Program} {l : Launch} {e : Env} {s : State} {m : MethodId} {below : List Frame} {meth : Method} {c : Code} {b L : Nat} {xs : Nat → Int32} {A : Nat → Prop} {G : GX} {Q : State → Prop} (X : CX RL code 4 ret p s m #[Value.ref b] meth c) (E : EX G A s) (hX : va_X b L xs s s.heap) (hbl : b < s.heap.size) (hbA : ¬ A b) {i C S : Nat} (hi : i + 6 ≤ L) (hL : L ≤ 3072) (hC : C + 1 ≤ room_1.cells) (hS : S + 4096 ≤ room_1.slots) {H : Heap} {locs : List Loc} {ls : Array Slot} (hLI : LI rr G A s b i H locs ls)
    (kk : ∀ (H : Heap) (locs : List Loc) (ls : Array Slot), LI rr G A s b i H locs ls → W p l e room_1 s m #[Value.ref b] below meth c H locs (C + 1) (S + 4096) Q (F0 m 1492 ls [])) : W p l e room_1 s m #[Value.ref b] below meth c H locs C S Q (F0 m 537 ls []) := by
  obtain ⟨hx, hb, hml, hown, hts, hr, hlk⟩ := id X
  obtain ⟨h, g, n_m0, n_m1, n_m2, n_s0, n_s1, n_s2, n_uq, n_wq, tp, ta, ti, x_hasImage, f_places, f_kinds, f_weights, f_howManyGenerators, f_generators, f_racks, f_howManySeen, f_seenFirst, f_seenSecond, f_seenIs, f_seenPlaces, f_howManyEvents, f_eventWhat, f_eventNumber, g_places, g_kinds, g_weights, g_howManyGenerators, g_generators, g_racks, g_howManySeen, g_seenFirst, g_seenSecond, g_seenIs, g_seenPlaces, g_howManyEvents, g_eventWhat, g_eventNumber, v_keys, v_asFound, v_found, v_turns, v_places, p_keys, p_asFound, p_found, p_turns, p_places, i_sort, i_howOften, i_sorts, i_moves, n_u, u_leasts, u_howMany, u_known, n_w, w_leasts, w_howMany, w_known, t_signs, t_length, t_whole, t_begins, t_ends, r_sorts, r_numbers, r_length, sr, ln, it, z_thrown, z_s, z_kept, z_isKept, z_moveMany, z_moves, z_hands, z_troubles, z_troubleSorts, z_troubleNumbers, z_asked, z_paint, z_leasts, z_isSeen, z_classMany, z_types, z_typeCounts, z_typeMany, z_text, z_signs, z_at, z_lacks, z_clauses, z_begun, z_letters, z_firsts, z_seconds, z_aside, z_sorts, z_sizes, z_items, htp, hR, hI, hl⟩ := hLI
  have hv1 := q_v1 hi hL
  have hv2 := q_v2 hi hL
  have hv3 := q_v3 hi hL
  have hv4 := q_v4 hi hL
  have hv5 := q_v5 hi hL
  refine lv_aload_n (pc := 537) hx hb dL_law_537 rfl (lv_at hl 1 rfl) ?_
  refine lv_aload_n (pc := 538) hx hb dL_law_538 rfl (lv_at hl 0 rfl) ?_
  refine lv_iload_n (pc := 539) hx hb dL_law_539 rfl (lv_at hl 3 rfl) ?_
  refine lv_iconst (pc := 540) (v := 1) hx hb dL_law_540 (by decide) ?_
  refine lv_iadd (pc := 541) hx hb dL_law_541 ?_
  refine va_sld (pc := 542) hx hb hX hbl hbA hI.2.2 hv1 dL_law_542 ?_
  refine lv_aload_n (pc := 543) hx hb dL_law_543 rfl (lv_at hl 0 rfl) ?_
  refine lv_iload_n (pc := 544) hx hb dL_law_544 rfl (lv_at hl 3 rfl) ?_
  refine lv_iconst (pc := 545) (v := 2) hx hb dL_law_545 (by decide) ?_
  refine lv_iadd (pc := 546) hx hb dL_law_546 ?_
  refine va_sld (pc := 547) hx hb hX hbl hbA hI.2.2 hv2 dL_law_547 ?_
  refine lv_aload_n (pc := 548) hx hb dL_law_548 rfl (lv_at hl 0 rfl) ?_
  refine lv_iload_n (pc := 549) hx hb dL_law_549 rfl (lv_at hl 3 rfl) ?_
  refine lv_iconst (pc := 550) (v := 3) hx hb dL_law_550 (by decide) ?_
  refine lv_iadd (pc := 551) hx hb dL_law_551 ?_
  refine va_sld (pc := 552) hx hb hX hbl hbA hI.2.2 hv3 dL_law_552 ?_
  obtain ⟨rm, em, rx, ex, er, hR⟩ := op_part hR (xs (nI i + 1).toNatClampNeg) (xs (nI i + 2).toNatClampNeg) (xs (nI i + 3).toNatClampNeg)
  refine x_cVs (pc := 553) (st1 := [.long rx.1]) (w1 := ((xb G h x_hasImage f_places f_kinds f_weights f_howManyGenerators f_generators f_racks f_howManySeen f_seenFirst f_seenSecond f_seenIs f_seenPlaces f_howManyEvents f_eventWhat f_eventNumber g_places g_kinds g_weights g_howManyGenerators g_generators g_racks g_howManySeen g_seenFirst g_seenSecond g_seenIs g_seenPlaces g_howManyEvents g_eventWhat g_eventNumber n_m0 n_m1 n_m2 n_s0 n_s1 n_s2 v_keys v_asFound v_found v_turns v_places p_keys p_asFound p_found p_turns p_places rx.2.1 rx.2.2.1 rx.2.2.2.1 rx.2.2.2.2 n_uq n_u u_leasts u_howMany u_known n_wq n_w w_leasts w_howMany w_known t_signs t_length t_whole t_begins t_ends r_sorts r_numbers r_length) ++ ((tl G h tp ta ti sr ln it) ++ (mw G g z_thrown z_s z_kept z_isKept z_moveMany z_moves z_hands z_troubles z_troubleSorts z_troubleNumbers z_asked z_paint z_leasts z_isSeen z_classMany z_types z_typeCounts z_typeMany z_text z_signs z_at z_lacks z_clauses z_begun z_letters z_firsts z_seconds z_aside z_sorts z_sizes z_items)))) X E hI (c_X9_part l G h ex) kv_L_61 hd_X9_part ⟨rfl, rfl⟩ (by decide) 0 rfl rfl rfl rfl hl.1 rfl (Nat.le_of_ble_eq_true rfl) dL_law_553 ⟨by show C + 0 ≤ room_1.cells; omega, by show S + 0 ≤ room_1.slots; omega⟩ rfl (fun H locs hI => ?_)
  refine lv_aload_n (pc := 556) hx hb dL_law_556 rfl (lv_at hl 2 rfl) ?_
  refine lv_aload_n (pc := 557) hx hb dL_law_557 rfl (lv_at hl 0 rfl) ?_
  refine lv_iload_n (pc := 558) hx hb dL_law_558 rfl (lv_at hl 3 rfl) ?_
  refine lv_iconst (pc := 559) (v := 1) hx hb dL_law_559 (by decide) ?_
  refine lv_iadd (pc := 560) hx hb dL_law_560 ?_
  refine va_sld (pc := 561) hx hb hX hbl hbA hI.2.2 hv1 dL_law_561 ?_
  refine lv_aload_n (pc := 562) hx hb dL_law_562 rfl (lv_at hl 0 rfl) ?_
  refine lv_iload_n (pc := 563) hx hb dL_law_563 rfl (lv_at hl 3 rfl) ?_
  refine lv_iconst (pc := 564) (v := 2) hx hb dL_law_564 (by decide) ?_
  refine lv_iadd (pc := 565) hx hb dL_law_565 ?_
  refine va_sld (pc := 566) hx hb hX hbl hbA hI.2.2 hv2 dL_law_566 ?_
  refine lv_aload_n (pc := 567) hx hb dL_law_567 rfl (lv_at hl 0 rfl) ?_
  refine lv_iload_n (pc := 568) hx hb dL_law_568 rfl (lv_at hl 3 rfl) ?_
  refine lv_iconst (pc := 569) (v := 3) hx hb dL_law_569 (by decide) ?_
  refine lv_iadd (pc := 570) hx hb dL_law_570 ?_
  refine va_sld (pc := 571) hx hb hX hbl hbA hI.2.2 hv3 dL_law_571 ?_
  refine x_cVR (pc := 572) (st1 := [.long rm.1, .long rx.1]) (w1 := (mw G g z_thrown z_s z_kept z_isKept rm.2.1 rm.2.2.1 rm.2.2.2.1 z_troubles z_troubleSorts z_troubleNumbers rm.2.2.2.2.1 z_paint z_leasts z_isSeen z_classMany rm.2.2.2.2.2.1 rm.2.2.2.2.2.2.1 rm.2.2.2.2.2.2.2 z_text z_signs z_at z_lacks z_clauses z_begun z_letters z_firsts z_seconds z_aside z_sorts z_sizes z_items)) X E hI (c_X10_part l G g em) kv_L_65 hd_X10_part ⟨rfl, rfl⟩ (by decide) 0 rfl rfl rfl rfl hl.1 rfl (Nat.le_of_ble_eq_true rfl) dL_law_572 ⟨by show C + 0 + 0 ≤ room_1.cells; omega, by show S + 0 + 0 ≤ room_1.slots; omega⟩ rfl (fun H locs hI => ?_)
  refine W.lcmp (pc := 575) hx hb dL_law_575 ?_
  refine lv_if_eq (pc := 576) (tgt := 1492) hx hb dL_law_576 (by decide) (fun c1 => ?_) (fun c1 => ?_)
  rotate_left
  · exact absurd (by rw [er]; exact q_lcmp _) c1
  refine W.widen (k := C + 1) (n := S + 4096) (by omega) (by omega) ?_
  exact kk _ _ _ ⟨h, g, n_m0, n_m1, n_m2, n_s0, n_s1, n_s2, n_uq, n_wq, tp, ta, ti, x_hasImage, f_places, f_kinds, f_weights, f_howManyGenerators, f_generators, f_racks, f_howManySeen, f_seenFirst, f_seenSecond, f_seenIs, f_seenPlaces, f_howManyEvents, f_eventWhat, f_eventNumber, g_places, g_kinds, g_weights, g_howManyGenerators, g_generators, g_racks, g_howManySeen, g_seenFirst, g_seenSecond, g_seenIs, g_seenPlaces, g_howManyEvents, g_eventWhat, g_eventNumber, v_keys, v_asFound, v_found, v_turns, v_places, p_keys, p_asFound, p_found, p_turns, p_places, rx.2.1, rx.2.2.1, rx.2.2.2.1, rx.2.2.2.2, n_u, u_leasts, u_howMany, u_known, n_w, w_leasts, w_howMany, w_known, t_signs, t_length, t_whole, t_begins, t_ends, r_sorts, r_numbers, r_length, sr, ln, it, z_thrown, z_s, z_kept, z_isKept, rm.2.1, rm.2.2.1, rm.2.2.2.1, z_troubles, z_troubleSorts, z_troubleNumbers, rm.2.2.2.2.1, z_paint, z_leasts, z_isSeen, z_classMany, rm.2.2.2.2.2.1, rm.2.2.2.2.2.2.1, rm.2.2.2.2.2.2.2, z_text, z_signs, z_at, z_lacks, z_clauses, z_begun, z_letters, z_firsts, z_seconds, z_aside, z_sorts, z_sizes, z_items, htp, hR, hI, hl⟩
