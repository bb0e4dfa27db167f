set_option maxHeartbeats 8000000 in
set_option maxRecDepth 100000 in
theorem law_24 {rr : RT} (op_feed : OP_feed rr) {p : Program} {l : Launch} {e : Env} {s : State} {m : MethodId} {below : List Frame} {meth : Method} {c : Code} {b L : Nat} {xs : Nat → Int32} {A : Nat → Prop} {G : GX} {Q : State → Prop} (X : CX RL code 4 ret p s m #[Value.ref b] meth c) (E : EX G A s) (hX : va_X b L xs s s.heap) (hbl : b < s.heap.size) (hbA : ¬ A b) {i C S : Nat} (hi : i + 6 ≤ L) (hL : L ≤ 3072) (hC : C + 1 ≤ room_1.cells) (hS : S + 4096 ≤ room_1.slots) {H : Heap} {locs : List Loc} {ls : Array Slot} (hLI : LI rr G A s b i H locs ls)
    (kk : ∀ (H : Heap) (locs : List Loc) (ls : Array Slot), LI rr G A s b i H locs ls → W p l e room_1 s m #[Value.ref b] below meth c H locs (C + 1) (S + 4096) Q (F0 m 1492 ls [])) : W p l e room_1 s m #[Value.ref b] below meth c H locs C S Q (F0 m 990 ls []) := by
  obtain ⟨hx, hb, hml, hown, hts, hr, hlk⟩ := id X
  obtain ⟨h, g, n_m0, n_m1, n_m2, n_s0, n_s1, n_s2, n_uq, n_wq, tp, ta, ti, x_hasImage, f_places, f_kinds, f_weights, f_howManyGenerators, f_generators, f_racks, f_howManySeen, f_seenFirst, f_seenSecond, f_seenIs, f_seenPlaces, f_howManyEvents, f_eventWhat, f_eventNumber, g_places, g_kinds, g_weights, g_howManyGenerators, g_generators, g_racks, g_howManySeen, g_seenFirst, g_seenSecond, g_seenIs, g_seenPlaces, g_howManyEvents, g_eventWhat, g_eventNumber, v_keys, v_asFound, v_found, v_turns, v_places, p_keys, p_asFound, p_found, p_turns, p_places, i_sort, i_howOften, i_sorts, i_moves, n_u, u_leasts, u_howMany, u_known, n_w, w_leasts, w_howMany, w_known, t_signs, t_length, t_whole, t_begins, t_ends, r_sorts, r_numbers, r_length, sr, ln, it, z_thrown, z_s, z_kept, z_isKept, z_moveMany, z_moves, z_hands, z_troubles, z_troubleSorts, z_troubleNumbers, z_asked, z_paint, z_leasts, z_isSeen, z_classMany, z_types, z_typeCounts, z_typeMany, z_text, z_signs, z_at, z_lacks, z_clauses, z_begun, z_letters, z_firsts, z_seconds, z_aside, z_sorts, z_sizes, z_items, htp, hR, hI, hl⟩ := hLI
  have hv1 := q_v1 hi hL
  have hv2 := q_v2 hi hL
  have hv3 := q_v3 hi hL
  have hv4 := q_v4 hi hL
  have hv5 := q_v5 hi hL
  refine lv_aload_n (pc := 990) hx hb dL_law_990 rfl (lv_at hl 1 rfl) ?_
  refine lv_aload_n (pc := 991) hx hb dL_law_991 rfl (lv_at hl 0 rfl) ?_
  refine lv_iload_n (pc := 992) hx hb dL_law_992 rfl (lv_at hl 3 rfl) ?_
  refine lv_iconst (pc := 993) (v := 1) hx hb dL_law_993 (by decide) ?_
  refine lv_iadd (pc := 994) hx hb dL_law_994 ?_
  refine va_sld (pc := 995) hx hb hX hbl hbA hI.2.2 hv1 dL_law_995 ?_
  obtain ⟨rm, em, rx, ex, er, hR⟩ := op_feed hR (xs (nI i + 1).toNatClampNeg)
  refine x_cVs (pc := 996) (st1 := [.int rx.1]) (w1 := ((xb G h x_hasImage f_places f_kinds f_weights f_howManyGenerators f_generators f_racks f_howManySeen f_seenFirst f_seenSecond f_seenIs f_seenPlaces f_howManyEvents f_eventWhat f_eventNumber g_places g_kinds g_weights g_howManyGenerators g_generators g_racks g_howManySeen g_seenFirst g_seenSecond g_seenIs g_seenPlaces g_howManyEvents g_eventWhat g_eventNumber n_m0 n_m1 n_m2 n_s0 n_s1 n_s2 v_keys v_asFound v_found v_turns v_places p_keys p_asFound p_found p_turns p_places i_sort i_howOften i_sorts i_moves n_uq n_u u_leasts u_howMany u_known n_wq n_w w_leasts w_howMany w_known rx.2.1 rx.2.2 t_whole t_begins t_ends r_sorts r_numbers r_length) ++ ((tl G h tp ta ti sr ln it) ++ (mw G g z_thrown z_s z_kept z_isKept z_moveMany z_moves z_hands z_troubles z_troubleSorts z_troubleNumbers z_asked z_paint z_leasts z_isSeen z_classMany z_types z_typeCounts z_typeMany z_text z_signs z_at z_lacks z_clauses z_begun z_letters z_firsts z_seconds z_aside z_sorts z_sizes z_items)))) X E hI (c_X9_feed l G h ex) kv_L_115 hd_X9_feed ⟨rfl, rfl⟩ (by decide) 0 rfl rfl rfl rfl hl.1 rfl (Nat.le_of_ble_eq_true rfl) dL_law_996 ⟨by show C + 0 ≤ room_1.cells; omega, by show S + 0 ≤ room_1.slots; omega⟩ rfl (fun H locs hI => ?_)
  refine lv_aload_n (pc := 999) hx hb dL_law_999 rfl (lv_at hl 2 rfl) ?_
  refine lv_aload_n (pc := 1000) hx hb dL_law_1000 rfl (lv_at hl 0 rfl) ?_
  refine lv_iload_n (pc := 1001) hx hb dL_law_1001 rfl (lv_at hl 3 rfl) ?_
  refine lv_iconst (pc := 1002) (v := 1) hx hb dL_law_1002 (by decide) ?_
  refine lv_iadd (pc := 1003) hx hb dL_law_1003 ?_
  refine va_sld (pc := 1004) hx hb hX hbl hbA hI.2.2 hv1 dL_law_1004 ?_
  refine x_cVR (pc := 1005) (st1 := [.int rm.1, .int rx.1]) (w1 := (mw G g z_thrown z_s z_kept z_isKept z_moveMany z_moves z_hands z_troubles z_troubleSorts z_troubleNumbers z_asked z_paint z_leasts z_isSeen z_classMany z_types z_typeCounts z_typeMany rm.2.1 rm.2.2 z_at z_lacks z_clauses z_begun z_letters z_firsts z_seconds z_aside z_sorts z_sizes z_items)) X E hI (c_X10_feed l G g em) kv_L_118 hd_X10_feed ⟨rfl, rfl⟩ (by decide) 0 rfl rfl rfl rfl hl.1 rfl (Nat.le_of_ble_eq_true rfl) dL_law_1005 ⟨by show C + 0 + 0 ≤ room_1.cells; omega, by show S + 0 + 0 ≤ room_1.slots; omega⟩ rfl (fun H locs hI => ?_)
  refine lv_icmp_eq (pc := 1008) (tgt := 1492) hx hb dL_law_1008 (by decide) (fun c1 => ?_) (fun c1 => ?_)
  rotate_left
  · exact absurd er c1
  refine W.widen (k := C + 1) (n := S + 4096) (by omega) (by omega) ?_
  exact kk _ _ _ ⟨h, g, n_m0, n_m1, n_m2, n_s0, n_s1, n_s2, n_uq, n_wq, tp, ta, ti, x_hasImage, f_places, f_kinds, f_weights, f_howManyGenerators, f_generators, f_racks, f_howManySeen, f_seenFirst, f_seenSecond, f_seenIs, f_seenPlaces, f_howManyEvents, f_eventWhat, f_eventNumber, g_places, g_kinds, g_weights, g_howManyGenerators, g_generators, g_racks, g_howManySeen, g_seenFirst, g_seenSecond, g_seenIs, g_seenPlaces, g_howManyEvents, g_eventWhat, g_eventNumber, v_keys, v_asFound, v_found, v_turns, v_places, p_keys, p_asFound, p_found, p_turns, p_places, i_sort, i_howOften, i_sorts, i_moves, n_u, u_leasts, u_howMany, u_known, n_w, w_leasts, w_howMany, w_known, rx.2.1, rx.2.2, t_whole, t_begins, t_ends, r_sorts, r_numbers, r_length, sr, ln, it, z_thrown, z_s, z_kept, z_isKept, z_moveMany, z_moves, z_hands, z_troubles, z_troubleSorts, z_troubleNumbers, z_asked, z_paint, z_leasts, z_isSeen, z_classMany, z_types, z_typeCounts, z_typeMany, rm.2.1, rm.2.2, z_at, z_lacks, z_clauses, z_begun, z_letters, z_firsts, z_seconds, z_aside, z_sorts, z_sizes, z_items, htp, hR, hI, hl⟩
set_option maxHeartbeats 8000000 in
set_option maxRecDepth 100000 in
theorem law_25 {rr : RT} (op_read : OP_read rr) {p : Program} {l : Launch} {e : Env} {s : State} {m : MethodId} {below : List Frame} {meth : Method} {c : Code} {b L : Nat} {xs : Nat → Int32} {A : Nat → Prop} {G : GX} {Q : State → Prop} (X : CX RL code 4 ret p s m #[Value.ref b] meth c) (E : EX G A s) (hX : va_X b L xs s s.heap) (hbl : b < s.heap.size) (hbA : ¬ A b) {i C S : Nat} (hi : i + 6 ≤ L) (hL : L ≤ 3072) (hC : C + 1 ≤ room_1.cells) (hS : S + 4096 ≤ room_1.slots) {H : Heap} {locs : List Loc} {ls : Array Slot} (hLI : LI rr G A s b i H locs ls)
    (kk : ∀ (H : Heap) (locs : List Loc) (ls : Array Slot), LI rr G A s b i H locs ls → W p l e room_1 s m #[Value.ref b] below meth c H locs (C + 1) (S + 4096) Q (F0 m 1492 ls [])) : W p l e room_1 s m #[Value.ref b] below meth c H locs C S Q (F0 m 1013 ls []) := by
  obtain ⟨hx, hb, hml, hown, hts, hr, hlk⟩ := id X
  obtain ⟨h, g, n_m0, n_m1, n_m2, n_s0, n_s1, n_s2, n_uq, n_wq, tp, ta, ti, x_hasImage, f_places, f_kinds, f_weights, f_howManyGenerators, f_generators, f_racks, f_howManySeen, f_seenFirst, f_seenSecond, f_seenIs, f_seenPlaces, f_howManyEvents, f_eventWhat, f_eventNumber, g_places, g_kinds, g_weights, g_howManyGenerators, g_generators, g_racks, g_howManySeen, g_seenFirst, g_seenSecond, g_seenIs, g_seenPlaces, g_howManyEvents, g_eventWhat, g_eventNumber, v_keys, v_asFound, v_found, v_turns, v_places, p_keys, p_asFound, p_found, p_turns, p_places, i_sort, i_howOften, i_sorts, i_moves, n_u, u_leasts, u_howMany, u_known, n_w, w_leasts, w_howMany, w_known, t_signs, t_length, t_whole, t_begins, t_ends, r_sorts, r_numbers, r_length, sr, ln, it, z_thrown, z_s, z_kept, z_isKept, z_moveMany, z_moves, z_hands, z_troubles, z_troubleSorts, z_troubleNumbers, z_asked, z_paint, z_leasts, z_isSeen, z_classMany, z_types, z_typeCounts, z_typeMany, z_text, z_signs, z_at, z_lacks, z_clauses, z_begun, z_letters, z_firsts, z_seconds, z_aside, z_sorts, z_sizes, z_items, htp, hR, hI, hl⟩ := hLI
  have hv1 := q_v1 hi hL
  have hv2 := q_v2 hi hL
  have hv3 := q_v3 hi hL
  have hv4 := q_v4 hi hL
  have hv5 := q_v5 hi hL
  refine lv_aload_n (pc := 1013) hx hb dL_law_1013 rfl (lv_at hl 1 rfl) ?_
  obtain ⟨rm, em, rx, ex, er, hR⟩ := op_read hR  n_m0 n_m1 n_m2 n_s0 n_s1 n_s2
  refine x_cVs (pc := 1014) (st1 := [.int rx.1]) (w1 := ((xb G h x_hasImage rx.2.1 rx.2.2.1 rx.2.2.2.1 rx.2.2.2.2.1 rx.2.2.2.2.2.1 rx.2.2.2.2.2.2.1 f_howManySeen f_seenFirst f_seenSecond f_seenIs f_seenPlaces f_howManyEvents f_eventWhat f_eventNumber g_places g_kinds g_weights g_howManyGenerators g_generators g_racks g_howManySeen g_seenFirst g_seenSecond g_seenIs g_seenPlaces g_howManyEvents g_eventWhat g_eventNumber rx.2.2.2.2.2.2.2.1 rx.2.2.2.2.2.2.2.2.1 rx.2.2.2.2.2.2.2.2.2.1 rx.2.2.2.2.2.2.2.2.2.2.1 rx.2.2.2.2.2.2.2.2.2.2.2.1 rx.2.2.2.2.2.2.2.2.2.2.2.2.1 rx.2.2.2.2.2.2.2.2.2.2.2.2.2.1 rx.2.2.2.2.2.2.2.2.2.2.2.2.2.2.1 rx.2.2.2.2.2.2.2.2.2.2.2.2.2.2.2.1 rx.2.2.2.2.2.2.2.2.2.2.2.2.2.2.2.2.1 rx.2.2.2.2.2.2.2.2.2.2.2.2.2.2.2.2.2.1 rx.2.2.2.2.2.2.2.2.2.2.2.2.2.2.2.2.2.2.1 rx.2.2.2.2.2.2.2.2.2.2.2.2.2.2.2.2.2.2.2.1 rx.2.2.2.2.2.2.2.2.2.2.2.2.2.2.2.2.2.2.2.2.1 rx.2.2.2.2.2.2.2.2.2.2.2.2.2.2.2.2.2.2.2.2.2.1 rx.2.2.2.2.2.2.2.2.2.2.2.2.2.2.2.2.2.2.2.2.2.2.1 i_sort i_howOften i_sorts i_moves n_uq n_u u_leasts u_howMany rx.2.2.2.2.2.2.2.2.2.2.2.2.2.2.2.2.2.2.2.2.2.2.2.1 n_wq n_w w_leasts w_howMany rx.2.2.2.2.2.2.2.2.2.2.2.2.2.2.2.2.2.2.2.2.2.2.2.2.1 t_signs rx.2.2.2.2.2.2.2.2.2.2.2.2.2.2.2.2.2.2.2.2.2.2.2.2.2.1 rx.2.2.2.2.2.2.2.2.2.2.2.2.2.2.2.2.2.2.2.2.2.2.2.2.2.2.1 rx.2.2.2.2.2.2.2.2.2.2.2.2.2.2.2.2.2.2.2.2.2.2.2.2.2.2.2.1 rx.2.2.2.2.2.2.2.2.2.2.2.2.2.2.2.2.2.2.2.2.2.2.2.2.2.2.2.2.1 rx.2.2.2.2.2.2.2.2.2.2.2.2.2.2.2.2.2.2.2.2.2.2.2.2.2.2.2.2.2.1 rx.2.2.2.2.2.2.2.2.2.2.2.2.2.2.2.2.2.2.2.2.2.2.2.2.2.2.2.2.2.2.1 rx.2.2.2.2.2.2.2.2.2.2.2.2.2.2.2.2.2.2.2.2.2.2.2.2.2.2.2.2.2.2.2) ++ ((tl G h tp ta ti sr ln it) ++ (mw G g z_thrown z_s z_kept z_isKept z_moveMany z_moves z_hands z_troubles z_troubleSorts z_troubleNumbers z_asked z_paint z_leasts z_isSeen z_classMany z_types z_typeCounts z_typeMany z_text z_signs z_at z_lacks z_clauses z_begun z_letters z_firsts z_seconds z_aside z_sorts z_sizes z_items)))) X E hI (c_X9_read l G h ex) kv_L_119 hd_X9_read ⟨rfl, rfl⟩ (by decide) 0 rfl rfl rfl rfl hl.1 rfl (Nat.le_of_ble_eq_true rfl) dL_law_1014 ⟨by show C + 0 ≤ room_1.cells; omega, by show S + 0 ≤ room_1.slots; omega⟩ rfl (fun H locs hI => ?_)
  refine lv_aload_n (pc := 1017) hx hb dL_law_1017 rfl (lv_at hl 2 rfl) ?_
  refine x_cVR (pc := 1018) (st1 := [.int rm.1, .int rx.1]) (w1 := (mw G g z_thrown rm.2.1 z_kept z_isKept rm.2.2.1 rm.2.2.2.1 rm.2.2.2.2.1 rm.2.2.2.2.2.1 rm.2.2.2.2.2.2.1 rm.2.2.2.2.2.2.2.1 z_asked z_paint z_leasts z_isSeen z_classMany z_types z_typeCounts z_typeMany z_text rm.2.2.2.2.2.2.2.2.1 rm.2.2.2.2.2.2.2.2.2.1 rm.2.2.2.2.2.2.2.2.2.2.1 rm.2.2.2.2.2.2.2.2.2.2.2.1 rm.2.2.2.2.2.2.2.2.2.2.2.2.1 rm.2.2.2.2.2.2.2.2.2.2.2.2.2.1 rm.2.2.2.2.2.2.2.2.2.2.2.2.2.2.1 rm.2.2.2.2.2.2.2.2.2.2.2.2.2.2.2 z_aside z_sorts z_sizes z_items)) X E hI (c_X10_read l G g em) kv_L_122 hd_X10_read ⟨rfl, rfl⟩ (by decide) 0 rfl rfl rfl rfl hl.1 rfl (Nat.le_of_ble_eq_true rfl) dL_law_1018 ⟨by show C + 0 + 0 ≤ room_1.cells; omega, by show S + 0 + 0 ≤ room_1.slots; omega⟩ rfl (fun H locs hI => ?_)
  refine lv_icmp_eq (pc := 1021) (tgt := 1492) hx hb dL_law_1021 (by decide) (fun c1 => ?_) (fun c1 => ?_)
  rotate_left
  · exact absurd er c1
  refine W.widen (k := C + 1) (n := S + 4096) (by omega) (by omega) ?_
  exact kk _ _ _ ⟨h, g, rx.2.2.2.2.2.2.2.1, rx.2.2.2.2.2.2.2.2.1, rx.2.2.2.2.2.2.2.2.2.1, rx.2.2.2.2.2.2.2.2.2.2.1, rx.2.2.2.2.2.2.2.2.2.2.2.1, rx.2.2.2.2.2.2.2.2.2.2.2.2.1, n_uq, n_wq, tp, ta, ti, x_hasImage, rx.2.1, rx.2.2.1, rx.2.2.2.1, rx.2.2.2.2.1, rx.2.2.2.2.2.1, rx.2.2.2.2.2.2.1, f_howManySeen, f_seenFirst, f_seenSecond, f_seenIs, f_seenPlaces, f_howManyEvents, f_eventWhat, f_eventNumber, g_places, g_kinds, g_weights, g_howManyGenerators, g_generators, g_racks, g_howManySeen, g_seenFirst, g_seenSecond, g_seenIs, g_seenPlaces, g_howManyEvents, g_eventWhat, g_eventNumber, rx.2.2.2.2.2.2.2.2.2.2.2.2.2.1, rx.2.2.2.2.2.2.2.2.2.2.2.2.2.2.1, rx.2.2.2.2.2.2.2.2.2.2.2.2.2.2.2.1, rx.2.2.2.2.2.2.2.2.2.2.2.2.2.2.2.2.1, rx.2.2.2.2.2.2.2.2.2.2.2.2.2.2.2.2.2.1, rx.2.2.2.2.2.2.2.2.2.2.2.2.2.2.2.2.2.2.1, rx.2.2.2.2.2.2.2.2.2.2.2.2.2.2.2.2.2.2.2.1, rx.2.2.2.2.2.2.2.2.2.2.2.2.2.2.2.2.2.2.2.2.1, rx.2.2.2.2.2.2.2.2.2.2.2.2.2.2.2.2.2.2.2.2.2.1, rx.2.2.2.2.2.2.2.2.2.2.2.2.2.2.2.2.2.2.2.2.2.2.1, i_sort, i_howOften, i_sorts, i_moves, n_u, u_leasts, u_howMany, rx.2.2.2.2.2.2.2.2.2.2.2.2.2.2.2.2.2.2.2.2.2.2.2.1, n_w, w_leasts, w_howMany, rx.2.2.2.2.2.2.2.2.2.2.2.2.2.2.2.2.2.2.2.2.2.2.2.2.1, t_signs, rx.2.2.2.2.2.2.2.2.2.2.2.2.2.2.2.2.2.2.2.2.2.2.2.2.2.1, rx.2.2.2.2.2.2.2.2.2.2.2.2.2.2.2.2.2.2.2.2.2.2.2.2.2.2.1, rx.2.2.2.2.2.2.2.2.2.2.2.2.2.2.2.2.2.2.2.2.2.2.2.2.2.2.2.1, rx.2.2.2.2.2.2.2.2.2.2.2.2.2.2.2.2.2.2.2.2.2.2.2.2.2.2.2.2.1, rx.2.2.2.2.2.2.2.2.2.2.2.2.2.2.2.2.2.2.2.2.2.2.2.2.2.2.2.2.2.1, rx.2.2.2.2.2.2.2.2.2.2.2.2.2.2.2.2.2.2.2.2.2.2.2.2.2.2.2.2.2.2.1, rx.2.2.2.2.2.2.2.2.2.2.2.2.2.2.2.2.2.2.2.2.2.2.2.2.2.2.2.2.2.2.2, sr, ln, it, z_thrown, rm.2.1, z_kept, z_isKept, rm.2.2.1, rm.2.2.2.1, rm.2.2.2.2.1, rm.2.2.2.2.2.1, rm.2.2.2.2.2.2.1, rm.2.2.2.2.2.2.2.1, z_asked, z_paint, z_leasts, z_isSeen, z_classMany, z_types, z_typeCounts, z_typeMany, z_text, rm.2.2.2.2.2.2.2.2.1, rm.2.2.2.2.2.2.2.2.2.1, rm.2.2.2.2.2.2.2.2.2.2.1, rm.2.2.2.2.2.2.2.2.2.2.2.1, rm.2.2.2.2.2.2.2.2.2.2.2.2.1, rm.2.2.2.2.2.2.2.2.2.2.2.2.2.1, rm.2.2.2.2.2.2.2.2.2.2.2.2.2.2.1, rm.2.2.2.2.2.2.2.2.2.2.2.2.2.2.2, z_aside, z_sorts, z_sizes, z_items, htp, hR, hI, hl⟩
set_option maxHeartbeats 8000000 in
set_option maxRecDepth 100000 in
theorem law_26 {rr : RT} (op_cause : OP_cause rr) {p : Program} {l : Launch} {e : Env} {s : State} {m : MethodId} {below : List Frame} {meth : Method} {c : Code} {b L : Nat} {xs : Nat → Int32} {A : Nat → Prop} {G : GX} {Q : State → Prop} (X : CX RL code 4 ret p s m #[Value.ref b] meth c) (E : EX G A s) (hX : va_X b L xs s s.heap) (hbl : b < s.heap.size) (hbA : ¬ A b) {i C S : Nat} (hi : i + 6 ≤ L) (hL : L ≤ 3072) (hC : C + 1 ≤ room_1.cells) (hS : S + 4096 ≤ room_1.slots) {H : Heap} {locs : List Loc} {ls : Array Slot} (hLI : LI rr G A s b i H locs ls)
    (kk : ∀ (H : Heap) (locs : List Loc) (ls : Array Slot), LI rr G A s b i H locs ls → W p l e room_1 s m #[Value.ref b] below meth c H locs (C + 1) (S + 4096) Q (F0 m 1492 ls [])) : W p l e room_1 s m #[Value.ref b] below meth c H locs C S Q (F0 m 1026 ls []) := by
  obtain ⟨hx, hb, hml, hown, hts, hr, hlk⟩ := id X
  obtain ⟨h, g, n_m0, n_m1, n_m2, n_s0, n_s1, n_s2, n_uq, n_wq, tp, ta, ti, x_hasImage, f_places, f_kinds, f_weights, f_howManyGenerators, f_generators, f_racks, f_howManySeen, f_seenFirst, f_seenSecond, f_seenIs, f_seenPlaces, f_howManyEvents, f_eventWhat, f_eventNumber, g_places, g_kinds, g_weights, g_howManyGenerators, g_generators, g_racks, g_howManySeen, g_seenFirst, g_seenSecond, g_seenIs, g_seenPlaces, g_howManyEvents, g_eventWhat, g_eventNumber, v_keys, v_asFound, v_found, v_turns, v_places, p_keys, p_asFound, p_found, p_turns, p_places, i_sort, i_howOften, i_sorts, i_moves, n_u, u_leasts, u_howMany, u_known, n_w, w_leasts, w_howMany, w_known, t_signs, t_length, t_whole, t_begins, t_ends, r_sorts, r_numbers, r_length, sr, ln, it, z_thrown, z_s, z_kept, z_isKept, z_moveMany, z_moves, z_hands, z_troubles, z_troubleSorts, z_troubleNumbers, z_asked, z_paint, z_leasts, z_isSeen, z_classMany, z_types, z_typeCounts, z_typeMany, z_text, z_signs, z_at, z_lacks, z_clauses, z_begun, z_letters, z_firsts, z_seconds, z_aside, z_sorts, z_sizes, z_items, htp, hR, hI, hl⟩ := hLI
  have hv1 := q_v1 hi hL
  have hv2 := q_v2 hi hL
  have hv3 := q_v3 hi hL
  have hv4 := q_v4 hi hL
  have hv5 := q_v5 hi hL
  refine lv_aload_n (pc := 1026) hx hb dL_law_1026 rfl (lv_at hl 1 rfl) ?_
  refine lv_aload_n (pc := 1027) hx hb dL_law_1027 rfl (lv_at hl 0 rfl) ?_
  refine lv_iload_n (pc := 1028) hx hb dL_law_1028 rfl (lv_at hl 3 rfl) ?_
  refine lv_iconst (pc := 1029) (v := 1) hx hb dL_law_1029 (by decide) ?_
  refine lv_iadd (pc := 1030) hx hb dL_law_1030 ?_
  refine va_sld (pc := 1031) hx hb hX hbl hbA hI.2.2 hv1 dL_law_1031 ?_
  refine lv_aload_n (pc := 1032) hx hb dL_law_1032 rfl (lv_at hl 0 rfl) ?_
  refine lv_iload_n (pc := 1033) hx hb dL_law_1033 rfl (lv_at hl 3 rfl) ?_
  refine lv_iconst (pc := 1034) (v := 2) hx hb dL_law_1034 (by decide) ?_
  refine lv_iadd (pc := 1035) hx hb dL_law_1035 ?_
  refine va_sld (pc := 1036) hx hb hX hbl hbA hI.2.2 hv2 dL_law_1036 ?_
  obtain ⟨rm, em, rx, ex, er, hR⟩ := op_cause hR (xs (nI i + 1).toNatClampNeg) (xs (nI i + 2).toNatClampNeg)
  refine x_cVs (pc := 1037) (st1 := [.int rx]) (w1 := ((xb G h x_hasImage f_places f_kinds f_weights f_howManyGenerators f_generators f_racks f_howManySeen f_seenFirst f_seenSecond f_seenIs f_seenPlaces f_howManyEvents f_eventWhat f_eventNumber g_places g_kinds g_weights g_howManyGenerators g_generators g_racks g_howManySeen g_seenFirst g_seenSecond g_seenIs g_seenPlaces g_howManyEvents g_eventWhat g_eventNumber n_m0 n_m1 n_m2 n_s0 n_s1 n_s2 v_keys v_asFound v_found v_turns v_places p_keys p_asFound p_found p_turns p_places i_sort i_howOften i_sorts i_moves n_uq n_u u_leasts u_howMany u_known n_wq n_w w_leasts w_howMany w_known t_signs t_length t_whole t_begins t_ends r_sorts r_numbers r_length) ++ ((tl G h tp ta ti sr ln it) ++ (mw G g z_thrown z_s z_kept z_isKept z_moveMany z_moves z_hands z_troubles z_troubleSorts z_troubleNumbers z_asked z_paint z_leasts z_isSeen z_classMany z_types z_typeCounts z_typeMany z_text z_signs z_at z_lacks z_clauses z_begun z_letters z_firsts z_seconds z_aside z_sorts z_sizes z_items)))) X E hI (c_X9_cause l G h ex) kv_L_123 hd_X9_cause ⟨rfl, rfl⟩ (by decide) 0 rfl rfl rfl rfl hl.1 rfl (Nat.le_of_ble_eq_true rfl) dL_law_1037 ⟨by show C + 0 ≤ room_1.cells; omega, by show S + 0 ≤ room_1.slots; omega⟩ rfl (fun H locs hI => ?_)
  refine lv_aload_n (pc := 1040) hx hb dL_law_1040 rfl (lv_at hl 2 rfl) ?_
  refine lv_aload_n (pc := 1041) hx hb dL_law_1041 rfl (lv_at hl 0 rfl) ?_
  refine lv_iload_n (pc := 1042) hx hb dL_law_1042 rfl (lv_at hl 3 rfl) ?_
  refine lv_iconst (pc := 1043) (v := 1) hx hb dL_law_1043 (by decide) ?_
  refine lv_iadd (pc := 1044) hx hb dL_law_1044 ?_
  refine va_sld (pc := 1045) hx hb hX hbl hbA hI.2.2 hv1 dL_law_1045 ?_
  refine lv_aload_n (pc := 1046) hx hb dL_law_1046 rfl (lv_at hl 0 rfl) ?_
  refine lv_iload_n (pc := 1047) hx hb dL_law_1047 rfl (lv_at hl 3 rfl) ?_
  refine lv_iconst (pc := 1048) (v := 2) hx hb dL_law_1048 (by decide) ?_
  refine lv_iadd (pc := 1049) hx hb dL_law_1049 ?_
  refine va_sld (pc := 1050) hx hb hX hbl hbA hI.2.2 hv2 dL_law_1050 ?_
  refine x_cVR (pc := 1051) (st1 := [.int rm, .int rx]) (w1 := (mw G g z_thrown z_s z_kept z_isKept z_moveMany z_moves z_hands z_troubles z_troubleSorts z_troubleNumbers z_asked z_paint z_leasts z_isSeen z_classMany z_types z_typeCounts z_typeMany z_text z_signs z_at z_lacks z_clauses z_begun z_letters z_firsts z_seconds z_aside z_sorts z_sizes z_items)) X E hI (c_X10_cause l G g em) kv_L_126 hd_X10_cause ⟨rfl, rfl⟩ (by decide) 0 rfl rfl rfl rfl hl.1 rfl (Nat.le_of_ble_eq_true rfl) dL_law_1051 ⟨by show C + 0 + 0 ≤ room_1.cells; omega, by show S + 0 + 0 ≤ room_1.slots; omega⟩ rfl (fun H locs hI => ?_)
  refine lv_icmp_eq (pc := 1054) (tgt := 1492) hx hb dL_law_1054 (by decide) (fun c1 => ?_) (fun c1 => ?_)
  rotate_left
  · exact absurd er c1
  refine W.widen (k := C + 1) (n := S + 4096) (by omega) (by omega) ?_
  exact kk _ _ _ ⟨h, g, n_m0, n_m1, n_m2, n_s0, n_s1, n_s2, n_uq, n_wq, tp, ta, ti, x_hasImage, f_places, f_kinds, f_weights, f_howManyGenerators, f_generators, f_racks, f_howManySeen, f_seenFirst, f_seenSecond, f_seenIs, f_seenPlaces, f_howManyEvents, f_eventWhat, f_eventNumber, g_places, g_kinds, g_weights, g_howManyGenerators, g_generators, g_racks, g_howManySeen, g_seenFirst, g_seenSecond, g_seenIs, g_seenPlaces, g_howManyEvents, g_eventWhat, g_eventNumber, v_keys, v_asFound, v_found, v_turns, v_places, p_keys, p_asFound, p_found, p_turns, p_places, i_sort, i_howOften, i_sorts, i_moves, n_u, u_leasts, u_howMany, u_known, n_w, w_leasts, w_howMany, w_known, t_signs, t_length, t_whole, t_begins, t_ends, r_sorts, r_numbers, r_length, sr, ln, it, z_thrown, z_s, z_kept, z_isKept, z_moveMany, z_moves, z_hands, z_troubles, z_troubleSorts, z_troubleNumbers, z_asked, z_paint, z_leasts, z_isSeen, z_classMany, z_types, z_typeCounts, z_typeMany, z_text, z_signs, z_at, z_lacks, z_clauses, z_begun, z_letters, z_firsts, z_seconds, z_aside, z_sorts, z_sizes, z_items, htp, hR, hI, hl⟩
set_option maxHeartbeats 8000000 in
set_option maxRecDepth 100000 in
theorem law_27 {rr : RT} (op_see : OP_see rr) {p : Program} {l : Launch} {e : Env} {s : State} {m : MethodId} {below : List Frame} {meth : Method} {c : Code} {b L : Nat} {xs : Nat → Int32} {A : Nat → Prop} {G : GX} {Q : State → Prop} (X : CX RL code 4 ret p s m #[Value.ref b] meth c) (E : EX G A s) (hX : va_X b L xs s s.heap) (hbl : b < s.heap.size) (hbA : ¬ A b) {i C S : Nat} (hi : i + 6 ≤ L) (hL : L ≤ 3072) (hC : C + 1 ≤ room_1.cells) (hS : S + 4096 ≤ room_1.slots) {H : Heap} {locs : List Loc} {ls : Array Slot} (hLI : LI rr G A s b i H locs ls)
    (kk : ∀ (H : Heap) (locs : List Loc) (ls : Array Slot), LI rr G A s b i H locs ls → W p l e room_1 s m #[Value.ref b] below meth c H locs (C + 1) (S + 4096) Q (F0 m 1492 ls [])) : W p l e room_1 s m #[Value.ref b] below meth c H locs C S Q (F0 m 1059 ls []) := by
  obtain ⟨hx, hb, hml, hown, hts, hr, hlk⟩ := id X
  obtain ⟨h, g, n_m0, n_m1, n_m2, n_s0, n_s1, n_s2, n_uq, n_wq, tp, ta, ti, x_hasImage, f_places, f_kinds, f_weights, f_howManyGenerators, f_generators, f_racks, f_howManySeen, f_seenFirst, f_seenSecond, f_seenIs, f_seenPlaces, f_howManyEvents, f_eventWhat, f_eventNumber, g_places, g_kinds, g_weights, g_howManyGenerators, g_generators, g_racks, g_howManySeen, g_seenFirst, g_seenSecond, g_seenIs, g_seenPlaces, g_howManyEvents, g_eventWhat, g_eventNumber, v_keys, v_asFound, v_found, v_turns, v_places, p_keys, p_asFound, p_found, p_turns, p_places, i_sort, i_howOften, i_sorts, i_moves, n_u, u_leasts, u_howMany, u_known, n_w, w_leasts, w_howMany, w_known, t_signs, t_length, t_whole, t_begins, t_ends, r_sorts, r_numbers, r_length, sr, ln, it, z_thrown, z_s, z_kept, z_isKept, z_moveMany, z_moves, z_hands, z_troubles, z_troubleSorts, z_troubleNumbers, z_asked, z_paint, z_leasts, z_isSeen, z_classMany, z_types, z_typeCounts, z_typeMany, z_text, z_signs, z_at, z_lacks, z_clauses, z_begun, z_letters, z_firsts, z_seconds, z_aside, z_sorts, z_sizes, z_items, htp, hR, hI, hl⟩ := hLI
  have hv1 := q_v1 hi hL
  have hv2 := q_v2 hi hL
  have hv3 := q_v3 hi hL
  have hv4 := q_v4 hi hL
  have hv5 := q_v5 hi hL
  refine lv_aload_n (pc := 1059) hx hb dL_law_1059 rfl (lv_at hl 1 rfl) ?_
  refine lv_aload_n (pc := 1060) hx hb dL_law_1060 rfl (lv_at hl 0 rfl) ?_
  refine lv_iload_n (pc := 1061) hx hb dL_law_1061 rfl (lv_at hl 3 rfl) ?_
  refine lv_iconst (pc := 1062) (v := 1) hx hb dL_law_1062 (by decide) ?_
  refine lv_iadd (pc := 1063) hx hb dL_law_1063 ?_
  refine va_sld (pc := 1064) hx hb hX hbl hbA hI.2.2 hv1 dL_law_1064 ?_
  refine lv_aload_n (pc := 1065) hx hb dL_law_1065 rfl (lv_at hl 0 rfl) ?_
  refine lv_iload_n (pc := 1066) hx hb dL_law_1066 rfl (lv_at hl 3 rfl) ?_
  refine lv_iconst (pc := 1067) (v := 2) hx hb dL_law_1067 (by decide) ?_
  refine lv_iadd (pc := 1068) hx hb dL_law_1068 ?_
  refine va_sld (pc := 1069) hx hb hX hbl hbA hI.2.2 hv2 dL_law_1069 ?_
  refine lv_aload_n (pc := 1070) hx hb dL_law_1070 rfl (lv_at hl 0 rfl) ?_
  refine lv_iload_n (pc := 1071) hx hb dL_law_1071 rfl (lv_at hl 3 rfl) ?_
  refine lv_iconst (pc := 1072) (v := 3) hx hb dL_law_1072 (by decide) ?_
  refine lv_iadd (pc := 1073) hx hb dL_law_1073 ?_
  refine va_sld (pc := 1074) hx hb hX hbl hbA hI.2.2 hv3 dL_law_1074 ?_
  refine lv_if_eq (pc := 1075) (tgt := 1082) hx hb dL_law_1075 (by decide) (fun cz => ?_) (fun cz => ?_)
  · refine lv_iconst (pc := 1082) (v := 0) hx hb dL_law_1082 (by decide) ?_
    obtain ⟨rm, em, rx, ex, er, hR⟩ := op_see hR (xs (nI i + 1).toNatClampNeg) (xs (nI i + 2).toNatClampNeg) 0
    refine x_cVs (pc := 1083) (st1 := [.int rx.1]) (w1 := ((xb G h x_hasImage f_places f_kinds f_weights f_howManyGenerators f_generators f_racks rx.2.1 rx.2.2.1 rx.2.2.2.1 rx.2.2.2.2.1 rx.2.2.2.2.2 f_howManyEvents f_eventWhat f_eventNumber g_places g_kinds g_weights g_howManyGenerators g_generators g_racks g_howManySeen g_seenFirst g_seenSecond g_seenIs g_seenPlaces g_howManyEvents g_eventWhat g_eventNumber n_m0 n_m1 n_m2 n_s0 n_s1 n_s2 v_keys v_asFound v_found v_turns v_places p_keys p_asFound p_found p_turns p_places i_sort i_howOften i_sorts i_moves n_uq n_u u_leasts u_howMany u_known n_wq n_w w_leasts w_howMany w_known t_signs t_length t_whole t_begins t_ends r_sorts r_numbers r_length) ++ ((tl G h tp ta ti sr ln it) ++ (mw G g z_thrown z_s z_kept z_isKept z_moveMany z_moves z_hands z_troubles z_troubleSorts z_troubleNumbers z_asked z_paint z_leasts z_isSeen z_classMany z_types z_typeCounts z_typeMany z_text z_signs z_at z_lacks z_clauses z_begun z_letters z_firsts z_seconds z_aside z_sorts z_sizes z_items)))) X E hI (c_X9_see l G h ex) kv_L_127 hd_X9_see ⟨rfl, rfl⟩ (by decide) 0 rfl rfl rfl rfl hl.1 rfl (Nat.le_of_ble_eq_true rfl) dL_law_1083 ⟨by show C + 0 ≤ room_1.cells; omega, by show S + 0 ≤ room_1.slots; omega⟩ rfl (fun H locs hI => ?_)
    refine lv_aload_n (pc := 1086) hx hb dL_law_1086 rfl (lv_at hl 2 rfl) ?_
    refine lv_aload_n (pc := 1087) hx hb dL_law_1087 rfl (lv_at hl 0 rfl) ?_
    refine lv_iload_n (pc := 1088) hx hb dL_law_1088 rfl (lv_at hl 3 rfl) ?_
    refine lv_iconst (pc := 1089) (v := 1) hx hb dL_law_1089 (by decide) ?_
    refine lv_iadd (pc := 1090) hx hb dL_law_1090 ?_
    refine va_sld (pc := 1091) hx hb hX hbl hbA hI.2.2 hv1 dL_law_1091 ?_
    refine lv_aload_n (pc := 1092) hx hb dL_law_1092 rfl (lv_at hl 0 rfl) ?_
    refine lv_iload_n (pc := 1093) hx hb dL_law_1093 rfl (lv_at hl 3 rfl) ?_
    refine lv_iconst (pc := 1094) (v := 2) hx hb dL_law_1094 (by decide) ?_
    refine lv_iadd (pc := 1095) hx hb dL_law_1095 ?_
    refine va_sld (pc := 1096) hx hb hX hbl hbA hI.2.2 hv2 dL_law_1096 ?_
    refine lv_aload_n (pc := 1097) hx hb dL_law_1097 rfl (lv_at hl 0 rfl) ?_
    refine lv_iload_n (pc := 1098) hx hb dL_law_1098 rfl (lv_at hl 3 rfl) ?_
    refine lv_iconst (pc := 1099) (v := 3) hx hb dL_law_1099 (by decide) ?_
    refine lv_iadd (pc := 1100) hx hb dL_law_1100 ?_
    refine va_sld (pc := 1101) hx hb hX hbl hbA hI.2.2 hv3 dL_law_1101 ?_
    refine lv_if_eq (pc := 1102) (tgt := 1109) hx hb dL_law_1102 (by decide) (fun c9 => ?_) (fun c9 => ?_)
    rotate_left
    · exact absurd cz c9
    refine lv_iconst (pc := 1109) (v := 0) hx hb dL_law_1109 (by decide) ?_
    refine x_cVR (pc := 1110) (st1 := [.int rm.1, .int rx.1]) (w1 := (mw G g z_thrown rm.2 z_kept z_isKept z_moveMany z_moves z_hands z_troubles z_troubleSorts z_troubleNumbers z_asked z_paint z_leasts z_isSeen z_classMany z_types z_typeCounts z_typeMany z_text z_signs z_at z_lacks z_clauses z_begun z_letters z_firsts z_seconds z_aside z_sorts z_sizes z_items)) X E hI (c_X10_see l G g em) kv_L_131 hd_X10_see ⟨rfl, rfl⟩ (by decide) 0 rfl rfl rfl rfl hl.1 rfl (Nat.le_of_ble_eq_true rfl) dL_law_1110 ⟨by show C + 0 + 0 ≤ room_1.cells; omega, by show S + 0 + 0 ≤ room_1.slots; omega⟩ rfl (fun H locs hI => ?_)
    refine lv_icmp_eq (pc := 1113) (tgt := 1492) hx hb dL_law_1113 (by decide) (fun c1 => ?_) (fun c1 => ?_)
    rotate_left
    · exact absurd er c1
    refine W.widen (k := C + 1) (n := S + 4096) (by omega) (by omega) ?_
    exact kk _ _ _ ⟨h, g, n_m0, n_m1, n_m2, n_s0, n_s1, n_s2, n_uq, n_wq, tp, ta, ti, x_hasImage, f_places, f_kinds, f_weights, f_howManyGenerators, f_generators, f_racks, rx.2.1, rx.2.2.1, rx.2.2.2.1, rx.2.2.2.2.1, rx.2.2.2.2.2, f_howManyEvents, f_eventWhat, f_eventNumber, g_places, g_kinds, g_weights, g_howManyGenerators, g_generators, g_racks, g_howManySeen, g_seenFirst, g_seenSecond, g_seenIs, g_seenPlaces, g_howManyEvents, g_eventWhat, g_eventNumber, v_keys, v_asFound, v_found, v_turns, v_places, p_keys, p_asFound, p_found, p_turns, p_places, i_sort, i_howOften, i_sorts, i_moves, n_u, u_leasts, u_howMany, u_known, n_w, w_leasts, w_howMany, w_known, t_signs, t_length, t_whole, t_begins, t_ends, r_sorts, r_numbers, r_length, sr, ln, it, z_thrown, rm.2, z_kept, z_isKept, z_moveMany, z_moves, z_hands, z_troubles, z_troubleSorts, z_troubleNumbers, z_asked, z_paint, z_leasts, z_isSeen, z_classMany, z_types, z_typeCounts, z_typeMany, z_text, z_signs, z_at, z_lacks, z_clauses, z_begun, z_letters, z_firsts, z_seconds, z_aside, z_sorts, z_sizes, z_items, htp, hR, hI, hl⟩
  · refine lv_iconst (pc := 1078) (v := 1) hx hb dL_law_1078 (by decide) ?_
    refine lv_goto (pc := 1079) (tgt := 1083) hx hb dL_law_1079 (by decide) ?_
    obtain ⟨rm, em, rx, ex, er, hR⟩ := op_see hR (xs (nI i + 1).toNatClampNeg) (xs (nI i + 2).toNatClampNeg) 1
    refine x_cVs (pc := 1083) (st1 := [.int rx.1]) (w1 := ((xb G h x_hasImage f_places f_kinds f_weights f_howManyGenerators f_generators f_racks rx.2.1 rx.2.2.1 rx.2.2.2.1 rx.2.2.2.2.1 rx.2.2.2.2.2 f_howManyEvents f_eventWhat f_eventNumber g_places g_kinds g_weights g_howManyGenerators g_generators g_racks g_howManySeen g_seenFirst g_seenSecond g_seenIs g_seenPlaces g_howManyEvents g_eventWhat g_eventNumber n_m0 n_m1 n_m2 n_s0 n_s1 n_s2 v_keys v_asFound v_found v_turns v_places p_keys p_asFound p_found p_turns p_places i_sort i_howOften i_sorts i_moves n_uq n_u u_leasts u_howMany u_known n_wq n_w w_leasts w_howMany w_known t_signs t_length t_whole t_begins t_ends r_sorts r_numbers r_length) ++ ((tl G h tp ta ti sr ln it) ++ (mw G g z_thrown z_s z_kept z_isKept z_moveMany z_moves z_hands z_troubles z_troubleSorts z_troubleNumbers z_asked z_paint z_leasts z_isSeen z_classMany z_types z_typeCounts z_typeMany z_text z_signs z_at z_lacks z_clauses z_begun z_letters z_firsts z_seconds z_aside z_sorts z_sizes z_items)))) X E hI (c_X9_see l G h ex) kv_L_127 hd_X9_see ⟨rfl, rfl⟩ (by decide) 0 rfl rfl rfl rfl hl.1 rfl (Nat.le_of_ble_eq_true rfl) dL_law_1083 ⟨by show C + 0 ≤ room_1.cells; omega, by show S + 0 ≤ room_1.slots; omega⟩ rfl (fun H locs hI => ?_)
    refine lv_aload_n (pc := 1086) hx hb dL_law_1086 rfl (lv_at hl 2 rfl) ?_
    refine lv_aload_n (pc := 1087) hx hb dL_law_1087 rfl (lv_at hl 0 rfl) ?_
    refine lv_iload_n (pc := 1088) hx hb dL_law_1088 rfl (lv_at hl 3 rfl) ?_
    refine lv_iconst (pc := 1089) (v := 1) hx hb dL_law_1089 (by decide) ?_
    refine lv_iadd (pc := 1090) hx hb dL_law_1090 ?_
    refine va_sld (pc := 1091) hx hb hX hbl hbA hI.2.2 hv1 dL_law_1091 ?_
    refine lv_aload_n (pc := 1092) hx hb dL_law_1092 rfl (lv_at hl 0 rfl) ?_
    refine lv_iload_n (pc := 1093) hx hb dL_law_1093 rfl (lv_at hl 3 rfl) ?_
    refine lv_iconst (pc := 1094) (v := 2) hx hb dL_law_1094 (by decide) ?_
    refine lv_iadd (pc := 1095) hx hb dL_law_1095 ?_
    refine va_sld (pc := 1096) hx hb hX hbl hbA hI.2.2 hv2 dL_law_1096 ?_
    refine lv_aload_n (pc := 1097) hx hb dL_law_1097 rfl (lv_at hl 0 rfl) ?_
    refine lv_iload_n (pc := 1098) hx hb dL_law_1098 rfl (lv_at hl 3 rfl) ?_
    refine lv_iconst (pc := 1099) (v := 3) hx hb dL_law_1099 (by decide) ?_
    refine lv_iadd (pc := 1100) hx hb dL_law_1100 ?_
    refine va_sld (pc := 1101) hx hb hX hbl hbA hI.2.2 hv3 dL_law_1101 ?_
    refine lv_if_eq (pc := 1102) (tgt := 1109) hx hb dL_law_1102 (by decide) (fun c9 => ?_) (fun c9 => ?_)
    · exact absurd c9 cz
    refine lv_iconst (pc := 1105) (v := 1) hx hb dL_law_1105 (by decide) ?_
    refine lv_goto (pc := 1106) (tgt := 1110) hx hb dL_law_1106 (by decide) ?_
    refine x_cVR (pc := 1110) (st1 := [.int rm.1, .int rx.1]) (w1 := (mw G g z_thrown rm.2 z_kept z_isKept z_moveMany z_moves z_hands z_troubles z_troubleSorts z_troubleNumbers z_asked z_paint z_leasts z_isSeen z_classMany z_types z_typeCounts z_typeMany z_text z_signs z_at z_lacks z_clauses z_begun z_letters z_firsts z_seconds z_aside z_sorts z_sizes z_items)) X E hI (c_X10_see l G g em) kv_L_131 hd_X10_see ⟨rfl, rfl⟩ (by decide) 0 rfl rfl rfl rfl hl.1 rfl (Nat.le_of_ble_eq_true rfl) dL_law_1110 ⟨by show C + 0 + 0 ≤ room_1.cells; omega, by show S + 0 + 0 ≤ room_1.slots; omega⟩ rfl (fun H locs hI => ?_)
    refine lv_icmp_eq (pc := 1113) (tgt := 1492) hx hb dL_law_1113 (by decide) (fun c1 => ?_) (fun c1 => ?_)
    rotate_left
    · exact absurd er c1
    refine W.widen (k := C + 1) (n := S + 4096) (by omega) (by omega) ?_
    exact kk _ _ _ ⟨h, g, n_m0, n_m1, n_m2, n_s0, n_s1, n_s2, n_uq, n_wq, tp, ta, ti, x_hasImage, f_places, f_kinds, f_weights, f_howManyGenerators, f_generators, f_racks, rx.2.1, rx.2.2.1, rx.2.2.2.1, rx.2.2.2.2.1, rx.2.2.2.2.2, f_howManyEvents, f_eventWhat, f_eventNumber, g_places, g_kinds, g_weights, g_howManyGenerators, g_generators, g_racks, g_howManySeen, g_seenFirst, g_seenSecond, g_seenIs, g_seenPlaces, g_howManyEvents, g_eventWhat, g_eventNumber, v_keys, v_asFound, v_found, v_turns, v_places, p_keys, p_asFound, p_found, p_turns, p_places, i_sort, i_howOften, i_sorts, i_moves, n_u, u_leasts, u_howMany, u_known, n_w, w_leasts, w_howMany, w_known, t_signs, t_length, t_whole, t_begins, t_ends, r_sorts, r_numbers, r_length, sr, ln, it, z_thrown, rm.2, z_kept, z_isKept, z_moveMany, z_moves, z_hands, z_troubles, z_troubleSorts, z_troubleNumbers, z_asked, z_paint, z_leasts, z_isSeen, z_classMany, z_types, z_typeCounts, z_typeMany, z_text, z_signs, z_at, z_lacks, z_clauses, z_begun, z_letters, z_firsts, z_seconds, z_aside, z_sorts, z_sizes, z_items, htp, hR, hI, hl⟩
