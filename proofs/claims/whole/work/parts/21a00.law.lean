set_option maxHeartbeats 8000000 in
set_option maxRecDepth 100000 in
theorem law_0 {rr : RT} (op_places : OP_places rr) {p : Program} {l : Launch} {e : Env} {s : State} {m : MethodId} {below : List Frame} {meth : Method} {c : Code} {b L : Nat} {xs : Nat → Int32} {A : Nat → Prop} {G : GX} {Q : State → Prop} (X : CX RL code 4 ret p s m #[Value.ref b] meth c) (E : EX G A s) (hX : va_X b L xs s s.heap) (hbl : b < s.heap.size) (hbA : ¬ A b) {i C S : Nat} (hi : i + 6 ≤ L) (hL : L ≤ 3072) (hC : C + 1 ≤ room_1.cells) (hS : S + 4096 ≤ room_1.slots) {H : Heap} {locs : List Loc} {ls : Array Slot} (hLI : LI rr G A s b i H locs ls)
    (kk : ∀ (H : Heap) (locs : List Loc) (ls : Array Slot), LI rr G A s b i H locs ls → W p l e room_1 s m #[Value.ref b] below meth c H locs (C + 1) (S + 4096) Q (F0 m 1492 ls [])) : W p l e room_1 s m #[Value.ref b] below meth c H locs C S Q (F0 m 204 ls []) := by
  obtain ⟨hx, hb, hml, hown, hts, hr, hlk⟩ := id X
  obtain ⟨h, g, n_m0, n_m1, n_m2, n_s0, n_s1, n_s2, n_uq, n_wq, tp, ta, ti, x_hasImage, f_places, f_kinds, f_weights, f_howManyGenerators, f_generators, f_racks, f_howManySeen, f_seenFirst, f_seenSecond, f_seenIs, f_seenPlaces, f_howManyEvents, f_eventWhat, f_eventNumber, g_places, g_kinds, g_weights, g_howManyGenerators, g_generators, g_racks, g_howManySeen, g_seenFirst, g_seenSecond, g_seenIs, g_seenPlaces, g_howManyEvents, g_eventWhat, g_eventNumber, v_keys, v_asFound, v_found, v_turns, v_places, p_keys, p_asFound, p_found, p_turns, p_places, i_sort, i_howOften, i_sorts, i_moves, n_u, u_leasts, u_howMany, u_known, n_w, w_leasts, w_howMany, w_known, t_signs, t_length, t_whole, t_begins, t_ends, r_sorts, r_numbers, r_length, sr, ln, it, z_thrown, z_s, z_kept, z_isKept, z_moveMany, z_moves, z_hands, z_troubles, z_troubleSorts, z_troubleNumbers, z_asked, z_paint, z_leasts, z_isSeen, z_classMany, z_types, z_typeCounts, z_typeMany, z_text, z_signs, z_at, z_lacks, z_clauses, z_begun, z_letters, z_firsts, z_seconds, z_aside, z_sorts, z_sizes, z_items, htp, hR, hI, hl⟩ := hLI
  have hv1 := q_v1 hi hL
  have hv2 := q_v2 hi hL
  have hv3 := q_v3 hi hL
  have hv4 := q_v4 hi hL
  have hv5 := q_v5 hi hL
  refine lv_aload_n (pc := 204) hx hb dL_law_204 rfl (lv_at hl 1 rfl) ?_
  refine lv_aload_n (pc := 205) hx hb dL_law_205 rfl (lv_at hl 0 rfl) ?_
  refine lv_iload_n (pc := 206) hx hb dL_law_206 rfl (lv_at hl 3 rfl) ?_
  refine lv_iconst (pc := 207) (v := 1) hx hb dL_law_207 (by decide) ?_
  refine lv_iadd (pc := 208) hx hb dL_law_208 ?_
  refine va_sld (pc := 209) hx hb hX hbl hbA hI.2.2 hv1 dL_law_209 ?_
  obtain ⟨rm, em, rx, ex, er, hR⟩ := op_places hR (xs (nI i + 1).toNatClampNeg)
  refine x_cVs (pc := 210) (st1 := [.int rx.1]) (w1 := ((xb G h x_hasImage rx.2.1 f_kinds f_weights rx.2.2.1 f_generators rx.2.2.2.1 f_howManySeen f_seenFirst f_seenSecond f_seenIs f_seenPlaces f_howManyEvents f_eventWhat f_eventNumber g_places g_kinds g_weights g_howManyGenerators g_generators g_racks g_howManySeen g_seenFirst g_seenSecond g_seenIs g_seenPlaces g_howManyEvents g_eventWhat g_eventNumber n_m0 n_m1 n_m2 n_s0 n_s1 n_s2 rx.2.2.2.2.1 rx.2.2.2.2.2.1 rx.2.2.2.2.2.2.1 rx.2.2.2.2.2.2.2.1 rx.2.2.2.2.2.2.2.2.1 p_keys p_asFound p_found p_turns p_places i_sort i_howOften i_sorts i_moves n_uq n_u u_leasts u_howMany rx.2.2.2.2.2.2.2.2.2.1 n_wq n_w w_leasts w_howMany rx.2.2.2.2.2.2.2.2.2.2 t_signs t_length t_whole t_begins t_ends r_sorts r_numbers r_length) ++ ((tl G h tp ta ti sr ln it) ++ (mw G g z_thrown z_s z_kept z_isKept z_moveMany z_moves z_hands z_troubles z_troubleSorts z_troubleNumbers z_asked z_paint z_leasts z_isSeen z_classMany z_types z_typeCounts z_typeMany z_text z_signs z_at z_lacks z_clauses z_begun z_letters z_firsts z_seconds z_aside z_sorts z_sizes z_items)))) X E hI (c_X9_places l G h ex) kv_L_13 hd_X9_places ⟨rfl, rfl⟩ (by decide) 0 rfl rfl rfl rfl hl.1 rfl (Nat.le_of_ble_eq_true rfl) dL_law_210 ⟨by show C + 0 ≤ room_1.cells; omega, by show S + 0 ≤ room_1.slots; omega⟩ rfl (fun H locs hI => ?_)
  refine lv_aload_n (pc := 213) hx hb dL_law_213 rfl (lv_at hl 2 rfl) ?_
  refine lv_aload_n (pc := 214) hx hb dL_law_214 rfl (lv_at hl 0 rfl) ?_
  refine lv_iload_n (pc := 215) hx hb dL_law_215 rfl (lv_at hl 3 rfl) ?_
  refine lv_iconst (pc := 216) (v := 1) hx hb dL_law_216 (by decide) ?_
  refine lv_iadd (pc := 217) hx hb dL_law_217 ?_
  refine va_sld (pc := 218) hx hb hX hbl hbA hI.2.2 hv1 dL_law_218 ?_
  refine x_cVR (pc := 219) (st1 := [.int rm.1, .int rx.1]) (w1 := (mw G g z_thrown rm.2 z_kept z_isKept z_moveMany z_moves z_hands z_troubles z_troubleSorts z_troubleNumbers z_asked z_paint z_leasts z_isSeen z_classMany z_types z_typeCounts z_typeMany z_text z_signs z_at z_lacks z_clauses z_begun z_letters z_firsts z_seconds z_aside z_sorts z_sizes z_items)) X E hI (c_X10_places l G g em) kv_L_17 hd_X10_places ⟨rfl, rfl⟩ (by decide) 0 rfl rfl rfl rfl hl.1 rfl (Nat.le_of_ble_eq_true rfl) dL_law_219 ⟨by show C + 0 + 0 ≤ room_1.cells; omega, by show S + 0 + 0 ≤ room_1.slots; omega⟩ rfl (fun H locs hI => ?_)
  refine lv_icmp_eq (pc := 222) (tgt := 1492) hx hb dL_law_222 (by decide) (fun c1 => ?_) (fun c1 => ?_)
  rotate_left
  · exact absurd er c1
  refine W.widen (k := C + 1) (n := S + 4096) (by omega) (by omega) ?_
  exact kk _ _ _ ⟨h, g, n_m0, n_m1, n_m2, n_s0, n_s1, n_s2, n_uq, n_wq, tp, ta, ti, x_hasImage, rx.2.1, f_kinds, f_weights, rx.2.2.1, f_generators, rx.2.2.2.1, f_howManySeen, f_seenFirst, f_seenSecond, f_seenIs, f_seenPlaces, f_howManyEvents, f_eventWhat, f_eventNumber, g_places, g_kinds, g_weights, g_howManyGenerators, g_generators, g_racks, g_howManySeen, g_seenFirst, g_seenSecond, g_seenIs, g_seenPlaces, g_howManyEvents, g_eventWhat, g_eventNumber, rx.2.2.2.2.1, rx.2.2.2.2.2.1, rx.2.2.2.2.2.2.1, rx.2.2.2.2.2.2.2.1, rx.2.2.2.2.2.2.2.2.1, p_keys, p_asFound, p_found, p_turns, p_places, i_sort, i_howOften, i_sorts, i_moves, n_u, u_leasts, u_howMany, rx.2.2.2.2.2.2.2.2.2.1, n_w, w_leasts, w_howMany, rx.2.2.2.2.2.2.2.2.2.2, t_signs, t_length, t_whole, t_begins, t_ends, r_sorts, r_numbers, r_length, sr, ln, it, z_thrown, rm.2, z_kept, z_isKept, z_moveMany, z_moves, z_hands, z_troubles, z_troubleSorts, z_troubleNumbers, z_asked, z_paint, z_leasts, z_isSeen, z_classMany, z_types, z_typeCounts, z_typeMany, z_text, z_signs, z_at, z_lacks, z_clauses, z_begun, z_letters, z_firsts, z_seconds, z_aside, z_sorts, z_sizes, z_items, htp, hR, hI, hl⟩
set_option maxHeartbeats 8000000 in
set_option maxRecDepth 100000 in
theorem law_1 {rr : RT} (op_kinds : OP_kinds rr) {p : Program} {l : Launch} {e : Env} {s : State} {m : MethodId} {below : List Frame} {meth : Method} {c : Code} {b L : Nat} {xs : Nat → Int32} {A : Nat → Prop} {G : GX} {Q : State → Prop} (X : CX RL code 4 ret p s m #[Value.ref b] meth c) (E : EX G A s) (hX : va_X b L xs s s.heap) (hbl : b < s.heap.size) (hbA : ¬ A b) {i C S : Nat} (hi : i + 6 ≤ L) (hL : L ≤ 3072) (hC : C + 1 ≤ room_1.cells) (hS : S + 4096 ≤ room_1.slots) {H : Heap} {locs : List Loc} {ls : Array Slot} (hLI : LI rr G A s b i H locs ls)
    (kk : ∀ (H : Heap) (locs : List Loc) (ls : Array Slot), LI rr G A s b i H locs ls → W p l e room_1 s m #[Value.ref b] below meth c H locs (C + 1) (S + 4096) Q (F0 m 1492 ls [])) : W p l e room_1 s m #[Value.ref b] below meth c H locs C S Q (F0 m 227 ls []) := by
  obtain ⟨hx, hb, hml, hown, hts, hr, hlk⟩ := id X
  obtain ⟨h, g, n_m0, n_m1, n_m2, n_s0, n_s1, n_s2, n_uq, n_wq, tp, ta, ti, x_hasImage, f_places, f_kinds, f_weights, f_howManyGenerators, f_generators, f_racks, f_howManySeen, f_seenFirst, f_seenSecond, f_seenIs, f_seenPlaces, f_howManyEvents, f_eventWhat, f_eventNumber, g_places, g_kinds, g_weights, g_howManyGenerators, g_generators, g_racks, g_howManySeen, g_seenFirst, g_seenSecond, g_seenIs, g_seenPlaces, g_howManyEvents, g_eventWhat, g_eventNumber, v_keys, v_asFound, v_found, v_turns, v_places, p_keys, p_asFound, p_found, p_turns, p_places, i_sort, i_howOften, i_sorts, i_moves, n_u, u_leasts, u_howMany, u_known, n_w, w_leasts, w_howMany, w_known, t_signs, t_length, t_whole, t_begins, t_ends, r_sorts, r_numbers, r_length, sr, ln, it, z_thrown, z_s, z_kept, z_isKept, z_moveMany, z_moves, z_hands, z_troubles, z_troubleSorts, z_troubleNumbers, z_asked, z_paint, z_leasts, z_isSeen, z_classMany, z_types, z_typeCounts, z_typeMany, z_text, z_signs, z_at, z_lacks, z_clauses, z_begun, z_letters, z_firsts, z_seconds, z_aside, z_sorts, z_sizes, z_items, htp, hR, hI, hl⟩ := hLI
  have hv1 := q_v1 hi hL
  have hv2 := q_v2 hi hL
  have hv3 := q_v3 hi hL
  have hv4 := q_v4 hi hL
  have hv5 := q_v5 hi hL
  refine lv_aload_n (pc := 227) hx hb dL_law_227 rfl (lv_at hl 1 rfl) ?_
  refine lv_aload_n (pc := 228) hx hb dL_law_228 rfl (lv_at hl 0 rfl) ?_
  refine lv_iload_n (pc := 229) hx hb dL_law_229 rfl (lv_at hl 3 rfl) ?_
  refine lv_iconst (pc := 230) (v := 1) hx hb dL_law_230 (by decide) ?_
  refine lv_iadd (pc := 231) hx hb dL_law_231 ?_
  refine va_sld (pc := 232) hx hb hX hbl hbA hI.2.2 hv1 dL_law_232 ?_
  obtain ⟨rm, em, rx, ex, er, hR⟩ := op_kinds hR (xs (nI i + 1).toNatClampNeg)
  refine x_cVs (pc := 233) (st1 := [.int rx.1]) (w1 := ((xb G h x_hasImage f_places rx.2.1 f_weights f_howManyGenerators f_generators f_racks f_howManySeen f_seenFirst f_seenSecond f_seenIs f_seenPlaces f_howManyEvents f_eventWhat f_eventNumber g_places g_kinds g_weights g_howManyGenerators g_generators g_racks g_howManySeen g_seenFirst g_seenSecond g_seenIs g_seenPlaces g_howManyEvents g_eventWhat g_eventNumber n_m0 n_m1 n_m2 n_s0 n_s1 n_s2 v_keys v_asFound v_found v_turns v_places p_keys p_asFound p_found p_turns p_places i_sort i_howOften i_sorts i_moves n_uq n_u u_leasts u_howMany rx.2.2.1 n_wq n_w w_leasts w_howMany rx.2.2.2 t_signs t_length t_whole t_begins t_ends r_sorts r_numbers r_length) ++ ((tl G h tp ta ti sr ln it) ++ (mw G g z_thrown z_s z_kept z_isKept z_moveMany z_moves z_hands z_troubles z_troubleSorts z_troubleNumbers z_asked z_paint z_leasts z_isSeen z_classMany z_types z_typeCounts z_typeMany z_text z_signs z_at z_lacks z_clauses z_begun z_letters z_firsts z_seconds z_aside z_sorts z_sizes z_items)))) X E hI (c_X9_kinds l G h ex) kv_L_18 hd_X9_kinds ⟨rfl, rfl⟩ (by decide) 0 rfl rfl rfl rfl hl.1 rfl (Nat.le_of_ble_eq_true rfl) dL_law_233 ⟨by show C + 0 ≤ room_1.cells; omega, by show S + 0 ≤ room_1.slots; omega⟩ rfl (fun H locs hI => ?_)
  refine lv_aload_n (pc := 236) hx hb dL_law_236 rfl (lv_at hl 2 rfl) ?_
  refine lv_aload_n (pc := 237) hx hb dL_law_237 rfl (lv_at hl 0 rfl) ?_
  refine lv_iload_n (pc := 238) hx hb dL_law_238 rfl (lv_at hl 3 rfl) ?_
  refine lv_iconst (pc := 239) (v := 1) hx hb dL_law_239 (by decide) ?_
  refine lv_iadd (pc := 240) hx hb dL_law_240 ?_
  refine va_sld (pc := 241) hx hb hX hbl hbA hI.2.2 hv1 dL_law_241 ?_
  refine x_cVR (pc := 242) (st1 := [.int rm.1, .int rx.1]) (w1 := (mw G g z_thrown rm.2 z_kept z_isKept z_moveMany z_moves z_hands z_troubles z_troubleSorts z_troubleNumbers z_asked z_paint z_leasts z_isSeen z_classMany z_types z_typeCounts z_typeMany z_text z_signs z_at z_lacks z_clauses z_begun z_letters z_firsts z_seconds z_aside z_sorts z_sizes z_items)) X E hI (c_X10_kinds l G g em) kv_L_21 hd_X10_kinds ⟨rfl, rfl⟩ (by decide) 0 rfl rfl rfl rfl hl.1 rfl (Nat.le_of_ble_eq_true rfl) dL_law_242 ⟨by show C + 0 + 0 ≤ room_1.cells; omega, by show S + 0 + 0 ≤ room_1.slots; omega⟩ rfl (fun H locs hI => ?_)
  refine lv_icmp_eq (pc := 245) (tgt := 1492) hx hb dL_law_245 (by decide) (fun c1 => ?_) (fun c1 => ?_)
  rotate_left
  · exact absurd er c1
  refine W.widen (k := C + 1) (n := S + 4096) (by omega) (by omega) ?_
  exact kk _ _ _ ⟨h, g, n_m0, n_m1, n_m2, n_s0, n_s1, n_s2, n_uq, n_wq, tp, ta, ti, x_hasImage, f_places, rx.2.1, f_weights, f_howManyGenerators, f_generators, f_racks, f_howManySeen, f_seenFirst, f_seenSecond, f_seenIs, f_seenPlaces, f_howManyEvents, f_eventWhat, f_eventNumber, g_places, g_kinds, g_weights, g_howManyGenerators, g_generators, g_racks, g_howManySeen, g_seenFirst, g_seenSecond, g_seenIs, g_seenPlaces, g_howManyEvents, g_eventWhat, g_eventNumber, v_keys, v_asFound, v_found, v_turns, v_places, p_keys, p_asFound, p_found, p_turns, p_places, i_sort, i_howOften, i_sorts, i_moves, n_u, u_leasts, u_howMany, rx.2.2.1, n_w, w_leasts, w_howMany, rx.2.2.2, t_signs, t_length, t_whole, t_begins, t_ends, r_sorts, r_numbers, r_length, sr, ln, it, z_thrown, rm.2, z_kept, z_isKept, z_moveMany, z_moves, z_hands, z_troubles, z_troubleSorts, z_troubleNumbers, z_asked, z_paint, z_leasts, z_isSeen, z_classMany, z_types, z_typeCounts, z_typeMany, z_text, z_signs, z_at, z_lacks, z_clauses, z_begun, z_letters, z_firsts, z_seconds, z_aside, z_sorts, z_sizes, z_items, htp, hR, hI, hl⟩
set_option maxHeartbeats 8000000 in
set_option maxRecDepth 100000 in
theorem law_2 {rr : RT} (op_weight : OP_weight rr) {p : Program} {l : Launch} {e : Env} {s : State} {m : MethodId} {below : List Frame} {meth : Method} {c : Code} {b L : Nat} {xs : Nat → Int32} {A : Nat → Prop} {G : GX} {Q : State → Prop} (X : CX RL code 4 ret p s m #[Value.ref b] meth c) (E : EX G A s) (hX : va_X b L xs s s.heap) (hbl : b < s.heap.size) (hbA : ¬ A b) {i C S : Nat} (hi : i + 6 ≤ L) (hL : L ≤ 3072) (hC : C + 1 ≤ room_1.cells) (hS : S + 4096 ≤ room_1.slots) {H : Heap} {locs : List Loc} {ls : Array Slot} (hLI : LI rr G A s b i H locs ls)
    (kk : ∀ (H : Heap) (locs : List Loc) (ls : Array Slot), LI rr G A s b i H locs ls → W p l e room_1 s m #[Value.ref b] below meth c H locs (C + 1) (S + 4096) Q (F0 m 1492 ls [])) : W p l e room_1 s m #[Value.ref b] below meth c H locs C S Q (F0 m 250 ls []) := by
  obtain ⟨hx, hb, hml, hown, hts, hr, hlk⟩ := id X
  obtain ⟨h, g, n_m0, n_m1, n_m2, n_s0, n_s1, n_s2, n_uq, n_wq, tp, ta, ti, x_hasImage, f_places, f_kinds, f_weights, f_howManyGenerators, f_generators, f_racks, f_howManySeen, f_seenFirst, f_seenSecond, f_seenIs, f_seenPlaces, f_howManyEvents, f_eventWhat, f_eventNumber, g_places, g_kinds, g_weights, g_howManyGenerators, g_generators, g_racks, g_howManySeen, g_seenFirst, g_seenSecond, g_seenIs, g_seenPlaces, g_howManyEvents, g_eventWhat, g_eventNumber, v_keys, v_asFound, v_found, v_turns, v_places, p_keys, p_asFound, p_found, p_turns, p_places, i_sort, i_howOften, i_sorts, i_moves, n_u, u_leasts, u_howMany, u_known, n_w, w_leasts, w_howMany, w_known, t_signs, t_length, t_whole, t_begins, t_ends, r_sorts, r_numbers, r_length, sr, ln, it, z_thrown, z_s, z_kept, z_isKept, z_moveMany, z_moves, z_hands, z_troubles, z_troubleSorts, z_troubleNumbers, z_asked, z_paint, z_leasts, z_isSeen, z_classMany, z_types, z_typeCounts, z_typeMany, z_text, z_signs, z_at, z_lacks, z_clauses, z_begun, z_letters, z_firsts, z_seconds, z_aside, z_sorts, z_sizes, z_items, htp, hR, hI, hl⟩ := hLI
  have hv1 := q_v1 hi hL
  have hv2 := q_v2 hi hL
  have hv3 := q_v3 hi hL
  have hv4 := q_v4 hi hL
  have hv5 := q_v5 hi hL
  refine lv_aload_n (pc := 250) hx hb dL_law_250 rfl (lv_at hl 1 rfl) ?_
  refine lv_aload_n (pc := 251) hx hb dL_law_251 rfl (lv_at hl 0 rfl) ?_
  refine lv_iload_n (pc := 252) hx hb dL_law_252 rfl (lv_at hl 3 rfl) ?_
  refine lv_iconst (pc := 253) (v := 1) hx hb dL_law_253 (by decide) ?_
  refine lv_iadd (pc := 254) hx hb dL_law_254 ?_
  refine va_sld (pc := 255) hx hb hX hbl hbA hI.2.2 hv1 dL_law_255 ?_
  refine lv_aload_n (pc := 256) hx hb dL_law_256 rfl (lv_at hl 0 rfl) ?_
  refine lv_iload_n (pc := 257) hx hb dL_law_257 rfl (lv_at hl 3 rfl) ?_
  refine lv_iconst (pc := 258) (v := 2) hx hb dL_law_258 (by decide) ?_
  refine lv_iadd (pc := 259) hx hb dL_law_259 ?_
  refine va_sld (pc := 260) hx hb hX hbl hbA hI.2.2 hv2 dL_law_260 ?_
  obtain ⟨rm, em, rx, ex, er, hR⟩ := op_weight hR (xs (nI i + 1).toNatClampNeg) (xs (nI i + 2).toNatClampNeg)
  refine x_cVs (pc := 261) (st1 := [.int rx.1]) (w1 := ((xb G h x_hasImage f_places f_kinds rx.2 f_howManyGenerators f_generators f_racks f_howManySeen f_seenFirst f_seenSecond f_seenIs f_seenPlaces f_howManyEvents f_eventWhat f_eventNumber g_places g_kinds g_weights g_howManyGenerators g_generators g_racks g_howManySeen g_seenFirst g_seenSecond g_seenIs g_seenPlaces g_howManyEvents g_eventWhat g_eventNumber n_m0 n_m1 n_m2 n_s0 n_s1 n_s2 v_keys v_asFound v_found v_turns v_places p_keys p_asFound p_found p_turns p_places i_sort i_howOften i_sorts i_moves n_uq n_u u_leasts u_howMany u_known n_wq n_w w_leasts w_howMany w_known t_signs t_length t_whole t_begins t_ends r_sorts r_numbers r_length) ++ ((tl G h tp ta ti sr ln it) ++ (mw G g z_thrown z_s z_kept z_isKept z_moveMany z_moves z_hands z_troubles z_troubleSorts z_troubleNumbers z_asked z_paint z_leasts z_isSeen z_classMany z_types z_typeCounts z_typeMany z_text z_signs z_at z_lacks z_clauses z_begun z_letters z_firsts z_seconds z_aside z_sorts z_sizes z_items)))) X E hI (c_X9_weight l G h ex) kv_L_22 hd_X9_weight ⟨rfl, rfl⟩ (by decide) 0 rfl rfl rfl rfl hl.1 rfl (Nat.le_of_ble_eq_true rfl) dL_law_261 ⟨by show C + 0 ≤ room_1.cells; omega, by show S + 0 ≤ room_1.slots; omega⟩ rfl (fun H locs hI => ?_)
  refine lv_aload_n (pc := 264) hx hb dL_law_264 rfl (lv_at hl 2 rfl) ?_
  refine lv_aload_n (pc := 265) hx hb dL_law_265 rfl (lv_at hl 0 rfl) ?_
  refine lv_iload_n (pc := 266) hx hb dL_law_266 rfl (lv_at hl 3 rfl) ?_
  refine lv_iconst (pc := 267) (v := 1) hx hb dL_law_267 (by decide) ?_
  refine lv_iadd (pc := 268) hx hb dL_law_268 ?_
  refine va_sld (pc := 269) hx hb hX hbl hbA hI.2.2 hv1 dL_law_269 ?_
  refine lv_aload_n (pc := 270) hx hb dL_law_270 rfl (lv_at hl 0 rfl) ?_
  refine lv_iload_n (pc := 271) hx hb dL_law_271 rfl (lv_at hl 3 rfl) ?_
  refine lv_iconst (pc := 272) (v := 2) hx hb dL_law_272 (by decide) ?_
  refine lv_iadd (pc := 273) hx hb dL_law_273 ?_
  refine va_sld (pc := 274) hx hb hX hbl hbA hI.2.2 hv2 dL_law_274 ?_
  refine x_cVR (pc := 275) (st1 := [.int rm.1, .int rx.1]) (w1 := (mw G g z_thrown rm.2 z_kept z_isKept z_moveMany z_moves z_hands z_troubles z_troubleSorts z_troubleNumbers z_asked z_paint z_leasts z_isSeen z_classMany z_types z_typeCounts z_typeMany z_text z_signs z_at z_lacks z_clauses z_begun z_letters z_firsts z_seconds z_aside z_sorts z_sizes z_items)) X E hI (c_X10_weight l G g em) kv_L_26 hd_X10_weight ⟨rfl, rfl⟩ (by decide) 0 rfl rfl rfl rfl hl.1 rfl (Nat.le_of_ble_eq_true rfl) dL_law_275 ⟨by show C + 0 + 0 ≤ room_1.cells; omega, by show S + 0 + 0 ≤ room_1.slots; omega⟩ rfl (fun H locs hI => ?_)
  refine lv_icmp_eq (pc := 278) (tgt := 1492) hx hb dL_law_278 (by decide) (fun c1 => ?_) (fun c1 => ?_)
  rotate_left
  · exact absurd er c1
  refine W.widen (k := C + 1) (n := S + 4096) (by omega) (by omega) ?_
  exact kk _ _ _ ⟨h, g, n_m0, n_m1, n_m2, n_s0, n_s1, n_s2, n_uq, n_wq, tp, ta, ti, x_hasImage, f_places, f_kinds, rx.2, f_howManyGenerators, f_generators, f_racks, f_howManySeen, f_seenFirst, f_seenSecond, f_seenIs, f_seenPlaces, f_howManyEvents, f_eventWhat, f_eventNumber, g_places, g_kinds, g_weights, g_howManyGenerators, g_generators, g_racks, g_howManySeen, g_seenFirst, g_seenSecond, g_seenIs, g_seenPlaces, g_howManyEvents, g_eventWhat, g_eventNumber, v_keys, v_asFound, v_found, v_turns, v_places, p_keys, p_asFound, p_found, p_turns, p_places, i_sort, i_howOften, i_sorts, i_moves, n_u, u_leasts, u_howMany, u_known, n_w, w_leasts, w_howMany, w_known, t_signs, t_length, t_whole, t_begins, t_ends, r_sorts, r_numbers, r_length, sr, ln, it, z_thrown, rm.2, z_kept, z_isKept, z_moveMany, z_moves, z_hands, z_troubles, z_troubleSorts, z_troubleNumbers, z_asked, z_paint, z_leasts, z_isSeen, z_classMany, z_types, z_typeCounts, z_typeMany, z_text, z_signs, z_at, z_lacks, z_clauses, z_begun, z_letters, z_firsts, z_seconds, z_aside, z_sorts, z_sizes, z_items, htp, hR, hI, hl⟩
set_option maxHeartbeats 8000000 in
set_option maxRecDepth 100000 in
theorem law_3 {rr : RT} (op_generator : OP_generator rr) {p : Program} {l : Launch} {e : Env} {s : State} {m : MethodId} {below : List Frame} {meth : Method} {c : Code} {b L : Nat} {xs : Nat → Int32} {A : Nat → Prop} {G : GX} {Q : State → Prop} (X : CX RL code 4 ret p s m #[Value.ref b] meth c) (E : EX G A s) (hX : va_X b L xs s s.heap) (hbl : b < s.heap.size) (hbA : ¬ A b) {i C S : Nat} (hi : i + 6 ≤ L) (hL : L ≤ 3072) (hC : C + 1 ≤ room_1.cells) (hS : S + 4096 ≤ room_1.slots) {H : Heap} {locs : List Loc} {ls : Array Slot} (hLI : LI rr G A s b i H locs ls)
    (kk : ∀ (H : Heap) (locs : List Loc) (ls : Array Slot), LI rr G A s b i H locs ls → W p l e room_1 s m #[Value.ref b] below meth c H locs (C + 1) (S + 4096) Q (F0 m 1492 ls [])) : W p l e room_1 s m #[Value.ref b] below meth c H locs C S Q (F0 m 283 ls []) := by
  obtain ⟨hx, hb, hml, hown, hts, hr, hlk⟩ := id X
  obtain ⟨h, g, n_m0, n_m1, n_m2, n_s0, n_s1, n_s2, n_uq, n_wq, tp, ta, ti, x_hasImage, f_places, f_kinds, f_weights, f_howManyGenerators, f_generators, f_racks, f_howManySeen, f_seenFirst, f_seenSecond, f_seenIs, f_seenPlaces, f_howManyEvents, f_eventWhat, f_eventNumber, g_places, g_kinds, g_weights, g_howManyGenerators, g_generators, g_racks, g_howManySeen, g_seenFirst, g_seenSecond, g_seenIs, g_seenPlaces, g_howManyEvents, g_eventWhat, g_eventNumber, v_keys, v_asFound, v_found, v_turns, v_places, p_keys, p_asFound, p_found, p_turns, p_places, i_sort, i_howOften, i_sorts, i_moves, n_u, u_leasts, u_howMany, u_known, n_w, w_leasts, w_howMany, w_known, t_signs, t_length, t_whole, t_begins, t_ends, r_sorts, r_numbers, r_length, sr, ln, it, z_thrown, z_s, z_kept, z_isKept, z_moveMany, z_moves, z_hands, z_troubles, z_troubleSorts, z_troubleNumbers, z_asked, z_paint, z_leasts, z_isSeen, z_classMany, z_types, z_typeCounts, z_typeMany, z_text, z_signs, z_at, z_lacks, z_clauses, z_begun, z_letters, z_firsts, z_seconds, z_aside, z_sorts, z_sizes, z_items, htp, hR, hI, hl⟩ := hLI
  have hv1 := q_v1 hi hL
  have hv2 := q_v2 hi hL
  have hv3 := q_v3 hi hL
  have hv4 := q_v4 hi hL
  have hv5 := q_v5 hi hL
  refine lv_aload_n (pc := 283) hx hb dL_law_283 rfl (lv_at hl 1 rfl) ?_
  refine lv_aload_n (pc := 284) hx hb dL_law_284 rfl (lv_at hl 0 rfl) ?_
  refine lv_iload_n (pc := 285) hx hb dL_law_285 rfl (lv_at hl 3 rfl) ?_
  refine lv_iconst (pc := 286) (v := 1) hx hb dL_law_286 (by decide) ?_
  refine lv_iadd (pc := 287) hx hb dL_law_287 ?_
  refine va_sld (pc := 288) hx hb hX hbl hbA hI.2.2 hv1 dL_law_288 ?_
  refine lv_aload_n (pc := 289) hx hb dL_law_289 rfl (lv_at hl 0 rfl) ?_
  refine lv_iload_n (pc := 290) hx hb dL_law_290 rfl (lv_at hl 3 rfl) ?_
  refine lv_iconst (pc := 291) (v := 2) hx hb dL_law_291 (by decide) ?_
  refine lv_iadd (pc := 292) hx hb dL_law_292 ?_
  refine va_sld (pc := 293) hx hb hX hbl hbA hI.2.2 hv2 dL_law_293 ?_
  obtain ⟨rm, em, rx, ex, er, hR⟩ := op_generator hR (xs (nI i + 1).toNatClampNeg) (xs (nI i + 2).toNatClampNeg) n_m0 n_m1 n_m2 n_s0 n_s1 n_s2
  refine x_cVs (pc := 294) (st1 := [.int rx.1]) (w1 := ((xb G h x_hasImage f_places f_kinds f_weights rx.2.1 rx.2.2.1 f_racks f_howManySeen f_seenFirst f_seenSecond f_seenIs f_seenPlaces f_howManyEvents f_eventWhat f_eventNumber g_places g_kinds g_weights g_howManyGenerators g_generators g_racks g_howManySeen g_seenFirst g_seenSecond g_seenIs g_seenPlaces g_howManyEvents g_eventWhat g_eventNumber rx.2.2.2.1 rx.2.2.2.2.1 rx.2.2.2.2.2.1 rx.2.2.2.2.2.2.1 rx.2.2.2.2.2.2.2.1 rx.2.2.2.2.2.2.2.2.1 rx.2.2.2.2.2.2.2.2.2.1 rx.2.2.2.2.2.2.2.2.2.2.1 rx.2.2.2.2.2.2.2.2.2.2.2.1 rx.2.2.2.2.2.2.2.2.2.2.2.2.1 rx.2.2.2.2.2.2.2.2.2.2.2.2.2.1 rx.2.2.2.2.2.2.2.2.2.2.2.2.2.2.1 rx.2.2.2.2.2.2.2.2.2.2.2.2.2.2.2.1 rx.2.2.2.2.2.2.2.2.2.2.2.2.2.2.2.2.1 rx.2.2.2.2.2.2.2.2.2.2.2.2.2.2.2.2.2.1 rx.2.2.2.2.2.2.2.2.2.2.2.2.2.2.2.2.2.2.1 i_sort i_howOften i_sorts i_moves n_uq n_u u_leasts u_howMany rx.2.2.2.2.2.2.2.2.2.2.2.2.2.2.2.2.2.2.2.1 n_wq n_w w_leasts w_howMany rx.2.2.2.2.2.2.2.2.2.2.2.2.2.2.2.2.2.2.2.2.1 t_signs t_length t_whole t_begins t_ends rx.2.2.2.2.2.2.2.2.2.2.2.2.2.2.2.2.2.2.2.2.2.1 rx.2.2.2.2.2.2.2.2.2.2.2.2.2.2.2.2.2.2.2.2.2.2.1 rx.2.2.2.2.2.2.2.2.2.2.2.2.2.2.2.2.2.2.2.2.2.2.2) ++ ((tl G h tp ta ti sr ln it) ++ (mw G g z_thrown z_s z_kept z_isKept z_moveMany z_moves z_hands z_troubles z_troubleSorts z_troubleNumbers z_asked z_paint z_leasts z_isSeen z_classMany z_types z_typeCounts z_typeMany z_text z_signs z_at z_lacks z_clauses z_begun z_letters z_firsts z_seconds z_aside z_sorts z_sizes z_items)))) X E hI (c_X9_generator l G h ex) kv_L_27 hd_X9_generator ⟨rfl, rfl⟩ (by decide) 0 rfl rfl rfl rfl hl.1 rfl (Nat.le_of_ble_eq_true rfl) dL_law_294 ⟨by show C + 0 ≤ room_1.cells; omega, by show S + 0 ≤ room_1.slots; omega⟩ rfl (fun H locs hI => ?_)
  refine lv_aload_n (pc := 297) hx hb dL_law_297 rfl (lv_at hl 2 rfl) ?_
  refine lv_aload_n (pc := 298) hx hb dL_law_298 rfl (lv_at hl 0 rfl) ?_
  refine lv_iload_n (pc := 299) hx hb dL_law_299 rfl (lv_at hl 3 rfl) ?_
  refine lv_iconst (pc := 300) (v := 1) hx hb dL_law_300 (by decide) ?_
  refine lv_iadd (pc := 301) hx hb dL_law_301 ?_
  refine va_sld (pc := 302) hx hb hX hbl hbA hI.2.2 hv1 dL_law_302 ?_
  refine lv_aload_n (pc := 303) hx hb dL_law_303 rfl (lv_at hl 0 rfl) ?_
  refine lv_iload_n (pc := 304) hx hb dL_law_304 rfl (lv_at hl 3 rfl) ?_
  refine lv_iconst (pc := 305) (v := 2) hx hb dL_law_305 (by decide) ?_
  refine lv_iadd (pc := 306) hx hb dL_law_306 ?_
  refine va_sld (pc := 307) hx hb hX hbl hbA hI.2.2 hv2 dL_law_307 ?_
  refine x_cVR (pc := 308) (st1 := [.int rm.1, .int rx.1]) (w1 := (mw G g z_thrown rm.2.1 z_kept z_isKept rm.2.2.1 rm.2.2.2.1 rm.2.2.2.2.1 rm.2.2.2.2.2.1 rm.2.2.2.2.2.2.1 rm.2.2.2.2.2.2.2 z_asked z_paint z_leasts z_isSeen z_classMany z_types z_typeCounts z_typeMany z_text z_signs z_at z_lacks z_clauses z_begun z_letters z_firsts z_seconds z_aside z_sorts z_sizes z_items)) X E hI (c_X10_generator l G g em) kv_L_30 hd_X10_generator ⟨rfl, rfl⟩ (by decide) 0 rfl rfl rfl rfl hl.1 rfl (Nat.le_of_ble_eq_true rfl) dL_law_308 ⟨by show C + 0 + 0 ≤ room_1.cells; omega, by show S + 0 + 0 ≤ room_1.slots; omega⟩ rfl (fun H locs hI => ?_)
  refine lv_icmp_eq (pc := 311) (tgt := 1492) hx hb dL_law_311 (by decide) (fun c1 => ?_) (fun c1 => ?_)
  rotate_left
  · exact absurd er c1
  refine W.widen (k := C + 1) (n := S + 4096) (by omega) (by omega) ?_
  exact kk _ _ _ ⟨h, g, rx.2.2.2.1, rx.2.2.2.2.1, rx.2.2.2.2.2.1, rx.2.2.2.2.2.2.1, rx.2.2.2.2.2.2.2.1, rx.2.2.2.2.2.2.2.2.1, n_uq, n_wq, tp, ta, ti, x_hasImage, f_places, f_kinds, f_weights, rx.2.1, rx.2.2.1, f_racks, f_howManySeen, f_seenFirst, f_seenSecond, f_seenIs, f_seenPlaces, f_howManyEvents, f_eventWhat, f_eventNumber, g_places, g_kinds, g_weights, g_howManyGenerators, g_generators, g_racks, g_howManySeen, g_seenFirst, g_seenSecond, g_seenIs, g_seenPlaces, g_howManyEvents, g_eventWhat, g_eventNumber, rx.2.2.2.2.2.2.2.2.2.1, rx.2.2.2.2.2.2.2.2.2.2.1, rx.2.2.2.2.2.2.2.2.2.2.2.1, rx.2.2.2.2.2.2.2.2.2.2.2.2.1, rx.2.2.2.2.2.2.2.2.2.2.2.2.2.1, rx.2.2.2.2.2.2.2.2.2.2.2.2.2.2.1, rx.2.2.2.2.2.2.2.2.2.2.2.2.2.2.2.1, rx.2.2.2.2.2.2.2.2.2.2.2.2.2.2.2.2.1, rx.2.2.2.2.2.2.2.2.2.2.2.2.2.2.2.2.2.1, rx.2.2.2.2.2.2.2.2.2.2.2.2.2.2.2.2.2.2.1, i_sort, i_howOften, i_sorts, i_moves, n_u, u_leasts, u_howMany, rx.2.2.2.2.2.2.2.2.2.2.2.2.2.2.2.2.2.2.2.1, n_w, w_leasts, w_howMany, rx.2.2.2.2.2.2.2.2.2.2.2.2.2.2.2.2.2.2.2.2.1, t_signs, t_length, t_whole, t_begins, t_ends, rx.2.2.2.2.2.2.2.2.2.2.2.2.2.2.2.2.2.2.2.2.2.1, rx.2.2.2.2.2.2.2.2.2.2.2.2.2.2.2.2.2.2.2.2.2.2.1, rx.2.2.2.2.2.2.2.2.2.2.2.2.2.2.2.2.2.2.2.2.2.2.2, sr, ln, it, z_thrown, rm.2.1, z_kept, z_isKept, rm.2.2.1, rm.2.2.2.1, rm.2.2.2.2.1, rm.2.2.2.2.2.1, rm.2.2.2.2.2.2.1, rm.2.2.2.2.2.2.2, z_asked, z_paint, z_leasts, z_isSeen, z_classMany, z_types, z_typeCounts, z_typeMany, z_text, z_signs, z_at, z_lacks, z_clauses, z_begun, z_letters, z_firsts, z_seconds, z_aside, z_sorts, z_sizes, z_items, htp, hR, hI, hl⟩
