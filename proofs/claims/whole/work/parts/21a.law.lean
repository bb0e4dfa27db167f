set_option maxHeartbeats 8000000 in
set_option maxRecDepth 100000 in
theorem law_0 {rr : RT} (op_places : OP_places rr) {p : Program} {l : Launch} {e : Env} {s : State} {m : MethodId} {below : List Frame} {meth : Method} {c : Code} {b L : Nat} {xs : Nat → Int32} {A : Nat → Prop} {G : GX} {Q : State → Prop} (X : CX RL code 4 ret p s m #[Value.ref b] meth c) (E : EX G A s) (hX : va_X b L xs s s.heap) (hbl : b < s.heap.size) (hbA : ¬ A b) {i C S : Nat} (hi : i + 6 ≤ L) (hL : L ≤ 3072) (hC : C + 1 ≤ 600000) (hS : S + 4096 ≤ 7302249) {H : Heap} {locs : List Loc} {ls : Array Slot} (hLI : LI rr G A s b i H locs ls)
    (kk : ∀ (H : Heap) (locs : List Loc) (ls : Array Slot), LI rr G A s b i H locs ls → W p l e room_1 s m #[Value.ref b] below meth c H locs (C + 1) (S + 4096) Q (F0 m 1492 ls [])) : W p l e room_1 s m #[Value.ref b] below meth c H locs C S Q (F0 m 204 ls []) := by
  obtain ⟨hx, hb, hml, hown, hts, hr, hlk⟩ := id X
  obtain ⟨h, g, n_m0, n_m1, n_m2, n_s0, n_s1, n_s2, n_uq, n_wq, tp, ta, ti, x_hasImage, f_places, f_kinds, f_weights, f_howManyGenerators, f_generators, f_racks, f_howManySeen, f_seenFirst, f_seenSecond, f_seenIs, f_seenPlaces, f_howManyEvents, f_eventWhat, f_eventNumber, g_places, g_kinds, g_weights, g_howManyGenerators, g_generators, g_racks, g_howManySeen, g_seenFirst, g_seenSecond, g_seenIs, g_seenPlaces, g_howManyEvents, g_eventWhat, g_eventNumber, v_keys, v_asFound, v_found, v_turns, v_places, p_keys, p_asFound, p_found, p_turns, p_places, i_sort, i_howOften, i_sorts, i_moves, n_u, u_leasts, u_howMany, u_known, n_w, w_leasts, w_howMany, w_known, t_signs, t_length, t_whole, t_begins, t_ends, r_sorts, r_numbers, r_length, sr, ln, it, z_thrown, z_s, z_kept, z_isKept, z_moveMany, z_moves, z_hands, z_troubles, z_troubleSorts, z_troubleNumbers, z_asked, z_paint, z_leasts, z_isSeen, z_classMany, z_types, z_typeCounts, z_typeMany, z_text, z_signs, z_at, z_lacks, z_clauses, z_begun, z_letters, z_firsts, z_seconds, z_aside, z_sorts, z_sizes, z_items, htp, hR, hI, hl⟩ := hLI
  have hv1 := q_v1 hi hL
  have hv2 := q_v2 hi hL
  have hv3 := q_v3 hi hL
  have hv4 := q_v4 hi hL
  have hv5 := q_v5 hi hL
  refine lv_aload_n (pc := 204) hx hb dL_law_204 rfl (lv_at hl 1 rfl) ?_
  refine lv_aload_n (pc := 205) hx hb dL_law_205 rfl (lv_at hl 0 rfl) ?_
  refine lv_iload_n (pc := 206) hx hb dL_law_206 rfl (lv_at hl 3 rfl) ?_
  refine lv_iconst (pc := 207) (v := 1) hx hb dL_law_207 (by decide) ?_
  refine lv_iadd (pc := 208) hx hb dL_law_208 ?_
  refine va_sld (pc := 209) hx hb hX hbl hbA hI.2.2 hv1 dL_law_209 ?_
  obtain ⟨rm, em, rx, ex, er, hR⟩ := op_places hR (xs (nI i + 1).toNatClampNeg)
  refine x_cVs (pc := 210) (st1 := [.int rx.1]) (w1 := ((xb G h x_hasImage rx.2.1 f_kinds f_weights rx.2.2.1 f_generators rx.2.2.2.1 f_howManySeen f_seenFirst f_seenSecond f_seenIs f_seenPlaces f_howManyEvents f_eventWhat f_eventNumber g_places g_kinds g_weights g_howManyGenerators g_generators g_racks g_howManySeen g_seenFirst g_seenSecond g_seenIs g_seenPlaces g_howManyEvents g_eventWhat g_eventNumber n_m0 n_m1 n_m2 n_s0 n_s1 n_s2 rx.2.2.2.2.1 rx.2.2.2.2.2.1 rx.2.2.2.2.2.2.1 rx.2.2.2.2.2.2.2.1 rx.2.2.2.2.2.2.2.2.1 p_keys p_asFound p_found p_turns p_places i_sort i_howOften i_sorts i_moves n_uq n_u u_leasts u_howMany rx.2.2.2.2.2.2.2.2.2.1 n_wq n_w w_leasts w_howMany rx.2.2.2.2.2.2.2.2.2.2 t_signs t_length t_whole t_begins t_ends r_sorts r_numbers r_length) ++ ((tl G h tp ta ti sr ln it) ++ (mw G g z_thrown z_s z_kept z_isKept z_moveMany z_moves z_hands z_troubles z_troubleSorts z_troubleNumbers z_asked z_paint z_leasts z_isSeen z_classMany z_types z_typeCounts z_typeMany z_text z_signs z_at z_lacks z_clauses z_begun z_letters z_firsts z_seconds z_aside z_sorts z_sizes z_items)))) X E hI (c_X9_places l G h ex) kv_L_13 hd_X9_places ⟨rfl, rfl⟩ (by decide) 0 rfl rfl rfl rfl hl.1 rfl (Nat.le_of_ble_eq_true rfl) dL_law_210 ⟨by show C + 0 ≤ 600000; omega, by show S + 0 ≤ 7302249; omega⟩ rfl (fun H locs hI => ?_)
  refine lv_aload_n (pc := 213) hx hb dL_law_213 rfl (lv_at hl 2 rfl) ?_
  refine lv_aload_n (pc := 214) hx hb dL_law_214 rfl (lv_at hl 0 rfl) ?_
  refine lv_iload_n (pc := 215) hx hb dL_law_215 rfl (lv_at hl 3 rfl) ?_
  refine lv_iconst (pc := 216) (v := 1) hx hb dL_law_216 (by decide) ?_
  refine lv_iadd (pc := 217) hx hb dL_law_217 ?_
  refine va_sld (pc := 218) hx hb hX hbl hbA hI.2.2 hv1 dL_law_218 ?_
  refine x_cVR (pc := 219) (st1 := [.int rm.1, .int rx.1]) (w1 := (mw G g z_thrown rm.2 z_kept z_isKept z_moveMany z_moves z_hands z_troubles z_troubleSorts z_troubleNumbers z_asked z_paint z_leasts z_isSeen z_classMany z_types z_typeCounts z_typeMany z_text z_signs z_at z_lacks z_clauses z_begun z_letters z_firsts z_seconds z_aside z_sorts z_sizes z_items)) X E hI (c_X10_places l G g em) kv_L_17 hd_X10_places ⟨rfl, rfl⟩ (by decide) 0 rfl rfl rfl rfl hl.1 rfl (Nat.le_of_ble_eq_true rfl) dL_law_219 ⟨by show C + 0 + 0 ≤ 600000; omega, by show S + 0 + 0 ≤ 7302249; omega⟩ rfl (fun H locs hI => ?_)
  refine lv_icmp_eq (pc := 222) (tgt := 1492) hx hb dL_law_222 (by decide) (fun c1 => ?_) (fun c1 => ?_)
  rotate_left
  · exact absurd er c1
  refine W.widen (k := C + 1) (n := S + 4096) (by omega) (by omega) ?_
  exact kk _ _ _ ⟨h, g, n_m0, n_m1, n_m2, n_s0, n_s1, n_s2, n_uq, n_wq, tp, ta, ti, x_hasImage, rx.2.1, f_kinds, f_weights, rx.2.2.1, f_generators, rx.2.2.2.1, f_howManySeen, f_seenFirst, f_seenSecond, f_seenIs, f_seenPlaces, f_howManyEvents, f_eventWhat, f_eventNumber, g_places, g_kinds, g_weights, g_howManyGenerators, g_generators, g_racks, g_howManySeen, g_seenFirst, g_seenSecond, g_seenIs, g_seenPlaces, g_howManyEvents, g_eventWhat, g_eventNumber, rx.2.2.2.2.1, rx.2.2.2.2.2.1, rx.2.2.2.2.2.2.1, rx.2.2.2.2.2.2.2.1, rx.2.2.2.2.2.2.2.2.1, p_keys, p_asFound, p_found, p_turns, p_places, i_sort, i_howOften, i_sorts, i_moves, n_u, u_leasts, u_howMany, rx.2.2.2.2.2.2.2.2.2.1, n_w, w_leasts, w_howMany, rx.2.2.2.2.2.2.2.2.2.2, t_signs, t_length, t_whole, t_begins, t_ends, r_sorts, r_numbers, r_length, sr, ln, it, z_thrown, rm.2, z_kept, z_isKept, z_moveMany, z_moves, z_hands, z_troubles, z_troubleSorts, z_troubleNumbers, z_asked, z_paint, z_leasts, z_isSeen, z_classMany, z_types, z_typeCounts, z_typeMany, z_text, z_signs, z_at, z_lacks, z_clauses, z_begun, z_letters, z_firsts, z_seconds, z_aside, z_sorts, z_sizes, z_items, htp, hR, hI, hl⟩
set_option maxHeartbeats 8000000 in
set_option maxRecDepth 100000 in
theorem law_1 {rr : RT} (op_kinds : OP_kinds rr) {p : Program} {l : Launch} {e : Env} {s : State} {m : MethodId} {below : List Frame} {meth : Method} {c : Code} {b L : Nat} {xs : Nat → Int32} {A : Nat → Prop} {G : GX} {Q : State → Prop} (X : CX RL code 4 ret p s m #[Value.ref b] meth c) (E : EX G A s) (hX : va_X b L xs s s.heap) (hbl : b < s.heap.size) (hbA : ¬ A b) {i C S : Nat} (hi : i + 6 ≤ L) (hL : L ≤ 3072) (hC : C + 1 ≤ 600000) (hS : S + 4096 ≤ 7302249) {H : Heap} {locs : List Loc} {ls : Array Slot} (hLI : LI rr G A s b i H locs ls)
    (kk : ∀ (H : Heap) (locs : List Loc) (ls : Array Slot), LI rr G A s b i H locs ls → W p l e room_1 s m #[Value.ref b] below meth c H locs (C + 1) (S + 4096) Q (F0 m 1492 ls [])) : W p l e room_1 s m #[Value.ref b] below meth c H locs C S Q (F0 m 227 ls []) := by
  obtain ⟨hx, hb, hml, hown, hts, hr, hlk⟩ := id X
  obtain ⟨h, g, n_m0, n_m1, n_m2, n_s0, n_s1, n_s2, n_uq, n_wq, tp, ta, ti, x_hasImage, f_places, f_kinds, f_weights, f_howManyGenerators, f_generators, f_racks, f_howManySeen, f_seenFirst, f_seenSecond, f_seenIs, f_seenPlaces, f_howManyEvents, f_eventWhat, f_eventNumber, g_places, g_kinds, g_weights, g_howManyGenerators, g_generators, g_racks, g_howManySeen, g_seenFirst, g_seenSecond, g_seenIs, g_seenPlaces, g_howManyEvents, g_eventWhat, g_eventNumber, v_keys, v_asFound, v_found, v_turns, v_places, p_keys, p_asFound, p_found, p_turns, p_places, i_sort, i_howOften, i_sorts, i_moves, n_u, u_leasts, u_howMany, u_known, n_w, w_leasts, w_howMany, w_known, t_signs, t_length, t_whole, t_begins, t_ends, r_sorts, r_numbers, r_length, sr, ln, it, z_thrown, z_s, z_kept, z_isKept, z_moveMany, z_moves, z_hands, z_troubles, z_troubleSorts, z_troubleNumbers, z_asked, z_paint, z_leasts, z_isSeen, z_classMany, z_types, z_typeCounts, z_typeMany, z_text, z_signs, z_at, z_lacks, z_clauses, z_begun, z_letters, z_firsts, z_seconds, z_aside, z_sorts, z_sizes, z_items, htp, hR, hI, hl⟩ := hLI
  have hv1 := q_v1 hi hL
  have hv2 := q_v2 hi hL
  have hv3 := q_v3 hi hL
  have hv4 := q_v4 hi hL
  have hv5 := q_v5 hi hL
  refine lv_aload_n (pc := 227) hx hb dL_law_227 rfl (lv_at hl 1 rfl) ?_
  refine lv_aload_n (pc := 228) hx hb dL_law_228 rfl (lv_at hl 0 rfl) ?_
  refine lv_iload_n (pc := 229) hx hb dL_law_229 rfl (lv_at hl 3 rfl) ?_
  refine lv_iconst (pc := 230) (v := 1) hx hb dL_law_230 (by decide) ?_
  refine lv_iadd (pc := 231) hx hb dL_law_231 ?_
  refine va_sld (pc := 232) hx hb hX hbl hbA hI.2.2 hv1 dL_law_232 ?_
  obtain ⟨rm, em, rx, ex, er, hR⟩ := op_kinds hR (xs (nI i + 1).toNatClampNeg)
  refine x_cVs (pc := 233) (st1 := [.int rx.1]) (w1 := ((xb G h x_hasImage f_places rx.2.1 f_weights f_howManyGenerators f_generators f_racks f_howManySeen f_seenFirst f_seenSecond f_seenIs f_seenPlaces f_howManyEvents f_eventWhat f_eventNumber g_places g_kinds g_weights g_howManyGenerators g_generators g_racks g_howManySeen g_seenFirst g_seenSecond g_seenIs g_seenPlaces g_howManyEvents g_eventWhat g_eventNumber n_m0 n_m1 n_m2 n_s0 n_s1 n_s2 v_keys v_asFound v_found v_turns v_places p_keys p_asFound p_found p_turns p_places i_sort i_howOften i_sorts i_moves n_uq n_u u_leasts u_howMany rx.2.2.1 n_wq n_w w_leasts w_howMany rx.2.2.2 t_signs t_length t_whole t_begins t_ends r_sorts r_numbers r_length) ++ ((tl G h tp ta ti sr ln it) ++ (mw G g z_thrown z_s z_kept z_isKept z_moveMany z_moves z_hands z_troubles z_troubleSorts z_troubleNumbers z_asked z_paint z_leasts z_isSeen z_classMany z_types z_typeCounts z_typeMany z_text z_signs z_at z_lacks z_clauses z_begun z_letters z_firsts z_seconds z_aside z_sorts z_sizes z_items)))) X E hI (c_X9_kinds l G h ex) kv_L_18 hd_X9_kinds ⟨rfl, rfl⟩ (by decide) 0 rfl rfl rfl rfl hl.1 rfl (Nat.le_of_ble_eq_true rfl) dL_law_233 ⟨by show C + 0 ≤ 600000; omega, by show S + 0 ≤ 7302249; omega⟩ rfl (fun H locs hI => ?_)
  refine lv_aload_n (pc := 236) hx hb dL_law_236 rfl (lv_at hl 2 rfl) ?_
  refine lv_aload_n (pc := 237) hx hb dL_law_237 rfl (lv_at hl 0 rfl) ?_
  refine lv_iload_n (pc := 238) hx hb dL_law_238 rfl (lv_at hl 3 rfl) ?_
  refine lv_iconst (pc := 239) (v := 1) hx hb dL_law_239 (by decide) ?_
  refine lv_iadd (pc := 240) hx hb dL_law_240 ?_
  refine va_sld (pc := 241) hx hb hX hbl hbA hI.2.2 hv1 dL_law_241 ?_
  refine x_cVR (pc := 242) (st1 := [.int rm.1, .int rx.1]) (w1 := (mw G g z_thrown rm.2 z_kept z_isKept z_moveMany z_moves z_hands z_troubles z_troubleSorts z_troubleNumbers z_asked z_paint z_leasts z_isSeen z_classMany z_types z_typeCounts z_typeMany z_text z_signs z_at z_lacks z_clauses z_begun z_letters z_firsts z_seconds z_aside z_sorts z_sizes z_items)) X E hI (c_X10_kinds l G g em) kv_L_21 hd_X10_kinds ⟨rfl, rfl⟩ (by decide) 0 rfl rfl rfl rfl hl.1 rfl (Nat.le_of_ble_eq_true rfl) dL_law_242 ⟨by show C + 0 + 0 ≤ 600000; omega, by show S + 0 + 0 ≤ 7302249; omega⟩ rfl (fun H locs hI => ?_)
  refine lv_icmp_eq (pc := 245) (tgt := 1492) hx hb dL_law_245 (by decide) (fun c1 => ?_) (fun c1 => ?_)
  rotate_left
  · exact absurd er c1
  refine W.widen (k := C + 1) (n := S + 4096) (by omega) (by omega) ?_
  exact kk _ _ _ ⟨h, g, n_m0, n_m1, n_m2, n_s0, n_s1, n_s2, n_uq, n_wq, tp, ta, ti, x_hasImage, f_places, rx.2.1, f_weights, f_howManyGenerators, f_generators, f_racks, f_howManySeen, f_seenFirst, f_seenSecond, f_seenIs, f_seenPlaces, f_howManyEvents, f_eventWhat, f_eventNumber, g_places, g_kinds, g_weights, g_howManyGenerators, g_generators, g_racks, g_howManySeen, g_seenFirst, g_seenSecond, g_seenIs, g_seenPlaces, g_howManyEvents, g_eventWhat, g_eventNumber, v_keys, v_asFound, v_found, v_turns, v_places, p_keys, p_asFound, p_found, p_turns, p_places, i_sort, i_howOften, i_sorts, i_moves, n_u, u_leasts, u_howMany, rx.2.2.1, n_w, w_leasts, w_howMany, rx.2.2.2, t_signs, t_length, t_whole, t_begins, t_ends, r_sorts, r_numbers, r_length, sr, ln, it, z_thrown, rm.2, z_kept, z_isKept, z_moveMany, z_moves, z_hands, z_troubles, z_troubleSorts, z_troubleNumbers, z_asked, z_paint, z_leasts, z_isSeen, z_classMany, z_types, z_typeCounts, z_typeMany, z_text, z_signs, z_at, z_lacks, z_clauses, z_begun, z_letters, z_firsts, z_seconds, z_aside, z_sorts, z_sizes, z_items, htp, hR, hI, hl⟩
set_option maxHeartbeats 8000000 in
set_option maxRecDepth 100000 in
theorem law_2 {rr : RT} (op_weight : OP_weight rr) {p : Program} {l : Launch} {e : Env} {s : State} {m : MethodId} {below : List Frame} {meth : Method} {c : Code} {b L : Nat} {xs : Nat → Int32} {A : Nat → Prop} {G : GX} {Q : State → Prop} (X : CX RL code 4 ret p s m #[Value.ref b] meth c) (E : EX G A s) (hX : va_X b L xs s s.heap) (hbl : b < s.heap.size) (hbA : ¬ A b) {i C S : Nat} (hi : i + 6 ≤ L) (hL : L ≤ 3072) (hC : C + 1 ≤ 600000) (hS : S + 4096 ≤ 7302249) {H : Heap} {locs : List Loc} {ls : Array Slot} (hLI : LI rr G A s b i H locs ls)
    (kk : ∀ (H : Heap) (locs : List Loc) (ls : Array Slot), LI rr G A s b i H locs ls → W p l e room_1 s m #[Value.ref b] below meth c H locs (C + 1) (S + 4096) Q (F0 m 1492 ls [])) : W p l e room_1 s m #[Value.ref b] below meth c H locs C S Q (F0 m 250 ls []) := by
  obtain ⟨hx, hb, hml, hown, hts, hr, hlk⟩ := id X
  obtain ⟨h, g, n_m0, n_m1, n_m2, n_s0, n_s1, n_s2, n_uq, n_wq, tp, ta, ti, x_hasImage, f_places, f_kinds, f_weights, f_howManyGenerators, f_generators, f_racks, f_howManySeen, f_seenFirst, f_seenSecond, f_seenIs, f_seenPlaces, f_howManyEvents, f_eventWhat, f_eventNumber, g_places, g_kinds, g_weights, g_howManyGenerators, g_generators, g_racks, g_howManySeen, g_seenFirst, g_seenSecond, g_seenIs, g_seenPlaces, g_howManyEvents, g_eventWhat, g_eventNumber, v_keys, v_asFound, v_found, v_turns, v_places, p_keys, p_asFound, p_found, p_turns, p_places, i_sort, i_howOften, i_sorts, i_moves, n_u, u_leasts, u_howMany, u_known, n_w, w_leasts, w_howMany, w_known, t_signs, t_length, t_whole, t_begins, t_ends, r_sorts, r_numbers, r_length, sr, ln, it, z_thrown, z_s, z_kept, z_isKept, z_moveMany, z_moves, z_hands, z_troubles, z_troubleSorts, z_troubleNumbers, z_asked, z_paint, z_leasts, z_isSeen, z_classMany, z_types, z_typeCounts, z_typeMany, z_text, z_signs, z_at, z_lacks, z_clauses, z_begun, z_letters, z_firsts, z_seconds, z_aside, z_sorts, z_sizes, z_items, htp, hR, hI, hl⟩ := hLI
  have hv1 := q_v1 hi hL
  have hv2 := q_v2 hi hL
  have hv3 := q_v3 hi hL
  have hv4 := q_v4 hi hL
  have hv5 := q_v5 hi hL
  refine lv_aload_n (pc := 250) hx hb dL_law_250 rfl (lv_at hl 1 rfl) ?_
  refine lv_aload_n (pc := 251) hx hb dL_law_251 rfl (lv_at hl 0 rfl) ?_
  refine lv_iload_n (pc := 252) hx hb dL_law_252 rfl (lv_at hl 3 rfl) ?_
  refine lv_iconst (pc := 253) (v := 1) hx hb dL_law_253 (by decide) ?_
  refine lv_iadd (pc := 254) hx hb dL_law_254 ?_
  refine va_sld (pc := 255) hx hb hX hbl hbA hI.2.2 hv1 dL_law_255 ?_
  refine lv_aload_n (pc := 256) hx hb dL_law_256 rfl (lv_at hl 0 rfl) ?_
  refine lv_iload_n (pc := 257) hx hb dL_law_257 rfl (lv_at hl 3 rfl) ?_
  refine lv_iconst (pc := 258) (v := 2) hx hb dL_law_258 (by decide) ?_
  refine lv_iadd (pc := 259) hx hb dL_law_259 ?_
  refine va_sld (pc := 260) hx hb hX hbl hbA hI.2.2 hv2 dL_law_260 ?_
  obtain ⟨rm, em, rx, ex, er, hR⟩ := op_weight hR (xs (nI i + 1).toNatClampNeg) (xs (nI i + 2).toNatClampNeg)
  refine x_cVs (pc := 261) (st1 := [.int rx.1]) (w1 := ((xb G h x_hasImage f_places f_kinds rx.2 f_howManyGenerators f_generators f_racks f_howManySeen f_seenFirst f_seenSecond f_seenIs f_seenPlaces f_howManyEvents f_eventWhat f_eventNumber g_places g_kinds g_weights g_howManyGenerators g_generators g_racks g_howManySeen g_seenFirst g_seenSecond g_seenIs g_seenPlaces g_howManyEvents g_eventWhat g_eventNumber n_m0 n_m1 n_m2 n_s0 n_s1 n_s2 v_keys v_asFound v_found v_turns v_places p_keys p_asFound p_found p_turns p_places i_sort i_howOften i_sorts i_moves n_uq n_u u_leasts u_howMany u_known n_wq n_w w_leasts w_howMany w_known t_signs t_length t_whole t_begins t_ends r_sorts r_numbers r_length) ++ ((tl G h tp ta ti sr ln it) ++ (mw G g z_thrown z_s z_kept z_isKept z_moveMany z_moves z_hands z_troubles z_troubleSorts z_troubleNumbers z_asked z_paint z_leasts z_isSeen z_classMany z_types z_typeCounts z_typeMany z_text z_signs z_at z_lacks z_clauses z_begun z_letters z_firsts z_seconds z_aside z_sorts z_sizes z_items)))) X E hI (c_X9_weight l G h ex) kv_L_22 hd_X9_weight ⟨rfl, rfl⟩ (by decide) 0 rfl rfl rfl rfl hl.1 rfl (Nat.le_of_ble_eq_true rfl) dL_law_261 ⟨by show C + 0 ≤ 600000; omega, by show S + 0 ≤ 7302249; omega⟩ rfl (fun H locs hI => ?_)
  refine lv_aload_n (pc := 264) hx hb dL_law_264 rfl (lv_at hl 2 rfl) ?_
  refine lv_aload_n (pc := 265) hx hb dL_law_265 rfl (lv_at hl 0 rfl) ?_
  refine lv_iload_n (pc := 266) hx hb dL_law_266 rfl (lv_at hl 3 rfl) ?_
  refine lv_iconst (pc := 267) (v := 1) hx hb dL_law_267 (by decide) ?_
  refine lv_iadd (pc := 268) hx hb dL_law_268 ?_
  refine va_sld (pc := 269) hx hb hX hbl hbA hI.2.2 hv1 dL_law_269 ?_
  refine lv_aload_n (pc := 270) hx hb dL_law_270 rfl (lv_at hl 0 rfl) ?_
  refine lv_iload_n (pc := 271) hx hb dL_law_271 rfl (lv_at hl 3 rfl) ?_
  refine lv_iconst (pc := 272) (v := 2) hx hb dL_law_272 (by decide) ?_
  refine lv_iadd (pc := 273) hx hb dL_law_273 ?_
  refine va_sld (pc := 274) hx hb hX hbl hbA hI.2.2 hv2 dL_law_274 ?_
  refine x_cVR (pc := 275) (st1 := [.int rm.1, .int rx.1]) (w1 := (mw G g z_thrown rm.2 z_kept z_isKept z_moveMany z_moves z_hands z_troubles z_troubleSorts z_troubleNumbers z_asked z_paint z_leasts z_isSeen z_classMany z_types z_typeCounts z_typeMany z_text z_signs z_at z_lacks z_clauses z_begun z_letters z_firsts z_seconds z_aside z_sorts z_sizes z_items)) X E hI (c_X10_weight l G g em) kv_L_26 hd_X10_weight ⟨rfl, rfl⟩ (by decide) 0 rfl rfl rfl rfl hl.1 rfl (Nat.le_of_ble_eq_true rfl) dL_law_275 ⟨by show C + 0 + 0 ≤ 600000; omega, by show S + 0 + 0 ≤ 7302249; omega⟩ rfl (fun H locs hI => ?_)
  refine lv_icmp_eq (pc := 278) (tgt := 1492) hx hb dL_law_278 (by decide) (fun c1 => ?_) (fun c1 => ?_)
  rotate_left
  · exact absurd er c1
  refine W.widen (k := C + 1) (n := S + 4096) (by omega) (by omega) ?_
  exact kk _ _ _ ⟨h, g, n_m0, n_m1, n_m2, n_s0, n_s1, n_s2, n_uq, n_wq, tp, ta, ti, x_hasImage, f_places, f_kinds, rx.2, f_howManyGenerators, f_generators, f_racks, f_howManySeen, f_seenFirst, f_seenSecond, f_seenIs, f_seenPlaces, f_howManyEvents, f_eventWhat, f_eventNumber, g_places, g_kinds, g_weights, g_howManyGenerators, g_generators, g_racks, g_howManySeen, g_seenFirst, g_seenSecond, g_seenIs, g_seenPlaces, g_howManyEvents, g_eventWhat, g_eventNumber, v_keys, v_asFound, v_found, v_turns, v_places, p_keys, p_asFound, p_found, p_turns, p_places, i_sort, i_howOften, i_sorts, i_moves, n_u, u_leasts, u_howMany, u_known, n_w, w_leasts, w_howMany, w_known, t_signs, t_length, t_whole, t_begins, t_ends, r_sorts, r_numbers, r_length, sr, ln, it, z_thrown, rm.2, z_kept, z_isKept, z_moveMany, z_moves, z_hands, z_troubles, z_troubleSorts, z_troubleNumbers, z_asked, z_paint, z_leasts, z_isSeen, z_classMany, z_types, z_typeCounts, z_typeMany, z_text, z_signs, z_at, z_lacks, z_clauses, z_begun, z_letters, z_firsts, z_seconds, z_aside, z_sorts, z_sizes, z_items, htp, hR, hI, hl⟩
set_option maxHeartbeats 8000000 in
set_option maxRecDepth 100000 in
theorem law_3 {rr : RT} (op_generator : OP_generator rr) {p : Program} {l : Launch} {e : Env} {s : State} {m : MethodId} {below : List Frame} {meth : Method} {c : Code} {b L : Nat} {xs : Nat → Int32} {A : Nat → Prop} {G : GX} {Q : State → Prop} (X : CX RL code 4 ret p s m #[Value.ref b] meth c) (E : EX G A s) (hX : va_X b L xs s s.heap) (hbl : b < s.heap.size) (hbA : ¬ A b) {i C S : Nat} (hi : i + 6 ≤ L) (hL : L ≤ 3072) (hC : C + 1 ≤ 600000) (hS : S + 4096 ≤ 7302249) {H : Heap} {locs : List Loc} {ls : Array Slot} (hLI : LI rr G A s b i H locs ls)
    (kk : ∀ (H : Heap) (locs : List Loc) (ls : Array Slot), LI rr G A s b i H locs ls → W p l e room_1 s m #[Value.ref b] below meth c H locs (C + 1) (S + 4096) Q (F0 m 1492 ls [])) : W p l e room_1 s m #[Value.ref b] below meth c H locs C S Q (F0 m 283 ls []) := by
  obtain ⟨hx, hb, hml, hown, hts, hr, hlk⟩ := id X
  obtain ⟨h, g, n_m0, n_m1, n_m2, n_s0, n_s1, n_s2, n_uq, n_wq, tp, ta, ti, x_hasImage, f_places, f_kinds, f_weights, f_howManyGenerators, f_generators, f_racks, f_howManySeen, f_seenFirst, f_seenSecond, f_seenIs, f_seenPlaces, f_howManyEvents, f_eventWhat, f_eventNumber, g_places, g_kinds, g_weights, g_howManyGenerators, g_generators, g_racks, g_howManySeen, g_seenFirst, g_seenSecond, g_seenIs, g_seenPlaces, g_howManyEvents, g_eventWhat, g_eventNumber, v_keys, v_asFound, v_found, v_turns, v_places, p_keys, p_asFound, p_found, p_turns, p_places, i_sort, i_howOften, i_sorts, i_moves, n_u, u_leasts, u_howMany, u_known, n_w, w_leasts, w_howMany, w_known, t_signs, t_length, t_whole, t_begins, t_ends, r_sorts, r_numbers, r_length, sr, ln, it, z_thrown, z_s, z_kept, z_isKept, z_moveMany, z_moves, z_hands, z_troubles, z_troubleSorts, z_troubleNumbers, z_asked, z_paint, z_leasts, z_isSeen, z_classMany, z_types, z_typeCounts, z_typeMany, z_text, z_signs, z_at, z_lacks, z_clauses, z_begun, z_letters, z_firsts, z_seconds, z_aside, z_sorts, z_sizes, z_items, htp, hR, hI, hl⟩ := hLI
  have hv1 := q_v1 hi hL
  have hv2 := q_v2 hi hL
  have hv3 := q_v3 hi hL
  have hv4 := q_v4 hi hL
  have hv5 := q_v5 hi hL
  refine lv_aload_n (pc := 283) hx hb dL_law_283 rfl (lv_at hl 1 rfl) ?_
  refine lv_aload_n (pc := 284) hx hb dL_law_284 rfl (lv_at hl 0 rfl) ?_
  refine lv_iload_n (pc := 285) hx hb dL_law_285 rfl (lv_at hl 3 rfl) ?_
  refine lv_iconst (pc := 286) (v := 1) hx hb dL_law_286 (by decide) ?_
  refine lv_iadd (pc := 287) hx hb dL_law_287 ?_
  refine va_sld (pc := 288) hx hb hX hbl hbA hI.2.2 hv1 dL_law_288 ?_
  refine lv_aload_n (pc := 289) hx hb dL_law_289 rfl (lv_at hl 0 rfl) ?_
  refine lv_iload_n (pc := 290) hx hb dL_law_290 rfl (lv_at hl 3 rfl) ?_
  refine lv_iconst (pc := 291) (v := 2) hx hb dL_law_291 (by decide) ?_
  refine lv_iadd (pc := 292) hx hb dL_law_292 ?_
  refine va_sld (pc := 293) hx hb hX hbl hbA hI.2.2 hv2 dL_law_293 ?_
  obtain ⟨rm, em, rx, ex, er, hR⟩ := op_generator hR (xs (nI i + 1).toNatClampNeg) (xs (nI i + 2).toNatClampNeg) n_m0 n_m1 n_m2 n_s0 n_s1 n_s2
  refine x_cVs (pc := 294) (st1 := [.int rx.1]) (w1 := ((xb G h x_hasImage f_places f_kinds f_weights rx.2.1 rx.2.2.1 f_racks f_howManySeen f_seenFirst f_seenSecond f_seenIs f_seenPlaces f_howManyEvents f_eventWhat f_eventNumber g_places g_kinds g_weights g_howManyGenerators g_generators g_racks g_howManySeen g_seenFirst g_seenSecond g_seenIs g_seenPlaces g_howManyEvents g_eventWhat g_eventNumber rx.2.2.2.1 rx.2.2.2.2.1 rx.2.2.2.2.2.1 rx.2.2.2.2.2.2.1 rx.2.2.2.2.2.2.2.1 rx.2.2.2.2.2.2.2.2.1 rx.2.2.2.2.2.2.2.2.2.1 rx.2.2.2.2.2.2.2.2.2.2.1 rx.2.2.2.2.2.2.2.2.2.2.2.1 rx.2.2.2.2.2.2.2.2.2.2.2.2.1 rx.2.2.2.2.2.2.2.2.2.2.2.2.2.1 rx.2.2.2.2.2.2.2.2.2.2.2.2.2.2.1 rx.2.2.2.2.2.2.2.2.2.2.2.2.2.2.2.1 rx.2.2.2.2.2.2.2.2.2.2.2.2.2.2.2.2.1 rx.2.2.2.2.2.2.2.2.2.2.2.2.2.2.2.2.2.1 rx.2.2.2.2.2.2.2.2.2.2.2.2.2.2.2.2.2.2.1 i_sort i_howOften i_sorts i_moves n_uq n_u u_leasts u_howMany rx.2.2.2.2.2.2.2.2.2.2.2.2.2.2.2.2.2.2.2.1 n_wq n_w w_leasts w_howMany rx.2.2.2.2.2.2.2.2.2.2.2.2.2.2.2.2.2.2.2.2.1 t_signs t_length t_whole t_begins t_ends rx.2.2.2.2.2.2.2.2.2.2.2.2.2.2.2.2.2.2.2.2.2.1 rx.2.2.2.2.2.2.2.2.2.2.2.2.2.2.2.2.2.2.2.2.2.2.1 rx.2.2.2.2.2.2.2.2.2.2.2.2.2.2.2.2.2.2.2.2.2.2.2) ++ ((tl G h tp ta ti sr ln it) ++ (mw G g z_thrown z_s z_kept z_isKept z_moveMany z_moves z_hands z_troubles z_troubleSorts z_troubleNumbers z_asked z_paint z_leasts z_isSeen z_classMany z_types z_typeCounts z_typeMany z_text z_signs z_at z_lacks z_clauses z_begun z_letters z_firsts z_seconds z_aside z_sorts z_sizes z_items)))) X E hI (c_X9_generator l G h ex) kv_L_27 hd_X9_generator ⟨rfl, rfl⟩ (by decide) 0 rfl rfl rfl rfl hl.1 rfl (Nat.le_of_ble_eq_true rfl) dL_law_294 ⟨by show C + 0 ≤ 600000; omega, by show S + 0 ≤ 7302249; omega⟩ rfl (fun H locs hI => ?_)
  refine lv_aload_n (pc := 297) hx hb dL_law_297 rfl (lv_at hl 2 rfl) ?_
  refine lv_aload_n (pc := 298) hx hb dL_law_298 rfl (lv_at hl 0 rfl) ?_
  refine lv_iload_n (pc := 299) hx hb dL_law_299 rfl (lv_at hl 3 rfl) ?_
  refine lv_iconst (pc := 300) (v := 1) hx hb dL_law_300 (by decide) ?_
  refine lv_iadd (pc := 301) hx hb dL_law_301 ?_
  refine va_sld (pc := 302) hx hb hX hbl hbA hI.2.2 hv1 dL_law_302 ?_
  refine lv_aload_n (pc := 303) hx hb dL_law_303 rfl (lv_at hl 0 rfl) ?_
  refine lv_iload_n (pc := 304) hx hb dL_law_304 rfl (lv_at hl 3 rfl) ?_
  refine lv_iconst (pc := 305) (v := 2) hx hb dL_law_305 (by decide) ?_
  refine lv_iadd (pc := 306) hx hb dL_law_306 ?_
  refine va_sld (pc := 307) hx hb hX hbl hbA hI.2.2 hv2 dL_law_307 ?_
  refine x_cVR (pc := 308) (st1 := [.int rm.1, .int rx.1]) (w1 := (mw G g z_thrown rm.2.1 z_kept z_isKept rm.2.2.1 rm.2.2.2.1 rm.2.2.2.2.1 rm.2.2.2.2.2.1 rm.2.2.2.2.2.2.1 rm.2.2.2.2.2.2.2 z_asked z_paint z_leasts z_isSeen z_classMany z_types z_typeCounts z_typeMany z_text z_signs z_at z_lacks z_clauses z_begun z_letters z_firsts z_seconds z_aside z_sorts z_sizes z_items)) X E hI (c_X10_generator l G g em) kv_L_30 hd_X10_generator ⟨rfl, rfl⟩ (by decide) 0 rfl rfl rfl rfl hl.1 rfl (Nat.le_of_ble_eq_true rfl) dL_law_308 ⟨by show C + 0 + 0 ≤ 600000; omega, by show S + 0 + 0 ≤ 7302249; omega⟩ rfl (fun H locs hI => ?_)
  refine lv_icmp_eq (pc := 311) (tgt := 1492) hx hb dL_law_311 (by decide) (fun c1 => ?_) (fun c1 => ?_)
  rotate_left
  · exact absurd er c1
  refine W.widen (k := C + 1) (n := S + 4096) (by omega) (by omega) ?_
  exact kk _ _ _ ⟨h, g, rx.2.2.2.1, rx.2.2.2.2.1, rx.2.2.2.2.2.1, rx.2.2.2.2.2.2.1, rx.2.2.2.2.2.2.2.1, rx.2.2.2.2.2.2.2.2.1, n_uq, n_wq, tp, ta, ti, x_hasImage, f_places, f_kinds, f_weights, rx.2.1, rx.2.2.1, f_racks, f_howManySeen, f_seenFirst, f_seenSecond, f_seenIs, f_seenPlaces, f_howManyEvents, f_eventWhat, f_eventNumber, g_places, g_kinds, g_weights, g_howManyGenerators, g_generators, g_racks, g_howManySeen, g_seenFirst, g_seenSecond, g_seenIs, g_seenPlaces, g_howManyEvents, g_eventWhat, g_eventNumber, rx.2.2.2.2.2.2.2.2.2.1, rx.2.2.2.2.2.2.2.2.2.2.1, rx.2.2.2.2.2.2.2.2.2.2.2.1, rx.2.2.2.2.2.2.2.2.2.2.2.2.1, rx.2.2.2.2.2.2.2.2.2.2.2.2.2.1, rx.2.2.2.2.2.2.2.2.2.2.2.2.2.2.1, rx.2.2.2.2.2.2.2.2.2.2.2.2.2.2.2.1, rx.2.2.2.2.2.2.2.2.2.2.2.2.2.2.2.2.1, rx.2.2.2.2.2.2.2.2.2.2.2.2.2.2.2.2.2.1, rx.2.2.2.2.2.2.2.2.2.2.2.2.2.2.2.2.2.2.1, i_sort, i_howOften, i_sorts, i_moves, n_u, u_leasts, u_howMany, rx.2.2.2.2.2.2.2.2.2.2.2.2.2.2.2.2.2.2.2.1, n_w, w_leasts, w_howMany, rx.2.2.2.2.2.2.2.2.2.2.2.2.2.2.2.2.2.2.2.2.1, t_signs, t_length, t_whole, t_begins, t_ends, rx.2.2.2.2.2.2.2.2.2.2.2.2.2.2.2.2.2.2.2.2.2.1, rx.2.2.2.2.2.2.2.2.2.2.2.2.2.2.2.2.2.2.2.2.2.2.1, rx.2.2.2.2.2.2.2.2.2.2.2.2.2.2.2.2.2.2.2.2.2.2.2, sr, ln, it, z_thrown, rm.2.1, z_kept, z_isKept, rm.2.2.1, rm.2.2.2.1, rm.2.2.2.2.1, rm.2.2.2.2.2.1, rm.2.2.2.2.2.2.1, rm.2.2.2.2.2.2.2, z_asked, z_paint, z_leasts, z_isSeen, z_classMany, z_types, z_typeCounts, z_typeMany, z_text, z_signs, z_at, z_lacks, z_clauses, z_begun, z_letters, z_firsts, z_seconds, z_aside, z_sorts, z_sizes, z_items, htp, hR, hI, hl⟩
set_option maxHeartbeats 8000000 in
set_option maxRecDepth 100000 in
theorem law_4 {rr : RT} (op_drop : OP_drop rr) {p : Program} {l : Launch} {e : Env} {s : State} {m : MethodId} {below : List Frame} {meth : Method} {c : Code} {b L : Nat} {xs : Nat → Int32} {A : Nat → Prop} {G : GX} {Q : State → Prop} (X : CX RL code 4 ret p s m #[Value.ref b] meth c) (E : EX G A s) (hX : va_X b L xs s s.heap) (hbl : b < s.heap.size) (hbA : ¬ A b) {i C S : Nat} (hi : i + 6 ≤ L) (hL : L ≤ 3072) (hC : C + 1 ≤ 600000) (hS : S + 4096 ≤ 7302249) {H : Heap} {locs : List Loc} {ls : Array Slot} (hLI : LI rr G A s b i H locs ls)
    (kk : ∀ (H : Heap) (locs : List Loc) (ls : Array Slot), LI rr G A s b i H locs ls → W p l e room_1 s m #[Value.ref b] below meth c H locs (C + 1) (S + 4096) Q (F0 m 1492 ls [])) : W p l e room_1 s m #[Value.ref b] below meth c H locs C S Q (F0 m 316 ls []) := by
  obtain ⟨hx, hb, hml, hown, hts, hr, hlk⟩ := id X
  obtain ⟨h, g, n_m0, n_m1, n_m2, n_s0, n_s1, n_s2, n_uq, n_wq, tp, ta, ti, x_hasImage, f_places, f_kinds, f_weights, f_howManyGenerators, f_generators, f_racks, f_howManySeen, f_seenFirst, f_seenSecond, f_seenIs, f_seenPlaces, f_howManyEvents, f_eventWhat, f_eventNumber, g_places, g_kinds, g_weights, g_howManyGenerators, g_generators, g_racks, g_howManySeen, g_seenFirst, g_seenSecond, g_seenIs, g_seenPlaces, g_howManyEvents, g_eventWhat, g_eventNumber, v_keys, v_asFound, v_found, v_turns, v_places, p_keys, p_asFound, p_found, p_turns, p_places, i_sort, i_howOften, i_sorts, i_moves, n_u, u_leasts, u_howMany, u_known, n_w, w_leasts, w_howMany, w_known, t_signs, t_length, t_whole, t_begins, t_ends, r_sorts, r_numbers, r_length, sr, ln, it, z_thrown, z_s, z_kept, z_isKept, z_moveMany, z_moves, z_hands, z_troubles, z_troubleSorts, z_troubleNumbers, z_asked, z_paint, z_leasts, z_isSeen, z_classMany, z_types, z_typeCounts, z_typeMany, z_text, z_signs, z_at, z_lacks, z_clauses, z_begun, z_letters, z_firsts, z_seconds, z_aside, z_sorts, z_sizes, z_items, htp, hR, hI, hl⟩ := hLI
  have hv1 := q_v1 hi hL
  have hv2 := q_v2 hi hL
  have hv3 := q_v3 hi hL
  have hv4 := q_v4 hi hL
  have hv5 := q_v5 hi hL
  refine lv_aload_n (pc := 316) hx hb dL_law_316 rfl (lv_at hl 1 rfl) ?_
  obtain ⟨rm, em, rx, ex, er, hR⟩ := op_drop hR 
  refine x_cVs (pc := 317) (st1 := [.int rx.1]) (w1 := ((xb G h x_hasImage f_places f_kinds f_weights rx.2.1 f_generators rx.2.2.1 f_howManySeen f_seenFirst f_seenSecond f_seenIs f_seenPlaces f_howManyEvents f_eventWhat f_eventNumber g_places g_kinds g_weights g_howManyGenerators g_generators g_racks g_howManySeen g_seenFirst g_seenSecond g_seenIs g_seenPlaces g_howManyEvents g_eventWhat g_eventNumber n_m0 n_m1 n_m2 n_s0 n_s1 n_s2 rx.2.2.2.1 rx.2.2.2.2.1 rx.2.2.2.2.2.1 rx.2.2.2.2.2.2.1 rx.2.2.2.2.2.2.2.1 p_keys p_asFound p_found p_turns p_places i_sort i_howOften i_sorts i_moves n_uq n_u u_leasts u_howMany rx.2.2.2.2.2.2.2.2.1 n_wq n_w w_leasts w_howMany rx.2.2.2.2.2.2.2.2.2 t_signs t_length t_whole t_begins t_ends r_sorts r_numbers r_length) ++ ((tl G h tp ta ti sr ln it) ++ (mw G g z_thrown z_s z_kept z_isKept z_moveMany z_moves z_hands z_troubles z_troubleSorts z_troubleNumbers z_asked z_paint z_leasts z_isSeen z_classMany z_types z_typeCounts z_typeMany z_text z_signs z_at z_lacks z_clauses z_begun z_letters z_firsts z_seconds z_aside z_sorts z_sizes z_items)))) X E hI (c_X9_drop l G h ex) kv_L_31 hd_X9_drop ⟨rfl, rfl⟩ (by decide) 0 rfl rfl rfl rfl hl.1 rfl (Nat.le_of_ble_eq_true rfl) dL_law_317 ⟨by show C + 0 ≤ 600000; omega, by show S + 0 ≤ 7302249; omega⟩ rfl (fun H locs hI => ?_)
  refine lv_aload_n (pc := 320) hx hb dL_law_320 rfl (lv_at hl 2 rfl) ?_
  refine x_cVR (pc := 321) (st1 := [.int rm.1, .int rx.1]) (w1 := (mw G g z_thrown rm.2 z_kept z_isKept z_moveMany z_moves z_hands z_troubles z_troubleSorts z_troubleNumbers z_asked z_paint z_leasts z_isSeen z_classMany z_types z_typeCounts z_typeMany z_text z_signs z_at z_lacks z_clauses z_begun z_letters z_firsts z_seconds z_aside z_sorts z_sizes z_items)) X E hI (c_X10_drop l G g em) kv_L_35 hd_X10_drop ⟨rfl, rfl⟩ (by decide) 0 rfl rfl rfl rfl hl.1 rfl (Nat.le_of_ble_eq_true rfl) dL_law_321 ⟨by show C + 0 + 0 ≤ 600000; omega, by show S + 0 + 0 ≤ 7302249; omega⟩ rfl (fun H locs hI => ?_)
  refine lv_icmp_eq (pc := 324) (tgt := 1492) hx hb dL_law_324 (by decide) (fun c1 => ?_) (fun c1 => ?_)
  rotate_left
  · exact absurd er c1
  refine W.widen (k := C + 1) (n := S + 4096) (by omega) (by omega) ?_
  exact kk _ _ _ ⟨h, g, n_m0, n_m1, n_m2, n_s0, n_s1, n_s2, n_uq, n_wq, tp, ta, ti, x_hasImage, f_places, f_kinds, f_weights, rx.2.1, f_generators, rx.2.2.1, f_howManySeen, f_seenFirst, f_seenSecond, f_seenIs, f_seenPlaces, f_howManyEvents, f_eventWhat, f_eventNumber, g_places, g_kinds, g_weights, g_howManyGenerators, g_generators, g_racks, g_howManySeen, g_seenFirst, g_seenSecond, g_seenIs, g_seenPlaces, g_howManyEvents, g_eventWhat, g_eventNumber, rx.2.2.2.1, rx.2.2.2.2.1, rx.2.2.2.2.2.1, rx.2.2.2.2.2.2.1, rx.2.2.2.2.2.2.2.1, p_keys, p_asFound, p_found, p_turns, p_places, i_sort, i_howOften, i_sorts, i_moves, n_u, u_leasts, u_howMany, rx.2.2.2.2.2.2.2.2.1, n_w, w_leasts, w_howMany, rx.2.2.2.2.2.2.2.2.2, t_signs, t_length, t_whole, t_begins, t_ends, r_sorts, r_numbers, r_length, sr, ln, it, z_thrown, rm.2, z_kept, z_isKept, z_moveMany, z_moves, z_hands, z_troubles, z_troubleSorts, z_troubleNumbers, z_asked, z_paint, z_leasts, z_isSeen, z_classMany, z_types, z_typeCounts, z_typeMany, z_text, z_signs, z_at, z_lacks, z_clauses, z_begun, z_letters, z_firsts, z_seconds, z_aside, z_sorts, z_sizes, z_items, htp, hR, hI, hl⟩
set_option maxHeartbeats 8000000 in
set_option maxRecDepth 100000 in
theorem law_5 {rr : RT} (op_of : OP_of rr) {p : Program} {l : Launch} {e : Env} {s : State} {m : MethodId} {below : List Frame} {meth : Method} {c : Code} {b L : Nat} {xs : Nat → Int32} {A : Nat → Prop} {G : GX} {Q : State → Prop} (X : CX RL code 4 ret p s m #[Value.ref b] meth c) (E : EX G A s) (hX : va_X b L xs s s.heap) (hbl : b < s.heap.size) (hbA : ¬ A b) {i C S : Nat} (hi : i + 6 ≤ L) (hL : L ≤ 3072) (hC : C + 1 ≤ 600000) (hS : S + 4096 ≤ 7302249) {H : Heap} {locs : List Loc} {ls : Array Slot} (hLI : LI rr G A s b i H locs ls)
    (kk : ∀ (H : Heap) (locs : List Loc) (ls : Array Slot), LI rr G A s b i H locs ls → W p l e room_1 s m #[Value.ref b] below meth c H locs (C + 1) (S + 4096) Q (F0 m 1492 ls [])) : W p l e room_1 s m #[Value.ref b] below meth c H locs C S Q (F0 m 329 ls []) := by
  obtain ⟨hx, hb, hml, hown, hts, hr, hlk⟩ := id X
  obtain ⟨h, g, n_m0, n_m1, n_m2, n_s0, n_s1, n_s2, n_uq, n_wq, tp, ta, ti, x_hasImage, f_places, f_kinds, f_weights, f_howManyGenerators, f_generators, f_racks, f_howManySeen, f_seenFirst, f_seenSecond, f_seenIs, f_seenPlaces, f_howManyEvents, f_eventWhat, f_eventNumber, g_places, g_kinds, g_weights, g_howManyGenerators, g_generators, g_racks, g_howManySeen, g_seenFirst, g_seenSecond, g_seenIs, g_seenPlaces, g_howManyEvents, g_eventWhat, g_eventNumber, v_keys, v_asFound, v_found, v_turns, v_places, p_keys, p_asFound, p_found, p_turns, p_places, i_sort, i_howOften, i_sorts, i_moves, n_u, u_leasts, u_howMany, u_known, n_w, w_leasts, w_howMany, w_known, t_signs, t_length, t_whole, t_begins, t_ends, r_sorts, r_numbers, r_length, sr, ln, it, z_thrown, z_s, z_kept, z_isKept, z_moveMany, z_moves, z_hands, z_troubles, z_troubleSorts, z_troubleNumbers, z_asked, z_paint, z_leasts, z_isSeen, z_classMany, z_types, z_typeCounts, z_typeMany, z_text, z_signs, z_at, z_lacks, z_clauses, z_begun, z_letters, z_firsts, z_seconds, z_aside, z_sorts, z_sizes, z_items, htp, hR, hI, hl⟩ := hLI
  have hv1 := q_v1 hi hL
  have hv2 := q_v2 hi hL
  have hv3 := q_v3 hi hL
  have hv4 := q_v4 hi hL
  have hv5 := q_v5 hi hL
  refine lv_aload_n (pc := 329) hx hb dL_law_329 rfl (lv_at hl 1 rfl) ?_
  refine lv_aload_n (pc := 330) hx hb dL_law_330 rfl (lv_at hl 0 rfl) ?_
  refine lv_iload_n (pc := 331) hx hb dL_law_331 rfl (lv_at hl 3 rfl) ?_
  refine lv_iconst (pc := 332) (v := 1) hx hb dL_law_332 (by decide) ?_
  refine lv_iadd (pc := 333) hx hb dL_law_333 ?_
  refine va_sld (pc := 334) hx hb hX hbl hbA hI.2.2 hv1 dL_law_334 ?_
  refine lv_aload_n (pc := 335) hx hb dL_law_335 rfl (lv_at hl 0 rfl) ?_
  refine lv_iload_n (pc := 336) hx hb dL_law_336 rfl (lv_at hl 3 rfl) ?_
  refine lv_iconst (pc := 337) (v := 2) hx hb dL_law_337 (by decide) ?_
  refine lv_iadd (pc := 338) hx hb dL_law_338 ?_
  refine va_sld (pc := 339) hx hb hX hbl hbA hI.2.2 hv2 dL_law_339 ?_
  obtain ⟨rm, em, rx, ex, er, hR⟩ := op_of hR (xs (nI i + 1).toNatClampNeg) (xs (nI i + 2).toNatClampNeg)
  refine x_cVs (pc := 340) (st1 := [.int rx]) (w1 := ((xb G h x_hasImage f_places f_kinds f_weights f_howManyGenerators f_generators f_racks f_howManySeen f_seenFirst f_seenSecond f_seenIs f_seenPlaces f_howManyEvents f_eventWhat f_eventNumber g_places g_kinds g_weights g_howManyGenerators g_generators g_racks g_howManySeen g_seenFirst g_seenSecond g_seenIs g_seenPlaces g_howManyEvents g_eventWhat g_eventNumber n_m0 n_m1 n_m2 n_s0 n_s1 n_s2 v_keys v_asFound v_found v_turns v_places p_keys p_asFound p_found p_turns p_places i_sort i_howOften i_sorts i_moves n_uq n_u u_leasts u_howMany u_known n_wq n_w w_leasts w_howMany w_known t_signs t_length t_whole t_begins t_ends r_sorts r_numbers r_length) ++ ((tl G h tp ta ti sr ln it) ++ (mw G g z_thrown z_s z_kept z_isKept z_moveMany z_moves z_hands z_troubles z_troubleSorts z_troubleNumbers z_asked z_paint z_leasts z_isSeen z_classMany z_types z_typeCounts z_typeMany z_text z_signs z_at z_lacks z_clauses z_begun z_letters z_firsts z_seconds z_aside z_sorts z_sizes z_items)))) X E hI (c_X9_of l G h ex) kv_L_36 hd_X9_of ⟨rfl, rfl⟩ (by decide) 0 rfl rfl rfl rfl hl.1 rfl (Nat.le_of_ble_eq_true rfl) dL_law_340 ⟨by show C + 0 ≤ 600000; omega, by show S + 0 ≤ 7302249; omega⟩ rfl (fun H locs hI => ?_)
  refine lv_aload_n (pc := 343) hx hb dL_law_343 rfl (lv_at hl 2 rfl) ?_
  refine lv_aload_n (pc := 344) hx hb dL_law_344 rfl (lv_at hl 0 rfl) ?_
  refine lv_iload_n (pc := 345) hx hb dL_law_345 rfl (lv_at hl 3 rfl) ?_
  refine lv_iconst (pc := 346) (v := 1) hx hb dL_law_346 (by decide) ?_
  refine lv_iadd (pc := 347) hx hb dL_law_347 ?_
  refine va_sld (pc := 348) hx hb hX hbl hbA hI.2.2 hv1 dL_law_348 ?_
  refine lv_aload_n (pc := 349) hx hb dL_law_349 rfl (lv_at hl 0 rfl) ?_
  refine lv_iload_n (pc := 350) hx hb dL_law_350 rfl (lv_at hl 3 rfl) ?_
  refine lv_iconst (pc := 351) (v := 2) hx hb dL_law_351 (by decide) ?_
  refine lv_iadd (pc := 352) hx hb dL_law_352 ?_
  refine va_sld (pc := 353) hx hb hX hbl hbA hI.2.2 hv2 dL_law_353 ?_
  refine x_cVR (pc := 354) (st1 := [.int rm.1, .int rx]) (w1 := (mw G g z_thrown z_s z_kept z_isKept z_moveMany z_moves z_hands z_troubles z_troubleSorts z_troubleNumbers rm.2 z_paint z_leasts z_isSeen z_classMany z_types z_typeCounts z_typeMany z_text z_signs z_at z_lacks z_clauses z_begun z_letters z_firsts z_seconds z_aside z_sorts z_sizes z_items)) X E hI (c_X10_of l G g em) kv_L_39 hd_X10_of ⟨rfl, rfl⟩ (by decide) 0 rfl rfl rfl rfl hl.1 rfl (Nat.le_of_ble_eq_true rfl) dL_law_354 ⟨by show C + 0 + 0 ≤ 600000; omega, by show S + 0 + 0 ≤ 7302249; omega⟩ rfl (fun H locs hI => ?_)
  refine lv_icmp_eq (pc := 357) (tgt := 1492) hx hb dL_law_357 (by decide) (fun c1 => ?_) (fun c1 => ?_)
  rotate_left
  · exact absurd er c1
  refine W.widen (k := C + 1) (n := S + 4096) (by omega) (by omega) ?_
  exact kk _ _ _ ⟨h, g, n_m0, n_m1, n_m2, n_s0, n_s1, n_s2, n_uq, n_wq, tp, ta, ti, x_hasImage, f_places, f_kinds, f_weights, f_howManyGenerators, f_generators, f_racks, f_howManySeen, f_seenFirst, f_seenSecond, f_seenIs, f_seenPlaces, f_howManyEvents, f_eventWhat, f_eventNumber, g_places, g_kinds, g_weights, g_howManyGenerators, g_generators, g_racks, g_howManySeen, g_seenFirst, g_seenSecond, g_seenIs, g_seenPlaces, g_howManyEvents, g_eventWhat, g_eventNumber, v_keys, v_asFound, v_found, v_turns, v_places, p_keys, p_asFound, p_found, p_turns, p_places, i_sort, i_howOften, i_sorts, i_moves, n_u, u_leasts, u_howMany, u_known, n_w, w_leasts, w_howMany, w_known, t_signs, t_length, t_whole, t_begins, t_ends, r_sorts, r_numbers, r_length, sr, ln, it, z_thrown, z_s, z_kept, z_isKept, z_moveMany, z_moves, z_hands, z_troubles, z_troubleSorts, z_troubleNumbers, rm.2, z_paint, z_leasts, z_isSeen, z_classMany, z_types, z_typeCounts, z_typeMany, z_text, z_signs, z_at, z_lacks, z_clauses, z_begun, z_letters, z_firsts, z_seconds, z_aside, z_sorts, z_sizes, z_items, htp, hR, hI, hl⟩
set_option maxHeartbeats 8000000 in
set_option maxRecDepth 100000 in
theorem law_6 {rr : RT} (op_lay : OP_lay rr) {p : Program} {l : Launch} {e : Env} {s : State} {m : MethodId} {below : List Frame} {meth : Method} {c : Code} {b L : Nat} {xs : Nat → Int32} {A : Nat → Prop} {G : GX} {Q : State → Prop} (X : CX RL code 4 ret p s m #[Value.ref b] meth c) (E : EX G A s) (hX : va_X b L xs s s.heap) (hbl : b < s.heap.size) (hbA : ¬ A b) {i C S : Nat} (hi : i + 6 ≤ L) (hL : L ≤ 3072) (hC : C + 1 ≤ 600000) (hS : S + 4096 ≤ 7302249) {H : Heap} {locs : List Loc} {ls : Array Slot} (hLI : LI rr G A s b i H locs ls)
    (kk : ∀ (H : Heap) (locs : List Loc) (ls : Array Slot), LI rr G A s b i H locs ls → W p l e room_1 s m #[Value.ref b] below meth c H locs (C + 1) (S + 4096) Q (F0 m 1492 ls [])) : W p l e room_1 s m #[Value.ref b] below meth c H locs C S Q (F0 m 362 ls []) := by
  obtain ⟨hx, hb, hml, hown, hts, hr, hlk⟩ := id X
  obtain ⟨h, g, n_m0, n_m1, n_m2, n_s0, n_s1, n_s2, n_uq, n_wq, tp, ta, ti, x_hasImage, f_places, f_kinds, f_weights, f_howManyGenerators, f_generators, f_racks, f_howManySeen, f_seenFirst, f_seenSecond, f_seenIs, f_seenPlaces, f_howManyEvents, f_eventWhat, f_eventNumber, g_places, g_kinds, g_weights, g_howManyGenerators, g_generators, g_racks, g_howManySeen, g_seenFirst, g_seenSecond, g_seenIs, g_seenPlaces, g_howManyEvents, g_eventWhat, g_eventNumber, v_keys, v_asFound, v_found, v_turns, v_places, p_keys, p_asFound, p_found, p_turns, p_places, i_sort, i_howOften, i_sorts, i_moves, n_u, u_leasts, u_howMany, u_known, n_w, w_leasts, w_howMany, w_known, t_signs, t_length, t_whole, t_begins, t_ends, r_sorts, r_numbers, r_length, sr, ln, it, z_thrown, z_s, z_kept, z_isKept, z_moveMany, z_moves, z_hands, z_troubles, z_troubleSorts, z_troubleNumbers, z_asked, z_paint, z_leasts, z_isSeen, z_classMany, z_types, z_typeCounts, z_typeMany, z_text, z_signs, z_at, z_lacks, z_clauses, z_begun, z_letters, z_firsts, z_seconds, z_aside, z_sorts, z_sizes, z_items, htp, hR, hI, hl⟩ := hLI
  have hv1 := q_v1 hi hL
  have hv2 := q_v2 hi hL
  have hv3 := q_v3 hi hL
  have hv4 := q_v4 hi hL
  have hv5 := q_v5 hi hL
  refine lv_aload_n (pc := 362) hx hb dL_law_362 rfl (lv_at hl 1 rfl) ?_
  refine lv_aload_n (pc := 363) hx hb dL_law_363 rfl (lv_at hl 0 rfl) ?_
  refine lv_iload_n (pc := 364) hx hb dL_law_364 rfl (lv_at hl 3 rfl) ?_
  refine lv_iconst (pc := 365) (v := 1) hx hb dL_law_365 (by decide) ?_
  refine lv_iadd (pc := 366) hx hb dL_law_366 ?_
  refine va_sld (pc := 367) hx hb hX hbl hbA hI.2.2 hv1 dL_law_367 ?_
  refine lv_aload_n (pc := 368) hx hb dL_law_368 rfl (lv_at hl 0 rfl) ?_
  refine lv_iload_n (pc := 369) hx hb dL_law_369 rfl (lv_at hl 3 rfl) ?_
  refine lv_iconst (pc := 370) (v := 2) hx hb dL_law_370 (by decide) ?_
  refine lv_iadd (pc := 371) hx hb dL_law_371 ?_
  refine va_sld (pc := 372) hx hb hX hbl hbA hI.2.2 hv2 dL_law_372 ?_
  refine lv_aload_n (pc := 373) hx hb dL_law_373 rfl (lv_at hl 0 rfl) ?_
  refine lv_iload_n (pc := 374) hx hb dL_law_374 rfl (lv_at hl 3 rfl) ?_
  refine lv_iconst (pc := 375) (v := 3) hx hb dL_law_375 (by decide) ?_
  refine lv_iadd (pc := 376) hx hb dL_law_376 ?_
  refine va_sld (pc := 377) hx hb hX hbl hbA hI.2.2 hv3 dL_law_377 ?_
  obtain ⟨rm, em, rx, ex, er, hR⟩ := op_lay hR (xs (nI i + 1).toNatClampNeg) (xs (nI i + 2).toNatClampNeg) (xs (nI i + 3).toNatClampNeg)
  refine x_cVs (pc := 378) (st1 := [.int rx.1]) (w1 := ((xb G h x_hasImage f_places f_kinds f_weights f_howManyGenerators f_generators rx.2 f_howManySeen f_seenFirst f_seenSecond f_seenIs f_seenPlaces f_howManyEvents f_eventWhat f_eventNumber g_places g_kinds g_weights g_howManyGenerators g_generators g_racks g_howManySeen g_seenFirst g_seenSecond g_seenIs g_seenPlaces g_howManyEvents g_eventWhat g_eventNumber n_m0 n_m1 n_m2 n_s0 n_s1 n_s2 v_keys v_asFound v_found v_turns v_places p_keys p_asFound p_found p_turns p_places i_sort i_howOften i_sorts i_moves n_uq n_u u_leasts u_howMany u_known n_wq n_w w_leasts w_howMany w_known t_signs t_length t_whole t_begins t_ends r_sorts r_numbers r_length) ++ ((tl G h tp ta ti sr ln it) ++ (mw G g z_thrown z_s z_kept z_isKept z_moveMany z_moves z_hands z_troubles z_troubleSorts z_troubleNumbers z_asked z_paint z_leasts z_isSeen z_classMany z_types z_typeCounts z_typeMany z_text z_signs z_at z_lacks z_clauses z_begun z_letters z_firsts z_seconds z_aside z_sorts z_sizes z_items)))) X E hI (c_X9_lay l G h ex) kv_L_40 hd_X9_lay ⟨rfl, rfl⟩ (by decide) 0 rfl rfl rfl rfl hl.1 rfl (Nat.le_of_ble_eq_true rfl) dL_law_378 ⟨by show C + 0 ≤ 600000; omega, by show S + 0 ≤ 7302249; omega⟩ rfl (fun H locs hI => ?_)
  refine lv_aload_n (pc := 381) hx hb dL_law_381 rfl (lv_at hl 2 rfl) ?_
  refine lv_aload_n (pc := 382) hx hb dL_law_382 rfl (lv_at hl 0 rfl) ?_
  refine lv_iload_n (pc := 383) hx hb dL_law_383 rfl (lv_at hl 3 rfl) ?_
  refine lv_iconst (pc := 384) (v := 1) hx hb dL_law_384 (by decide) ?_
  refine lv_iadd (pc := 385) hx hb dL_law_385 ?_
  refine va_sld (pc := 386) hx hb hX hbl hbA hI.2.2 hv1 dL_law_386 ?_
  refine lv_aload_n (pc := 387) hx hb dL_law_387 rfl (lv_at hl 0 rfl) ?_
  refine lv_iload_n (pc := 388) hx hb dL_law_388 rfl (lv_at hl 3 rfl) ?_
  refine lv_iconst (pc := 389) (v := 2) hx hb dL_law_389 (by decide) ?_
  refine lv_iadd (pc := 390) hx hb dL_law_390 ?_
  refine va_sld (pc := 391) hx hb hX hbl hbA hI.2.2 hv2 dL_law_391 ?_
  refine lv_aload_n (pc := 392) hx hb dL_law_392 rfl (lv_at hl 0 rfl) ?_
  refine lv_iload_n (pc := 393) hx hb dL_law_393 rfl (lv_at hl 3 rfl) ?_
  refine lv_iconst (pc := 394) (v := 3) hx hb dL_law_394 (by decide) ?_
  refine lv_iadd (pc := 395) hx hb dL_law_395 ?_
  refine va_sld (pc := 396) hx hb hX hbl hbA hI.2.2 hv3 dL_law_396 ?_
  refine x_cVR (pc := 397) (st1 := [.int rm.1, .int rx.1]) (w1 := (mw G g z_thrown rm.2 z_kept z_isKept z_moveMany z_moves z_hands z_troubles z_troubleSorts z_troubleNumbers z_asked z_paint z_leasts z_isSeen z_classMany z_types z_typeCounts z_typeMany z_text z_signs z_at z_lacks z_clauses z_begun z_letters z_firsts z_seconds z_aside z_sorts z_sizes z_items)) X E hI (c_X10_lay l G g em) kv_L_44 hd_X10_lay ⟨rfl, rfl⟩ (by decide) 0 rfl rfl rfl rfl hl.1 rfl (Nat.le_of_ble_eq_true rfl) dL_law_397 ⟨by show C + 0 + 0 ≤ 600000; omega, by show S + 0 + 0 ≤ 7302249; omega⟩ rfl (fun H locs hI => ?_)
  refine lv_icmp_eq (pc := 400) (tgt := 1492) hx hb dL_law_400 (by decide) (fun c1 => ?_) (fun c1 => ?_)
  rotate_left
  · exact absurd er c1
  refine W.widen (k := C + 1) (n := S + 4096) (by omega) (by omega) ?_
  exact kk _ _ _ ⟨h, g, n_m0, n_m1, n_m2, n_s0, n_s1, n_s2, n_uq, n_wq, tp, ta, ti, x_hasImage, f_places, f_kinds, f_weights, f_howManyGenerators, f_generators, rx.2, f_howManySeen, f_seenFirst, f_seenSecond, f_seenIs, f_seenPlaces, f_howManyEvents, f_eventWhat, f_eventNumber, g_places, g_kinds, g_weights, g_howManyGenerators, g_generators, g_racks, g_howManySeen, g_seenFirst, g_seenSecond, g_seenIs, g_seenPlaces, g_howManyEvents, g_eventWhat, g_eventNumber, v_keys, v_asFound, v_found, v_turns, v_places, p_keys, p_asFound, p_found, p_turns, p_places, i_sort, i_howOften, i_sorts, i_moves, n_u, u_leasts, u_howMany, u_known, n_w, w_leasts, w_howMany, w_known, t_signs, t_length, t_whole, t_begins, t_ends, r_sorts, r_numbers, r_length, sr, ln, it, z_thrown, rm.2, z_kept, z_isKept, z_moveMany, z_moves, z_hands, z_troubles, z_troubleSorts, z_troubleNumbers, z_asked, z_paint, z_leasts, z_isSeen, z_classMany, z_types, z_typeCounts, z_typeMany, z_text, z_signs, z_at, z_lacks, z_clauses, z_begun, z_letters, z_firsts, z_seconds, z_aside, z_sorts, z_sizes, z_items, htp, hR, hI, hl⟩
set_option maxHeartbeats 8000000 in
set_option maxRecDepth 100000 in
theorem law_7 {rr : RT} (op_rack : OP_rack rr) {p : Program} {l : Launch} {e : Env} {s : State} {m : MethodId} {below : List Frame} {meth : Method} {c : Code} {b L : Nat} {xs : Nat → Int32} {A : Nat → Prop} {G : GX} {Q : State → Prop} (X : CX RL code 4 ret p s m #[Value.ref b] meth c) (E : EX G A s) (hX : va_X b L xs s s.heap) (hbl : b < s.heap.size) (hbA : ¬ A b) {i C S : Nat} (hi : i + 6 ≤ L) (hL : L ≤ 3072) (hC : C + 1 ≤ 600000) (hS : S + 4096 ≤ 7302249) {H : Heap} {locs : List Loc} {ls : Array Slot} (hLI : LI rr G A s b i H locs ls)
    (kk : ∀ (H : Heap) (locs : List Loc) (ls : Array Slot), LI rr G A s b i H locs ls → W p l e room_1 s m #[Value.ref b] below meth c H locs (C + 1) (S + 4096) Q (F0 m 1492 ls [])) : W p l e room_1 s m #[Value.ref b] below meth c H locs C S Q (F0 m 405 ls []) := by
  obtain ⟨hx, hb, hml, hown, hts, hr, hlk⟩ := id X
  obtain ⟨h, g, n_m0, n_m1, n_m2, n_s0, n_s1, n_s2, n_uq, n_wq, tp, ta, ti, x_hasImage, f_places, f_kinds, f_weights, f_howManyGenerators, f_generators, f_racks, f_howManySeen, f_seenFirst, f_seenSecond, f_seenIs, f_seenPlaces, f_howManyEvents, f_eventWhat, f_eventNumber, g_places, g_kinds, g_weights, g_howManyGenerators, g_generators, g_racks, g_howManySeen, g_seenFirst, g_seenSecond, g_seenIs, g_seenPlaces, g_howManyEvents, g_eventWhat, g_eventNumber, v_keys, v_asFound, v_found, v_turns, v_places, p_keys, p_asFound, p_found, p_turns, p_places, i_sort, i_howOften, i_sorts, i_moves, n_u, u_leasts, u_howMany, u_known, n_w, w_leasts, w_howMany, w_known, t_signs, t_length, t_whole, t_begins, t_ends, r_sorts, r_numbers, r_length, sr, ln, it, z_thrown, z_s, z_kept, z_isKept, z_moveMany, z_moves, z_hands, z_troubles, z_troubleSorts, z_troubleNumbers, z_asked, z_paint, z_leasts, z_isSeen, z_classMany, z_types, z_typeCounts, z_typeMany, z_text, z_signs, z_at, z_lacks, z_clauses, z_begun, z_letters, z_firsts, z_seconds, z_aside, z_sorts, z_sizes, z_items, htp, hR, hI, hl⟩ := hLI
  have hv1 := q_v1 hi hL
  have hv2 := q_v2 hi hL
  have hv3 := q_v3 hi hL
  have hv4 := q_v4 hi hL
  have hv5 := q_v5 hi hL
  refine lv_aload_n (pc := 405) hx hb dL_law_405 rfl (lv_at hl 1 rfl) ?_
  refine lv_aload_n (pc := 406) hx hb dL_law_406 rfl (lv_at hl 0 rfl) ?_
  refine lv_iload_n (pc := 407) hx hb dL_law_407 rfl (lv_at hl 3 rfl) ?_
  refine lv_iconst (pc := 408) (v := 1) hx hb dL_law_408 (by decide) ?_
  refine lv_iadd (pc := 409) hx hb dL_law_409 ?_
  refine va_sld (pc := 410) hx hb hX hbl hbA hI.2.2 hv1 dL_law_410 ?_
  refine lv_aload_n (pc := 411) hx hb dL_law_411 rfl (lv_at hl 0 rfl) ?_
  refine lv_iload_n (pc := 412) hx hb dL_law_412 rfl (lv_at hl 3 rfl) ?_
  refine lv_iconst (pc := 413) (v := 2) hx hb dL_law_413 (by decide) ?_
  refine lv_iadd (pc := 414) hx hb dL_law_414 ?_
  refine va_sld (pc := 415) hx hb hX hbl hbA hI.2.2 hv2 dL_law_415 ?_
  obtain ⟨rm, em, rx, ex, er, hR⟩ := op_rack hR (xs (nI i + 1).toNatClampNeg) (xs (nI i + 2).toNatClampNeg)
  refine x_cVs (pc := 416) (st1 := [.int rx]) (w1 := ((xb G h x_hasImage f_places f_kinds f_weights f_howManyGenerators f_generators f_racks f_howManySeen f_seenFirst f_seenSecond f_seenIs f_seenPlaces f_howManyEvents f_eventWhat f_eventNumber g_places g_kinds g_weights g_howManyGenerators g_generators g_racks g_howManySeen g_seenFirst g_seenSecond g_seenIs g_seenPlaces g_howManyEvents g_eventWhat g_eventNumber n_m0 n_m1 n_m2 n_s0 n_s1 n_s2 v_keys v_asFound v_found v_turns v_places p_keys p_asFound p_found p_turns p_places i_sort i_howOften i_sorts i_moves n_uq n_u u_leasts u_howMany u_known n_wq n_w w_leasts w_howMany w_known t_signs t_length t_whole t_begins t_ends r_sorts r_numbers r_length) ++ ((tl G h tp ta ti sr ln it) ++ (mw G g z_thrown z_s z_kept z_isKept z_moveMany z_moves z_hands z_troubles z_troubleSorts z_troubleNumbers z_asked z_paint z_leasts z_isSeen z_classMany z_types z_typeCounts z_typeMany z_text z_signs z_at z_lacks z_clauses z_begun z_letters z_firsts z_seconds z_aside z_sorts z_sizes z_items)))) X E hI (c_X9_rack l G h ex) kv_L_45 hd_X9_rack ⟨rfl, rfl⟩ (by decide) 0 rfl rfl rfl rfl hl.1 rfl (Nat.le_of_ble_eq_true rfl) dL_law_416 ⟨by show C + 0 ≤ 600000; omega, by show S + 0 ≤ 7302249; omega⟩ rfl (fun H locs hI => ?_)
  refine lv_aload_n (pc := 419) hx hb dL_law_419 rfl (lv_at hl 2 rfl) ?_
  refine lv_aload_n (pc := 420) hx hb dL_law_420 rfl (lv_at hl 0 rfl) ?_
  refine lv_iload_n (pc := 421) hx hb dL_law_421 rfl (lv_at hl 3 rfl) ?_
  refine lv_iconst (pc := 422) (v := 1) hx hb dL_law_422 (by decide) ?_
  refine lv_iadd (pc := 423) hx hb dL_law_423 ?_
  refine va_sld (pc := 424) hx hb hX hbl hbA hI.2.2 hv1 dL_law_424 ?_
  refine lv_aload_n (pc := 425) hx hb dL_law_425 rfl (lv_at hl 0 rfl) ?_
  refine lv_iload_n (pc := 426) hx hb dL_law_426 rfl (lv_at hl 3 rfl) ?_
  refine lv_iconst (pc := 427) (v := 2) hx hb dL_law_427 (by decide) ?_
  refine lv_iadd (pc := 428) hx hb dL_law_428 ?_
  refine va_sld (pc := 429) hx hb hX hbl hbA hI.2.2 hv2 dL_law_429 ?_
  refine x_cVR (pc := 430) (st1 := [.int rm.1, .int rx]) (w1 := (mw G g z_thrown z_s z_kept z_isKept rm.2.1 rm.2.2.1 rm.2.2.2 z_troubles z_troubleSorts z_troubleNumbers z_asked z_paint z_leasts z_isSeen z_classMany z_types z_typeCounts z_typeMany z_text z_signs z_at z_lacks z_clauses z_begun z_letters z_firsts z_seconds z_aside z_sorts z_sizes z_items)) X E hI (c_X10_rack l G g em) kv_L_48 hd_X10_rack ⟨rfl, rfl⟩ (by decide) 0 rfl rfl rfl rfl hl.1 rfl (Nat.le_of_ble_eq_true rfl) dL_law_430 ⟨by show C + 0 + 0 ≤ 600000; omega, by show S + 0 + 0 ≤ 7302249; omega⟩ rfl (fun H locs hI => ?_)
  refine lv_icmp_eq (pc := 433) (tgt := 1492) hx hb dL_law_433 (by decide) (fun c1 => ?_) (fun c1 => ?_)
  rotate_left
  · exact absurd er c1
  refine W.widen (k := C + 1) (n := S + 4096) (by omega) (by omega) ?_
  exact kk _ _ _ ⟨h, g, n_m0, n_m1, n_m2, n_s0, n_s1, n_s2, n_uq, n_wq, tp, ta, ti, x_hasImage, f_places, f_kinds, f_weights, f_howManyGenerators, f_generators, f_racks, f_howManySeen, f_seenFirst, f_seenSecond, f_seenIs, f_seenPlaces, f_howManyEvents, f_eventWhat, f_eventNumber, g_places, g_kinds, g_weights, g_howManyGenerators, g_generators, g_racks, g_howManySeen, g_seenFirst, g_seenSecond, g_seenIs, g_seenPlaces, g_howManyEvents, g_eventWhat, g_eventNumber, v_keys, v_asFound, v_found, v_turns, v_places, p_keys, p_asFound, p_found, p_turns, p_places, i_sort, i_howOften, i_sorts, i_moves, n_u, u_leasts, u_howMany, u_known, n_w, w_leasts, w_howMany, w_known, t_signs, t_length, t_whole, t_begins, t_ends, r_sorts, r_numbers, r_length, sr, ln, it, z_thrown, z_s, z_kept, z_isKept, rm.2.1, rm.2.2.1, rm.2.2.2, z_troubles, z_troubleSorts, z_troubleNumbers, z_asked, z_paint, z_leasts, z_isSeen, z_classMany, z_types, z_typeCounts, z_typeMany, z_text, z_signs, z_at, z_lacks, z_clauses, z_begun, z_letters, z_firsts, z_seconds, z_aside, z_sorts, z_sizes, z_items, htp, hR, hI, hl⟩
set_option maxHeartbeats 8000000 in
set_option maxRecDepth 100000 in
theorem law_8 {rr : RT} (op_move : OP_move rr) {p : Program} {l : Launch} {e : Env} {s : State} {m : MethodId} {below : List Frame} {meth : Method} {c : Code} {b L : Nat} {xs : Nat → Int32} {A : Nat → Prop} {G : GX} {Q : State → Prop} (X : CX RL code 4 ret p s m #[Value.ref b] meth c) (E : EX G A s) (hX : va_X b L xs s s.heap) (hbl : b < s.heap.size) (hbA : ¬ A b) {i C S : Nat} (hi : i + 6 ≤ L) (hL : L ≤ 3072) (hC : C + 1 ≤ 600000) (hS : S + 4096 ≤ 7302249) {H : Heap} {locs : List Loc} {ls : Array Slot} (hLI : LI rr G A s b i H locs ls)
    (kk : ∀ (H : Heap) (locs : List Loc) (ls : Array Slot), LI rr G A s b i H locs ls → W p l e room_1 s m #[Value.ref b] below meth c H locs (C + 1) (S + 4096) Q (F0 m 1492 ls [])) : W p l e room_1 s m #[Value.ref b] below meth c H locs C S Q (F0 m 438 ls []) := by
  obtain ⟨hx, hb, hml, hown, hts, hr, hlk⟩ := id X
  obtain ⟨h, g, n_m0, n_m1, n_m2, n_s0, n_s1, n_s2, n_uq, n_wq, tp, ta, ti, x_hasImage, f_places, f_kinds, f_weights, f_howManyGenerators, f_generators, f_racks, f_howManySeen, f_seenFirst, f_seenSecond, f_seenIs, f_seenPlaces, f_howManyEvents, f_eventWhat, f_eventNumber, g_places, g_kinds, g_weights, g_howManyGenerators, g_generators, g_racks, g_howManySeen, g_seenFirst, g_seenSecond, g_seenIs, g_seenPlaces, g_howManyEvents, g_eventWhat, g_eventNumber, v_keys, v_asFound, v_found, v_turns, v_places, p_keys, p_asFound, p_found, p_turns, p_places, i_sort, i_howOften, i_sorts, i_moves, n_u, u_leasts, u_howMany, u_known, n_w, w_leasts, w_howMany, w_known, t_signs, t_length, t_whole, t_begins, t_ends, r_sorts, r_numbers, r_length, sr, ln, it, z_thrown, z_s, z_kept, z_isKept, z_moveMany, z_moves, z_hands, z_troubles, z_troubleSorts, z_troubleNumbers, z_asked, z_paint, z_leasts, z_isSeen, z_classMany, z_types, z_typeCounts, z_typeMany, z_text, z_signs, z_at, z_lacks, z_clauses, z_begun, z_letters, z_firsts, z_seconds, z_aside, z_sorts, z_sizes, z_items, htp, hR, hI, hl⟩ := hLI
  have hv1 := q_v1 hi hL
  have hv2 := q_v2 hi hL
  have hv3 := q_v3 hi hL
  have hv4 := q_v4 hi hL
  have hv5 := q_v5 hi hL
  refine lv_aload_n (pc := 438) hx hb dL_law_438 rfl (lv_at hl 1 rfl) ?_
  refine lv_aload_n (pc := 439) hx hb dL_law_439 rfl (lv_at hl 0 rfl) ?_
  refine lv_iload_n (pc := 440) hx hb dL_law_440 rfl (lv_at hl 3 rfl) ?_
  refine lv_iconst (pc := 441) (v := 1) hx hb dL_law_441 (by decide) ?_
  refine lv_iadd (pc := 442) hx hb dL_law_442 ?_
  refine va_sld (pc := 443) hx hb hX hbl hbA hI.2.2 hv1 dL_law_443 ?_
  refine lv_aload_n (pc := 444) hx hb dL_law_444 rfl (lv_at hl 0 rfl) ?_
  refine lv_iload_n (pc := 445) hx hb dL_law_445 rfl (lv_at hl 3 rfl) ?_
  refine lv_iconst (pc := 446) (v := 2) hx hb dL_law_446 (by decide) ?_
  refine lv_iadd (pc := 447) hx hb dL_law_447 ?_
  refine va_sld (pc := 448) hx hb hX hbl hbA hI.2.2 hv2 dL_law_448 ?_
  obtain ⟨rm, em, rx, ex, er, hR⟩ := op_move hR (xs (nI i + 1).toNatClampNeg) (xs (nI i + 2).toNatClampNeg)
  refine x_cVs (pc := 449) (st1 := [.int rx]) (w1 := ((xb G h x_hasImage f_places f_kinds f_weights f_howManyGenerators f_generators f_racks f_howManySeen f_seenFirst f_seenSecond f_seenIs f_seenPlaces f_howManyEvents f_eventWhat f_eventNumber g_places g_kinds g_weights g_howManyGenerators g_generators g_racks g_howManySeen g_seenFirst g_seenSecond g_seenIs g_seenPlaces g_howManyEvents g_eventWhat g_eventNumber n_m0 n_m1 n_m2 n_s0 n_s1 n_s2 v_keys v_asFound v_found v_turns v_places p_keys p_asFound p_found p_turns p_places i_sort i_howOften i_sorts i_moves n_uq n_u u_leasts u_howMany u_known n_wq n_w w_leasts w_howMany w_known t_signs t_length t_whole t_begins t_ends r_sorts r_numbers r_length) ++ ((tl G h tp ta ti sr ln it) ++ (mw G g z_thrown z_s z_kept z_isKept z_moveMany z_moves z_hands z_troubles z_troubleSorts z_troubleNumbers z_asked z_paint z_leasts z_isSeen z_classMany z_types z_typeCounts z_typeMany z_text z_signs z_at z_lacks z_clauses z_begun z_letters z_firsts z_seconds z_aside z_sorts z_sizes z_items)))) X E hI (c_X9_move l G h ex) kv_L_49 hd_X9_move ⟨rfl, rfl⟩ (by decide) 0 rfl rfl rfl rfl hl.1 rfl (Nat.le_of_ble_eq_true rfl) dL_law_449 ⟨by show C + 0 ≤ 600000; omega, by show S + 0 ≤ 7302249; omega⟩ rfl (fun H locs hI => ?_)
  refine lv_aload_n (pc := 452) hx hb dL_law_452 rfl (lv_at hl 2 rfl) ?_
  refine lv_aload_n (pc := 453) hx hb dL_law_453 rfl (lv_at hl 0 rfl) ?_
  refine lv_iload_n (pc := 454) hx hb dL_law_454 rfl (lv_at hl 3 rfl) ?_
  refine lv_iconst (pc := 455) (v := 1) hx hb dL_law_455 (by decide) ?_
  refine lv_iadd (pc := 456) hx hb dL_law_456 ?_
  refine va_sld (pc := 457) hx hb hX hbl hbA hI.2.2 hv1 dL_law_457 ?_
  refine lv_aload_n (pc := 458) hx hb dL_law_458 rfl (lv_at hl 0 rfl) ?_
  refine lv_iload_n (pc := 459) hx hb dL_law_459 rfl (lv_at hl 3 rfl) ?_
  refine lv_iconst (pc := 460) (v := 2) hx hb dL_law_460 (by decide) ?_
  refine lv_iadd (pc := 461) hx hb dL_law_461 ?_
  refine va_sld (pc := 462) hx hb hX hbl hbA hI.2.2 hv2 dL_law_462 ?_
  refine x_cVR (pc := 463) (st1 := [.int rm.1, .int rx]) (w1 := (mw G g z_thrown z_s z_kept z_isKept rm.2.1 rm.2.2.1 rm.2.2.2.1 z_troubles z_troubleSorts z_troubleNumbers rm.2.2.2.2 z_paint z_leasts z_isSeen z_classMany z_types z_typeCounts z_typeMany z_text z_signs z_at z_lacks z_clauses z_begun z_letters z_firsts z_seconds z_aside z_sorts z_sizes z_items)) X E hI (c_X10_move l G g em) kv_L_52 hd_X10_move ⟨rfl, rfl⟩ (by decide) 0 rfl rfl rfl rfl hl.1 rfl (Nat.le_of_ble_eq_true rfl) dL_law_463 ⟨by show C + 0 + 0 ≤ 600000; omega, by show S + 0 + 0 ≤ 7302249; omega⟩ rfl (fun H locs hI => ?_)
  refine lv_icmp_eq (pc := 466) (tgt := 1492) hx hb dL_law_466 (by decide) (fun c1 => ?_) (fun c1 => ?_)
  rotate_left
  · exact absurd er c1
  refine W.widen (k := C + 1) (n := S + 4096) (by omega) (by omega) ?_
  exact kk _ _ _ ⟨h, g, n_m0, n_m1, n_m2, n_s0, n_s1, n_s2, n_uq, n_wq, tp, ta, ti, x_hasImage, f_places, f_kinds, f_weights, f_howManyGenerators, f_generators, f_racks, f_howManySeen, f_seenFirst, f_seenSecond, f_seenIs, f_seenPlaces, f_howManyEvents, f_eventWhat, f_eventNumber, g_places, g_kinds, g_weights, g_howManyGenerators, g_generators, g_racks, g_howManySeen, g_seenFirst, g_seenSecond, g_seenIs, g_seenPlaces, g_howManyEvents, g_eventWhat, g_eventNumber, v_keys, v_asFound, v_found, v_turns, v_places, p_keys, p_asFound, p_found, p_turns, p_places, i_sort, i_howOften, i_sorts, i_moves, n_u, u_leasts, u_howMany, u_known, n_w, w_leasts, w_howMany, w_known, t_signs, t_length, t_whole, t_begins, t_ends, r_sorts, r_numbers, r_length, sr, ln, it, z_thrown, z_s, z_kept, z_isKept, rm.2.1, rm.2.2.1, rm.2.2.2.1, z_troubles, z_troubleSorts, z_troubleNumbers, rm.2.2.2.2, z_paint, z_leasts, z_isSeen, z_classMany, z_types, z_typeCounts, z_typeMany, z_text, z_signs, z_at, z_lacks, z_clauses, z_begun, z_letters, z_firsts, z_seconds, z_aside, z_sorts, z_sizes, z_items, htp, hR, hI, hl⟩
set_option maxHeartbeats 8000000 in
set_option maxRecDepth 100000 in
theorem law_9 {rr : RT} (op_told : OP_told rr) {p : Program} {l : Launch} {e : Env} {s : State} {m : MethodId} {below : List Frame} {meth : Method} {c : Code} {b L : Nat} {xs : Nat → Int32} {A : Nat → Prop} {G : GX} {Q : State → Prop} (X : CX RL code 4 ret p s m #[Value.ref b] meth c) (E : EX G A s) (hX : va_X b L xs s s.heap) (hbl : b < s.heap.size) (hbA : ¬ A b) {i C S : Nat} (hi : i + 6 ≤ L) (hL : L ≤ 3072) (hC : C + 1 ≤ 600000) (hS : S + 4096 ≤ 7302249) {H : Heap} {locs : List Loc} {ls : Array Slot} (hLI : LI rr G A s b i H locs ls)
    (kk : ∀ (H : Heap) (locs : List Loc) (ls : Array Slot), LI rr G A s b i H locs ls → W p l e room_1 s m #[Value.ref b] below meth c H locs (C + 1) (S + 4096) Q (F0 m 1492 ls [])) : W p l e room_1 s m #[Value.ref b] below meth c H locs C S Q (F0 m 471 ls []) := by
  obtain ⟨hx, hb, hml, hown, hts, hr, hlk⟩ := id X
  obtain ⟨h, g, n_m0, n_m1, n_m2, n_s0, n_s1, n_s2, n_uq, n_wq, tp, ta, ti, x_hasImage, f_places, f_kinds, f_weights, f_howManyGenerators, f_generators, f_racks, f_howManySeen, f_seenFirst, f_seenSecond, f_seenIs, f_seenPlaces, f_howManyEvents, f_eventWhat, f_eventNumber, g_places, g_kinds, g_weights, g_howManyGenerators, g_generators, g_racks, g_howManySeen, g_seenFirst, g_seenSecond, g_seenIs, g_seenPlaces, g_howManyEvents, g_eventWhat, g_eventNumber, v_keys, v_asFound, v_found, v_turns, v_places, p_keys, p_asFound, p_found, p_turns, p_places, i_sort, i_howOften, i_sorts, i_moves, n_u, u_leasts, u_howMany, u_known, n_w, w_leasts, w_howMany, w_known, t_signs, t_length, t_whole, t_begins, t_ends, r_sorts, r_numbers, r_length, sr, ln, it, z_thrown, z_s, z_kept, z_isKept, z_moveMany, z_moves, z_hands, z_troubles, z_troubleSorts, z_troubleNumbers, z_asked, z_paint, z_leasts, z_isSeen, z_classMany, z_types, z_typeCounts, z_typeMany, z_text, z_signs, z_at, z_lacks, z_clauses, z_begun, z_letters, z_firsts, z_seconds, z_aside, z_sorts, z_sizes, z_items, htp, hR, hI, hl⟩ := hLI
  have hv1 := q_v1 hi hL
  have hv2 := q_v2 hi hL
  have hv3 := q_v3 hi hL
  have hv4 := q_v4 hi hL
  have hv5 := q_v5 hi hL
  refine lv_aload_n (pc := 471) hx hb dL_law_471 rfl (lv_at hl 1 rfl) ?_
  refine lv_aload_n (pc := 472) hx hb dL_law_472 rfl (lv_at hl 0 rfl) ?_
  refine lv_iload_n (pc := 473) hx hb dL_law_473 rfl (lv_at hl 3 rfl) ?_
  refine lv_iconst (pc := 474) (v := 1) hx hb dL_law_474 (by decide) ?_
  refine lv_iadd (pc := 475) hx hb dL_law_475 ?_
  refine va_sld (pc := 476) hx hb hX hbl hbA hI.2.2 hv1 dL_law_476 ?_
  obtain ⟨rm, em, rx, ex, er, hR⟩ := op_told hR (xs (nI i + 1).toNatClampNeg)
  refine x_cVs (pc := 477) (st1 := [.int rx.1]) (w1 := ((xb G h x_hasImage f_places f_kinds f_weights f_howManyGenerators f_generators f_racks f_howManySeen f_seenFirst f_seenSecond f_seenIs f_seenPlaces f_howManyEvents f_eventWhat f_eventNumber g_places g_kinds g_weights g_howManyGenerators g_generators g_racks g_howManySeen g_seenFirst g_seenSecond g_seenIs g_seenPlaces g_howManyEvents g_eventWhat g_eventNumber n_m0 n_m1 n_m2 n_s0 n_s1 n_s2 v_keys v_asFound v_found v_turns v_places p_keys p_asFound p_found p_turns p_places rx.2.1 rx.2.2.1 rx.2.2.2.1 rx.2.2.2.2 n_uq n_u u_leasts u_howMany u_known n_wq n_w w_leasts w_howMany w_known t_signs t_length t_whole t_begins t_ends r_sorts r_numbers r_length) ++ ((tl G h tp ta ti sr ln it) ++ (mw G g z_thrown z_s z_kept z_isKept z_moveMany z_moves z_hands z_troubles z_troubleSorts z_troubleNumbers z_asked z_paint z_leasts z_isSeen z_classMany z_types z_typeCounts z_typeMany z_text z_signs z_at z_lacks z_clauses z_begun z_letters z_firsts z_seconds z_aside z_sorts z_sizes z_items)))) X E hI (c_X9_told l G h ex) kv_L_53 hd_X9_told ⟨rfl, rfl⟩ (by decide) 0 rfl rfl rfl rfl hl.1 rfl (Nat.le_of_ble_eq_true rfl) dL_law_477 ⟨by show C + 0 ≤ 600000; omega, by show S + 0 ≤ 7302249; omega⟩ rfl (fun H locs hI => ?_)
  refine lv_aload_n (pc := 480) hx hb dL_law_480 rfl (lv_at hl 2 rfl) ?_
  refine lv_aload_n (pc := 481) hx hb dL_law_481 rfl (lv_at hl 0 rfl) ?_
  refine lv_iload_n (pc := 482) hx hb dL_law_482 rfl (lv_at hl 3 rfl) ?_
  refine lv_iconst (pc := 483) (v := 1) hx hb dL_law_483 (by decide) ?_
  refine lv_iadd (pc := 484) hx hb dL_law_484 ?_
  refine va_sld (pc := 485) hx hb hX hbl hbA hI.2.2 hv1 dL_law_485 ?_
  refine x_cVR (pc := 486) (st1 := [.int rm.1, .int rx.1]) (w1 := (mw G g z_thrown z_s z_kept z_isKept rm.2.1 rm.2.2.1 rm.2.2.2.1 z_troubles z_troubleSorts z_troubleNumbers z_asked rm.2.2.2.2.1 rm.2.2.2.2.2.1 rm.2.2.2.2.2.2.1 rm.2.2.2.2.2.2.2 z_types z_typeCounts z_typeMany z_text z_signs z_at z_lacks z_clauses z_begun z_letters z_firsts z_seconds z_aside z_sorts z_sizes z_items)) X E hI (c_X10_told l G g em) kv_L_56 hd_X10_told ⟨rfl, rfl⟩ (by decide) 0 rfl rfl rfl rfl hl.1 rfl (Nat.le_of_ble_eq_true rfl) dL_law_486 ⟨by show C + 0 + 0 ≤ 600000; omega, by show S + 0 + 0 ≤ 7302249; omega⟩ rfl (fun H locs hI => ?_)
  refine lv_icmp_eq (pc := 489) (tgt := 1492) hx hb dL_law_489 (by decide) (fun c1 => ?_) (fun c1 => ?_)
  rotate_left
  · exact absurd er c1
  refine W.widen (k := C + 1) (n := S + 4096) (by omega) (by omega) ?_
  exact kk _ _ _ ⟨h, g, n_m0, n_m1, n_m2, n_s0, n_s1, n_s2, n_uq, n_wq, tp, ta, ti, x_hasImage, f_places, f_kinds, f_weights, f_howManyGenerators, f_generators, f_racks, f_howManySeen, f_seenFirst, f_seenSecond, f_seenIs, f_seenPlaces, f_howManyEvents, f_eventWhat, f_eventNumber, g_places, g_kinds, g_weights, g_howManyGenerators, g_generators, g_racks, g_howManySeen, g_seenFirst, g_seenSecond, g_seenIs, g_seenPlaces, g_howManyEvents, g_eventWhat, g_eventNumber, v_keys, v_asFound, v_found, v_turns, v_places, p_keys, p_asFound, p_found, p_turns, p_places, rx.2.1, rx.2.2.1, rx.2.2.2.1, rx.2.2.2.2, n_u, u_leasts, u_howMany, u_known, n_w, w_leasts, w_howMany, w_known, t_signs, t_length, t_whole, t_begins, t_ends, r_sorts, r_numbers, r_length, sr, ln, it, z_thrown, z_s, z_kept, z_isKept, rm.2.1, rm.2.2.1, rm.2.2.2.1, z_troubles, z_troubleSorts, z_troubleNumbers, z_asked, rm.2.2.2.2.1, rm.2.2.2.2.2.1, rm.2.2.2.2.2.2.1, rm.2.2.2.2.2.2.2, z_types, z_typeCounts, z_typeMany, z_text, z_signs, z_at, z_lacks, z_clauses, z_begun, z_letters, z_firsts, z_seconds, z_aside, z_sorts, z_sizes, z_items, htp, hR, hI, hl⟩
set_option maxHeartbeats 8000000 in
set_option maxRecDepth 100000 in
theorem law_10 {rr : RT} (op_index : OP_index rr) {p : Program} {l : Launch} {e : Env} {s : State} {m : MethodId} {below : List Frame} {meth : Method} {c : Code} {b L : Nat} {xs : Nat → Int32} {A : Nat → Prop} {G : GX} {Q : State → Prop} (X : CX RL code 4 ret p s m #[Value.ref b] meth c) (E : EX G A s) (hX : va_X b L xs s s.heap) (hbl : b < s.heap.size) (hbA : ¬ A b) {i C S : Nat} (hi : i + 6 ≤ L) (hL : L ≤ 3072) (hC : C + 1 ≤ 600000) (hS : S + 4096 ≤ 7302249) {H : Heap} {locs : List Loc} {ls : Array Slot} (hLI : LI rr G A s b i H locs ls)
    (kk : ∀ (H : Heap) (locs : List Loc) (ls : Array Slot), LI rr G A s b i H locs ls → W p l e room_1 s m #[Value.ref b] below meth c H locs (C + 1) (S + 4096) Q (F0 m 1492 ls [])) : W p l e room_1 s m #[Value.ref b] below meth c H locs C S Q (F0 m 494 ls []) := by
  obtain ⟨hx, hb, hml, hown, hts, hr, hlk⟩ := id X
  obtain ⟨h, g, n_m0, n_m1, n_m2, n_s0, n_s1, n_s2, n_uq, n_wq, tp, ta, ti, x_hasImage, f_places, f_kinds, f_weights, f_howManyGenerators, f_generators, f_racks, f_howManySeen, f_seenFirst, f_seenSecond, f_seenIs, f_seenPlaces, f_howManyEvents, f_eventWhat, f_eventNumber, g_places, g_kinds, g_weights, g_howManyGenerators, g_generators, g_racks, g_howManySeen, g_seenFirst, g_seenSecond, g_seenIs, g_seenPlaces, g_howManyEvents, g_eventWhat, g_eventNumber, v_keys, v_asFound, v_found, v_turns, v_places, p_keys, p_asFound, p_found, p_turns, p_places, i_sort, i_howOften, i_sorts, i_moves, n_u, u_leasts, u_howMany, u_known, n_w, w_leasts, w_howMany, w_known, t_signs, t_length, t_whole, t_begins, t_ends, r_sorts, r_numbers, r_length, sr, ln, it, z_thrown, z_s, z_kept, z_isKept, z_moveMany, z_moves, z_hands, z_troubles, z_troubleSorts, z_troubleNumbers, z_asked, z_paint, z_leasts, z_isSeen, z_classMany, z_types, z_typeCounts, z_typeMany, z_text, z_signs, z_at, z_lacks, z_clauses, z_begun, z_letters, z_firsts, z_seconds, z_aside, z_sorts, z_sizes, z_items, htp, hR, hI, hl⟩ := hLI
  have hv1 := q_v1 hi hL
  have hv2 := q_v2 hi hL
  have hv3 := q_v3 hi hL
  have hv4 := q_v4 hi hL
  have hv5 := q_v5 hi hL
  refine lv_aload_n (pc := 494) hx hb dL_law_494 rfl (lv_at hl 1 rfl) ?_
  refine lv_aload_n (pc := 495) hx hb dL_law_495 rfl (lv_at hl 0 rfl) ?_
  refine lv_iload_n (pc := 496) hx hb dL_law_496 rfl (lv_at hl 3 rfl) ?_
  refine lv_iconst (pc := 497) (v := 1) hx hb dL_law_497 (by decide) ?_
  refine lv_iadd (pc := 498) hx hb dL_law_498 ?_
  refine va_sld (pc := 499) hx hb hX hbl hbA hI.2.2 hv1 dL_law_499 ?_
  refine lv_aload_n (pc := 500) hx hb dL_law_500 rfl (lv_at hl 0 rfl) ?_
  refine lv_iload_n (pc := 501) hx hb dL_law_501 rfl (lv_at hl 3 rfl) ?_
  refine lv_iconst (pc := 502) (v := 2) hx hb dL_law_502 (by decide) ?_
  refine lv_iadd (pc := 503) hx hb dL_law_503 ?_
  refine va_sld (pc := 504) hx hb hX hbl hbA hI.2.2 hv2 dL_law_504 ?_
  refine lv_aload_n (pc := 505) hx hb dL_law_505 rfl (lv_at hl 0 rfl) ?_
  refine lv_iload_n (pc := 506) hx hb dL_law_506 rfl (lv_at hl 3 rfl) ?_
  refine lv_iconst (pc := 507) (v := 3) hx hb dL_law_507 (by decide) ?_
  refine lv_iadd (pc := 508) hx hb dL_law_508 ?_
  refine va_sld (pc := 509) hx hb hX hbl hbA hI.2.2 hv3 dL_law_509 ?_
  obtain ⟨rm, em, rx, ex, er, hR⟩ := op_index hR (xs (nI i + 1).toNatClampNeg) (xs (nI i + 2).toNatClampNeg) (xs (nI i + 3).toNatClampNeg)
  refine x_cVs (pc := 510) (st1 := [.int rx.1]) (w1 := ((xb G h x_hasImage f_places f_kinds f_weights f_howManyGenerators f_generators f_racks f_howManySeen f_seenFirst f_seenSecond f_seenIs f_seenPlaces f_howManyEvents f_eventWhat f_eventNumber g_places g_kinds g_weights g_howManyGenerators g_generators g_racks g_howManySeen g_seenFirst g_seenSecond g_seenIs g_seenPlaces g_howManyEvents g_eventWhat g_eventNumber n_m0 n_m1 n_m2 n_s0 n_s1 n_s2 v_keys v_asFound v_found v_turns v_places p_keys p_asFound p_found p_turns p_places rx.2.1 rx.2.2.1 rx.2.2.2.1 rx.2.2.2.2 n_uq n_u u_leasts u_howMany u_known n_wq n_w w_leasts w_howMany w_known t_signs t_length t_whole t_begins t_ends r_sorts r_numbers r_length) ++ ((tl G h tp ta ti sr ln it) ++ (mw G g z_thrown z_s z_kept z_isKept z_moveMany z_moves z_hands z_troubles z_troubleSorts z_troubleNumbers z_asked z_paint z_leasts z_isSeen z_classMany z_types z_typeCounts z_typeMany z_text z_signs z_at z_lacks z_clauses z_begun z_letters z_firsts z_seconds z_aside z_sorts z_sizes z_items)))) X E hI (c_X9_index l G h ex) kv_L_57 hd_X9_index ⟨rfl, rfl⟩ (by decide) 0 rfl rfl rfl rfl hl.1 rfl (Nat.le_of_ble_eq_true rfl) dL_law_510 ⟨by show C + 0 ≤ 600000; omega, by show S + 0 ≤ 7302249; omega⟩ rfl (fun H locs hI => ?_)
  refine lv_aload_n (pc := 513) hx hb dL_law_513 rfl (lv_at hl 2 rfl) ?_
  refine lv_aload_n (pc := 514) hx hb dL_law_514 rfl (lv_at hl 0 rfl) ?_
  refine lv_iload_n (pc := 515) hx hb dL_law_515 rfl (lv_at hl 3 rfl) ?_
  refine lv_iconst (pc := 516) (v := 1) hx hb dL_law_516 (by decide) ?_
  refine lv_iadd (pc := 517) hx hb dL_law_517 ?_
  refine va_sld (pc := 518) hx hb hX hbl hbA hI.2.2 hv1 dL_law_518 ?_
  refine lv_aload_n (pc := 519) hx hb dL_law_519 rfl (lv_at hl 0 rfl) ?_
  refine lv_iload_n (pc := 520) hx hb dL_law_520 rfl (lv_at hl 3 rfl) ?_
  refine lv_iconst (pc := 521) (v := 2) hx hb dL_law_521 (by decide) ?_
  refine lv_iadd (pc := 522) hx hb dL_law_522 ?_
  refine va_sld (pc := 523) hx hb hX hbl hbA hI.2.2 hv2 dL_law_523 ?_
  refine lv_aload_n (pc := 524) hx hb dL_law_524 rfl (lv_at hl 0 rfl) ?_
  refine lv_iload_n (pc := 525) hx hb dL_law_525 rfl (lv_at hl 3 rfl) ?_
  refine lv_iconst (pc := 526) (v := 3) hx hb dL_law_526 (by decide) ?_
  refine lv_iadd (pc := 527) hx hb dL_law_527 ?_
  refine va_sld (pc := 528) hx hb hX hbl hbA hI.2.2 hv3 dL_law_528 ?_
  refine x_cVR (pc := 529) (st1 := [.int rm.1, .int rx.1]) (w1 := (mw G g z_thrown z_s z_kept z_isKept rm.2.1 rm.2.2.1 rm.2.2.2.1 z_troubles z_troubleSorts z_troubleNumbers rm.2.2.2.2.1 z_paint z_leasts z_isSeen z_classMany rm.2.2.2.2.2.1 rm.2.2.2.2.2.2.1 rm.2.2.2.2.2.2.2 z_text z_signs z_at z_lacks z_clauses z_begun z_letters z_firsts z_seconds z_aside z_sorts z_sizes z_items)) X E hI (c_X10_index l G g em) kv_L_60 hd_X10_index ⟨rfl, rfl⟩ (by decide) 0 rfl rfl rfl rfl hl.1 rfl (Nat.le_of_ble_eq_true rfl) dL_law_529 ⟨by show C + 0 + 0 ≤ 600000; omega, by show S + 0 + 0 ≤ 7302249; omega⟩ rfl (fun H locs hI => ?_)
  refine lv_icmp_eq (pc := 532) (tgt := 1492) hx hb dL_law_532 (by decide) (fun c1 => ?_) (fun c1 => ?_)
  rotate_left
  · exact absurd er c1
  refine W.widen (k := C + 1) (n := S + 4096) (by omega) (by omega) ?_
  exact kk _ _ _ ⟨h, g, n_m0, n_m1, n_m2, n_s0, n_s1, n_s2, n_uq, n_wq, tp, ta, ti, x_hasImage, f_places, f_kinds, f_weights, f_howManyGenerators, f_generators, f_racks, f_howManySeen, f_seenFirst, f_seenSecond, f_seenIs, f_seenPlaces, f_howManyEvents, f_eventWhat, f_eventNumber, g_places, g_kinds, g_weights, g_howManyGenerators, g_generators, g_racks, g_howManySeen, g_seenFirst, g_seenSecond, g_seenIs, g_seenPlaces, g_howManyEvents, g_eventWhat, g_eventNumber, v_keys, v_asFound, v_found, v_turns, v_places, p_keys, p_asFound, p_found, p_turns, p_places, rx.2.1, rx.2.2.1, rx.2.2.2.1, rx.2.2.2.2, n_u, u_leasts, u_howMany, u_known, n_w, w_leasts, w_howMany, w_known, t_signs, t_length, t_whole, t_begins, t_ends, r_sorts, r_numbers, r_length, sr, ln, it, z_thrown, z_s, z_kept, z_isKept, rm.2.1, rm.2.2.1, rm.2.2.2.1, z_troubles, z_troubleSorts, z_troubleNumbers, rm.2.2.2.2.1, z_paint, z_leasts, z_isSeen, z_classMany, rm.2.2.2.2.2.1, rm.2.2.2.2.2.2.1, rm.2.2.2.2.2.2.2, z_text, z_signs, z_at, z_lacks, z_clauses, z_begun, z_letters, z_firsts, z_seconds, z_aside, z_sorts, z_sizes, z_items, htp, hR, hI, hl⟩
set_option maxHeartbeats 8000000 in
set_option maxRecDepth 100000 in
theorem law_11 {rr : RT} (op_part : OP_part rr) {p : Program} {l : Launch} {e : Env} {s : State} {m : MethodId} {below : List Frame} {meth : Method} {c : Code} {b L : Nat} {xs : Nat → Int32} {A : Nat → Prop} {G : GX} {Q : State → Prop} (X : CX RL code 4 ret p s m #[Value.ref b] meth c) (E : EX G A s) (hX : va_X b L xs s s.heap) (hbl : b < s.heap.size) (hbA : ¬ A b) {i C S : Nat} (hi : i + 6 ≤ L) (hL : L ≤ 3072) (hC : C + 1 ≤ 600000) (hS : S + 4096 ≤ 7302249) {H : Heap} {locs : List Loc} {ls : Array Slot} (hLI : LI rr G A s b i H locs ls)
    (kk : ∀ (H : Heap) (locs : List Loc) (ls : Array Slot), LI rr G A s b i H locs ls → W p l e room_1 s m #[Value.ref b] below meth c H locs (C + 1) (S + 4096) Q (F0 m 1492 ls [])) : W p l e room_1 s m #[Value.ref b] below meth c H locs C S Q (F0 m 537 ls []) := by
  obtain ⟨hx, hb, hml, hown, hts, hr, hlk⟩ := id X
  obtain ⟨h, g, n_m0, n_m1, n_m2, n_s0, n_s1, n_s2, n_uq, n_wq, tp, ta, ti, x_hasImage, f_places, f_kinds, f_weights, f_howManyGenerators, f_generators, f_racks, f_howManySeen, f_seenFirst, f_seenSecond, f_seenIs, f_seenPlaces, f_howManyEvents, f_eventWhat, f_eventNumber, g_places, g_kinds, g_weights, g_howManyGenerators, g_generators, g_racks, g_howManySeen, g_seenFirst, g_seenSecond, g_seenIs, g_seenPlaces, g_howManyEvents, g_eventWhat, g_eventNumber, v_keys, v_asFound, v_found, v_turns, v_places, p_keys, p_asFound, p_found, p_turns, p_places, i_sort, i_howOften, i_sorts, i_moves, n_u, u_leasts, u_howMany, u_known, n_w, w_leasts, w_howMany, w_known, t_signs, t_length, t_whole, t_begins, t_ends, r_sorts, r_numbers, r_length, sr, ln, it, z_thrown, z_s, z_kept, z_isKept, z_moveMany, z_moves, z_hands, z_troubles, z_troubleSorts, z_troubleNumbers, z_asked, z_paint, z_leasts, z_isSeen, z_classMany, z_types, z_typeCounts, z_typeMany, z_text, z_signs, z_at, z_lacks, z_clauses, z_begun, z_letters, z_firsts, z_seconds, z_aside, z_sorts, z_sizes, z_items, htp, hR, hI, hl⟩ := hLI
  have hv1 := q_v1 hi hL
  have hv2 := q_v2 hi hL
  have hv3 := q_v3 hi hL
  have hv4 := q_v4 hi hL
  have hv5 := q_v5 hi hL
  refine lv_aload_n (pc := 537) hx hb dL_law_537 rfl (lv_at hl 1 rfl) ?_
  refine lv_aload_n (pc := 538) hx hb dL_law_538 rfl (lv_at hl 0 rfl) ?_
  refine lv_iload_n (pc := 539) hx hb dL_law_539 rfl (lv_at hl 3 rfl) ?_
  refine lv_iconst (pc := 540) (v := 1) hx hb dL_law_540 (by decide) ?_
  refine lv_iadd (pc := 541) hx hb dL_law_541 ?_
  refine va_sld (pc := 542) hx hb hX hbl hbA hI.2.2 hv1 dL_law_542 ?_
  refine lv_aload_n (pc := 543) hx hb dL_law_543 rfl (lv_at hl 0 rfl) ?_
  refine lv_iload_n (pc := 544) hx hb dL_law_544 rfl (lv_at hl 3 rfl) ?_
  refine lv_iconst (pc := 545) (v := 2) hx hb dL_law_545 (by decide) ?_
  refine lv_iadd (pc := 546) hx hb dL_law_546 ?_
  refine va_sld (pc := 547) hx hb hX hbl hbA hI.2.2 hv2 dL_law_547 ?_
  refine lv_aload_n (pc := 548) hx hb dL_law_548 rfl (lv_at hl 0 rfl) ?_
  refine lv_iload_n (pc := 549) hx hb dL_law_549 rfl (lv_at hl 3 rfl) ?_
  refine lv_iconst (pc := 550) (v := 3) hx hb dL_law_550 (by decide) ?_
  refine lv_iadd (pc := 551) hx hb dL_law_551 ?_
  refine va_sld (pc := 552) hx hb hX hbl hbA hI.2.2 hv3 dL_law_552 ?_
  obtain ⟨rm, em, rx, ex, er, hR⟩ := op_part hR (xs (nI i + 1).toNatClampNeg) (xs (nI i + 2).toNatClampNeg) (xs (nI i + 3).toNatClampNeg)
  refine x_cVs (pc := 553) (st1 := [.long rx.1]) (w1 := ((xb G h x_hasImage f_places f_kinds f_weights f_howManyGenerators f_generators f_racks f_howManySeen f_seenFirst f_seenSecond f_seenIs f_seenPlaces f_howManyEvents f_eventWhat f_eventNumber g_places g_kinds g_weights g_howManyGenerators g_generators g_racks g_howManySeen g_seenFirst g_seenSecond g_seenIs g_seenPlaces g_howManyEvents g_eventWhat g_eventNumber n_m0 n_m1 n_m2 n_s0 n_s1 n_s2 v_keys v_asFound v_found v_turns v_places p_keys p_asFound p_found p_turns p_places rx.2.1 rx.2.2.1 rx.2.2.2.1 rx.2.2.2.2 n_uq n_u u_leasts u_howMany u_known n_wq n_w w_leasts w_howMany w_known t_signs t_length t_whole t_begins t_ends r_sorts r_numbers r_length) ++ ((tl G h tp ta ti sr ln it) ++ (mw G g z_thrown z_s z_kept z_isKept z_moveMany z_moves z_hands z_troubles z_troubleSorts z_troubleNumbers z_asked z_paint z_leasts z_isSeen z_classMany z_types z_typeCounts z_typeMany z_text z_signs z_at z_lacks z_clauses z_begun z_letters z_firsts z_seconds z_aside z_sorts z_sizes z_items)))) X E hI (c_X9_part l G h ex) kv_L_61 hd_X9_part ⟨rfl, rfl⟩ (by decide) 0 rfl rfl rfl rfl hl.1 rfl (Nat.le_of_ble_eq_true rfl) dL_law_553 ⟨by show C + 0 ≤ 600000; omega, by show S + 0 ≤ 7302249; omega⟩ rfl (fun H locs hI => ?_)
  refine lv_aload_n (pc := 556) hx hb dL_law_556 rfl (lv_at hl 2 rfl) ?_
  refine lv_aload_n (pc := 557) hx hb dL_law_557 rfl (lv_at hl 0 rfl) ?_
  refine lv_iload_n (pc := 558) hx hb dL_law_558 rfl (lv_at hl 3 rfl) ?_
  refine lv_iconst (pc := 559) (v := 1) hx hb dL_law_559 (by decide) ?_
  refine lv_iadd (pc := 560) hx hb dL_law_560 ?_
  refine va_sld (pc := 561) hx hb hX hbl hbA hI.2.2 hv1 dL_law_561 ?_
  refine lv_aload_n (pc := 562) hx hb dL_law_562 rfl (lv_at hl 0 rfl) ?_
  refine lv_iload_n (pc := 563) hx hb dL_law_563 rfl (lv_at hl 3 rfl) ?_
  refine lv_iconst (pc := 564) (v := 2) hx hb dL_law_564 (by decide) ?_
  refine lv_iadd (pc := 565) hx hb dL_law_565 ?_
  refine va_sld (pc := 566) hx hb hX hbl hbA hI.2.2 hv2 dL_law_566 ?_
  refine lv_aload_n (pc := 567) hx hb dL_law_567 rfl (lv_at hl 0 rfl) ?_
  refine lv_iload_n (pc := 568) hx hb dL_law_568 rfl (lv_at hl 3 rfl) ?_
  refine lv_iconst (pc := 569) (v := 3) hx hb dL_law_569 (by decide) ?_
  refine lv_iadd (pc := 570) hx hb dL_law_570 ?_
  refine va_sld (pc := 571) hx hb hX hbl hbA hI.2.2 hv3 dL_law_571 ?_
  refine x_cVR (pc := 572) (st1 := [.long rm.1, .long rx.1]) (w1 := (mw G g z_thrown z_s z_kept z_isKept rm.2.1 rm.2.2.1 rm.2.2.2.1 z_troubles z_troubleSorts z_troubleNumbers rm.2.2.2.2.1 z_paint z_leasts z_isSeen z_classMany rm.2.2.2.2.2.1 rm.2.2.2.2.2.2.1 rm.2.2.2.2.2.2.2 z_text z_signs z_at z_lacks z_clauses z_begun z_letters z_firsts z_seconds z_aside z_sorts z_sizes z_items)) X E hI (c_X10_part l G g em) kv_L_65 hd_X10_part ⟨rfl, rfl⟩ (by decide) 0 rfl rfl rfl rfl hl.1 rfl (Nat.le_of_ble_eq_true rfl) dL_law_572 ⟨by show C + 0 + 0 ≤ 600000; omega, by show S + 0 + 0 ≤ 7302249; omega⟩ rfl (fun H locs hI => ?_)
  refine W.lcmp (pc := 575) hx hb dL_law_575 ?_
  refine lv_if_eq (pc := 576) (tgt := 1492) hx hb dL_law_576 (by decide) (fun c1 => ?_) (fun c1 => ?_)
  rotate_left
  · exact absurd (by rw [er]; exact q_lcmp _) c1
  refine W.widen (k := C + 1) (n := S + 4096) (by omega) (by omega) ?_
  exact kk _ _ _ ⟨h, g, n_m0, n_m1, n_m2, n_s0, n_s1, n_s2, n_uq, n_wq, tp, ta, ti, x_hasImage, f_places, f_kinds, f_weights, f_howManyGenerators, f_generators, f_racks, f_howManySeen, f_seenFirst, f_seenSecond, f_seenIs, f_seenPlaces, f_howManyEvents, f_eventWhat, f_eventNumber, g_places, g_kinds, g_weights, g_howManyGenerators, g_generators, g_racks, g_howManySeen, g_seenFirst, g_seenSecond, g_seenIs, g_seenPlaces, g_howManyEvents, g_eventWhat, g_eventNumber, v_keys, v_asFound, v_found, v_turns, v_places, p_keys, p_asFound, p_found, p_turns, p_places, rx.2.1, rx.2.2.1, rx.2.2.2.1, rx.2.2.2.2, n_u, u_leasts, u_howMany, u_known, n_w, w_leasts, w_howMany, w_known, t_signs, t_length, t_whole, t_begins, t_ends, r_sorts, r_numbers, r_length, sr, ln, it, z_thrown, z_s, z_kept, z_isKept, rm.2.1, rm.2.2.1, rm.2.2.2.1, z_troubles, z_troubleSorts, z_troubleNumbers, rm.2.2.2.2.1, z_paint, z_leasts, z_isSeen, z_classMany, rm.2.2.2.2.2.1, rm.2.2.2.2.2.2.1, rm.2.2.2.2.2.2.2, z_text, z_signs, z_at, z_lacks, z_clauses, z_begun, z_letters, z_firsts, z_seconds, z_aside, z_sorts, z_sizes, z_items, htp, hR, hI, hl⟩
set_option maxHeartbeats 8000000 in
set_option maxRecDepth 100000 in
theorem law_12 {rr : RT} (op_many : OP_many rr) {p : Program} {l : Launch} {e : Env} {s : State} {m : MethodId} {below : List Frame} {meth : Method} {c : Code} {b L : Nat} {xs : Nat → Int32} {A : Nat → Prop} {G : GX} {Q : State → Prop} (X : CX RL code 4 ret p s m #[Value.ref b] meth c) (E : EX G A s) (hX : va_X b L xs s s.heap) (hbl : b < s.heap.size) (hbA : ¬ A b) {i C S : Nat} (hi : i + 6 ≤ L) (hL : L ≤ 3072) (hC : C + 1 ≤ 600000) (hS : S + 4096 ≤ 7302249) {H : Heap} {locs : List Loc} {ls : Array Slot} (hLI : LI rr G A s b i H locs ls)
    (kk : ∀ (H : Heap) (locs : List Loc) (ls : Array Slot), LI rr G A s b i H locs ls → W p l e room_1 s m #[Value.ref b] below meth c H locs (C + 1) (S + 4096) Q (F0 m 1492 ls [])) : W p l e room_1 s m #[Value.ref b] below meth c H locs C S Q (F0 m 581 ls []) := by
  obtain ⟨hx, hb, hml, hown, hts, hr, hlk⟩ := id X
  obtain ⟨h, g, n_m0, n_m1, n_m2, n_s0, n_s1, n_s2, n_uq, n_wq, tp, ta, ti, x_hasImage, f_places, f_kinds, f_weights, f_howManyGenerators, f_generators, f_racks, f_howManySeen, f_seenFirst, f_seenSecond, f_seenIs, f_seenPlaces, f_howManyEvents, f_eventWhat, f_eventNumber, g_places, g_kinds, g_weights, g_howManyGenerators, g_generators, g_racks, g_howManySeen, g_seenFirst, g_seenSecond, g_seenIs, g_seenPlaces, g_howManyEvents, g_eventWhat, g_eventNumber, v_keys, v_asFound, v_found, v_turns, v_places, p_keys, p_asFound, p_found, p_turns, p_places, i_sort, i_howOften, i_sorts, i_moves, n_u, u_leasts, u_howMany, u_known, n_w, w_leasts, w_howMany, w_known, t_signs, t_length, t_whole, t_begins, t_ends, r_sorts, r_numbers, r_length, sr, ln, it, z_thrown, z_s, z_kept, z_isKept, z_moveMany, z_moves, z_hands, z_troubles, z_troubleSorts, z_troubleNumbers, z_asked, z_paint, z_leasts, z_isSeen, z_classMany, z_types, z_typeCounts, z_typeMany, z_text, z_signs, z_at, z_lacks, z_clauses, z_begun, z_letters, z_firsts, z_seconds, z_aside, z_sorts, z_sizes, z_items, htp, hR, hI, hl⟩ := hLI
  have hv1 := q_v1 hi hL
  have hv2 := q_v2 hi hL
  have hv3 := q_v3 hi hL
  have hv4 := q_v4 hi hL
  have hv5 := q_v5 hi hL
  refine lv_aload_n (pc := 581) hx hb dL_law_581 rfl (lv_at hl 1 rfl) ?_
  refine lv_aload_n (pc := 582) hx hb dL_law_582 rfl (lv_at hl 0 rfl) ?_
  refine lv_iload_n (pc := 583) hx hb dL_law_583 rfl (lv_at hl 3 rfl) ?_
  refine lv_iconst (pc := 584) (v := 1) hx hb dL_law_584 (by decide) ?_
  refine lv_iadd (pc := 585) hx hb dL_law_585 ?_
  refine va_sld (pc := 586) hx hb hX hbl hbA hI.2.2 hv1 dL_law_586 ?_
  refine lv_aload_n (pc := 587) hx hb dL_law_587 rfl (lv_at hl 0 rfl) ?_
  refine lv_iload_n (pc := 588) hx hb dL_law_588 rfl (lv_at hl 3 rfl) ?_
  refine lv_iconst (pc := 589) (v := 2) hx hb dL_law_589 (by decide) ?_
  refine lv_iadd (pc := 590) hx hb dL_law_590 ?_
  refine va_sld (pc := 591) hx hb hX hbl hbA hI.2.2 hv2 dL_law_591 ?_
  obtain ⟨rm, em, rx, ex, er, hR⟩ := op_many hR (xs (nI i + 1).toNatClampNeg) (xs (nI i + 2).toNatClampNeg)
  refine x_cVs (pc := 592) (st1 := [.long rx.1]) (w1 := ((xb G h x_hasImage f_places f_kinds f_weights f_howManyGenerators f_generators f_racks f_howManySeen f_seenFirst f_seenSecond f_seenIs f_seenPlaces f_howManyEvents f_eventWhat f_eventNumber g_places g_kinds g_weights g_howManyGenerators g_generators g_racks g_howManySeen g_seenFirst g_seenSecond g_seenIs g_seenPlaces g_howManyEvents g_eventWhat g_eventNumber n_m0 n_m1 n_m2 n_s0 n_s1 n_s2 v_keys v_asFound v_found v_turns v_places p_keys p_asFound p_found p_turns p_places rx.2.1 rx.2.2.1 rx.2.2.2.1 rx.2.2.2.2 n_uq n_u u_leasts u_howMany u_known n_wq n_w w_leasts w_howMany w_known t_signs t_length t_whole t_begins t_ends r_sorts r_numbers r_length) ++ ((tl G h tp ta ti sr ln it) ++ (mw G g z_thrown z_s z_kept z_isKept z_moveMany z_moves z_hands z_troubles z_troubleSorts z_troubleNumbers z_asked z_paint z_leasts z_isSeen z_classMany z_types z_typeCounts z_typeMany z_text z_signs z_at z_lacks z_clauses z_begun z_letters z_firsts z_seconds z_aside z_sorts z_sizes z_items)))) X E hI (c_X9_many l G h ex) kv_L_66 hd_X9_many ⟨rfl, rfl⟩ (by decide) 0 rfl rfl rfl rfl hl.1 rfl (Nat.le_of_ble_eq_true rfl) dL_law_592 ⟨by show C + 0 ≤ 600000; omega, by show S + 0 ≤ 7302249; omega⟩ rfl (fun H locs hI => ?_)
  refine lv_aload_n (pc := 595) hx hb dL_law_595 rfl (lv_at hl 2 rfl) ?_
  refine lv_aload_n (pc := 596) hx hb dL_law_596 rfl (lv_at hl 0 rfl) ?_
  refine lv_iload_n (pc := 597) hx hb dL_law_597 rfl (lv_at hl 3 rfl) ?_
  refine lv_iconst (pc := 598) (v := 1) hx hb dL_law_598 (by decide) ?_
  refine lv_iadd (pc := 599) hx hb dL_law_599 ?_
  refine va_sld (pc := 600) hx hb hX hbl hbA hI.2.2 hv1 dL_law_600 ?_
  refine lv_aload_n (pc := 601) hx hb dL_law_601 rfl (lv_at hl 0 rfl) ?_
  refine lv_iload_n (pc := 602) hx hb dL_law_602 rfl (lv_at hl 3 rfl) ?_
  refine lv_iconst (pc := 603) (v := 2) hx hb dL_law_603 (by decide) ?_
  refine lv_iadd (pc := 604) hx hb dL_law_604 ?_
  refine va_sld (pc := 605) hx hb hX hbl hbA hI.2.2 hv2 dL_law_605 ?_
  refine x_cVR (pc := 606) (st1 := [.long rm.1, .long rx.1]) (w1 := (mw G g z_thrown z_s z_kept z_isKept rm.2.1 rm.2.2.1 rm.2.2.2.1 z_troubles z_troubleSorts z_troubleNumbers rm.2.2.2.2 z_paint z_leasts z_isSeen z_classMany z_types z_typeCounts z_typeMany z_text z_signs z_at z_lacks z_clauses z_begun z_letters z_firsts z_seconds z_aside z_sorts z_sizes z_items)) X E hI (c_X10_many l G g em) kv_L_70 hd_X10_many ⟨rfl, rfl⟩ (by decide) 0 rfl rfl rfl rfl hl.1 rfl (Nat.le_of_ble_eq_true rfl) dL_law_606 ⟨by show C + 0 + 0 ≤ 600000; omega, by show S + 0 + 0 ≤ 7302249; omega⟩ rfl (fun H locs hI => ?_)
  refine W.lcmp (pc := 609) hx hb dL_law_609 ?_
  refine lv_if_eq (pc := 610) (tgt := 1492) hx hb dL_law_610 (by decide) (fun c1 => ?_) (fun c1 => ?_)
  rotate_left
  · exact absurd (by rw [er]; exact q_lcmp _) c1
  refine W.widen (k := C + 1) (n := S + 4096) (by omega) (by omega) ?_
  exact kk _ _ _ ⟨h, g, n_m0, n_m1, n_m2, n_s0, n_s1, n_s2, n_uq, n_wq, tp, ta, ti, x_hasImage, f_places, f_kinds, f_weights, f_howManyGenerators, f_generators, f_racks, f_howManySeen, f_seenFirst, f_seenSecond, f_seenIs, f_seenPlaces, f_howManyEvents, f_eventWhat, f_eventNumber, g_places, g_kinds, g_weights, g_howManyGenerators, g_generators, g_racks, g_howManySeen, g_seenFirst, g_seenSecond, g_seenIs, g_seenPlaces, g_howManyEvents, g_eventWhat, g_eventNumber, v_keys, v_asFound, v_found, v_turns, v_places, p_keys, p_asFound, p_found, p_turns, p_places, rx.2.1, rx.2.2.1, rx.2.2.2.1, rx.2.2.2.2, n_u, u_leasts, u_howMany, u_known, n_w, w_leasts, w_howMany, w_known, t_signs, t_length, t_whole, t_begins, t_ends, r_sorts, r_numbers, r_length, sr, ln, it, z_thrown, z_s, z_kept, z_isKept, rm.2.1, rm.2.2.1, rm.2.2.2.1, z_troubles, z_troubleSorts, z_troubleNumbers, rm.2.2.2.2, z_paint, z_leasts, z_isSeen, z_classMany, z_types, z_typeCounts, z_typeMany, z_text, z_signs, z_at, z_lacks, z_clauses, z_begun, z_letters, z_firsts, z_seconds, z_aside, z_sorts, z_sizes, z_items, htp, hR, hI, hl⟩
set_option maxHeartbeats 8000000 in
set_option maxRecDepth 100000 in
theorem law_13 {rr : RT} (op_least : OP_least rr) {p : Program} {l : Launch} {e : Env} {s : State} {m : MethodId} {below : List Frame} {meth : Method} {c : Code} {b L : Nat} {xs : Nat → Int32} {A : Nat → Prop} {G : GX} {Q : State → Prop} (X : CX RL code 4 ret p s m #[Value.ref b] meth c) (E : EX G A s) (hX : va_X b L xs s s.heap) (hbl : b < s.heap.size) (hbA : ¬ A b) {i C S : Nat} (hi : i + 6 ≤ L) (hL : L ≤ 3072) (hC : C + 1 ≤ 600000) (hS : S + 4096 ≤ 7302249) {H : Heap} {locs : List Loc} {ls : Array Slot} (hLI : LI rr G A s b i H locs ls)
    (kk : ∀ (H : Heap) (locs : List Loc) (ls : Array Slot), LI rr G A s b i H locs ls → W p l e room_1 s m #[Value.ref b] below meth c H locs (C + 1) (S + 4096) Q (F0 m 1492 ls [])) : W p l e room_1 s m #[Value.ref b] below meth c H locs C S Q (F0 m 615 ls []) := by
  obtain ⟨hx, hb, hml, hown, hts, hr, hlk⟩ := id X
  obtain ⟨h, g, n_m0, n_m1, n_m2, n_s0, n_s1, n_s2, n_uq, n_wq, tp, ta, ti, x_hasImage, f_places, f_kinds, f_weights, f_howManyGenerators, f_generators, f_racks, f_howManySeen, f_seenFirst, f_seenSecond, f_seenIs, f_seenPlaces, f_howManyEvents, f_eventWhat, f_eventNumber, g_places, g_kinds, g_weights, g_howManyGenerators, g_generators, g_racks, g_howManySeen, g_seenFirst, g_seenSecond, g_seenIs, g_seenPlaces, g_howManyEvents, g_eventWhat, g_eventNumber, v_keys, v_asFound, v_found, v_turns, v_places, p_keys, p_asFound, p_found, p_turns, p_places, i_sort, i_howOften, i_sorts, i_moves, n_u, u_leasts, u_howMany, u_known, n_w, w_leasts, w_howMany, w_known, t_signs, t_length, t_whole, t_begins, t_ends, r_sorts, r_numbers, r_length, sr, ln, it, z_thrown, z_s, z_kept, z_isKept, z_moveMany, z_moves, z_hands, z_troubles, z_troubleSorts, z_troubleNumbers, z_asked, z_paint, z_leasts, z_isSeen, z_classMany, z_types, z_typeCounts, z_typeMany, z_text, z_signs, z_at, z_lacks, z_clauses, z_begun, z_letters, z_firsts, z_seconds, z_aside, z_sorts, z_sizes, z_items, htp, hR, hI, hl⟩ := hLI
  have hv1 := q_v1 hi hL
  have hv2 := q_v2 hi hL
  have hv3 := q_v3 hi hL
  have hv4 := q_v4 hi hL
  have hv5 := q_v5 hi hL
  refine lv_aload_n (pc := 615) hx hb dL_law_615 rfl (lv_at hl 1 rfl) ?_
  refine lv_aload_n (pc := 616) hx hb dL_law_616 rfl (lv_at hl 0 rfl) ?_
  refine lv_iload_n (pc := 617) hx hb dL_law_617 rfl (lv_at hl 3 rfl) ?_
  refine lv_iconst (pc := 618) (v := 1) hx hb dL_law_618 (by decide) ?_
  refine lv_iadd (pc := 619) hx hb dL_law_619 ?_
  refine va_sld (pc := 620) hx hb hX hbl hbA hI.2.2 hv1 dL_law_620 ?_
  refine lv_aload_n (pc := 621) hx hb dL_law_621 rfl (lv_at hl 0 rfl) ?_
  refine lv_iload_n (pc := 622) hx hb dL_law_622 rfl (lv_at hl 3 rfl) ?_
  refine lv_iconst (pc := 623) (v := 2) hx hb dL_law_623 (by decide) ?_
  refine lv_iadd (pc := 624) hx hb dL_law_624 ?_
  refine va_sld (pc := 625) hx hb hX hbl hbA hI.2.2 hv2 dL_law_625 ?_
  obtain ⟨rm, em, rx, ex, er, hR⟩ := op_least hR (xs (nI i + 1).toNatClampNeg) (xs (nI i + 2).toNatClampNeg)
  refine x_cVs (pc := 626) (st1 := [.int rx]) (w1 := ((xb G h x_hasImage f_places f_kinds f_weights f_howManyGenerators f_generators f_racks f_howManySeen f_seenFirst f_seenSecond f_seenIs f_seenPlaces f_howManyEvents f_eventWhat f_eventNumber g_places g_kinds g_weights g_howManyGenerators g_generators g_racks g_howManySeen g_seenFirst g_seenSecond g_seenIs g_seenPlaces g_howManyEvents g_eventWhat g_eventNumber n_m0 n_m1 n_m2 n_s0 n_s1 n_s2 v_keys v_asFound v_found v_turns v_places p_keys p_asFound p_found p_turns p_places i_sort i_howOften i_sorts i_moves n_uq n_u u_leasts u_howMany u_known n_wq n_w w_leasts w_howMany w_known t_signs t_length t_whole t_begins t_ends r_sorts r_numbers r_length) ++ ((tl G h tp ta ti sr ln it) ++ (mw G g z_thrown z_s z_kept z_isKept z_moveMany z_moves z_hands z_troubles z_troubleSorts z_troubleNumbers z_asked z_paint z_leasts z_isSeen z_classMany z_types z_typeCounts z_typeMany z_text z_signs z_at z_lacks z_clauses z_begun z_letters z_firsts z_seconds z_aside z_sorts z_sizes z_items)))) X E hI (c_X9_least l G h ex) kv_L_71 hd_X9_least ⟨rfl, rfl⟩ (by decide) 0 rfl rfl rfl rfl hl.1 rfl (Nat.le_of_ble_eq_true rfl) dL_law_626 ⟨by show C + 0 ≤ 600000; omega, by show S + 0 ≤ 7302249; omega⟩ rfl (fun H locs hI => ?_)
  refine lv_aload_n (pc := 629) hx hb dL_law_629 rfl (lv_at hl 2 rfl) ?_
  refine lv_aload_n (pc := 630) hx hb dL_law_630 rfl (lv_at hl 0 rfl) ?_
  refine lv_iload_n (pc := 631) hx hb dL_law_631 rfl (lv_at hl 3 rfl) ?_
  refine lv_iconst (pc := 632) (v := 1) hx hb dL_law_632 (by decide) ?_
  refine lv_iadd (pc := 633) hx hb dL_law_633 ?_
  refine va_sld (pc := 634) hx hb hX hbl hbA hI.2.2 hv1 dL_law_634 ?_
  refine lv_aload_n (pc := 635) hx hb dL_law_635 rfl (lv_at hl 0 rfl) ?_
  refine lv_iload_n (pc := 636) hx hb dL_law_636 rfl (lv_at hl 3 rfl) ?_
  refine lv_iconst (pc := 637) (v := 2) hx hb dL_law_637 (by decide) ?_
  refine lv_iadd (pc := 638) hx hb dL_law_638 ?_
  refine va_sld (pc := 639) hx hb hX hbl hbA hI.2.2 hv2 dL_law_639 ?_
  refine x_cVR (pc := 640) (st1 := [.int rm.1, .int rx]) (w1 := (mw G g z_thrown z_s z_kept z_isKept rm.2.1 rm.2.2.1 rm.2.2.2.1 z_troubles z_troubleSorts z_troubleNumbers z_asked rm.2.2.2.2 z_leasts z_isSeen z_classMany z_types z_typeCounts z_typeMany z_text z_signs z_at z_lacks z_clauses z_begun z_letters z_firsts z_seconds z_aside z_sorts z_sizes z_items)) X E hI (c_X10_least l G g em) kv_L_74 hd_X10_least ⟨rfl, rfl⟩ (by decide) 0 rfl rfl rfl rfl hl.1 rfl (Nat.le_of_ble_eq_true rfl) dL_law_640 ⟨by show C + 0 + 0 ≤ 600000; omega, by show S + 0 + 0 ≤ 7302249; omega⟩ rfl (fun H locs hI => ?_)
  refine lv_icmp_eq (pc := 643) (tgt := 1492) hx hb dL_law_643 (by decide) (fun c1 => ?_) (fun c1 => ?_)
  rotate_left
  · exact absurd er c1
  refine W.widen (k := C + 1) (n := S + 4096) (by omega) (by omega) ?_
  exact kk _ _ _ ⟨h, g, n_m0, n_m1, n_m2, n_s0, n_s1, n_s2, n_uq, n_wq, tp, ta, ti, x_hasImage, f_places, f_kinds, f_weights, f_howManyGenerators, f_generators, f_racks, f_howManySeen, f_seenFirst, f_seenSecond, f_seenIs, f_seenPlaces, f_howManyEvents, f_eventWhat, f_eventNumber, g_places, g_kinds, g_weights, g_howManyGenerators, g_generators, g_racks, g_howManySeen, g_seenFirst, g_seenSecond, g_seenIs, g_seenPlaces, g_howManyEvents, g_eventWhat, g_eventNumber, v_keys, v_asFound, v_found, v_turns, v_places, p_keys, p_asFound, p_found, p_turns, p_places, i_sort, i_howOften, i_sorts, i_moves, n_u, u_leasts, u_howMany, u_known, n_w, w_leasts, w_howMany, w_known, t_signs, t_length, t_whole, t_begins, t_ends, r_sorts, r_numbers, r_length, sr, ln, it, z_thrown, z_s, z_kept, z_isKept, rm.2.1, rm.2.2.1, rm.2.2.2.1, z_troubles, z_troubleSorts, z_troubleNumbers, z_asked, rm.2.2.2.2, z_leasts, z_isSeen, z_classMany, z_types, z_typeCounts, z_typeMany, z_text, z_signs, z_at, z_lacks, z_clauses, z_begun, z_letters, z_firsts, z_seconds, z_aside, z_sorts, z_sizes, z_items, htp, hR, hI, hl⟩
set_option maxHeartbeats 8000000 in
set_option maxRecDepth 100000 in
theorem law_14 {rr : RT} (op_size : OP_size rr) {p : Program} {l : Launch} {e : Env} {s : State} {m : MethodId} {below : List Frame} {meth : Method} {c : Code} {b L : Nat} {xs : Nat → Int32} {A : Nat → Prop} {G : GX} {Q : State → Prop} (X : CX RL code 4 ret p s m #[Value.ref b] meth c) (E : EX G A s) (hX : va_X b L xs s s.heap) (hbl : b < s.heap.size) (hbA : ¬ A b) {i C S : Nat} (hi : i + 6 ≤ L) (hL : L ≤ 3072) (hC : C + 1 ≤ 600000) (hS : S + 4096 ≤ 7302249) {H : Heap} {locs : List Loc} {ls : Array Slot} (hLI : LI rr G A s b i H locs ls)
    (kk : ∀ (H : Heap) (locs : List Loc) (ls : Array Slot), LI rr G A s b i H locs ls → W p l e room_1 s m #[Value.ref b] below meth c H locs (C + 1) (S + 4096) Q (F0 m 1492 ls [])) : W p l e room_1 s m #[Value.ref b] below meth c H locs C S Q (F0 m 648 ls []) := by
  obtain ⟨hx, hb, hml, hown, hts, hr, hlk⟩ := id X
  obtain ⟨h, g, n_m0, n_m1, n_m2, n_s0, n_s1, n_s2, n_uq, n_wq, tp, ta, ti, x_hasImage, f_places, f_kinds, f_weights, f_howManyGenerators, f_generators, f_racks, f_howManySeen, f_seenFirst, f_seenSecond, f_seenIs, f_seenPlaces, f_howManyEvents, f_eventWhat, f_eventNumber, g_places, g_kinds, g_weights, g_howManyGenerators, g_generators, g_racks, g_howManySeen, g_seenFirst, g_seenSecond, g_seenIs, g_seenPlaces, g_howManyEvents, g_eventWhat, g_eventNumber, v_keys, v_asFound, v_found, v_turns, v_places, p_keys, p_asFound, p_found, p_turns, p_places, i_sort, i_howOften, i_sorts, i_moves, n_u, u_leasts, u_howMany, u_known, n_w, w_leasts, w_howMany, w_known, t_signs, t_length, t_whole, t_begins, t_ends, r_sorts, r_numbers, r_length, sr, ln, it, z_thrown, z_s, z_kept, z_isKept, z_moveMany, z_moves, z_hands, z_troubles, z_troubleSorts, z_troubleNumbers, z_asked, z_paint, z_leasts, z_isSeen, z_classMany, z_types, z_typeCounts, z_typeMany, z_text, z_signs, z_at, z_lacks, z_clauses, z_begun, z_letters, z_firsts, z_seconds, z_aside, z_sorts, z_sizes, z_items, htp, hR, hI, hl⟩ := hLI
  have hv1 := q_v1 hi hL
  have hv2 := q_v2 hi hL
  have hv3 := q_v3 hi hL
  have hv4 := q_v4 hi hL
  have hv5 := q_v5 hi hL
  refine lv_aload_n (pc := 648) hx hb dL_law_648 rfl (lv_at hl 1 rfl) ?_
  refine lv_aload_n (pc := 649) hx hb dL_law_649 rfl (lv_at hl 0 rfl) ?_
  refine lv_iload_n (pc := 650) hx hb dL_law_650 rfl (lv_at hl 3 rfl) ?_
  refine lv_iconst (pc := 651) (v := 1) hx hb dL_law_651 (by decide) ?_
  refine lv_iadd (pc := 652) hx hb dL_law_652 ?_
  refine va_sld (pc := 653) hx hb hX hbl hbA hI.2.2 hv1 dL_law_653 ?_
  refine lv_aload_n (pc := 654) hx hb dL_law_654 rfl (lv_at hl 0 rfl) ?_
  refine lv_iload_n (pc := 655) hx hb dL_law_655 rfl (lv_at hl 3 rfl) ?_
  refine lv_iconst (pc := 656) (v := 2) hx hb dL_law_656 (by decide) ?_
  refine lv_iadd (pc := 657) hx hb dL_law_657 ?_
  refine va_sld (pc := 658) hx hb hX hbl hbA hI.2.2 hv2 dL_law_658 ?_
  obtain ⟨rm, em, rx, ex, er, hR⟩ := op_size hR (xs (nI i + 1).toNatClampNeg) (xs (nI i + 2).toNatClampNeg)
  refine x_cVs (pc := 659) (st1 := [.int rx]) (w1 := ((xb G h x_hasImage f_places f_kinds f_weights f_howManyGenerators f_generators f_racks f_howManySeen f_seenFirst f_seenSecond f_seenIs f_seenPlaces f_howManyEvents f_eventWhat f_eventNumber g_places g_kinds g_weights g_howManyGenerators g_generators g_racks g_howManySeen g_seenFirst g_seenSecond g_seenIs g_seenPlaces g_howManyEvents g_eventWhat g_eventNumber n_m0 n_m1 n_m2 n_s0 n_s1 n_s2 v_keys v_asFound v_found v_turns v_places p_keys p_asFound p_found p_turns p_places i_sort i_howOften i_sorts i_moves n_uq n_u u_leasts u_howMany u_known n_wq n_w w_leasts w_howMany w_known t_signs t_length t_whole t_begins t_ends r_sorts r_numbers r_length) ++ ((tl G h tp ta ti sr ln it) ++ (mw G g z_thrown z_s z_kept z_isKept z_moveMany z_moves z_hands z_troubles z_troubleSorts z_troubleNumbers z_asked z_paint z_leasts z_isSeen z_classMany z_types z_typeCounts z_typeMany z_text z_signs z_at z_lacks z_clauses z_begun z_letters z_firsts z_seconds z_aside z_sorts z_sizes z_items)))) X E hI (c_X9_size l G h ex) kv_L_75 hd_X9_size ⟨rfl, rfl⟩ (by decide) 0 rfl rfl rfl rfl hl.1 rfl (Nat.le_of_ble_eq_true rfl) dL_law_659 ⟨by show C + 0 ≤ 600000; omega, by show S + 0 ≤ 7302249; omega⟩ rfl (fun H locs hI => ?_)
  refine lv_aload_n (pc := 662) hx hb dL_law_662 rfl (lv_at hl 2 rfl) ?_
  refine lv_aload_n (pc := 663) hx hb dL_law_663 rfl (lv_at hl 0 rfl) ?_
  refine lv_iload_n (pc := 664) hx hb dL_law_664 rfl (lv_at hl 3 rfl) ?_
  refine lv_iconst (pc := 665) (v := 1) hx hb dL_law_665 (by decide) ?_
  refine lv_iadd (pc := 666) hx hb dL_law_666 ?_
  refine va_sld (pc := 667) hx hb hX hbl hbA hI.2.2 hv1 dL_law_667 ?_
  refine lv_aload_n (pc := 668) hx hb dL_law_668 rfl (lv_at hl 0 rfl) ?_
  refine lv_iload_n (pc := 669) hx hb dL_law_669 rfl (lv_at hl 3 rfl) ?_
  refine lv_iconst (pc := 670) (v := 2) hx hb dL_law_670 (by decide) ?_
  refine lv_iadd (pc := 671) hx hb dL_law_671 ?_
  refine va_sld (pc := 672) hx hb hX hbl hbA hI.2.2 hv2 dL_law_672 ?_
  refine x_cVR (pc := 673) (st1 := [.int rm.1, .int rx]) (w1 := (mw G g z_thrown z_s z_kept z_isKept rm.2.1 rm.2.2.1 rm.2.2.2.1 z_troubles z_troubleSorts z_troubleNumbers z_asked rm.2.2.2.2 z_leasts z_isSeen z_classMany z_types z_typeCounts z_typeMany z_text z_signs z_at z_lacks z_clauses z_begun z_letters z_firsts z_seconds z_aside z_sorts z_sizes z_items)) X E hI (c_X10_size l G g em) kv_L_78 hd_X10_size ⟨rfl, rfl⟩ (by decide) 0 rfl rfl rfl rfl hl.1 rfl (Nat.le_of_ble_eq_true rfl) dL_law_673 ⟨by show C + 0 + 0 ≤ 600000; omega, by show S + 0 + 0 ≤ 7302249; omega⟩ rfl (fun H locs hI => ?_)
  refine lv_icmp_eq (pc := 676) (tgt := 1492) hx hb dL_law_676 (by decide) (fun c1 => ?_) (fun c1 => ?_)
  rotate_left
  · exact absurd er c1
  refine W.widen (k := C + 1) (n := S + 4096) (by omega) (by omega) ?_
  exact kk _ _ _ ⟨h, g, n_m0, n_m1, n_m2, n_s0, n_s1, n_s2, n_uq, n_wq, tp, ta, ti, x_hasImage, f_places, f_kinds, f_weights, f_howManyGenerators, f_generators, f_racks, f_howManySeen, f_seenFirst, f_seenSecond, f_seenIs, f_seenPlaces, f_howManyEvents, f_eventWhat, f_eventNumber, g_places, g_kinds, g_weights, g_howManyGenerators, g_generators, g_racks, g_howManySeen, g_seenFirst, g_seenSecond, g_seenIs, g_seenPlaces, g_howManyEvents, g_eventWhat, g_eventNumber, v_keys, v_asFound, v_found, v_turns, v_places, p_keys, p_asFound, p_found, p_turns, p_places, i_sort, i_howOften, i_sorts, i_moves, n_u, u_leasts, u_howMany, u_known, n_w, w_leasts, w_howMany, w_known, t_signs, t_length, t_whole, t_begins, t_ends, r_sorts, r_numbers, r_length, sr, ln, it, z_thrown, z_s, z_kept, z_isKept, rm.2.1, rm.2.2.1, rm.2.2.2.1, z_troubles, z_troubleSorts, z_troubleNumbers, z_asked, rm.2.2.2.2, z_leasts, z_isSeen, z_classMany, z_types, z_typeCounts, z_typeMany, z_text, z_signs, z_at, z_lacks, z_clauses, z_begun, z_letters, z_firsts, z_seconds, z_aside, z_sorts, z_sizes, z_items, htp, hR, hI, hl⟩
set_option maxHeartbeats 8000000 in
set_option maxRecDepth 100000 in
theorem law_15 {rr : RT} (op_kindOf : OP_kindOf rr) {p : Program} {l : Launch} {e : Env} {s : State} {m : MethodId} {below : List Frame} {meth : Method} {c : Code} {b L : Nat} {xs : Nat → Int32} {A : Nat → Prop} {G : GX} {Q : State → Prop} (X : CX RL code 4 ret p s m #[Value.ref b] meth c) (E : EX G A s) (hX : va_X b L xs s s.heap) (hbl : b < s.heap.size) (hbA : ¬ A b) {i C S : Nat} (hi : i + 6 ≤ L) (hL : L ≤ 3072) (hC : C + 1 ≤ 600000) (hS : S + 4096 ≤ 7302249) {H : Heap} {locs : List Loc} {ls : Array Slot} (hLI : LI rr G A s b i H locs ls)
    (kk : ∀ (H : Heap) (locs : List Loc) (ls : Array Slot), LI rr G A s b i H locs ls → W p l e room_1 s m #[Value.ref b] below meth c H locs (C + 1) (S + 4096) Q (F0 m 1492 ls [])) : W p l e room_1 s m #[Value.ref b] below meth c H locs C S Q (F0 m 681 ls []) := by
  obtain ⟨hx, hb, hml, hown, hts, hr, hlk⟩ := id X
  obtain ⟨h, g, n_m0, n_m1, n_m2, n_s0, n_s1, n_s2, n_uq, n_wq, tp, ta, ti, x_hasImage, f_places, f_kinds, f_weights, f_howManyGenerators, f_generators, f_racks, f_howManySeen, f_seenFirst, f_seenSecond, f_seenIs, f_seenPlaces, f_howManyEvents, f_eventWhat, f_eventNumber, g_places, g_kinds, g_weights, g_howManyGenerators, g_generators, g_racks, g_howManySeen, g_seenFirst, g_seenSecond, g_seenIs, g_seenPlaces, g_howManyEvents, g_eventWhat, g_eventNumber, v_keys, v_asFound, v_found, v_turns, v_places, p_keys, p_asFound, p_found, p_turns, p_places, i_sort, i_howOften, i_sorts, i_moves, n_u, u_leasts, u_howMany, u_known, n_w, w_leasts, w_howMany, w_known, t_signs, t_length, t_whole, t_begins, t_ends, r_sorts, r_numbers, r_length, sr, ln, it, z_thrown, z_s, z_kept, z_isKept, z_moveMany, z_moves, z_hands, z_troubles, z_troubleSorts, z_troubleNumbers, z_asked, z_paint, z_leasts, z_isSeen, z_classMany, z_types, z_typeCounts, z_typeMany, z_text, z_signs, z_at, z_lacks, z_clauses, z_begun, z_letters, z_firsts, z_seconds, z_aside, z_sorts, z_sizes, z_items, htp, hR, hI, hl⟩ := hLI
  have hv1 := q_v1 hi hL
  have hv2 := q_v2 hi hL
  have hv3 := q_v3 hi hL
  have hv4 := q_v4 hi hL
  have hv5 := q_v5 hi hL
  refine lv_aload_n (pc := 681) hx hb dL_law_681 rfl (lv_at hl 1 rfl) ?_
  refine lv_aload_n (pc := 682) hx hb dL_law_682 rfl (lv_at hl 0 rfl) ?_
  refine lv_iload_n (pc := 683) hx hb dL_law_683 rfl (lv_at hl 3 rfl) ?_
  refine lv_iconst (pc := 684) (v := 1) hx hb dL_law_684 (by decide) ?_
  refine lv_iadd (pc := 685) hx hb dL_law_685 ?_
  refine va_sld (pc := 686) hx hb hX hbl hbA hI.2.2 hv1 dL_law_686 ?_
  refine lv_aload_n (pc := 687) hx hb dL_law_687 rfl (lv_at hl 0 rfl) ?_
  refine lv_iload_n (pc := 688) hx hb dL_law_688 rfl (lv_at hl 3 rfl) ?_
  refine lv_iconst (pc := 689) (v := 2) hx hb dL_law_689 (by decide) ?_
  refine lv_iadd (pc := 690) hx hb dL_law_690 ?_
  refine va_sld (pc := 691) hx hb hX hbl hbA hI.2.2 hv2 dL_law_691 ?_
  refine lv_aload_n (pc := 692) hx hb dL_law_692 rfl (lv_at hl 0 rfl) ?_
  refine lv_iload_n (pc := 693) hx hb dL_law_693 rfl (lv_at hl 3 rfl) ?_
  refine lv_iconst (pc := 694) (v := 3) hx hb dL_law_694 (by decide) ?_
  refine lv_iadd (pc := 695) hx hb dL_law_695 ?_
  refine va_sld (pc := 696) hx hb hX hbl hbA hI.2.2 hv3 dL_law_696 ?_
  obtain ⟨rm, em, ⟨p0, rx, ex, er, hR⟩ | ⟨p0, rx, ex, er, hR⟩ | ⟨rx, ex, er, hR⟩⟩ := op_kindOf hR (xs (nI i + 1).toNatClampNeg) (xs (nI i + 2).toNatClampNeg) (xs (nI i + 3).toNatClampNeg)
  · rw [p0]
    refine x_cVsE (pc := 697) (st1 := [.int rx.1]) X E hI (c_X9_kindOf_0 l G h ex) kv_L_79 hd_X9_kindOf ⟨rfl, rfl⟩ (by decide) 0 rfl rfl rfl rfl hl.1 rfl (Nat.le_of_ble_eq_true rfl) dL_law_697 ⟨by show C + 1 ≤ 600000; omega, by show S + 4096 ≤ 7302249; omega⟩ rfl (fun q9 H locs hI => ?_)
    have hI : IN A G ((xb G h x_hasImage f_places f_kinds f_weights f_howManyGenerators f_generators f_racks f_howManySeen f_seenFirst f_seenSecond f_seenIs f_seenPlaces f_howManyEvents f_eventWhat f_eventNumber g_places g_kinds g_weights g_howManyGenerators g_generators g_racks g_howManySeen g_seenFirst g_seenSecond g_seenIs g_seenPlaces g_howManyEvents g_eventWhat g_eventNumber n_m0 n_m1 n_m2 n_s0 n_s1 n_s2 v_keys v_asFound v_found v_turns v_places p_keys p_asFound p_found p_turns p_places i_sort i_howOften i_sorts i_moves q9 rx.2.1 rx.2.2.1 rx.2.2.2.1 rx.2.2.2.2 n_wq n_w w_leasts w_howMany w_known t_signs t_length t_whole t_begins t_ends r_sorts r_numbers r_length) ++ ((tl G h tp ta ti sr ln it) ++ (mw G g z_thrown z_s z_kept z_isKept z_moveMany z_moves z_hands z_troubles z_troubleSorts z_troubleNumbers z_asked z_paint z_leasts z_isSeen z_classMany z_types z_typeCounts z_typeMany z_text z_signs z_at z_lacks z_clauses z_begun z_letters z_firsts z_seconds z_aside z_sorts z_sizes z_items))) s H locs := hI
    refine lv_aload_n (pc := 700) hx hb dL_law_700 rfl (lv_at hl 2 rfl) ?_
    refine lv_aload_n (pc := 701) hx hb dL_law_701 rfl (lv_at hl 0 rfl) ?_
    refine lv_iload_n (pc := 702) hx hb dL_law_702 rfl (lv_at hl 3 rfl) ?_
    refine lv_iconst (pc := 703) (v := 1) hx hb dL_law_703 (by decide) ?_
    refine lv_iadd (pc := 704) hx hb dL_law_704 ?_
    refine va_sld (pc := 705) hx hb hX hbl hbA hI.2.2 hv1 dL_law_705 ?_
    refine lv_aload_n (pc := 706) hx hb dL_law_706 rfl (lv_at hl 0 rfl) ?_
    refine lv_iload_n (pc := 707) hx hb dL_law_707 rfl (lv_at hl 3 rfl) ?_
    refine lv_iconst (pc := 708) (v := 2) hx hb dL_law_708 (by decide) ?_
    refine lv_iadd (pc := 709) hx hb dL_law_709 ?_
    refine va_sld (pc := 710) hx hb hX hbl hbA hI.2.2 hv2 dL_law_710 ?_
    refine lv_aload_n (pc := 711) hx hb dL_law_711 rfl (lv_at hl 0 rfl) ?_
    refine lv_iload_n (pc := 712) hx hb dL_law_712 rfl (lv_at hl 3 rfl) ?_
    refine lv_iconst (pc := 713) (v := 3) hx hb dL_law_713 (by decide) ?_
    refine lv_iadd (pc := 714) hx hb dL_law_714 ?_
    refine va_sld (pc := 715) hx hb hX hbl hbA hI.2.2 hv3 dL_law_715 ?_
    refine x_cVR (pc := 716) (st1 := [.int rm.1, .int rx.1]) (w1 := (mw G g z_thrown z_s z_kept z_isKept rm.2.1 rm.2.2.1 rm.2.2.2.1 z_troubles z_troubleSorts z_troubleNumbers z_asked rm.2.2.2.2.1 rm.2.2.2.2.2.1 rm.2.2.2.2.2.2.1 rm.2.2.2.2.2.2.2 z_types z_typeCounts z_typeMany z_text z_signs z_at z_lacks z_clauses z_begun z_letters z_firsts z_seconds z_aside z_sorts z_sizes z_items)) X E hI (c_X10_kindOf l G g em) kv_L_82 hd_X10_kindOf ⟨rfl, rfl⟩ (by decide) 0 rfl rfl rfl rfl hl.1 rfl (Nat.le_of_ble_eq_true rfl) dL_law_716 ⟨by show C + 1 + 0 ≤ 600000; omega, by show S + 4096 + 0 ≤ 7302249; omega⟩ rfl (fun H locs hI => ?_)
    refine lv_icmp_eq (pc := 719) (tgt := 1492) hx hb dL_law_719 (by decide) (fun c1 => ?_) (fun c1 => ?_)
    rotate_left
    · exact absurd er c1
    refine W.widen (k := C + 1) (n := S + 4096) (by omega) (by omega) ?_
    exact kk _ _ _ ⟨h, g, n_m0, n_m1, n_m2, n_s0, n_s1, n_s2, q9, n_wq, tp, ta, ti, x_hasImage, f_places, f_kinds, f_weights, f_howManyGenerators, f_generators, f_racks, f_howManySeen, f_seenFirst, f_seenSecond, f_seenIs, f_seenPlaces, f_howManyEvents, f_eventWhat, f_eventNumber, g_places, g_kinds, g_weights, g_howManyGenerators, g_generators, g_racks, g_howManySeen, g_seenFirst, g_seenSecond, g_seenIs, g_seenPlaces, g_howManyEvents, g_eventWhat, g_eventNumber, v_keys, v_asFound, v_found, v_turns, v_places, p_keys, p_asFound, p_found, p_turns, p_places, i_sort, i_howOften, i_sorts, i_moves, rx.2.1, rx.2.2.1, rx.2.2.2.1, rx.2.2.2.2, n_w, w_leasts, w_howMany, w_known, t_signs, t_length, t_whole, t_begins, t_ends, r_sorts, r_numbers, r_length, sr, ln, it, z_thrown, z_s, z_kept, z_isKept, rm.2.1, rm.2.2.1, rm.2.2.2.1, z_troubles, z_troubleSorts, z_troubleNumbers, z_asked, rm.2.2.2.2.1, rm.2.2.2.2.2.1, rm.2.2.2.2.2.2.1, rm.2.2.2.2.2.2.2, z_types, z_typeCounts, z_typeMany, z_text, z_signs, z_at, z_lacks, z_clauses, z_begun, z_letters, z_firsts, z_seconds, z_aside, z_sorts, z_sizes, z_items, htp, hR, hI, hl⟩
  · rw [p0]
    refine x_cVsE (pc := 697) (st1 := [.int rx.1]) X E hI (c_X9_kindOf_1 l G h ex) kv_L_79 hd_X9_kindOf ⟨rfl, rfl⟩ (by decide) 0 rfl rfl rfl rfl hl.1 rfl (Nat.le_of_ble_eq_true rfl) dL_law_697 ⟨by show C + 1 ≤ 600000; omega, by show S + 4096 ≤ 7302249; omega⟩ rfl (fun q9 H locs hI => ?_)
    have hI : IN A G ((xb G h x_hasImage f_places f_kinds f_weights f_howManyGenerators f_generators f_racks f_howManySeen f_seenFirst f_seenSecond f_seenIs f_seenPlaces f_howManyEvents f_eventWhat f_eventNumber g_places g_kinds g_weights g_howManyGenerators g_generators g_racks g_howManySeen g_seenFirst g_seenSecond g_seenIs g_seenPlaces g_howManyEvents g_eventWhat g_eventNumber n_m0 n_m1 n_m2 n_s0 n_s1 n_s2 v_keys v_asFound v_found v_turns v_places p_keys p_asFound p_found p_turns p_places i_sort i_howOften i_sorts i_moves n_uq n_u u_leasts u_howMany u_known q9 rx.2.1 rx.2.2.1 rx.2.2.2.1 rx.2.2.2.2 t_signs t_length t_whole t_begins t_ends r_sorts r_numbers r_length) ++ ((tl G h tp ta ti sr ln it) ++ (mw G g z_thrown z_s z_kept z_isKept z_moveMany z_moves z_hands z_troubles z_troubleSorts z_troubleNumbers z_asked z_paint z_leasts z_isSeen z_classMany z_types z_typeCounts z_typeMany z_text z_signs z_at z_lacks z_clauses z_begun z_letters z_firsts z_seconds z_aside z_sorts z_sizes z_items))) s H locs := hI
    refine lv_aload_n (pc := 700) hx hb dL_law_700 rfl (lv_at hl 2 rfl) ?_
    refine lv_aload_n (pc := 701) hx hb dL_law_701 rfl (lv_at hl 0 rfl) ?_
    refine lv_iload_n (pc := 702) hx hb dL_law_702 rfl (lv_at hl 3 rfl) ?_
    refine lv_iconst (pc := 703) (v := 1) hx hb dL_law_703 (by decide) ?_
    refine lv_iadd (pc := 704) hx hb dL_law_704 ?_
    refine va_sld (pc := 705) hx hb hX hbl hbA hI.2.2 hv1 dL_law_705 ?_
    refine lv_aload_n (pc := 706) hx hb dL_law_706 rfl (lv_at hl 0 rfl) ?_
    refine lv_iload_n (pc := 707) hx hb dL_law_707 rfl (lv_at hl 3 rfl) ?_
    refine lv_iconst (pc := 708) (v := 2) hx hb dL_law_708 (by decide) ?_
    refine lv_iadd (pc := 709) hx hb dL_law_709 ?_
    refine va_sld (pc := 710) hx hb hX hbl hbA hI.2.2 hv2 dL_law_710 ?_
    refine lv_aload_n (pc := 711) hx hb dL_law_711 rfl (lv_at hl 0 rfl) ?_
    refine lv_iload_n (pc := 712) hx hb dL_law_712 rfl (lv_at hl 3 rfl) ?_
    refine lv_iconst (pc := 713) (v := 3) hx hb dL_law_713 (by decide) ?_
    refine lv_iadd (pc := 714) hx hb dL_law_714 ?_
    refine va_sld (pc := 715) hx hb hX hbl hbA hI.2.2 hv3 dL_law_715 ?_
    refine x_cVR (pc := 716) (st1 := [.int rm.1, .int rx.1]) (w1 := (mw G g z_thrown z_s z_kept z_isKept rm.2.1 rm.2.2.1 rm.2.2.2.1 z_troubles z_troubleSorts z_troubleNumbers z_asked rm.2.2.2.2.1 rm.2.2.2.2.2.1 rm.2.2.2.2.2.2.1 rm.2.2.2.2.2.2.2 z_types z_typeCounts z_typeMany z_text z_signs z_at z_lacks z_clauses z_begun z_letters z_firsts z_seconds z_aside z_sorts z_sizes z_items)) X E hI (c_X10_kindOf l G g em) kv_L_82 hd_X10_kindOf ⟨rfl, rfl⟩ (by decide) 0 rfl rfl rfl rfl hl.1 rfl (Nat.le_of_ble_eq_true rfl) dL_law_716 ⟨by show C + 1 + 0 ≤ 600000; omega, by show S + 4096 + 0 ≤ 7302249; omega⟩ rfl (fun H locs hI => ?_)
    refine lv_icmp_eq (pc := 719) (tgt := 1492) hx hb dL_law_719 (by decide) (fun c1 => ?_) (fun c1 => ?_)
    rotate_left
    · exact absurd er c1
    refine W.widen (k := C + 1) (n := S + 4096) (by omega) (by omega) ?_
    exact kk _ _ _ ⟨h, g, n_m0, n_m1, n_m2, n_s0, n_s1, n_s2, n_uq, q9, tp, ta, ti, x_hasImage, f_places, f_kinds, f_weights, f_howManyGenerators, f_generators, f_racks, f_howManySeen, f_seenFirst, f_seenSecond, f_seenIs, f_seenPlaces, f_howManyEvents, f_eventWhat, f_eventNumber, g_places, g_kinds, g_weights, g_howManyGenerators, g_generators, g_racks, g_howManySeen, g_seenFirst, g_seenSecond, g_seenIs, g_seenPlaces, g_howManyEvents, g_eventWhat, g_eventNumber, v_keys, v_asFound, v_found, v_turns, v_places, p_keys, p_asFound, p_found, p_turns, p_places, i_sort, i_howOften, i_sorts, i_moves, n_u, u_leasts, u_howMany, u_known, rx.2.1, rx.2.2.1, rx.2.2.2.1, rx.2.2.2.2, t_signs, t_length, t_whole, t_begins, t_ends, r_sorts, r_numbers, r_length, sr, ln, it, z_thrown, z_s, z_kept, z_isKept, rm.2.1, rm.2.2.1, rm.2.2.2.1, z_troubles, z_troubleSorts, z_troubleNumbers, z_asked, rm.2.2.2.2.1, rm.2.2.2.2.2.1, rm.2.2.2.2.2.2.1, rm.2.2.2.2.2.2.2, z_types, z_typeCounts, z_typeMany, z_text, z_signs, z_at, z_lacks, z_clauses, z_begun, z_letters, z_firsts, z_seconds, z_aside, z_sorts, z_sizes, z_items, htp, hR, hI, hl⟩
  · refine x_cVs (pc := 697) (st1 := [.int rx]) (w1 := ((xb G h x_hasImage f_places f_kinds f_weights f_howManyGenerators f_generators f_racks f_howManySeen f_seenFirst f_seenSecond f_seenIs f_seenPlaces f_howManyEvents f_eventWhat f_eventNumber g_places g_kinds g_weights g_howManyGenerators g_generators g_racks g_howManySeen g_seenFirst g_seenSecond g_seenIs g_seenPlaces g_howManyEvents g_eventWhat g_eventNumber n_m0 n_m1 n_m2 n_s0 n_s1 n_s2 v_keys v_asFound v_found v_turns v_places p_keys p_asFound p_found p_turns p_places i_sort i_howOften i_sorts i_moves n_uq n_u u_leasts u_howMany u_known n_wq n_w w_leasts w_howMany w_known t_signs t_length t_whole t_begins t_ends r_sorts r_numbers r_length) ++ ((tl G h tp ta ti sr ln it) ++ (mw G g z_thrown z_s z_kept z_isKept z_moveMany z_moves z_hands z_troubles z_troubleSorts z_troubleNumbers z_asked z_paint z_leasts z_isSeen z_classMany z_types z_typeCounts z_typeMany z_text z_signs z_at z_lacks z_clauses z_begun z_letters z_firsts z_seconds z_aside z_sorts z_sizes z_items)))) X E hI (c_X9_kindOf_n l G h ex) kv_L_79 hd_X9_kindOf ⟨rfl, rfl⟩ (by decide) 0 rfl rfl rfl rfl hl.1 rfl (Nat.le_of_ble_eq_true rfl) dL_law_697 ⟨by show C + 0 ≤ 600000; omega, by show S + 0 ≤ 7302249; omega⟩ rfl (fun H locs hI => ?_)
    refine lv_aload_n (pc := 700) hx hb dL_law_700 rfl (lv_at hl 2 rfl) ?_
    refine lv_aload_n (pc := 701) hx hb dL_law_701 rfl (lv_at hl 0 rfl) ?_
    refine lv_iload_n (pc := 702) hx hb dL_law_702 rfl (lv_at hl 3 rfl) ?_
    refine lv_iconst (pc := 703) (v := 1) hx hb dL_law_703 (by decide) ?_
    refine lv_iadd (pc := 704) hx hb dL_law_704 ?_
    refine va_sld (pc := 705) hx hb hX hbl hbA hI.2.2 hv1 dL_law_705 ?_
    refine lv_aload_n (pc := 706) hx hb dL_law_706 rfl (lv_at hl 0 rfl) ?_
    refine lv_iload_n (pc := 707) hx hb dL_law_707 rfl (lv_at hl 3 rfl) ?_
    refine lv_iconst (pc := 708) (v := 2) hx hb dL_law_708 (by decide) ?_
    refine lv_iadd (pc := 709) hx hb dL_law_709 ?_
    refine va_sld (pc := 710) hx hb hX hbl hbA hI.2.2 hv2 dL_law_710 ?_
    refine lv_aload_n (pc := 711) hx hb dL_law_711 rfl (lv_at hl 0 rfl) ?_
    refine lv_iload_n (pc := 712) hx hb dL_law_712 rfl (lv_at hl 3 rfl) ?_
    refine lv_iconst (pc := 713) (v := 3) hx hb dL_law_713 (by decide) ?_
    refine lv_iadd (pc := 714) hx hb dL_law_714 ?_
    refine va_sld (pc := 715) hx hb hX hbl hbA hI.2.2 hv3 dL_law_715 ?_
    refine x_cVR (pc := 716) (st1 := [.int rm.1, .int rx]) (w1 := (mw G g z_thrown z_s z_kept z_isKept rm.2.1 rm.2.2.1 rm.2.2.2.1 z_troubles z_troubleSorts z_troubleNumbers z_asked rm.2.2.2.2.1 rm.2.2.2.2.2.1 rm.2.2.2.2.2.2.1 rm.2.2.2.2.2.2.2 z_types z_typeCounts z_typeMany z_text z_signs z_at z_lacks z_clauses z_begun z_letters z_firsts z_seconds z_aside z_sorts z_sizes z_items)) X E hI (c_X10_kindOf l G g em) kv_L_82 hd_X10_kindOf ⟨rfl, rfl⟩ (by decide) 0 rfl rfl rfl rfl hl.1 rfl (Nat.le_of_ble_eq_true rfl) dL_law_716 ⟨by show C + 0 + 0 ≤ 600000; omega, by show S + 0 + 0 ≤ 7302249; omega⟩ rfl (fun H locs hI => ?_)
    refine lv_icmp_eq (pc := 719) (tgt := 1492) hx hb dL_law_719 (by decide) (fun c1 => ?_) (fun c1 => ?_)
    rotate_left
    · exact absurd er c1
    refine W.widen (k := C + 1) (n := S + 4096) (by omega) (by omega) ?_
    exact kk _ _ _ ⟨h, g, n_m0, n_m1, n_m2, n_s0, n_s1, n_s2, n_uq, n_wq, tp, ta, ti, x_hasImage, f_places, f_kinds, f_weights, f_howManyGenerators, f_generators, f_racks, f_howManySeen, f_seenFirst, f_seenSecond, f_seenIs, f_seenPlaces, f_howManyEvents, f_eventWhat, f_eventNumber, g_places, g_kinds, g_weights, g_howManyGenerators, g_generators, g_racks, g_howManySeen, g_seenFirst, g_seenSecond, g_seenIs, g_seenPlaces, g_howManyEvents, g_eventWhat, g_eventNumber, v_keys, v_asFound, v_found, v_turns, v_places, p_keys, p_asFound, p_found, p_turns, p_places, i_sort, i_howOften, i_sorts, i_moves, n_u, u_leasts, u_howMany, u_known, n_w, w_leasts, w_howMany, w_known, t_signs, t_length, t_whole, t_begins, t_ends, r_sorts, r_numbers, r_length, sr, ln, it, z_thrown, z_s, z_kept, z_isKept, rm.2.1, rm.2.2.1, rm.2.2.2.1, z_troubles, z_troubleSorts, z_troubleNumbers, z_asked, rm.2.2.2.2.1, rm.2.2.2.2.2.1, rm.2.2.2.2.2.2.1, rm.2.2.2.2.2.2.2, z_types, z_typeCounts, z_typeMany, z_text, z_signs, z_at, z_lacks, z_clauses, z_begun, z_letters, z_firsts, z_seconds, z_aside, z_sorts, z_sizes, z_items, htp, hR, hI, hl⟩
set_option maxHeartbeats 8000000 in
set_option maxRecDepth 100000 in
theorem law_16 {rr : RT} (op_heavy : OP_heavy rr) {p : Program} {l : Launch} {e : Env} {s : State} {m : MethodId} {below : List Frame} {meth : Method} {c : Code} {b L : Nat} {xs : Nat → Int32} {A : Nat → Prop} {G : GX} {Q : State → Prop} (X : CX RL code 4 ret p s m #[Value.ref b] meth c) (E : EX G A s) (hX : va_X b L xs s s.heap) (hbl : b < s.heap.size) (hbA : ¬ A b) {i C S : Nat} (hi : i + 6 ≤ L) (hL : L ≤ 3072) (hC : C + 1 ≤ 600000) (hS : S + 4096 ≤ 7302249) {H : Heap} {locs : List Loc} {ls : Array Slot} (hLI : LI rr G A s b i H locs ls)
    (kk : ∀ (H : Heap) (locs : List Loc) (ls : Array Slot), LI rr G A s b i H locs ls → W p l e room_1 s m #[Value.ref b] below meth c H locs (C + 1) (S + 4096) Q (F0 m 1492 ls [])) : W p l e room_1 s m #[Value.ref b] below meth c H locs C S Q (F0 m 724 ls []) := by
  obtain ⟨hx, hb, hml, hown, hts, hr, hlk⟩ := id X
  obtain ⟨h, g, n_m0, n_m1, n_m2, n_s0, n_s1, n_s2, n_uq, n_wq, tp, ta, ti, x_hasImage, f_places, f_kinds, f_weights, f_howManyGenerators, f_generators, f_racks, f_howManySeen, f_seenFirst, f_seenSecond, f_seenIs, f_seenPlaces, f_howManyEvents, f_eventWhat, f_eventNumber, g_places, g_kinds, g_weights, g_howManyGenerators, g_generators, g_racks, g_howManySeen, g_seenFirst, g_seenSecond, g_seenIs, g_seenPlaces, g_howManyEvents, g_eventWhat, g_eventNumber, v_keys, v_asFound, v_found, v_turns, v_places, p_keys, p_asFound, p_found, p_turns, p_places, i_sort, i_howOften, i_sorts, i_moves, n_u, u_leasts, u_howMany, u_known, n_w, w_leasts, w_howMany, w_known, t_signs, t_length, t_whole, t_begins, t_ends, r_sorts, r_numbers, r_length, sr, ln, it, z_thrown, z_s, z_kept, z_isKept, z_moveMany, z_moves, z_hands, z_troubles, z_troubleSorts, z_troubleNumbers, z_asked, z_paint, z_leasts, z_isSeen, z_classMany, z_types, z_typeCounts, z_typeMany, z_text, z_signs, z_at, z_lacks, z_clauses, z_begun, z_letters, z_firsts, z_seconds, z_aside, z_sorts, z_sizes, z_items, htp, hR, hI, hl⟩ := hLI
  have hv1 := q_v1 hi hL
  have hv2 := q_v2 hi hL
  have hv3 := q_v3 hi hL
  have hv4 := q_v4 hi hL
  have hv5 := q_v5 hi hL
  refine lv_aload_n (pc := 724) hx hb dL_law_724 rfl (lv_at hl 1 rfl) ?_
  refine lv_aload_n (pc := 725) hx hb dL_law_725 rfl (lv_at hl 0 rfl) ?_
  refine lv_iload_n (pc := 726) hx hb dL_law_726 rfl (lv_at hl 3 rfl) ?_
  refine lv_iconst (pc := 727) (v := 1) hx hb dL_law_727 (by decide) ?_
  refine lv_iadd (pc := 728) hx hb dL_law_728 ?_
  refine va_sld (pc := 729) hx hb hX hbl hbA hI.2.2 hv1 dL_law_729 ?_
  refine lv_aload_n (pc := 730) hx hb dL_law_730 rfl (lv_at hl 0 rfl) ?_
  refine lv_iload_n (pc := 731) hx hb dL_law_731 rfl (lv_at hl 3 rfl) ?_
  refine lv_iconst (pc := 732) (v := 2) hx hb dL_law_732 (by decide) ?_
  refine lv_iadd (pc := 733) hx hb dL_law_733 ?_
  refine va_sld (pc := 734) hx hb hX hbl hbA hI.2.2 hv2 dL_law_734 ?_
  obtain ⟨rm, em, ⟨p0, rx, ex, er, hR⟩ | ⟨p0, rx, ex, er, hR⟩ | ⟨rx, ex, er, hR⟩⟩ := op_heavy hR (xs (nI i + 1).toNatClampNeg) (xs (nI i + 2).toNatClampNeg)
  · rw [p0]
    refine x_cVsE (pc := 735) (st1 := [.int rx.1]) X E hI (c_X9_heavy_0 l G h ex) kv_L_83 hd_X9_heavy ⟨rfl, rfl⟩ (by decide) 0 rfl rfl rfl rfl hl.1 rfl (Nat.le_of_ble_eq_true rfl) dL_law_735 ⟨by show C + 1 ≤ 600000; omega, by show S + 4096 ≤ 7302249; omega⟩ rfl (fun q9 H locs hI => ?_)
    have hI : IN A G ((xb G h x_hasImage f_places f_kinds f_weights f_howManyGenerators f_generators f_racks f_howManySeen f_seenFirst f_seenSecond f_seenIs f_seenPlaces f_howManyEvents f_eventWhat f_eventNumber g_places g_kinds g_weights g_howManyGenerators g_generators g_racks g_howManySeen g_seenFirst g_seenSecond g_seenIs g_seenPlaces g_howManyEvents g_eventWhat g_eventNumber n_m0 n_m1 n_m2 n_s0 n_s1 n_s2 v_keys v_asFound v_found v_turns v_places p_keys p_asFound p_found p_turns p_places i_sort i_howOften i_sorts i_moves q9 rx.2.1 rx.2.2.1 rx.2.2.2.1 rx.2.2.2.2 n_wq n_w w_leasts w_howMany w_known t_signs t_length t_whole t_begins t_ends r_sorts r_numbers r_length) ++ ((tl G h tp ta ti sr ln it) ++ (mw G g z_thrown z_s z_kept z_isKept z_moveMany z_moves z_hands z_troubles z_troubleSorts z_troubleNumbers z_asked z_paint z_leasts z_isSeen z_classMany z_types z_typeCounts z_typeMany z_text z_signs z_at z_lacks z_clauses z_begun z_letters z_firsts z_seconds z_aside z_sorts z_sizes z_items))) s H locs := hI
    refine lv_aload_n (pc := 738) hx hb dL_law_738 rfl (lv_at hl 2 rfl) ?_
    refine lv_aload_n (pc := 739) hx hb dL_law_739 rfl (lv_at hl 0 rfl) ?_
    refine lv_iload_n (pc := 740) hx hb dL_law_740 rfl (lv_at hl 3 rfl) ?_
    refine lv_iconst (pc := 741) (v := 1) hx hb dL_law_741 (by decide) ?_
    refine lv_iadd (pc := 742) hx hb dL_law_742 ?_
    refine va_sld (pc := 743) hx hb hX hbl hbA hI.2.2 hv1 dL_law_743 ?_
    refine lv_aload_n (pc := 744) hx hb dL_law_744 rfl (lv_at hl 0 rfl) ?_
    refine lv_iload_n (pc := 745) hx hb dL_law_745 rfl (lv_at hl 3 rfl) ?_
    refine lv_iconst (pc := 746) (v := 2) hx hb dL_law_746 (by decide) ?_
    refine lv_iadd (pc := 747) hx hb dL_law_747 ?_
    refine va_sld (pc := 748) hx hb hX hbl hbA hI.2.2 hv2 dL_law_748 ?_
    refine x_cVR (pc := 749) (st1 := [.int rm.1, .int rx.1]) (w1 := (mw G g z_thrown z_s z_kept z_isKept rm.2.1 rm.2.2.1 rm.2.2.2.1 z_troubles z_troubleSorts z_troubleNumbers z_asked rm.2.2.2.2.1 rm.2.2.2.2.2.1 rm.2.2.2.2.2.2.1 rm.2.2.2.2.2.2.2 z_types z_typeCounts z_typeMany z_text z_signs z_at z_lacks z_clauses z_begun z_letters z_firsts z_seconds z_aside z_sorts z_sizes z_items)) X E hI (c_X10_heavy l G g em) kv_L_86 hd_X10_heavy ⟨rfl, rfl⟩ (by decide) 0 rfl rfl rfl rfl hl.1 rfl (Nat.le_of_ble_eq_true rfl) dL_law_749 ⟨by show C + 1 + 0 ≤ 600000; omega, by show S + 4096 + 0 ≤ 7302249; omega⟩ rfl (fun H locs hI => ?_)
    refine lv_icmp_eq (pc := 752) (tgt := 1492) hx hb dL_law_752 (by decide) (fun c1 => ?_) (fun c1 => ?_)
    rotate_left
    · exact absurd er c1
    refine W.widen (k := C + 1) (n := S + 4096) (by omega) (by omega) ?_
    exact kk _ _ _ ⟨h, g, n_m0, n_m1, n_m2, n_s0, n_s1, n_s2, q9, n_wq, tp, ta, ti, x_hasImage, f_places, f_kinds, f_weights, f_howManyGenerators, f_generators, f_racks, f_howManySeen, f_seenFirst, f_seenSecond, f_seenIs, f_seenPlaces, f_howManyEvents, f_eventWhat, f_eventNumber, g_places, g_kinds, g_weights, g_howManyGenerators, g_generators, g_racks, g_howManySeen, g_seenFirst, g_seenSecond, g_seenIs, g_seenPlaces, g_howManyEvents, g_eventWhat, g_eventNumber, v_keys, v_asFound, v_found, v_turns, v_places, p_keys, p_asFound, p_found, p_turns, p_places, i_sort, i_howOften, i_sorts, i_moves, rx.2.1, rx.2.2.1, rx.2.2.2.1, rx.2.2.2.2, n_w, w_leasts, w_howMany, w_known, t_signs, t_length, t_whole, t_begins, t_ends, r_sorts, r_numbers, r_length, sr, ln, it, z_thrown, z_s, z_kept, z_isKept, rm.2.1, rm.2.2.1, rm.2.2.2.1, z_troubles, z_troubleSorts, z_troubleNumbers, z_asked, rm.2.2.2.2.1, rm.2.2.2.2.2.1, rm.2.2.2.2.2.2.1, rm.2.2.2.2.2.2.2, z_types, z_typeCounts, z_typeMany, z_text, z_signs, z_at, z_lacks, z_clauses, z_begun, z_letters, z_firsts, z_seconds, z_aside, z_sorts, z_sizes, z_items, htp, hR, hI, hl⟩
  · rw [p0]
    refine x_cVsE (pc := 735) (st1 := [.int rx.1]) X E hI (c_X9_heavy_1 l G h ex) kv_L_83 hd_X9_heavy ⟨rfl, rfl⟩ (by decide) 0 rfl rfl rfl rfl hl.1 rfl (Nat.le_of_ble_eq_true rfl) dL_law_735 ⟨by show C + 1 ≤ 600000; omega, by show S + 4096 ≤ 7302249; omega⟩ rfl (fun q9 H locs hI => ?_)
    have hI : IN A G ((xb G h x_hasImage f_places f_kinds f_weights f_howManyGenerators f_generators f_racks f_howManySeen f_seenFirst f_seenSecond f_seenIs f_seenPlaces f_howManyEvents f_eventWhat f_eventNumber g_places g_kinds g_weights g_howManyGenerators g_generators g_racks g_howManySeen g_seenFirst g_seenSecond g_seenIs g_seenPlaces g_howManyEvents g_eventWhat g_eventNumber n_m0 n_m1 n_m2 n_s0 n_s1 n_s2 v_keys v_asFound v_found v_turns v_places p_keys p_asFound p_found p_turns p_places i_sort i_howOften i_sorts i_moves n_uq n_u u_leasts u_howMany u_known q9 rx.2.1 rx.2.2.1 rx.2.2.2.1 rx.2.2.2.2 t_signs t_length t_whole t_begins t_ends r_sorts r_numbers r_length) ++ ((tl G h tp ta ti sr ln it) ++ (mw G g z_thrown z_s z_kept z_isKept z_moveMany z_moves z_hands z_troubles z_troubleSorts z_troubleNumbers z_asked z_paint z_leasts z_isSeen z_classMany z_types z_typeCounts z_typeMany z_text z_signs z_at z_lacks z_clauses z_begun z_letters z_firsts z_seconds z_aside z_sorts z_sizes z_items))) s H locs := hI
    refine lv_aload_n (pc := 738) hx hb dL_law_738 rfl (lv_at hl 2 rfl) ?_
    refine lv_aload_n (pc := 739) hx hb dL_law_739 rfl (lv_at hl 0 rfl) ?_
    refine lv_iload_n (pc := 740) hx hb dL_law_740 rfl (lv_at hl 3 rfl) ?_
    refine lv_iconst (pc := 741) (v := 1) hx hb dL_law_741 (by decide) ?_
    refine lv_iadd (pc := 742) hx hb dL_law_742 ?_
    refine va_sld (pc := 743) hx hb hX hbl hbA hI.2.2 hv1 dL_law_743 ?_
    refine lv_aload_n (pc := 744) hx hb dL_law_744 rfl (lv_at hl 0 rfl) ?_
    refine lv_iload_n (pc := 745) hx hb dL_law_745 rfl (lv_at hl 3 rfl) ?_
    refine lv_iconst (pc := 746) (v := 2) hx hb dL_law_746 (by decide) ?_
    refine lv_iadd (pc := 747) hx hb dL_law_747 ?_
    refine va_sld (pc := 748) hx hb hX hbl hbA hI.2.2 hv2 dL_law_748 ?_
    refine x_cVR (pc := 749) (st1 := [.int rm.1, .int rx.1]) (w1 := (mw G g z_thrown z_s z_kept z_isKept rm.2.1 rm.2.2.1 rm.2.2.2.1 z_troubles z_troubleSorts z_troubleNumbers z_asked rm.2.2.2.2.1 rm.2.2.2.2.2.1 rm.2.2.2.2.2.2.1 rm.2.2.2.2.2.2.2 z_types z_typeCounts z_typeMany z_text z_signs z_at z_lacks z_clauses z_begun z_letters z_firsts z_seconds z_aside z_sorts z_sizes z_items)) X E hI (c_X10_heavy l G g em) kv_L_86 hd_X10_heavy ⟨rfl, rfl⟩ (by decide) 0 rfl rfl rfl rfl hl.1 rfl (Nat.le_of_ble_eq_true rfl) dL_law_749 ⟨by show C + 1 + 0 ≤ 600000; omega, by show S + 4096 + 0 ≤ 7302249; omega⟩ rfl (fun H locs hI => ?_)
    refine lv_icmp_eq (pc := 752) (tgt := 1492) hx hb dL_law_752 (by decide) (fun c1 => ?_) (fun c1 => ?_)
    rotate_left
    · exact absurd er c1
    refine W.widen (k := C + 1) (n := S + 4096) (by omega) (by omega) ?_
    exact kk _ _ _ ⟨h, g, n_m0, n_m1, n_m2, n_s0, n_s1, n_s2, n_uq, q9, tp, ta, ti, x_hasImage, f_places, f_kinds, f_weights, f_howManyGenerators, f_generators, f_racks, f_howManySeen, f_seenFirst, f_seenSecond, f_seenIs, f_seenPlaces, f_howManyEvents, f_eventWhat, f_eventNumber, g_places, g_kinds, g_weights, g_howManyGenerators, g_generators, g_racks, g_howManySeen, g_seenFirst, g_seenSecond, g_seenIs, g_seenPlaces, g_howManyEvents, g_eventWhat, g_eventNumber, v_keys, v_asFound, v_found, v_turns, v_places, p_keys, p_asFound, p_found, p_turns, p_places, i_sort, i_howOften, i_sorts, i_moves, n_u, u_leasts, u_howMany, u_known, rx.2.1, rx.2.2.1, rx.2.2.2.1, rx.2.2.2.2, t_signs, t_length, t_whole, t_begins, t_ends, r_sorts, r_numbers, r_length, sr, ln, it, z_thrown, z_s, z_kept, z_isKept, rm.2.1, rm.2.2.1, rm.2.2.2.1, z_troubles, z_troubleSorts, z_troubleNumbers, z_asked, rm.2.2.2.2.1, rm.2.2.2.2.2.1, rm.2.2.2.2.2.2.1, rm.2.2.2.2.2.2.2, z_types, z_typeCounts, z_typeMany, z_text, z_signs, z_at, z_lacks, z_clauses, z_begun, z_letters, z_firsts, z_seconds, z_aside, z_sorts, z_sizes, z_items, htp, hR, hI, hl⟩
  · refine x_cVs (pc := 735) (st1 := [.int rx]) (w1 := ((xb G h x_hasImage f_places f_kinds f_weights f_howManyGenerators f_generators f_racks f_howManySeen f_seenFirst f_seenSecond f_seenIs f_seenPlaces f_howManyEvents f_eventWhat f_eventNumber g_places g_kinds g_weights g_howManyGenerators g_generators g_racks g_howManySeen g_seenFirst g_seenSecond g_seenIs g_seenPlaces g_howManyEvents g_eventWhat g_eventNumber n_m0 n_m1 n_m2 n_s0 n_s1 n_s2 v_keys v_asFound v_found v_turns v_places p_keys p_asFound p_found p_turns p_places i_sort i_howOften i_sorts i_moves n_uq n_u u_leasts u_howMany u_known n_wq n_w w_leasts w_howMany w_known t_signs t_length t_whole t_begins t_ends r_sorts r_numbers r_length) ++ ((tl G h tp ta ti sr ln it) ++ (mw G g z_thrown z_s z_kept z_isKept z_moveMany z_moves z_hands z_troubles z_troubleSorts z_troubleNumbers z_asked z_paint z_leasts z_isSeen z_classMany z_types z_typeCounts z_typeMany z_text z_signs z_at z_lacks z_clauses z_begun z_letters z_firsts z_seconds z_aside z_sorts z_sizes z_items)))) X E hI (c_X9_heavy_n l G h ex) kv_L_83 hd_X9_heavy ⟨rfl, rfl⟩ (by decide) 0 rfl rfl rfl rfl hl.1 rfl (Nat.le_of_ble_eq_true rfl) dL_law_735 ⟨by show C + 0 ≤ 600000; omega, by show S + 0 ≤ 7302249; omega⟩ rfl (fun H locs hI => ?_)
    refine lv_aload_n (pc := 738) hx hb dL_law_738 rfl (lv_at hl 2 rfl) ?_
    refine lv_aload_n (pc := 739) hx hb dL_law_739 rfl (lv_at hl 0 rfl) ?_
    refine lv_iload_n (pc := 740) hx hb dL_law_740 rfl (lv_at hl 3 rfl) ?_
    refine lv_iconst (pc := 741) (v := 1) hx hb dL_law_741 (by decide) ?_
    refine lv_iadd (pc := 742) hx hb dL_law_742 ?_
    refine va_sld (pc := 743) hx hb hX hbl hbA hI.2.2 hv1 dL_law_743 ?_
    refine lv_aload_n (pc := 744) hx hb dL_law_744 rfl (lv_at hl 0 rfl) ?_
    refine lv_iload_n (pc := 745) hx hb dL_law_745 rfl (lv_at hl 3 rfl) ?_
    refine lv_iconst (pc := 746) (v := 2) hx hb dL_law_746 (by decide) ?_
    refine lv_iadd (pc := 747) hx hb dL_law_747 ?_
    refine va_sld (pc := 748) hx hb hX hbl hbA hI.2.2 hv2 dL_law_748 ?_
    refine x_cVR (pc := 749) (st1 := [.int rm.1, .int rx]) (w1 := (mw G g z_thrown z_s z_kept z_isKept rm.2.1 rm.2.2.1 rm.2.2.2.1 z_troubles z_troubleSorts z_troubleNumbers z_asked rm.2.2.2.2.1 rm.2.2.2.2.2.1 rm.2.2.2.2.2.2.1 rm.2.2.2.2.2.2.2 z_types z_typeCounts z_typeMany z_text z_signs z_at z_lacks z_clauses z_begun z_letters z_firsts z_seconds z_aside z_sorts z_sizes z_items)) X E hI (c_X10_heavy l G g em) kv_L_86 hd_X10_heavy ⟨rfl, rfl⟩ (by decide) 0 rfl rfl rfl rfl hl.1 rfl (Nat.le_of_ble_eq_true rfl) dL_law_749 ⟨by show C + 0 + 0 ≤ 600000; omega, by show S + 0 + 0 ≤ 7302249; omega⟩ rfl (fun H locs hI => ?_)
    refine lv_icmp_eq (pc := 752) (tgt := 1492) hx hb dL_law_752 (by decide) (fun c1 => ?_) (fun c1 => ?_)
    rotate_left
    · exact absurd er c1
    refine W.widen (k := C + 1) (n := S + 4096) (by omega) (by omega) ?_
    exact kk _ _ _ ⟨h, g, n_m0, n_m1, n_m2, n_s0, n_s1, n_s2, n_uq, n_wq, tp, ta, ti, x_hasImage, f_places, f_kinds, f_weights, f_howManyGenerators, f_generators, f_racks, f_howManySeen, f_seenFirst, f_seenSecond, f_seenIs, f_seenPlaces, f_howManyEvents, f_eventWhat, f_eventNumber, g_places, g_kinds, g_weights, g_howManyGenerators, g_generators, g_racks, g_howManySeen, g_seenFirst, g_seenSecond, g_seenIs, g_seenPlaces, g_howManyEvents, g_eventWhat, g_eventNumber, v_keys, v_asFound, v_found, v_turns, v_places, p_keys, p_asFound, p_found, p_turns, p_places, i_sort, i_howOften, i_sorts, i_moves, n_u, u_leasts, u_howMany, u_known, n_w, w_leasts, w_howMany, w_known, t_signs, t_length, t_whole, t_begins, t_ends, r_sorts, r_numbers, r_length, sr, ln, it, z_thrown, z_s, z_kept, z_isKept, rm.2.1, rm.2.2.1, rm.2.2.2.1, z_troubles, z_troubleSorts, z_troubleNumbers, z_asked, rm.2.2.2.2.1, rm.2.2.2.2.2.1, rm.2.2.2.2.2.2.1, rm.2.2.2.2.2.2.2, z_types, z_typeCounts, z_typeMany, z_text, z_signs, z_at, z_lacks, z_clauses, z_begun, z_letters, z_firsts, z_seconds, z_aside, z_sorts, z_sizes, z_items, htp, hR, hI, hl⟩
set_option maxHeartbeats 8000000 in
set_option maxRecDepth 100000 in
theorem law_17 {rr : RT} (op_use : OP_use rr) {p : Program} {l : Launch} {e : Env} {s : State} {m : MethodId} {below : List Frame} {meth : Method} {c : Code} {b L : Nat} {xs : Nat → Int32} {A : Nat → Prop} {G : GX} {Q : State → Prop} (X : CX RL code 4 ret p s m #[Value.ref b] meth c) (E : EX G A s) (hX : va_X b L xs s s.heap) (hbl : b < s.heap.size) (hbA : ¬ A b) {i C S : Nat} (hi : i + 6 ≤ L) (hL : L ≤ 3072) (hC : C + 1 ≤ 600000) (hS : S + 4096 ≤ 7302249) {H : Heap} {locs : List Loc} {ls : Array Slot} (hLI : LI rr G A s b i H locs ls)
    (kk : ∀ (H : Heap) (locs : List Loc) (ls : Array Slot), LI rr G A s b i H locs ls → W p l e room_1 s m #[Value.ref b] below meth c H locs (C + 1) (S + 4096) Q (F0 m 1492 ls [])) : W p l e room_1 s m #[Value.ref b] below meth c H locs C S Q (F0 m 757 ls []) := by
  obtain ⟨hx, hb, hml, hown, hts, hr, hlk⟩ := id X
  obtain ⟨h, g, n_m0, n_m1, n_m2, n_s0, n_s1, n_s2, n_uq, n_wq, tp, ta, ti, x_hasImage, f_places, f_kinds, f_weights, f_howManyGenerators, f_generators, f_racks, f_howManySeen, f_seenFirst, f_seenSecond, f_seenIs, f_seenPlaces, f_howManyEvents, f_eventWhat, f_eventNumber, g_places, g_kinds, g_weights, g_howManyGenerators, g_generators, g_racks, g_howManySeen, g_seenFirst, g_seenSecond, g_seenIs, g_seenPlaces, g_howManyEvents, g_eventWhat, g_eventNumber, v_keys, v_asFound, v_found, v_turns, v_places, p_keys, p_asFound, p_found, p_turns, p_places, i_sort, i_howOften, i_sorts, i_moves, n_u, u_leasts, u_howMany, u_known, n_w, w_leasts, w_howMany, w_known, t_signs, t_length, t_whole, t_begins, t_ends, r_sorts, r_numbers, r_length, sr, ln, it, z_thrown, z_s, z_kept, z_isKept, z_moveMany, z_moves, z_hands, z_troubles, z_troubleSorts, z_troubleNumbers, z_asked, z_paint, z_leasts, z_isSeen, z_classMany, z_types, z_typeCounts, z_typeMany, z_text, z_signs, z_at, z_lacks, z_clauses, z_begun, z_letters, z_firsts, z_seconds, z_aside, z_sorts, z_sizes, z_items, htp, hR, hI, hl⟩ := hLI
  have hv1 := q_v1 hi hL
  have hv2 := q_v2 hi hL
  have hv3 := q_v3 hi hL
  have hv4 := q_v4 hi hL
  have hv5 := q_v5 hi hL
  refine lv_aload_n (pc := 757) hx hb dL_law_757 rfl (lv_at hl 1 rfl) ?_
  refine lv_aload_n (pc := 758) hx hb dL_law_758 rfl (lv_at hl 0 rfl) ?_
  refine lv_iload_n (pc := 759) hx hb dL_law_759 rfl (lv_at hl 3 rfl) ?_
  refine lv_iconst (pc := 760) (v := 1) hx hb dL_law_760 (by decide) ?_
  refine lv_iadd (pc := 761) hx hb dL_law_761 ?_
  refine va_sld (pc := 762) hx hb hX hbl hbA hI.2.2 hv1 dL_law_762 ?_
  refine lv_aload_n (pc := 763) hx hb dL_law_763 rfl (lv_at hl 0 rfl) ?_
  refine lv_iload_n (pc := 764) hx hb dL_law_764 rfl (lv_at hl 3 rfl) ?_
  refine lv_iconst (pc := 765) (v := 2) hx hb dL_law_765 (by decide) ?_
  refine lv_iadd (pc := 766) hx hb dL_law_766 ?_
  refine va_sld (pc := 767) hx hb hX hbl hbA hI.2.2 hv2 dL_law_767 ?_
  obtain ⟨rm, em, ⟨p0, rx, ex, er, hR⟩ | ⟨p0, rx, ex, er, hR⟩ | ⟨rx, ex, er, hR⟩⟩ := op_use hR (xs (nI i + 1).toNatClampNeg) (xs (nI i + 2).toNatClampNeg)
  · rw [p0]
    refine x_cVsE (pc := 768) (st1 := [.int rx.1]) X E hI (c_X9_use_0 l G h ex) kv_L_87 hd_X9_use ⟨rfl, rfl⟩ (by decide) 0 rfl rfl rfl rfl hl.1 rfl (Nat.le_of_ble_eq_true rfl) dL_law_768 ⟨by show C + 1 ≤ 600000; omega, by show S + 4096 ≤ 7302249; omega⟩ rfl (fun q9 H locs hI => ?_)
    have hI : IN A G ((xb G h x_hasImage f_places f_kinds f_weights f_howManyGenerators f_generators f_racks f_howManySeen f_seenFirst f_seenSecond f_seenIs f_seenPlaces f_howManyEvents f_eventWhat f_eventNumber g_places g_kinds g_weights g_howManyGenerators g_generators g_racks g_howManySeen g_seenFirst g_seenSecond g_seenIs g_seenPlaces g_howManyEvents g_eventWhat g_eventNumber n_m0 n_m1 n_m2 n_s0 n_s1 n_s2 v_keys v_asFound v_found v_turns v_places p_keys p_asFound p_found p_turns p_places i_sort i_howOften i_sorts i_moves q9 rx.2.1 rx.2.2.1 rx.2.2.2.1 rx.2.2.2.2 n_wq n_w w_leasts w_howMany w_known t_signs t_length t_whole t_begins t_ends r_sorts r_numbers r_length) ++ ((tl G h tp ta ti sr ln it) ++ (mw G g z_thrown z_s z_kept z_isKept z_moveMany z_moves z_hands z_troubles z_troubleSorts z_troubleNumbers z_asked z_paint z_leasts z_isSeen z_classMany z_types z_typeCounts z_typeMany z_text z_signs z_at z_lacks z_clauses z_begun z_letters z_firsts z_seconds z_aside z_sorts z_sizes z_items))) s H locs := hI
    refine lv_aload_n (pc := 771) hx hb dL_law_771 rfl (lv_at hl 2 rfl) ?_
    refine lv_aload_n (pc := 772) hx hb dL_law_772 rfl (lv_at hl 0 rfl) ?_
    refine lv_iload_n (pc := 773) hx hb dL_law_773 rfl (lv_at hl 3 rfl) ?_
    refine lv_iconst (pc := 774) (v := 1) hx hb dL_law_774 (by decide) ?_
    refine lv_iadd (pc := 775) hx hb dL_law_775 ?_
    refine va_sld (pc := 776) hx hb hX hbl hbA hI.2.2 hv1 dL_law_776 ?_
    refine lv_aload_n (pc := 777) hx hb dL_law_777 rfl (lv_at hl 0 rfl) ?_
    refine lv_iload_n (pc := 778) hx hb dL_law_778 rfl (lv_at hl 3 rfl) ?_
    refine lv_iconst (pc := 779) (v := 2) hx hb dL_law_779 (by decide) ?_
    refine lv_iadd (pc := 780) hx hb dL_law_780 ?_
    refine va_sld (pc := 781) hx hb hX hbl hbA hI.2.2 hv2 dL_law_781 ?_
    refine x_cVR (pc := 782) (st1 := [.int rm.1, .int rx.1]) (w1 := (mw G g z_thrown z_s z_kept z_isKept rm.2.1 rm.2.2.1 rm.2.2.2.1 z_troubles z_troubleSorts z_troubleNumbers z_asked rm.2.2.2.2.1 rm.2.2.2.2.2.1 rm.2.2.2.2.2.2.1 rm.2.2.2.2.2.2.2 z_types z_typeCounts z_typeMany z_text z_signs z_at z_lacks z_clauses z_begun z_letters z_firsts z_seconds z_aside z_sorts z_sizes z_items)) X E hI (c_X10_use l G g em) kv_L_90 hd_X10_use ⟨rfl, rfl⟩ (by decide) 0 rfl rfl rfl rfl hl.1 rfl (Nat.le_of_ble_eq_true rfl) dL_law_782 ⟨by show C + 1 + 0 ≤ 600000; omega, by show S + 4096 + 0 ≤ 7302249; omega⟩ rfl (fun H locs hI => ?_)
    refine lv_icmp_eq (pc := 785) (tgt := 1492) hx hb dL_law_785 (by decide) (fun c1 => ?_) (fun c1 => ?_)
    rotate_left
    · exact absurd er c1
    refine W.widen (k := C + 1) (n := S + 4096) (by omega) (by omega) ?_
    exact kk _ _ _ ⟨h, g, n_m0, n_m1, n_m2, n_s0, n_s1, n_s2, q9, n_wq, tp, ta, ti, x_hasImage, f_places, f_kinds, f_weights, f_howManyGenerators, f_generators, f_racks, f_howManySeen, f_seenFirst, f_seenSecond, f_seenIs, f_seenPlaces, f_howManyEvents, f_eventWhat, f_eventNumber, g_places, g_kinds, g_weights, g_howManyGenerators, g_generators, g_racks, g_howManySeen, g_seenFirst, g_seenSecond, g_seenIs, g_seenPlaces, g_howManyEvents, g_eventWhat, g_eventNumber, v_keys, v_asFound, v_found, v_turns, v_places, p_keys, p_asFound, p_found, p_turns, p_places, i_sort, i_howOften, i_sorts, i_moves, rx.2.1, rx.2.2.1, rx.2.2.2.1, rx.2.2.2.2, n_w, w_leasts, w_howMany, w_known, t_signs, t_length, t_whole, t_begins, t_ends, r_sorts, r_numbers, r_length, sr, ln, it, z_thrown, z_s, z_kept, z_isKept, rm.2.1, rm.2.2.1, rm.2.2.2.1, z_troubles, z_troubleSorts, z_troubleNumbers, z_asked, rm.2.2.2.2.1, rm.2.2.2.2.2.1, rm.2.2.2.2.2.2.1, rm.2.2.2.2.2.2.2, z_types, z_typeCounts, z_typeMany, z_text, z_signs, z_at, z_lacks, z_clauses, z_begun, z_letters, z_firsts, z_seconds, z_aside, z_sorts, z_sizes, z_items, htp, hR, hI, hl⟩
  · rw [p0]
    refine x_cVsE (pc := 768) (st1 := [.int rx.1]) X E hI (c_X9_use_1 l G h ex) kv_L_87 hd_X9_use ⟨rfl, rfl⟩ (by decide) 0 rfl rfl rfl rfl hl.1 rfl (Nat.le_of_ble_eq_true rfl) dL_law_768 ⟨by show C + 1 ≤ 600000; omega, by show S + 4096 ≤ 7302249; omega⟩ rfl (fun q9 H locs hI => ?_)
    have hI : IN A G ((xb G h x_hasImage f_places f_kinds f_weights f_howManyGenerators f_generators f_racks f_howManySeen f_seenFirst f_seenSecond f_seenIs f_seenPlaces f_howManyEvents f_eventWhat f_eventNumber g_places g_kinds g_weights g_howManyGenerators g_generators g_racks g_howManySeen g_seenFirst g_seenSecond g_seenIs g_seenPlaces g_howManyEvents g_eventWhat g_eventNumber n_m0 n_m1 n_m2 n_s0 n_s1 n_s2 v_keys v_asFound v_found v_turns v_places p_keys p_asFound p_found p_turns p_places i_sort i_howOften i_sorts i_moves n_uq n_u u_leasts u_howMany u_known q9 rx.2.1 rx.2.2.1 rx.2.2.2.1 rx.2.2.2.2 t_signs t_length t_whole t_begins t_ends r_sorts r_numbers r_length) ++ ((tl G h tp ta ti sr ln it) ++ (mw G g z_thrown z_s z_kept z_isKept z_moveMany z_moves z_hands z_troubles z_troubleSorts z_troubleNumbers z_asked z_paint z_leasts z_isSeen z_classMany z_types z_typeCounts z_typeMany z_text z_signs z_at z_lacks z_clauses z_begun z_letters z_firsts z_seconds z_aside z_sorts z_sizes z_items))) s H locs := hI
    refine lv_aload_n (pc := 771) hx hb dL_law_771 rfl (lv_at hl 2 rfl) ?_
    refine lv_aload_n (pc := 772) hx hb dL_law_772 rfl (lv_at hl 0 rfl) ?_
    refine lv_iload_n (pc := 773) hx hb dL_law_773 rfl (lv_at hl 3 rfl) ?_
    refine lv_iconst (pc := 774) (v := 1) hx hb dL_law_774 (by decide) ?_
    refine lv_iadd (pc := 775) hx hb dL_law_775 ?_
    refine va_sld (pc := 776) hx hb hX hbl hbA hI.2.2 hv1 dL_law_776 ?_
    refine lv_aload_n (pc := 777) hx hb dL_law_777 rfl (lv_at hl 0 rfl) ?_
    refine lv_iload_n (pc := 778) hx hb dL_law_778 rfl (lv_at hl 3 rfl) ?_
    refine lv_iconst (pc := 779) (v := 2) hx hb dL_law_779 (by decide) ?_
    refine lv_iadd (pc := 780) hx hb dL_law_780 ?_
    refine va_sld (pc := 781) hx hb hX hbl hbA hI.2.2 hv2 dL_law_781 ?_
    refine x_cVR (pc := 782) (st1 := [.int rm.1, .int rx.1]) (w1 := (mw G g z_thrown z_s z_kept z_isKept rm.2.1 rm.2.2.1 rm.2.2.2.1 z_troubles z_troubleSorts z_troubleNumbers z_asked rm.2.2.2.2.1 rm.2.2.2.2.2.1 rm.2.2.2.2.2.2.1 rm.2.2.2.2.2.2.2 z_types z_typeCounts z_typeMany z_text z_signs z_at z_lacks z_clauses z_begun z_letters z_firsts z_seconds z_aside z_sorts z_sizes z_items)) X E hI (c_X10_use l G g em) kv_L_90 hd_X10_use ⟨rfl, rfl⟩ (by decide) 0 rfl rfl rfl rfl hl.1 rfl (Nat.le_of_ble_eq_true rfl) dL_law_782 ⟨by show C + 1 + 0 ≤ 600000; omega, by show S + 4096 + 0 ≤ 7302249; omega⟩ rfl (fun H locs hI => ?_)
    refine lv_icmp_eq (pc := 785) (tgt := 1492) hx hb dL_law_785 (by decide) (fun c1 => ?_) (fun c1 => ?_)
    rotate_left
    · exact absurd er c1
    refine W.widen (k := C + 1) (n := S + 4096) (by omega) (by omega) ?_
    exact kk _ _ _ ⟨h, g, n_m0, n_m1, n_m2, n_s0, n_s1, n_s2, n_uq, q9, tp, ta, ti, x_hasImage, f_places, f_kinds, f_weights, f_howManyGenerators, f_generators, f_racks, f_howManySeen, f_seenFirst, f_seenSecond, f_seenIs, f_seenPlaces, f_howManyEvents, f_eventWhat, f_eventNumber, g_places, g_kinds, g_weights, g_howManyGenerators, g_generators, g_racks, g_howManySeen, g_seenFirst, g_seenSecond, g_seenIs, g_seenPlaces, g_howManyEvents, g_eventWhat, g_eventNumber, v_keys, v_asFound, v_found, v_turns, v_places, p_keys, p_asFound, p_found, p_turns, p_places, i_sort, i_howOften, i_sorts, i_moves, n_u, u_leasts, u_howMany, u_known, rx.2.1, rx.2.2.1, rx.2.2.2.1, rx.2.2.2.2, t_signs, t_length, t_whole, t_begins, t_ends, r_sorts, r_numbers, r_length, sr, ln, it, z_thrown, z_s, z_kept, z_isKept, rm.2.1, rm.2.2.1, rm.2.2.2.1, z_troubles, z_troubleSorts, z_troubleNumbers, z_asked, rm.2.2.2.2.1, rm.2.2.2.2.2.1, rm.2.2.2.2.2.2.1, rm.2.2.2.2.2.2.2, z_types, z_typeCounts, z_typeMany, z_text, z_signs, z_at, z_lacks, z_clauses, z_begun, z_letters, z_firsts, z_seconds, z_aside, z_sorts, z_sizes, z_items, htp, hR, hI, hl⟩
  · refine x_cVs (pc := 768) (st1 := [.int rx]) (w1 := ((xb G h x_hasImage f_places f_kinds f_weights f_howManyGenerators f_generators f_racks f_howManySeen f_seenFirst f_seenSecond f_seenIs f_seenPlaces f_howManyEvents f_eventWhat f_eventNumber g_places g_kinds g_weights g_howManyGenerators g_generators g_racks g_howManySeen g_seenFirst g_seenSecond g_seenIs g_seenPlaces g_howManyEvents g_eventWhat g_eventNumber n_m0 n_m1 n_m2 n_s0 n_s1 n_s2 v_keys v_asFound v_found v_turns v_places p_keys p_asFound p_found p_turns p_places i_sort i_howOften i_sorts i_moves n_uq n_u u_leasts u_howMany u_known n_wq n_w w_leasts w_howMany w_known t_signs t_length t_whole t_begins t_ends r_sorts r_numbers r_length) ++ ((tl G h tp ta ti sr ln it) ++ (mw G g z_thrown z_s z_kept z_isKept z_moveMany z_moves z_hands z_troubles z_troubleSorts z_troubleNumbers z_asked z_paint z_leasts z_isSeen z_classMany z_types z_typeCounts z_typeMany z_text z_signs z_at z_lacks z_clauses z_begun z_letters z_firsts z_seconds z_aside z_sorts z_sizes z_items)))) X E hI (c_X9_use_n l G h ex) kv_L_87 hd_X9_use ⟨rfl, rfl⟩ (by decide) 0 rfl rfl rfl rfl hl.1 rfl (Nat.le_of_ble_eq_true rfl) dL_law_768 ⟨by show C + 0 ≤ 600000; omega, by show S + 0 ≤ 7302249; omega⟩ rfl (fun H locs hI => ?_)
    refine lv_aload_n (pc := 771) hx hb dL_law_771 rfl (lv_at hl 2 rfl) ?_
    refine lv_aload_n (pc := 772) hx hb dL_law_772 rfl (lv_at hl 0 rfl) ?_
    refine lv_iload_n (pc := 773) hx hb dL_law_773 rfl (lv_at hl 3 rfl) ?_
    refine lv_iconst (pc := 774) (v := 1) hx hb dL_law_774 (by decide) ?_
    refine lv_iadd (pc := 775) hx hb dL_law_775 ?_
    refine va_sld (pc := 776) hx hb hX hbl hbA hI.2.2 hv1 dL_law_776 ?_
    refine lv_aload_n (pc := 777) hx hb dL_law_777 rfl (lv_at hl 0 rfl) ?_
    refine lv_iload_n (pc := 778) hx hb dL_law_778 rfl (lv_at hl 3 rfl) ?_
    refine lv_iconst (pc := 779) (v := 2) hx hb dL_law_779 (by decide) ?_
    refine lv_iadd (pc := 780) hx hb dL_law_780 ?_
    refine va_sld (pc := 781) hx hb hX hbl hbA hI.2.2 hv2 dL_law_781 ?_
    refine x_cVR (pc := 782) (st1 := [.int rm.1, .int rx]) (w1 := (mw G g z_thrown z_s z_kept z_isKept rm.2.1 rm.2.2.1 rm.2.2.2.1 z_troubles z_troubleSorts z_troubleNumbers z_asked rm.2.2.2.2.1 rm.2.2.2.2.2.1 rm.2.2.2.2.2.2.1 rm.2.2.2.2.2.2.2 z_types z_typeCounts z_typeMany z_text z_signs z_at z_lacks z_clauses z_begun z_letters z_firsts z_seconds z_aside z_sorts z_sizes z_items)) X E hI (c_X10_use l G g em) kv_L_90 hd_X10_use ⟨rfl, rfl⟩ (by decide) 0 rfl rfl rfl rfl hl.1 rfl (Nat.le_of_ble_eq_true rfl) dL_law_782 ⟨by show C + 0 + 0 ≤ 600000; omega, by show S + 0 + 0 ≤ 7302249; omega⟩ rfl (fun H locs hI => ?_)
    refine lv_icmp_eq (pc := 785) (tgt := 1492) hx hb dL_law_785 (by decide) (fun c1 => ?_) (fun c1 => ?_)
    rotate_left
    · exact absurd er c1
    refine W.widen (k := C + 1) (n := S + 4096) (by omega) (by omega) ?_
    exact kk _ _ _ ⟨h, g, n_m0, n_m1, n_m2, n_s0, n_s1, n_s2, n_uq, n_wq, tp, ta, ti, x_hasImage, f_places, f_kinds, f_weights, f_howManyGenerators, f_generators, f_racks, f_howManySeen, f_seenFirst, f_seenSecond, f_seenIs, f_seenPlaces, f_howManyEvents, f_eventWhat, f_eventNumber, g_places, g_kinds, g_weights, g_howManyGenerators, g_generators, g_racks, g_howManySeen, g_seenFirst, g_seenSecond, g_seenIs, g_seenPlaces, g_howManyEvents, g_eventWhat, g_eventNumber, v_keys, v_asFound, v_found, v_turns, v_places, p_keys, p_asFound, p_found, p_turns, p_places, i_sort, i_howOften, i_sorts, i_moves, n_u, u_leasts, u_howMany, u_known, n_w, w_leasts, w_howMany, w_known, t_signs, t_length, t_whole, t_begins, t_ends, r_sorts, r_numbers, r_length, sr, ln, it, z_thrown, z_s, z_kept, z_isKept, rm.2.1, rm.2.2.1, rm.2.2.2.1, z_troubles, z_troubleSorts, z_troubleNumbers, z_asked, rm.2.2.2.2.1, rm.2.2.2.2.2.1, rm.2.2.2.2.2.2.1, rm.2.2.2.2.2.2.2, z_types, z_typeCounts, z_typeMany, z_text, z_signs, z_at, z_lacks, z_clauses, z_begun, z_letters, z_firsts, z_seconds, z_aside, z_sorts, z_sizes, z_items, htp, hR, hI, hl⟩
set_option maxHeartbeats 8000000 in
set_option maxRecDepth 100000 in
theorem law_18 {rr : RT} (op_same : OP_same rr) {p : Program} {l : Launch} {e : Env} {s : State} {m : MethodId} {below : List Frame} {meth : Method} {c : Code} {b L : Nat} {xs : Nat → Int32} {A : Nat → Prop} {G : GX} {Q : State → Prop} (X : CX RL code 4 ret p s m #[Value.ref b] meth c) (E : EX G A s) (hX : va_X b L xs s s.heap) (hbl : b < s.heap.size) (hbA : ¬ A b) {i C S : Nat} (hi : i + 6 ≤ L) (hL : L ≤ 3072) (hC : C + 1 ≤ 600000) (hS : S + 4096 ≤ 7302249) {H : Heap} {locs : List Loc} {ls : Array Slot} (hLI : LI rr G A s b i H locs ls)
    (kk : ∀ (H : Heap) (locs : List Loc) (ls : Array Slot), LI rr G A s b i H locs ls → W p l e room_1 s m #[Value.ref b] below meth c H locs (C + 1) (S + 4096) Q (F0 m 1492 ls [])) : W p l e room_1 s m #[Value.ref b] below meth c H locs C S Q (F0 m 790 ls []) := by
  obtain ⟨hx, hb, hml, hown, hts, hr, hlk⟩ := id X
  obtain ⟨h, g, n_m0, n_m1, n_m2, n_s0, n_s1, n_s2, n_uq, n_wq, tp, ta, ti, x_hasImage, f_places, f_kinds, f_weights, f_howManyGenerators, f_generators, f_racks, f_howManySeen, f_seenFirst, f_seenSecond, f_seenIs, f_seenPlaces, f_howManyEvents, f_eventWhat, f_eventNumber, g_places, g_kinds, g_weights, g_howManyGenerators, g_generators, g_racks, g_howManySeen, g_seenFirst, g_seenSecond, g_seenIs, g_seenPlaces, g_howManyEvents, g_eventWhat, g_eventNumber, v_keys, v_asFound, v_found, v_turns, v_places, p_keys, p_asFound, p_found, p_turns, p_places, i_sort, i_howOften, i_sorts, i_moves, n_u, u_leasts, u_howMany, u_known, n_w, w_leasts, w_howMany, w_known, t_signs, t_length, t_whole, t_begins, t_ends, r_sorts, r_numbers, r_length, sr, ln, it, z_thrown, z_s, z_kept, z_isKept, z_moveMany, z_moves, z_hands, z_troubles, z_troubleSorts, z_troubleNumbers, z_asked, z_paint, z_leasts, z_isSeen, z_classMany, z_types, z_typeCounts, z_typeMany, z_text, z_signs, z_at, z_lacks, z_clauses, z_begun, z_letters, z_firsts, z_seconds, z_aside, z_sorts, z_sizes, z_items, htp, hR, hI, hl⟩ := hLI
  have hv1 := q_v1 hi hL
  have hv2 := q_v2 hi hL
  have hv3 := q_v3 hi hL
  have hv4 := q_v4 hi hL
  have hv5 := q_v5 hi hL
  refine lv_aload_n (pc := 790) hx hb dL_law_790 rfl (lv_at hl 1 rfl) ?_
  refine lv_aload_n (pc := 791) hx hb dL_law_791 rfl (lv_at hl 0 rfl) ?_
  refine lv_iload_n (pc := 792) hx hb dL_law_792 rfl (lv_at hl 3 rfl) ?_
  refine lv_iconst (pc := 793) (v := 1) hx hb dL_law_793 (by decide) ?_
  refine lv_iadd (pc := 794) hx hb dL_law_794 ?_
  refine va_sld (pc := 795) hx hb hX hbl hbA hI.2.2 hv1 dL_law_795 ?_
  refine lv_aload_n (pc := 796) hx hb dL_law_796 rfl (lv_at hl 0 rfl) ?_
  refine lv_iload_n (pc := 797) hx hb dL_law_797 rfl (lv_at hl 3 rfl) ?_
  refine lv_iconst (pc := 798) (v := 2) hx hb dL_law_798 (by decide) ?_
  refine lv_iadd (pc := 799) hx hb dL_law_799 ?_
  refine va_sld (pc := 800) hx hb hX hbl hbA hI.2.2 hv2 dL_law_800 ?_
  refine lv_aload_n (pc := 801) hx hb dL_law_801 rfl (lv_at hl 0 rfl) ?_
  refine lv_iload_n (pc := 802) hx hb dL_law_802 rfl (lv_at hl 3 rfl) ?_
  refine lv_iconst (pc := 803) (v := 3) hx hb dL_law_803 (by decide) ?_
  refine lv_iadd (pc := 804) hx hb dL_law_804 ?_
  refine va_sld (pc := 805) hx hb hX hbl hbA hI.2.2 hv3 dL_law_805 ?_
  obtain ⟨rm, em, rx, ex, er, hR⟩ := op_same hR (xs (nI i + 1).toNatClampNeg) (xs (nI i + 2).toNatClampNeg) (xs (nI i + 3).toNatClampNeg)
  refine x_cVs (pc := 806) (st1 := [.int rx]) (w1 := ((xb G h x_hasImage f_places f_kinds f_weights f_howManyGenerators f_generators f_racks f_howManySeen f_seenFirst f_seenSecond f_seenIs f_seenPlaces f_howManyEvents f_eventWhat f_eventNumber g_places g_kinds g_weights g_howManyGenerators g_generators g_racks g_howManySeen g_seenFirst g_seenSecond g_seenIs g_seenPlaces g_howManyEvents g_eventWhat g_eventNumber n_m0 n_m1 n_m2 n_s0 n_s1 n_s2 v_keys v_asFound v_found v_turns v_places p_keys p_asFound p_found p_turns p_places i_sort i_howOften i_sorts i_moves n_uq n_u u_leasts u_howMany u_known n_wq n_w w_leasts w_howMany w_known t_signs t_length t_whole t_begins t_ends r_sorts r_numbers r_length) ++ ((tl G h tp ta ti sr ln it) ++ (mw G g z_thrown z_s z_kept z_isKept z_moveMany z_moves z_hands z_troubles z_troubleSorts z_troubleNumbers z_asked z_paint z_leasts z_isSeen z_classMany z_types z_typeCounts z_typeMany z_text z_signs z_at z_lacks z_clauses z_begun z_letters z_firsts z_seconds z_aside z_sorts z_sizes z_items)))) X E hI (c_X9_same l G h ex) kv_L_91 hd_X9_same ⟨rfl, rfl⟩ (by decide) 0 rfl rfl rfl rfl hl.1 rfl (Nat.le_of_ble_eq_true rfl) dL_law_806 ⟨by show C + 0 ≤ 600000; omega, by show S + 0 ≤ 7302249; omega⟩ rfl (fun H locs hI => ?_)
  refine lv_aload_n (pc := 809) hx hb dL_law_809 rfl (lv_at hl 2 rfl) ?_
  refine lv_aload_n (pc := 810) hx hb dL_law_810 rfl (lv_at hl 0 rfl) ?_
  refine lv_iload_n (pc := 811) hx hb dL_law_811 rfl (lv_at hl 3 rfl) ?_
  refine lv_iconst (pc := 812) (v := 1) hx hb dL_law_812 (by decide) ?_
  refine lv_iadd (pc := 813) hx hb dL_law_813 ?_
  refine va_sld (pc := 814) hx hb hX hbl hbA hI.2.2 hv1 dL_law_814 ?_
  refine lv_aload_n (pc := 815) hx hb dL_law_815 rfl (lv_at hl 0 rfl) ?_
  refine lv_iload_n (pc := 816) hx hb dL_law_816 rfl (lv_at hl 3 rfl) ?_
  refine lv_iconst (pc := 817) (v := 2) hx hb dL_law_817 (by decide) ?_
  refine lv_iadd (pc := 818) hx hb dL_law_818 ?_
  refine va_sld (pc := 819) hx hb hX hbl hbA hI.2.2 hv2 dL_law_819 ?_
  refine lv_aload_n (pc := 820) hx hb dL_law_820 rfl (lv_at hl 0 rfl) ?_
  refine lv_iload_n (pc := 821) hx hb dL_law_821 rfl (lv_at hl 3 rfl) ?_
  refine lv_iconst (pc := 822) (v := 3) hx hb dL_law_822 (by decide) ?_
  refine lv_iadd (pc := 823) hx hb dL_law_823 ?_
  refine va_sld (pc := 824) hx hb hX hbl hbA hI.2.2 hv3 dL_law_824 ?_
  refine x_cVR (pc := 825) (st1 := [.int rm.1, .int rx]) (w1 := (mw G g z_thrown z_s z_kept z_isKept rm.2.1 rm.2.2.1 rm.2.2.2.1 z_troubles z_troubleSorts z_troubleNumbers z_asked rm.2.2.2.2 z_leasts z_isSeen z_classMany z_types z_typeCounts z_typeMany z_text z_signs z_at z_lacks z_clauses z_begun z_letters z_firsts z_seconds z_aside z_sorts z_sizes z_items)) X E hI (c_X10_same l G g em) kv_L_94 hd_X10_same ⟨rfl, rfl⟩ (by decide) 0 rfl rfl rfl rfl hl.1 rfl (Nat.le_of_ble_eq_true rfl) dL_law_825 ⟨by show C + 0 + 0 ≤ 600000; omega, by show S + 0 + 0 ≤ 7302249; omega⟩ rfl (fun H locs hI => ?_)
  refine lv_icmp_eq (pc := 828) (tgt := 1492) hx hb dL_law_828 (by decide) (fun c1 => ?_) (fun c1 => ?_)
  rotate_left
  · exact absurd er c1
  refine W.widen (k := C + 1) (n := S + 4096) (by omega) (by omega) ?_
  exact kk _ _ _ ⟨h, g, n_m0, n_m1, n_m2, n_s0, n_s1, n_s2, n_uq, n_wq, tp, ta, ti, x_hasImage, f_places, f_kinds, f_weights, f_howManyGenerators, f_generators, f_racks, f_howManySeen, f_seenFirst, f_seenSecond, f_seenIs, f_seenPlaces, f_howManyEvents, f_eventWhat, f_eventNumber, g_places, g_kinds, g_weights, g_howManyGenerators, g_generators, g_racks, g_howManySeen, g_seenFirst, g_seenSecond, g_seenIs, g_seenPlaces, g_howManyEvents, g_eventWhat, g_eventNumber, v_keys, v_asFound, v_found, v_turns, v_places, p_keys, p_asFound, p_found, p_turns, p_places, i_sort, i_howOften, i_sorts, i_moves, n_u, u_leasts, u_howMany, u_known, n_w, w_leasts, w_howMany, w_known, t_signs, t_length, t_whole, t_begins, t_ends, r_sorts, r_numbers, r_length, sr, ln, it, z_thrown, z_s, z_kept, z_isKept, rm.2.1, rm.2.2.1, rm.2.2.2.1, z_troubles, z_troubleSorts, z_troubleNumbers, z_asked, rm.2.2.2.2, z_leasts, z_isSeen, z_classMany, z_types, z_typeCounts, z_typeMany, z_text, z_signs, z_at, z_lacks, z_clauses, z_begun, z_letters, z_firsts, z_seconds, z_aside, z_sorts, z_sizes, z_items, htp, hR, hI, hl⟩
set_option maxHeartbeats 8000000 in
set_option maxRecDepth 100000 in
theorem law_19 {rr : RT} (op_handed : OP_handed rr) {p : Program} {l : Launch} {e : Env} {s : State} {m : MethodId} {below : List Frame} {meth : Method} {c : Code} {b L : Nat} {xs : Nat → Int32} {A : Nat → Prop} {G : GX} {Q : State → Prop} (X : CX RL code 4 ret p s m #[Value.ref b] meth c) (E : EX G A s) (hX : va_X b L xs s s.heap) (hbl : b < s.heap.size) (hbA : ¬ A b) {i C S : Nat} (hi : i + 6 ≤ L) (hL : L ≤ 3072) (hC : C + 1 ≤ 600000) (hS : S + 4096 ≤ 7302249) {H : Heap} {locs : List Loc} {ls : Array Slot} (hLI : LI rr G A s b i H locs ls)
    (kk : ∀ (H : Heap) (locs : List Loc) (ls : Array Slot), LI rr G A s b i H locs ls → W p l e room_1 s m #[Value.ref b] below meth c H locs (C + 1) (S + 4096) Q (F0 m 1492 ls [])) : W p l e room_1 s m #[Value.ref b] below meth c H locs C S Q (F0 m 833 ls []) := by
  obtain ⟨hx, hb, hml, hown, hts, hr, hlk⟩ := id X
  obtain ⟨h, g, n_m0, n_m1, n_m2, n_s0, n_s1, n_s2, n_uq, n_wq, tp, ta, ti, x_hasImage, f_places, f_kinds, f_weights, f_howManyGenerators, f_generators, f_racks, f_howManySeen, f_seenFirst, f_seenSecond, f_seenIs, f_seenPlaces, f_howManyEvents, f_eventWhat, f_eventNumber, g_places, g_kinds, g_weights, g_howManyGenerators, g_generators, g_racks, g_howManySeen, g_seenFirst, g_seenSecond, g_seenIs, g_seenPlaces, g_howManyEvents, g_eventWhat, g_eventNumber, v_keys, v_asFound, v_found, v_turns, v_places, p_keys, p_asFound, p_found, p_turns, p_places, i_sort, i_howOften, i_sorts, i_moves, n_u, u_leasts, u_howMany, u_known, n_w, w_leasts, w_howMany, w_known, t_signs, t_length, t_whole, t_begins, t_ends, r_sorts, r_numbers, r_length, sr, ln, it, z_thrown, z_s, z_kept, z_isKept, z_moveMany, z_moves, z_hands, z_troubles, z_troubleSorts, z_troubleNumbers, z_asked, z_paint, z_leasts, z_isSeen, z_classMany, z_types, z_typeCounts, z_typeMany, z_text, z_signs, z_at, z_lacks, z_clauses, z_begun, z_letters, z_firsts, z_seconds, z_aside, z_sorts, z_sizes, z_items, htp, hR, hI, hl⟩ := hLI
  have hv1 := q_v1 hi hL
  have hv2 := q_v2 hi hL
  have hv3 := q_v3 hi hL
  have hv4 := q_v4 hi hL
  have hv5 := q_v5 hi hL
  refine lv_aload_n (pc := 833) hx hb dL_law_833 rfl (lv_at hl 1 rfl) ?_
  refine lv_aload_n (pc := 834) hx hb dL_law_834 rfl (lv_at hl 0 rfl) ?_
  refine lv_iload_n (pc := 835) hx hb dL_law_835 rfl (lv_at hl 3 rfl) ?_
  refine lv_iconst (pc := 836) (v := 1) hx hb dL_law_836 (by decide) ?_
  refine lv_iadd (pc := 837) hx hb dL_law_837 ?_
  refine va_sld (pc := 838) hx hb hX hbl hbA hI.2.2 hv1 dL_law_838 ?_
  refine lv_aload_n (pc := 839) hx hb dL_law_839 rfl (lv_at hl 0 rfl) ?_
  refine lv_iload_n (pc := 840) hx hb dL_law_840 rfl (lv_at hl 3 rfl) ?_
  refine lv_iconst (pc := 841) (v := 2) hx hb dL_law_841 (by decide) ?_
  refine lv_iadd (pc := 842) hx hb dL_law_842 ?_
  refine va_sld (pc := 843) hx hb hX hbl hbA hI.2.2 hv2 dL_law_843 ?_
  obtain ⟨rm, em, rx, ex, er, hR⟩ := op_handed hR (xs (nI i + 1).toNatClampNeg) (xs (nI i + 2).toNatClampNeg)
  refine x_cVs (pc := 844) (st1 := [.int rx]) (w1 := ((xb G h x_hasImage f_places f_kinds f_weights f_howManyGenerators f_generators f_racks f_howManySeen f_seenFirst f_seenSecond f_seenIs f_seenPlaces f_howManyEvents f_eventWhat f_eventNumber g_places g_kinds g_weights g_howManyGenerators g_generators g_racks g_howManySeen g_seenFirst g_seenSecond g_seenIs g_seenPlaces g_howManyEvents g_eventWhat g_eventNumber n_m0 n_m1 n_m2 n_s0 n_s1 n_s2 v_keys v_asFound v_found v_turns v_places p_keys p_asFound p_found p_turns p_places i_sort i_howOften i_sorts i_moves n_uq n_u u_leasts u_howMany u_known n_wq n_w w_leasts w_howMany w_known t_signs t_length t_whole t_begins t_ends r_sorts r_numbers r_length) ++ ((tl G h tp ta ti sr ln it) ++ (mw G g z_thrown z_s z_kept z_isKept z_moveMany z_moves z_hands z_troubles z_troubleSorts z_troubleNumbers z_asked z_paint z_leasts z_isSeen z_classMany z_types z_typeCounts z_typeMany z_text z_signs z_at z_lacks z_clauses z_begun z_letters z_firsts z_seconds z_aside z_sorts z_sizes z_items)))) X E hI (c_X9_handed l G h ex) kv_L_95 hd_X9_handed ⟨rfl, rfl⟩ (by decide) 0 rfl rfl rfl rfl hl.1 rfl (Nat.le_of_ble_eq_true rfl) dL_law_844 ⟨by show C + 0 ≤ 600000; omega, by show S + 0 ≤ 7302249; omega⟩ rfl (fun H locs hI => ?_)
  refine lv_aload_n (pc := 847) hx hb dL_law_847 rfl (lv_at hl 2 rfl) ?_
  refine lv_aload_n (pc := 848) hx hb dL_law_848 rfl (lv_at hl 0 rfl) ?_
  refine lv_iload_n (pc := 849) hx hb dL_law_849 rfl (lv_at hl 3 rfl) ?_
  refine lv_iconst (pc := 850) (v := 1) hx hb dL_law_850 (by decide) ?_
  refine lv_iadd (pc := 851) hx hb dL_law_851 ?_
  refine va_sld (pc := 852) hx hb hX hbl hbA hI.2.2 hv1 dL_law_852 ?_
  refine lv_aload_n (pc := 853) hx hb dL_law_853 rfl (lv_at hl 0 rfl) ?_
  refine lv_iload_n (pc := 854) hx hb dL_law_854 rfl (lv_at hl 3 rfl) ?_
  refine lv_iconst (pc := 855) (v := 2) hx hb dL_law_855 (by decide) ?_
  refine lv_iadd (pc := 856) hx hb dL_law_856 ?_
  refine va_sld (pc := 857) hx hb hX hbl hbA hI.2.2 hv2 dL_law_857 ?_
  refine x_cVR (pc := 858) (st1 := [.int rm.1, .int rx]) (w1 := (mw G g z_thrown z_s z_kept z_isKept rm.2.1 rm.2.2.1 rm.2.2.2.1 z_troubles z_troubleSorts z_troubleNumbers z_asked rm.2.2.2.2 z_leasts z_isSeen z_classMany z_types z_typeCounts z_typeMany z_text z_signs z_at z_lacks z_clauses z_begun z_letters z_firsts z_seconds z_aside z_sorts z_sizes z_items)) X E hI (c_X10_handed l G g em) kv_L_98 hd_X10_handed ⟨rfl, rfl⟩ (by decide) 0 rfl rfl rfl rfl hl.1 rfl (Nat.le_of_ble_eq_true rfl) dL_law_858 ⟨by show C + 0 + 0 ≤ 600000; omega, by show S + 0 + 0 ≤ 7302249; omega⟩ rfl (fun H locs hI => ?_)
  refine lv_icmp_eq (pc := 861) (tgt := 1492) hx hb dL_law_861 (by decide) (fun c1 => ?_) (fun c1 => ?_)
  rotate_left
  · exact absurd er c1
  refine W.widen (k := C + 1) (n := S + 4096) (by omega) (by omega) ?_
  exact kk _ _ _ ⟨h, g, n_m0, n_m1, n_m2, n_s0, n_s1, n_s2, n_uq, n_wq, tp, ta, ti, x_hasImage, f_places, f_kinds, f_weights, f_howManyGenerators, f_generators, f_racks, f_howManySeen, f_seenFirst, f_seenSecond, f_seenIs, f_seenPlaces, f_howManyEvents, f_eventWhat, f_eventNumber, g_places, g_kinds, g_weights, g_howManyGenerators, g_generators, g_racks, g_howManySeen, g_seenFirst, g_seenSecond, g_seenIs, g_seenPlaces, g_howManyEvents, g_eventWhat, g_eventNumber, v_keys, v_asFound, v_found, v_turns, v_places, p_keys, p_asFound, p_found, p_turns, p_places, i_sort, i_howOften, i_sorts, i_moves, n_u, u_leasts, u_howMany, u_known, n_w, w_leasts, w_howMany, w_known, t_signs, t_length, t_whole, t_begins, t_ends, r_sorts, r_numbers, r_length, sr, ln, it, z_thrown, z_s, z_kept, z_isKept, rm.2.1, rm.2.2.1, rm.2.2.2.1, z_troubles, z_troubleSorts, z_troubleNumbers, z_asked, rm.2.2.2.2, z_leasts, z_isSeen, z_classMany, z_types, z_typeCounts, z_typeMany, z_text, z_signs, z_at, z_lacks, z_clauses, z_begun, z_letters, z_firsts, z_seconds, z_aside, z_sorts, z_sizes, z_items, htp, hR, hI, hl⟩
set_option maxHeartbeats 8000000 in
set_option maxRecDepth 100000 in
theorem law_20 {rr : RT} (op_even : OP_even rr) {p : Program} {l : Launch} {e : Env} {s : State} {m : MethodId} {below : List Frame} {meth : Method} {c : Code} {b L : Nat} {xs : Nat → Int32} {A : Nat → Prop} {G : GX} {Q : State → Prop} (X : CX RL code 4 ret p s m #[Value.ref b] meth c) (E : EX G A s) (hX : va_X b L xs s s.heap) (hbl : b < s.heap.size) (hbA : ¬ A b) {i C S : Nat} (hi : i + 6 ≤ L) (hL : L ≤ 3072) (hC : C + 1 ≤ 600000) (hS : S + 4096 ≤ 7302249) {H : Heap} {locs : List Loc} {ls : Array Slot} (hLI : LI rr G A s b i H locs ls)
    (kk : ∀ (H : Heap) (locs : List Loc) (ls : Array Slot), LI rr G A s b i H locs ls → W p l e room_1 s m #[Value.ref b] below meth c H locs (C + 1) (S + 4096) Q (F0 m 1492 ls [])) : W p l e room_1 s m #[Value.ref b] below meth c H locs C S Q (F0 m 866 ls []) := by
  obtain ⟨hx, hb, hml, hown, hts, hr, hlk⟩ := id X
  obtain ⟨h, g, n_m0, n_m1, n_m2, n_s0, n_s1, n_s2, n_uq, n_wq, tp, ta, ti, x_hasImage, f_places, f_kinds, f_weights, f_howManyGenerators, f_generators, f_racks, f_howManySeen, f_seenFirst, f_seenSecond, f_seenIs, f_seenPlaces, f_howManyEvents, f_eventWhat, f_eventNumber, g_places, g_kinds, g_weights, g_howManyGenerators, g_generators, g_racks, g_howManySeen, g_seenFirst, g_seenSecond, g_seenIs, g_seenPlaces, g_howManyEvents, g_eventWhat, g_eventNumber, v_keys, v_asFound, v_found, v_turns, v_places, p_keys, p_asFound, p_found, p_turns, p_places, i_sort, i_howOften, i_sorts, i_moves, n_u, u_leasts, u_howMany, u_known, n_w, w_leasts, w_howMany, w_known, t_signs, t_length, t_whole, t_begins, t_ends, r_sorts, r_numbers, r_length, sr, ln, it, z_thrown, z_s, z_kept, z_isKept, z_moveMany, z_moves, z_hands, z_troubles, z_troubleSorts, z_troubleNumbers, z_asked, z_paint, z_leasts, z_isSeen, z_classMany, z_types, z_typeCounts, z_typeMany, z_text, z_signs, z_at, z_lacks, z_clauses, z_begun, z_letters, z_firsts, z_seconds, z_aside, z_sorts, z_sizes, z_items, htp, hR, hI, hl⟩ := hLI
  have hv1 := q_v1 hi hL
  have hv2 := q_v2 hi hL
  have hv3 := q_v3 hi hL
  have hv4 := q_v4 hi hL
  have hv5 := q_v5 hi hL
  refine lv_aload_n (pc := 866) hx hb dL_law_866 rfl (lv_at hl 1 rfl) ?_
  refine lv_aload_n (pc := 867) hx hb dL_law_867 rfl (lv_at hl 0 rfl) ?_
  refine lv_iload_n (pc := 868) hx hb dL_law_868 rfl (lv_at hl 3 rfl) ?_
  refine lv_iconst (pc := 869) (v := 1) hx hb dL_law_869 (by decide) ?_
  refine lv_iadd (pc := 870) hx hb dL_law_870 ?_
  refine va_sld (pc := 871) hx hb hX hbl hbA hI.2.2 hv1 dL_law_871 ?_
  obtain ⟨rm, em, rx, ex, er, hR⟩ := op_even hR (xs (nI i + 1).toNatClampNeg)
  refine x_cVs (pc := 872) (st1 := [.int rx.1]) (w1 := ((xb G h x_hasImage f_places f_kinds f_weights f_howManyGenerators f_generators f_racks f_howManySeen f_seenFirst f_seenSecond f_seenIs f_seenPlaces f_howManyEvents f_eventWhat f_eventNumber g_places g_kinds g_weights g_howManyGenerators g_generators g_racks g_howManySeen g_seenFirst g_seenSecond g_seenIs g_seenPlaces g_howManyEvents g_eventWhat g_eventNumber n_m0 n_m1 n_m2 n_s0 n_s1 n_s2 v_keys v_asFound v_found v_turns v_places p_keys p_asFound p_found p_turns p_places rx.2.1 rx.2.2.1 rx.2.2.2.1 rx.2.2.2.2 n_uq n_u u_leasts u_howMany u_known n_wq n_w w_leasts w_howMany w_known t_signs t_length t_whole t_begins t_ends r_sorts r_numbers r_length) ++ ((tl G h tp ta ti sr ln it) ++ (mw G g z_thrown z_s z_kept z_isKept z_moveMany z_moves z_hands z_troubles z_troubleSorts z_troubleNumbers z_asked z_paint z_leasts z_isSeen z_classMany z_types z_typeCounts z_typeMany z_text z_signs z_at z_lacks z_clauses z_begun z_letters z_firsts z_seconds z_aside z_sorts z_sizes z_items)))) X E hI (c_X9_even l G h ex) kv_L_99 hd_X9_even ⟨rfl, rfl⟩ (by decide) 0 rfl rfl rfl rfl hl.1 rfl (Nat.le_of_ble_eq_true rfl) dL_law_872 ⟨by show C + 0 ≤ 600000; omega, by show S + 0 ≤ 7302249; omega⟩ rfl (fun H locs hI => ?_)
  refine lv_aload_n (pc := 875) hx hb dL_law_875 rfl (lv_at hl 2 rfl) ?_
  refine lv_aload_n (pc := 876) hx hb dL_law_876 rfl (lv_at hl 0 rfl) ?_
  refine lv_iload_n (pc := 877) hx hb dL_law_877 rfl (lv_at hl 3 rfl) ?_
  refine lv_iconst (pc := 878) (v := 1) hx hb dL_law_878 (by decide) ?_
  refine lv_iadd (pc := 879) hx hb dL_law_879 ?_
  refine va_sld (pc := 880) hx hb hX hbl hbA hI.2.2 hv1 dL_law_880 ?_
  refine x_cVR (pc := 881) (st1 := [.int rm.1, .int rx.1]) (w1 := (mw G g z_thrown z_s z_kept z_isKept rm.2.1 rm.2.2.1 rm.2.2.2.1 z_troubles z_troubleSorts z_troubleNumbers z_asked rm.2.2.2.2.1 rm.2.2.2.2.2.1 rm.2.2.2.2.2.2.1 rm.2.2.2.2.2.2.2 z_types z_typeCounts z_typeMany z_text z_signs z_at z_lacks z_clauses z_begun z_letters z_firsts z_seconds z_aside z_sorts z_sizes z_items)) X E hI (c_X10_even l G g em) kv_L_102 hd_X10_even ⟨rfl, rfl⟩ (by decide) 0 rfl rfl rfl rfl hl.1 rfl (Nat.le_of_ble_eq_true rfl) dL_law_881 ⟨by show C + 0 + 0 ≤ 600000; omega, by show S + 0 + 0 ≤ 7302249; omega⟩ rfl (fun H locs hI => ?_)
  refine lv_icmp_eq (pc := 884) (tgt := 1492) hx hb dL_law_884 (by decide) (fun c1 => ?_) (fun c1 => ?_)
  rotate_left
  · exact absurd er c1
  refine W.widen (k := C + 1) (n := S + 4096) (by omega) (by omega) ?_
  exact kk _ _ _ ⟨h, g, n_m0, n_m1, n_m2, n_s0, n_s1, n_s2, n_uq, n_wq, tp, ta, ti, x_hasImage, f_places, f_kinds, f_weights, f_howManyGenerators, f_generators, f_racks, f_howManySeen, f_seenFirst, f_seenSecond, f_seenIs, f_seenPlaces, f_howManyEvents, f_eventWhat, f_eventNumber, g_places, g_kinds, g_weights, g_howManyGenerators, g_generators, g_racks, g_howManySeen, g_seenFirst, g_seenSecond, g_seenIs, g_seenPlaces, g_howManyEvents, g_eventWhat, g_eventNumber, v_keys, v_asFound, v_found, v_turns, v_places, p_keys, p_asFound, p_found, p_turns, p_places, rx.2.1, rx.2.2.1, rx.2.2.2.1, rx.2.2.2.2, n_u, u_leasts, u_howMany, u_known, n_w, w_leasts, w_howMany, w_known, t_signs, t_length, t_whole, t_begins, t_ends, r_sorts, r_numbers, r_length, sr, ln, it, z_thrown, z_s, z_kept, z_isKept, rm.2.1, rm.2.2.1, rm.2.2.2.1, z_troubles, z_troubleSorts, z_troubleNumbers, z_asked, rm.2.2.2.2.1, rm.2.2.2.2.2.1, rm.2.2.2.2.2.2.1, rm.2.2.2.2.2.2.2, z_types, z_typeCounts, z_typeMany, z_text, z_signs, z_at, z_lacks, z_clauses, z_begun, z_letters, z_firsts, z_seconds, z_aside, z_sorts, z_sizes, z_items, htp, hR, hI, hl⟩
set_option maxHeartbeats 8000000 in
set_option maxRecDepth 100000 in
theorem law_21 {rr : RT} (op_likely : OP_likely rr) {p : Program} {l : Launch} {e : Env} {s : State} {m : MethodId} {below : List Frame} {meth : Method} {c : Code} {b L : Nat} {xs : Nat → Int32} {A : Nat → Prop} {G : GX} {Q : State → Prop} (X : CX RL code 4 ret p s m #[Value.ref b] meth c) (E : EX G A s) (hX : va_X b L xs s s.heap) (hbl : b < s.heap.size) (hbA : ¬ A b) {i C S : Nat} (hi : i + 6 ≤ L) (hL : L ≤ 3072) (hC : C + 1 ≤ 600000) (hS : S + 4096 ≤ 7302249) {H : Heap} {locs : List Loc} {ls : Array Slot} (hLI : LI rr G A s b i H locs ls)
    (kk : ∀ (H : Heap) (locs : List Loc) (ls : Array Slot), LI rr G A s b i H locs ls → W p l e room_1 s m #[Value.ref b] below meth c H locs (C + 1) (S + 4096) Q (F0 m 1492 ls [])) : W p l e room_1 s m #[Value.ref b] below meth c H locs C S Q (F0 m 889 ls []) := by
  obtain ⟨hx, hb, hml, hown, hts, hr, hlk⟩ := id X
  obtain ⟨h, g, n_m0, n_m1, n_m2, n_s0, n_s1, n_s2, n_uq, n_wq, tp, ta, ti, x_hasImage, f_places, f_kinds, f_weights, f_howManyGenerators, f_generators, f_racks, f_howManySeen, f_seenFirst, f_seenSecond, f_seenIs, f_seenPlaces, f_howManyEvents, f_eventWhat, f_eventNumber, g_places, g_kinds, g_weights, g_howManyGenerators, g_generators, g_racks, g_howManySeen, g_seenFirst, g_seenSecond, g_seenIs, g_seenPlaces, g_howManyEvents, g_eventWhat, g_eventNumber, v_keys, v_asFound, v_found, v_turns, v_places, p_keys, p_asFound, p_found, p_turns, p_places, i_sort, i_howOften, i_sorts, i_moves, n_u, u_leasts, u_howMany, u_known, n_w, w_leasts, w_howMany, w_known, t_signs, t_length, t_whole, t_begins, t_ends, r_sorts, r_numbers, r_length, sr, ln, it, z_thrown, z_s, z_kept, z_isKept, z_moveMany, z_moves, z_hands, z_troubles, z_troubleSorts, z_troubleNumbers, z_asked, z_paint, z_leasts, z_isSeen, z_classMany, z_types, z_typeCounts, z_typeMany, z_text, z_signs, z_at, z_lacks, z_clauses, z_begun, z_letters, z_firsts, z_seconds, z_aside, z_sorts, z_sizes, z_items, htp, hR, hI, hl⟩ := hLI
  have hv1 := q_v1 hi hL
  have hv2 := q_v2 hi hL
  have hv3 := q_v3 hi hL
  have hv4 := q_v4 hi hL
  have hv5 := q_v5 hi hL
  refine lv_aload_n (pc := 889) hx hb dL_law_889 rfl (lv_at hl 1 rfl) ?_
  refine lv_aload_n (pc := 890) hx hb dL_law_890 rfl (lv_at hl 0 rfl) ?_
  refine lv_iload_n (pc := 891) hx hb dL_law_891 rfl (lv_at hl 3 rfl) ?_
  refine lv_iconst (pc := 892) (v := 1) hx hb dL_law_892 (by decide) ?_
  refine lv_iadd (pc := 893) hx hb dL_law_893 ?_
  refine va_sld (pc := 894) hx hb hX hbl hbA hI.2.2 hv1 dL_law_894 ?_
  refine lv_aload_n (pc := 895) hx hb dL_law_895 rfl (lv_at hl 0 rfl) ?_
  refine lv_iload_n (pc := 896) hx hb dL_law_896 rfl (lv_at hl 3 rfl) ?_
  refine lv_iconst (pc := 897) (v := 2) hx hb dL_law_897 (by decide) ?_
  refine lv_iadd (pc := 898) hx hb dL_law_898 ?_
  refine va_sld (pc := 899) hx hb hX hbl hbA hI.2.2 hv2 dL_law_899 ?_
  obtain ⟨rm, em, rx, ex, er, hR⟩ := op_likely hR (xs (nI i + 1).toNatClampNeg) (xs (nI i + 2).toNatClampNeg)
  refine x_cVs (pc := 900) (st1 := [.long rx]) (w1 := ((xb G h x_hasImage f_places f_kinds f_weights f_howManyGenerators f_generators f_racks f_howManySeen f_seenFirst f_seenSecond f_seenIs f_seenPlaces f_howManyEvents f_eventWhat f_eventNumber g_places g_kinds g_weights g_howManyGenerators g_generators g_racks g_howManySeen g_seenFirst g_seenSecond g_seenIs g_seenPlaces g_howManyEvents g_eventWhat g_eventNumber n_m0 n_m1 n_m2 n_s0 n_s1 n_s2 v_keys v_asFound v_found v_turns v_places p_keys p_asFound p_found p_turns p_places i_sort i_howOften i_sorts i_moves n_uq n_u u_leasts u_howMany u_known n_wq n_w w_leasts w_howMany w_known t_signs t_length t_whole t_begins t_ends r_sorts r_numbers r_length) ++ ((tl G h tp ta ti sr ln it) ++ (mw G g z_thrown z_s z_kept z_isKept z_moveMany z_moves z_hands z_troubles z_troubleSorts z_troubleNumbers z_asked z_paint z_leasts z_isSeen z_classMany z_types z_typeCounts z_typeMany z_text z_signs z_at z_lacks z_clauses z_begun z_letters z_firsts z_seconds z_aside z_sorts z_sizes z_items)))) X E hI (c_X9_likely l G h ex) kv_L_103 hd_X9_likely ⟨rfl, rfl⟩ (by decide) 0 rfl rfl rfl rfl hl.1 rfl (Nat.le_of_ble_eq_true rfl) dL_law_900 ⟨by show C + 0 ≤ 600000; omega, by show S + 0 ≤ 7302249; omega⟩ rfl (fun H locs hI => ?_)
  refine lv_aload_n (pc := 903) hx hb dL_law_903 rfl (lv_at hl 2 rfl) ?_
  refine lv_aload_n (pc := 904) hx hb dL_law_904 rfl (lv_at hl 0 rfl) ?_
  refine lv_iload_n (pc := 905) hx hb dL_law_905 rfl (lv_at hl 3 rfl) ?_
  refine lv_iconst (pc := 906) (v := 1) hx hb dL_law_906 (by decide) ?_
  refine lv_iadd (pc := 907) hx hb dL_law_907 ?_
  refine va_sld (pc := 908) hx hb hX hbl hbA hI.2.2 hv1 dL_law_908 ?_
  refine lv_aload_n (pc := 909) hx hb dL_law_909 rfl (lv_at hl 0 rfl) ?_
  refine lv_iload_n (pc := 910) hx hb dL_law_910 rfl (lv_at hl 3 rfl) ?_
  refine lv_iconst (pc := 911) (v := 2) hx hb dL_law_911 (by decide) ?_
  refine lv_iadd (pc := 912) hx hb dL_law_912 ?_
  refine va_sld (pc := 913) hx hb hX hbl hbA hI.2.2 hv2 dL_law_913 ?_
  refine x_cVR (pc := 914) (st1 := [.long rm.1, .long rx]) (w1 := (mw G g z_thrown z_s z_kept z_isKept rm.2.1 rm.2.2.1 rm.2.2.2.1 z_troubles z_troubleSorts z_troubleNumbers z_asked rm.2.2.2.2 z_leasts z_isSeen z_classMany z_types z_typeCounts z_typeMany z_text z_signs z_at z_lacks z_clauses z_begun z_letters z_firsts z_seconds z_aside z_sorts z_sizes z_items)) X E hI (c_X10_likely l G g em) kv_L_106 hd_X10_likely ⟨rfl, rfl⟩ (by decide) 0 rfl rfl rfl rfl hl.1 rfl (Nat.le_of_ble_eq_true rfl) dL_law_914 ⟨by show C + 0 + 0 ≤ 600000; omega, by show S + 0 + 0 ≤ 7302249; omega⟩ rfl (fun H locs hI => ?_)
  refine W.lcmp (pc := 917) hx hb dL_law_917 ?_
  refine lv_if_eq (pc := 918) (tgt := 1492) hx hb dL_law_918 (by decide) (fun c1 => ?_) (fun c1 => ?_)
  rotate_left
  · exact absurd (by rw [er]; exact q_lcmp _) c1
  refine W.widen (k := C + 1) (n := S + 4096) (by omega) (by omega) ?_
  exact kk _ _ _ ⟨h, g, n_m0, n_m1, n_m2, n_s0, n_s1, n_s2, n_uq, n_wq, tp, ta, ti, x_hasImage, f_places, f_kinds, f_weights, f_howManyGenerators, f_generators, f_racks, f_howManySeen, f_seenFirst, f_seenSecond, f_seenIs, f_seenPlaces, f_howManyEvents, f_eventWhat, f_eventNumber, g_places, g_kinds, g_weights, g_howManyGenerators, g_generators, g_racks, g_howManySeen, g_seenFirst, g_seenSecond, g_seenIs, g_seenPlaces, g_howManyEvents, g_eventWhat, g_eventNumber, v_keys, v_asFound, v_found, v_turns, v_places, p_keys, p_asFound, p_found, p_turns, p_places, i_sort, i_howOften, i_sorts, i_moves, n_u, u_leasts, u_howMany, u_known, n_w, w_leasts, w_howMany, w_known, t_signs, t_length, t_whole, t_begins, t_ends, r_sorts, r_numbers, r_length, sr, ln, it, z_thrown, z_s, z_kept, z_isKept, rm.2.1, rm.2.2.1, rm.2.2.2.1, z_troubles, z_troubleSorts, z_troubleNumbers, z_asked, rm.2.2.2.2, z_leasts, z_isSeen, z_classMany, z_types, z_typeCounts, z_typeMany, z_text, z_signs, z_at, z_lacks, z_clauses, z_begun, z_letters, z_firsts, z_seconds, z_aside, z_sorts, z_sizes, z_items, htp, hR, hI, hl⟩
set_option maxHeartbeats 8000000 in
set_option maxRecDepth 100000 in
theorem law_22 {rr : RT} (op_mean : OP_mean rr) {p : Program} {l : Launch} {e : Env} {s : State} {m : MethodId} {below : List Frame} {meth : Method} {c : Code} {b L : Nat} {xs : Nat → Int32} {A : Nat → Prop} {G : GX} {Q : State → Prop} (X : CX RL code 4 ret p s m #[Value.ref b] meth c) (E : EX G A s) (hX : va_X b L xs s s.heap) (hbl : b < s.heap.size) (hbA : ¬ A b) {i C S : Nat} (hi : i + 6 ≤ L) (hL : L ≤ 3072) (hC : C + 1 ≤ 600000) (hS : S + 4096 ≤ 7302249) {H : Heap} {locs : List Loc} {ls : Array Slot} (hLI : LI rr G A s b i H locs ls)
    (kk : ∀ (H : Heap) (locs : List Loc) (ls : Array Slot), LI rr G A s b i H locs ls → W p l e room_1 s m #[Value.ref b] below meth c H locs (C + 1) (S + 4096) Q (F0 m 1492 ls [])) : W p l e room_1 s m #[Value.ref b] below meth c H locs C S Q (F0 m 923 ls []) := by
  obtain ⟨hx, hb, hml, hown, hts, hr, hlk⟩ := id X
  obtain ⟨h, g, n_m0, n_m1, n_m2, n_s0, n_s1, n_s2, n_uq, n_wq, tp, ta, ti, x_hasImage, f_places, f_kinds, f_weights, f_howManyGenerators, f_generators, f_racks, f_howManySeen, f_seenFirst, f_seenSecond, f_seenIs, f_seenPlaces, f_howManyEvents, f_eventWhat, f_eventNumber, g_places, g_kinds, g_weights, g_howManyGenerators, g_generators, g_racks, g_howManySeen, g_seenFirst, g_seenSecond, g_seenIs, g_seenPlaces, g_howManyEvents, g_eventWhat, g_eventNumber, v_keys, v_asFound, v_found, v_turns, v_places, p_keys, p_asFound, p_found, p_turns, p_places, i_sort, i_howOften, i_sorts, i_moves, n_u, u_leasts, u_howMany, u_known, n_w, w_leasts, w_howMany, w_known, t_signs, t_length, t_whole, t_begins, t_ends, r_sorts, r_numbers, r_length, sr, ln, it, z_thrown, z_s, z_kept, z_isKept, z_moveMany, z_moves, z_hands, z_troubles, z_troubleSorts, z_troubleNumbers, z_asked, z_paint, z_leasts, z_isSeen, z_classMany, z_types, z_typeCounts, z_typeMany, z_text, z_signs, z_at, z_lacks, z_clauses, z_begun, z_letters, z_firsts, z_seconds, z_aside, z_sorts, z_sizes, z_items, htp, hR, hI, hl⟩ := hLI
  have hv1 := q_v1 hi hL
  have hv2 := q_v2 hi hL
  have hv3 := q_v3 hi hL
  have hv4 := q_v4 hi hL
  have hv5 := q_v5 hi hL
  refine lv_aload_n (pc := 923) hx hb dL_law_923 rfl (lv_at hl 1 rfl) ?_
  refine lv_aload_n (pc := 924) hx hb dL_law_924 rfl (lv_at hl 0 rfl) ?_
  refine lv_iload_n (pc := 925) hx hb dL_law_925 rfl (lv_at hl 3 rfl) ?_
  refine lv_iconst (pc := 926) (v := 1) hx hb dL_law_926 (by decide) ?_
  refine lv_iadd (pc := 927) hx hb dL_law_927 ?_
  refine va_sld (pc := 928) hx hb hX hbl hbA hI.2.2 hv1 dL_law_928 ?_
  refine lv_aload_n (pc := 929) hx hb dL_law_929 rfl (lv_at hl 0 rfl) ?_
  refine lv_iload_n (pc := 930) hx hb dL_law_930 rfl (lv_at hl 3 rfl) ?_
  refine lv_iconst (pc := 931) (v := 2) hx hb dL_law_931 (by decide) ?_
  refine lv_iadd (pc := 932) hx hb dL_law_932 ?_
  refine va_sld (pc := 933) hx hb hX hbl hbA hI.2.2 hv2 dL_law_933 ?_
  obtain ⟨rm, em, rx, ex, er, hR⟩ := op_mean hR (xs (nI i + 1).toNatClampNeg) (xs (nI i + 2).toNatClampNeg)
  refine x_cVs (pc := 934) (st1 := [.int rx]) (w1 := ((xb G h x_hasImage f_places f_kinds f_weights f_howManyGenerators f_generators f_racks f_howManySeen f_seenFirst f_seenSecond f_seenIs f_seenPlaces f_howManyEvents f_eventWhat f_eventNumber g_places g_kinds g_weights g_howManyGenerators g_generators g_racks g_howManySeen g_seenFirst g_seenSecond g_seenIs g_seenPlaces g_howManyEvents g_eventWhat g_eventNumber n_m0 n_m1 n_m2 n_s0 n_s1 n_s2 v_keys v_asFound v_found v_turns v_places p_keys p_asFound p_found p_turns p_places i_sort i_howOften i_sorts i_moves n_uq n_u u_leasts u_howMany u_known n_wq n_w w_leasts w_howMany w_known t_signs t_length t_whole t_begins t_ends r_sorts r_numbers r_length) ++ ((tl G h tp ta ti sr ln it) ++ (mw G g z_thrown z_s z_kept z_isKept z_moveMany z_moves z_hands z_troubles z_troubleSorts z_troubleNumbers z_asked z_paint z_leasts z_isSeen z_classMany z_types z_typeCounts z_typeMany z_text z_signs z_at z_lacks z_clauses z_begun z_letters z_firsts z_seconds z_aside z_sorts z_sizes z_items)))) X E hI (c_X9_mean l G h ex) kv_L_107 hd_X9_mean ⟨rfl, rfl⟩ (by decide) 0 rfl rfl rfl rfl hl.1 rfl (Nat.le_of_ble_eq_true rfl) dL_law_934 ⟨by show C + 0 ≤ 600000; omega, by show S + 0 ≤ 7302249; omega⟩ rfl (fun H locs hI => ?_)
  refine lv_aload_n (pc := 937) hx hb dL_law_937 rfl (lv_at hl 2 rfl) ?_
  refine lv_aload_n (pc := 938) hx hb dL_law_938 rfl (lv_at hl 0 rfl) ?_
  refine lv_iload_n (pc := 939) hx hb dL_law_939 rfl (lv_at hl 3 rfl) ?_
  refine lv_iconst (pc := 940) (v := 1) hx hb dL_law_940 (by decide) ?_
  refine lv_iadd (pc := 941) hx hb dL_law_941 ?_
  refine va_sld (pc := 942) hx hb hX hbl hbA hI.2.2 hv1 dL_law_942 ?_
  refine lv_aload_n (pc := 943) hx hb dL_law_943 rfl (lv_at hl 0 rfl) ?_
  refine lv_iload_n (pc := 944) hx hb dL_law_944 rfl (lv_at hl 3 rfl) ?_
  refine lv_iconst (pc := 945) (v := 2) hx hb dL_law_945 (by decide) ?_
  refine lv_iadd (pc := 946) hx hb dL_law_946 ?_
  refine va_sld (pc := 947) hx hb hX hbl hbA hI.2.2 hv2 dL_law_947 ?_
  refine x_cVR (pc := 948) (st1 := [.int rm.1, .int rx]) (w1 := (mw G g z_thrown z_s z_kept z_isKept z_moveMany z_moves z_hands z_troubles z_troubleSorts z_troubleNumbers z_asked rm.2 z_leasts z_isSeen z_classMany z_types z_typeCounts z_typeMany z_text z_signs z_at z_lacks z_clauses z_begun z_letters z_firsts z_seconds z_aside z_sorts z_sizes z_items)) X E hI (c_X10_mean l G g em) kv_L_110 hd_X10_mean ⟨rfl, rfl⟩ (by decide) 0 rfl rfl rfl rfl hl.1 rfl (Nat.le_of_ble_eq_true rfl) dL_law_948 ⟨by show C + 0 + 0 ≤ 600000; omega, by show S + 0 + 0 ≤ 7302249; omega⟩ rfl (fun H locs hI => ?_)
  refine lv_icmp_eq (pc := 951) (tgt := 1492) hx hb dL_law_951 (by decide) (fun c1 => ?_) (fun c1 => ?_)
  rotate_left
  · exact absurd er c1
  refine W.widen (k := C + 1) (n := S + 4096) (by omega) (by omega) ?_
  exact kk _ _ _ ⟨h, g, n_m0, n_m1, n_m2, n_s0, n_s1, n_s2, n_uq, n_wq, tp, ta, ti, x_hasImage, f_places, f_kinds, f_weights, f_howManyGenerators, f_generators, f_racks, f_howManySeen, f_seenFirst, f_seenSecond, f_seenIs, f_seenPlaces, f_howManyEvents, f_eventWhat, f_eventNumber, g_places, g_kinds, g_weights, g_howManyGenerators, g_generators, g_racks, g_howManySeen, g_seenFirst, g_seenSecond, g_seenIs, g_seenPlaces, g_howManyEvents, g_eventWhat, g_eventNumber, v_keys, v_asFound, v_found, v_turns, v_places, p_keys, p_asFound, p_found, p_turns, p_places, i_sort, i_howOften, i_sorts, i_moves, n_u, u_leasts, u_howMany, u_known, n_w, w_leasts, w_howMany, w_known, t_signs, t_length, t_whole, t_begins, t_ends, r_sorts, r_numbers, r_length, sr, ln, it, z_thrown, z_s, z_kept, z_isKept, z_moveMany, z_moves, z_hands, z_troubles, z_troubleSorts, z_troubleNumbers, z_asked, rm.2, z_leasts, z_isSeen, z_classMany, z_types, z_typeCounts, z_typeMany, z_text, z_signs, z_at, z_lacks, z_clauses, z_begun, z_letters, z_firsts, z_seconds, z_aside, z_sorts, z_sizes, z_items, htp, hR, hI, hl⟩
set_option maxHeartbeats 8000000 in
set_option maxRecDepth 100000 in
theorem law_23 {rr : RT} (op_spread : OP_spread rr) {p : Program} {l : Launch} {e : Env} {s : State} {m : MethodId} {below : List Frame} {meth : Method} {c : Code} {b L : Nat} {xs : Nat → Int32} {A : Nat → Prop} {G : GX} {Q : State → Prop} (X : CX RL code 4 ret p s m #[Value.ref b] meth c) (E : EX G A s) (hX : va_X b L xs s s.heap) (hbl : b < s.heap.size) (hbA : ¬ A b) {i C S : Nat} (hi : i + 6 ≤ L) (hL : L ≤ 3072) (hC : C + 1 ≤ 600000) (hS : S + 4096 ≤ 7302249) {H : Heap} {locs : List Loc} {ls : Array Slot} (hLI : LI rr G A s b i H locs ls)
    (kk : ∀ (H : Heap) (locs : List Loc) (ls : Array Slot), LI rr G A s b i H locs ls → W p l e room_1 s m #[Value.ref b] below meth c H locs (C + 1) (S + 4096) Q (F0 m 1492 ls [])) : W p l e room_1 s m #[Value.ref b] below meth c H locs C S Q (F0 m 956 ls []) := by
  obtain ⟨hx, hb, hml, hown, hts, hr, hlk⟩ := id X
  obtain ⟨h, g, n_m0, n_m1, n_m2, n_s0, n_s1, n_s2, n_uq, n_wq, tp, ta, ti, x_hasImage, f_places, f_kinds, f_weights, f_howManyGenerators, f_generators, f_racks, f_howManySeen, f_seenFirst, f_seenSecond, f_seenIs, f_seenPlaces, f_howManyEvents, f_eventWhat, f_eventNumber, g_places, g_kinds, g_weights, g_howManyGenerators, g_generators, g_racks, g_howManySeen, g_seenFirst, g_seenSecond, g_seenIs, g_seenPlaces, g_howManyEvents, g_eventWhat, g_eventNumber, v_keys, v_asFound, v_found, v_turns, v_places, p_keys, p_asFound, p_found, p_turns, p_places, i_sort, i_howOften, i_sorts, i_moves, n_u, u_leasts, u_howMany, u_known, n_w, w_leasts, w_howMany, w_known, t_signs, t_length, t_whole, t_begins, t_ends, r_sorts, r_numbers, r_length, sr, ln, it, z_thrown, z_s, z_kept, z_isKept, z_moveMany, z_moves, z_hands, z_troubles, z_troubleSorts, z_troubleNumbers, z_asked, z_paint, z_leasts, z_isSeen, z_classMany, z_types, z_typeCounts, z_typeMany, z_text, z_signs, z_at, z_lacks, z_clauses, z_begun, z_letters, z_firsts, z_seconds, z_aside, z_sorts, z_sizes, z_items, htp, hR, hI, hl⟩ := hLI
  have hv1 := q_v1 hi hL
  have hv2 := q_v2 hi hL
  have hv3 := q_v3 hi hL
  have hv4 := q_v4 hi hL
  have hv5 := q_v5 hi hL
  refine lv_aload_n (pc := 956) hx hb dL_law_956 rfl (lv_at hl 1 rfl) ?_
  refine lv_aload_n (pc := 957) hx hb dL_law_957 rfl (lv_at hl 0 rfl) ?_
  refine lv_iload_n (pc := 958) hx hb dL_law_958 rfl (lv_at hl 3 rfl) ?_
  refine lv_iconst (pc := 959) (v := 1) hx hb dL_law_959 (by decide) ?_
  refine lv_iadd (pc := 960) hx hb dL_law_960 ?_
  refine va_sld (pc := 961) hx hb hX hbl hbA hI.2.2 hv1 dL_law_961 ?_
  refine lv_aload_n (pc := 962) hx hb dL_law_962 rfl (lv_at hl 0 rfl) ?_
  refine lv_iload_n (pc := 963) hx hb dL_law_963 rfl (lv_at hl 3 rfl) ?_
  refine lv_iconst (pc := 964) (v := 2) hx hb dL_law_964 (by decide) ?_
  refine lv_iadd (pc := 965) hx hb dL_law_965 ?_
  refine va_sld (pc := 966) hx hb hX hbl hbA hI.2.2 hv2 dL_law_966 ?_
  obtain ⟨rm, em, rx, ex, er, hR⟩ := op_spread hR (xs (nI i + 1).toNatClampNeg) (xs (nI i + 2).toNatClampNeg)
  refine x_cVs (pc := 967) (st1 := [.long rx]) (w1 := ((xb G h x_hasImage f_places f_kinds f_weights f_howManyGenerators f_generators f_racks f_howManySeen f_seenFirst f_seenSecond f_seenIs f_seenPlaces f_howManyEvents f_eventWhat f_eventNumber g_places g_kinds g_weights g_howManyGenerators g_generators g_racks g_howManySeen g_seenFirst g_seenSecond g_seenIs g_seenPlaces g_howManyEvents g_eventWhat g_eventNumber n_m0 n_m1 n_m2 n_s0 n_s1 n_s2 v_keys v_asFound v_found v_turns v_places p_keys p_asFound p_found p_turns p_places i_sort i_howOften i_sorts i_moves n_uq n_u u_leasts u_howMany u_known n_wq n_w w_leasts w_howMany w_known t_signs t_length t_whole t_begins t_ends r_sorts r_numbers r_length) ++ ((tl G h tp ta ti sr ln it) ++ (mw G g z_thrown z_s z_kept z_isKept z_moveMany z_moves z_hands z_troubles z_troubleSorts z_troubleNumbers z_asked z_paint z_leasts z_isSeen z_classMany z_types z_typeCounts z_typeMany z_text z_signs z_at z_lacks z_clauses z_begun z_letters z_firsts z_seconds z_aside z_sorts z_sizes z_items)))) X E hI (c_X9_spread l G h ex) kv_L_111 hd_X9_spread ⟨rfl, rfl⟩ (by decide) 0 rfl rfl rfl rfl hl.1 rfl (Nat.le_of_ble_eq_true rfl) dL_law_967 ⟨by show C + 0 ≤ 600000; omega, by show S + 0 ≤ 7302249; omega⟩ rfl (fun H locs hI => ?_)
  refine lv_aload_n (pc := 970) hx hb dL_law_970 rfl (lv_at hl 2 rfl) ?_
  refine lv_aload_n (pc := 971) hx hb dL_law_971 rfl (lv_at hl 0 rfl) ?_
  refine lv_iload_n (pc := 972) hx hb dL_law_972 rfl (lv_at hl 3 rfl) ?_
  refine lv_iconst (pc := 973) (v := 1) hx hb dL_law_973 (by decide) ?_
  refine lv_iadd (pc := 974) hx hb dL_law_974 ?_
  refine va_sld (pc := 975) hx hb hX hbl hbA hI.2.2 hv1 dL_law_975 ?_
  refine lv_aload_n (pc := 976) hx hb dL_law_976 rfl (lv_at hl 0 rfl) ?_
  refine lv_iload_n (pc := 977) hx hb dL_law_977 rfl (lv_at hl 3 rfl) ?_
  refine lv_iconst (pc := 978) (v := 2) hx hb dL_law_978 (by decide) ?_
  refine lv_iadd (pc := 979) hx hb dL_law_979 ?_
  refine va_sld (pc := 980) hx hb hX hbl hbA hI.2.2 hv2 dL_law_980 ?_
  refine x_cVR (pc := 981) (st1 := [.long rm.1, .long rx]) (w1 := (mw G g z_thrown z_s z_kept z_isKept z_moveMany z_moves z_hands z_troubles z_troubleSorts z_troubleNumbers z_asked rm.2 z_leasts z_isSeen z_classMany z_types z_typeCounts z_typeMany z_text z_signs z_at z_lacks z_clauses z_begun z_letters z_firsts z_seconds z_aside z_sorts z_sizes z_items)) X E hI (c_X10_spread l G g em) kv_L_114 hd_X10_spread ⟨rfl, rfl⟩ (by decide) 0 rfl rfl rfl rfl hl.1 rfl (Nat.le_of_ble_eq_true rfl) dL_law_981 ⟨by show C + 0 + 0 ≤ 600000; omega, by show S + 0 + 0 ≤ 7302249; omega⟩ rfl (fun H locs hI => ?_)
  refine W.lcmp (pc := 984) hx hb dL_law_984 ?_
  refine lv_if_eq (pc := 985) (tgt := 1492) hx hb dL_law_985 (by decide) (fun c1 => ?_) (fun c1 => ?_)
  rotate_left
  · exact absurd (by rw [er]; exact q_lcmp _) c1
  refine W.widen (k := C + 1) (n := S + 4096) (by omega) (by omega) ?_
  exact kk _ _ _ ⟨h, g, n_m0, n_m1, n_m2, n_s0, n_s1, n_s2, n_uq, n_wq, tp, ta, ti, x_hasImage, f_places, f_kinds, f_weights, f_howManyGenerators, f_generators, f_racks, f_howManySeen, f_seenFirst, f_seenSecond, f_seenIs, f_seenPlaces, f_howManyEvents, f_eventWhat, f_eventNumber, g_places, g_kinds, g_weights, g_howManyGenerators, g_generators, g_racks, g_howManySeen, g_seenFirst, g_seenSecond, g_seenIs, g_seenPlaces, g_howManyEvents, g_eventWhat, g_eventNumber, v_keys, v_asFound, v_found, v_turns, v_places, p_keys, p_asFound, p_found, p_turns, p_places, i_sort, i_howOften, i_sorts, i_moves, n_u, u_leasts, u_howMany, u_known, n_w, w_leasts, w_howMany, w_known, t_signs, t_length, t_whole, t_begins, t_ends, r_sorts, r_numbers, r_length, sr, ln, it, z_thrown, z_s, z_kept, z_isKept, z_moveMany, z_moves, z_hands, z_troubles, z_troubleSorts, z_troubleNumbers, z_asked, rm.2, z_leasts, z_isSeen, z_classMany, z_types, z_typeCounts, z_typeMany, z_text, z_signs, z_at, z_lacks, z_clauses, z_begun, z_letters, z_firsts, z_seconds, z_aside, z_sorts, z_sizes, z_items, htp, hR, hI, hl⟩
set_option maxHeartbeats 8000000 in
set_option maxRecDepth 100000 in
theorem law_24 {rr : RT} (op_feed : OP_feed rr) {p : Program} {l : Launch} {e : Env} {s : State} {m : MethodId} {below : List Frame} {meth : Method} {c : Code} {b L : Nat} {xs : Nat → Int32} {A : Nat → Prop} {G : GX} {Q : State → Prop} (X : CX RL code 4 ret p s m #[Value.ref b] meth c) (E : EX G A s) (hX : va_X b L xs s s.heap) (hbl : b < s.heap.size) (hbA : ¬ A b) {i C S : Nat} (hi : i + 6 ≤ L) (hL : L ≤ 3072) (hC : C + 1 ≤ 600000) (hS : S + 4096 ≤ 7302249) {H : Heap} {locs : List Loc} {ls : Array Slot} (hLI : LI rr G A s b i H locs ls)
    (kk : ∀ (H : Heap) (locs : List Loc) (ls : Array Slot), LI rr G A s b i H locs ls → W p l e room_1 s m #[Value.ref b] below meth c H locs (C + 1) (S + 4096) Q (F0 m 1492 ls [])) : W p l e room_1 s m #[Value.ref b] below meth c H locs C S Q (F0 m 990 ls []) := by
  obtain ⟨hx, hb, hml, hown, hts, hr, hlk⟩ := id X
  obtain ⟨h, g, n_m0, n_m1, n_m2, n_s0, n_s1, n_s2, n_uq, n_wq, tp, ta, ti, x_hasImage, f_places, f_kinds, f_weights, f_howManyGenerators, f_generators, f_racks, f_howManySeen, f_seenFirst, f_seenSecond, f_seenIs, f_seenPlaces, f_howManyEvents, f_eventWhat, f_eventNumber, g_places, g_kinds, g_weights, g_howManyGenerators, g_generators, g_racks, g_howManySeen, g_seenFirst, g_seenSecond, g_seenIs, g_seenPlaces, g_howManyEvents, g_eventWhat, g_eventNumber, v_keys, v_asFound, v_found, v_turns, v_places, p_keys, p_asFound, p_found, p_turns, p_places, i_sort, i_howOften, i_sorts, i_moves, n_u, u_leasts, u_howMany, u_known, n_w, w_leasts, w_howMany, w_known, t_signs, t_length, t_whole, t_begins, t_ends, r_sorts, r_numbers, r_length, sr, ln, it, z_thrown, z_s, z_kept, z_isKept, z_moveMany, z_moves, z_hands, z_troubles, z_troubleSorts, z_troubleNumbers, z_asked, z_paint, z_leasts, z_isSeen, z_classMany, z_types, z_typeCounts, z_typeMany, z_text, z_signs, z_at, z_lacks, z_clauses, z_begun, z_letters, z_firsts, z_seconds, z_aside, z_sorts, z_sizes, z_items, htp, hR, hI, hl⟩ := hLI
  have hv1 := q_v1 hi hL
  have hv2 := q_v2 hi hL
  have hv3 := q_v3 hi hL
  have hv4 := q_v4 hi hL
  have hv5 := q_v5 hi hL
  refine lv_aload_n (pc := 990) hx hb dL_law_990 rfl (lv_at hl 1 rfl) ?_
  refine lv_aload_n (pc := 991) hx hb dL_law_991 rfl (lv_at hl 0 rfl) ?_
  refine lv_iload_n (pc := 992) hx hb dL_law_992 rfl (lv_at hl 3 rfl) ?_
  refine lv_iconst (pc := 993) (v := 1) hx hb dL_law_993 (by decide) ?_
  refine lv_iadd (pc := 994) hx hb dL_law_994 ?_
  refine va_sld (pc := 995) hx hb hX hbl hbA hI.2.2 hv1 dL_law_995 ?_
  obtain ⟨rm, em, rx, ex, er, hR⟩ := op_feed hR (xs (nI i + 1).toNatClampNeg)
  refine x_cVs (pc := 996) (st1 := [.int rx.1]) (w1 := ((xb G h x_hasImage f_places f_kinds f_weights f_howManyGenerators f_generators f_racks f_howManySeen f_seenFirst f_seenSecond f_seenIs f_seenPlaces f_howManyEvents f_eventWhat f_eventNumber g_places g_kinds g_weights g_howManyGenerators g_generators g_racks g_howManySeen g_seenFirst g_seenSecond g_seenIs g_seenPlaces g_howManyEvents g_eventWhat g_eventNumber n_m0 n_m1 n_m2 n_s0 n_s1 n_s2 v_keys v_asFound v_found v_turns v_places p_keys p_asFound p_found p_turns p_places i_sort i_howOften i_sorts i_moves n_uq n_u u_leasts u_howMany u_known n_wq n_w w_leasts w_howMany w_known rx.2.1 rx.2.2 t_whole t_begins t_ends r_sorts r_numbers r_length) ++ ((tl G h tp ta ti sr ln it) ++ (mw G g z_thrown z_s z_kept z_isKept z_moveMany z_moves z_hands z_troubles z_troubleSorts z_troubleNumbers z_asked z_paint z_leasts z_isSeen z_classMany z_types z_typeCounts z_typeMany z_text z_signs z_at z_lacks z_clauses z_begun z_letters z_firsts z_seconds z_aside z_sorts z_sizes z_items)))) X E hI (c_X9_feed l G h ex) kv_L_115 hd_X9_feed ⟨rfl, rfl⟩ (by decide) 0 rfl rfl rfl rfl hl.1 rfl (Nat.le_of_ble_eq_true rfl) dL_law_996 ⟨by show C + 0 ≤ 600000; omega, by show S + 0 ≤ 7302249; omega⟩ rfl (fun H locs hI => ?_)
  refine lv_aload_n (pc := 999) hx hb dL_law_999 rfl (lv_at hl 2 rfl) ?_
  refine lv_aload_n (pc := 1000) hx hb dL_law_1000 rfl (lv_at hl 0 rfl) ?_
  refine lv_iload_n (pc := 1001) hx hb dL_law_1001 rfl (lv_at hl 3 rfl) ?_
  refine lv_iconst (pc := 1002) (v := 1) hx hb dL_law_1002 (by decide) ?_
  refine lv_iadd (pc := 1003) hx hb dL_law_1003 ?_
  refine va_sld (pc := 1004) hx hb hX hbl hbA hI.2.2 hv1 dL_law_1004 ?_
  refine x_cVR (pc := 1005) (st1 := [.int rm.1, .int rx.1]) (w1 := (mw G g z_thrown z_s z_kept z_isKept z_moveMany z_moves z_hands z_troubles z_troubleSorts z_troubleNumbers z_asked z_paint z_leasts z_isSeen z_classMany z_types z_typeCounts z_typeMany rm.2.1 rm.2.2 z_at z_lacks z_clauses z_begun z_letters z_firsts z_seconds z_aside z_sorts z_sizes z_items)) X E hI (c_X10_feed l G g em) kv_L_118 hd_X10_feed ⟨rfl, rfl⟩ (by decide) 0 rfl rfl rfl rfl hl.1 rfl (Nat.le_of_ble_eq_true rfl) dL_law_1005 ⟨by show C + 0 + 0 ≤ 600000; omega, by show S + 0 + 0 ≤ 7302249; omega⟩ rfl (fun H locs hI => ?_)
  refine lv_icmp_eq (pc := 1008) (tgt := 1492) hx hb dL_law_1008 (by decide) (fun c1 => ?_) (fun c1 => ?_)
  rotate_left
  · exact absurd er c1
  refine W.widen (k := C + 1) (n := S + 4096) (by omega) (by omega) ?_
  exact kk _ _ _ ⟨h, g, n_m0, n_m1, n_m2, n_s0, n_s1, n_s2, n_uq, n_wq, tp, ta, ti, x_hasImage, f_places, f_kinds, f_weights, f_howManyGenerators, f_generators, f_racks, f_howManySeen, f_seenFirst, f_seenSecond, f_seenIs, f_seenPlaces, f_howManyEvents, f_eventWhat, f_eventNumber, g_places, g_kinds, g_weights, g_howManyGenerators, g_generators, g_racks, g_howManySeen, g_seenFirst, g_seenSecond, g_seenIs, g_seenPlaces, g_howManyEvents, g_eventWhat, g_eventNumber, v_keys, v_asFound, v_found, v_turns, v_places, p_keys, p_asFound, p_found, p_turns, p_places, i_sort, i_howOften, i_sorts, i_moves, n_u, u_leasts, u_howMany, u_known, n_w, w_leasts, w_howMany, w_known, rx.2.1, rx.2.2, t_whole, t_begins, t_ends, r_sorts, r_numbers, r_length, sr, ln, it, z_thrown, z_s, z_kept, z_isKept, z_moveMany, z_moves, z_hands, z_troubles, z_troubleSorts, z_troubleNumbers, z_asked, z_paint, z_leasts, z_isSeen, z_classMany, z_types, z_typeCounts, z_typeMany, rm.2.1, rm.2.2, z_at, z_lacks, z_clauses, z_begun, z_letters, z_firsts, z_seconds, z_aside, z_sorts, z_sizes, z_items, htp, hR, hI, hl⟩
set_option maxHeartbeats 8000000 in
set_option maxRecDepth 100000 in
theorem law_25 {rr : RT} (op_read : OP_read rr) {p : Program} {l : Launch} {e : Env} {s : State} {m : MethodId} {below : List Frame} {meth : Method} {c : Code} {b L : Nat} {xs : Nat → Int32} {A : Nat → Prop} {G : GX} {Q : State → Prop} (X : CX RL code 4 ret p s m #[Value.ref b] meth c) (E : EX G A s) (hX : va_X b L xs s s.heap) (hbl : b < s.heap.size) (hbA : ¬ A b) {i C S : Nat} (hi : i + 6 ≤ L) (hL : L ≤ 3072) (hC : C + 1 ≤ 600000) (hS : S + 4096 ≤ 7302249) {H : Heap} {locs : List Loc} {ls : Array Slot} (hLI : LI rr G A s b i H locs ls)
    (kk : ∀ (H : Heap) (locs : List Loc) (ls : Array Slot), LI rr G A s b i H locs ls → W p l e room_1 s m #[Value.ref b] below meth c H locs (C + 1) (S + 4096) Q (F0 m 1492 ls [])) : W p l e room_1 s m #[Value.ref b] below meth c H locs C S Q (F0 m 1013 ls []) := by
  obtain ⟨hx, hb, hml, hown, hts, hr, hlk⟩ := id X
  obtain ⟨h, g, n_m0, n_m1, n_m2, n_s0, n_s1, n_s2, n_uq, n_wq, tp, ta, ti, x_hasImage, f_places, f_kinds, f_weights, f_howManyGenerators, f_generators, f_racks, f_howManySeen, f_seenFirst, f_seenSecond, f_seenIs, f_seenPlaces, f_howManyEvents, f_eventWhat, f_eventNumber, g_places, g_kinds, g_weights, g_howManyGenerators, g_generators, g_racks, g_howManySeen, g_seenFirst, g_seenSecond, g_seenIs, g_seenPlaces, g_howManyEvents, g_eventWhat, g_eventNumber, v_keys, v_asFound, v_found, v_turns, v_places, p_keys, p_asFound, p_found, p_turns, p_places, i_sort, i_howOften, i_sorts, i_moves, n_u, u_leasts, u_howMany, u_known, n_w, w_leasts, w_howMany, w_known, t_signs, t_length, t_whole, t_begins, t_ends, r_sorts, r_numbers, r_length, sr, ln, it, z_thrown, z_s, z_kept, z_isKept, z_moveMany, z_moves, z_hands, z_troubles, z_troubleSorts, z_troubleNumbers, z_asked, z_paint, z_leasts, z_isSeen, z_classMany, z_types, z_typeCounts, z_typeMany, z_text, z_signs, z_at, z_lacks, z_clauses, z_begun, z_letters, z_firsts, z_seconds, z_aside, z_sorts, z_sizes, z_items, htp, hR, hI, hl⟩ := hLI
  have hv1 := q_v1 hi hL
  have hv2 := q_v2 hi hL
  have hv3 := q_v3 hi hL
  have hv4 := q_v4 hi hL
  have hv5 := q_v5 hi hL
  refine lv_aload_n (pc := 1013) hx hb dL_law_1013 rfl (lv_at hl 1 rfl) ?_
  obtain ⟨rm, em, rx, ex, er, hR⟩ := op_read hR  n_m0 n_m1 n_m2 n_s0 n_s1 n_s2
  refine x_cVs (pc := 1014) (st1 := [.int rx.1]) (w1 := ((xb G h x_hasImage rx.2.1 rx.2.2.1 rx.2.2.2.1 rx.2.2.2.2.1 rx.2.2.2.2.2.1 rx.2.2.2.2.2.2.1 f_howManySeen f_seenFirst f_seenSecond f_seenIs f_seenPlaces f_howManyEvents f_eventWhat f_eventNumber g_places g_kinds g_weights g_howManyGenerators g_generators g_racks g_howManySeen g_seenFirst g_seenSecond g_seenIs g_seenPlaces g_howManyEvents g_eventWhat g_eventNumber rx.2.2.2.2.2.2.2.1 rx.2.2.2.2.2.2.2.2.1 rx.2.2.2.2.2.2.2.2.2.1 rx.2.2.2.2.2.2.2.2.2.2.1 rx.2.2.2.2.2.2.2.2.2.2.2.1 rx.2.2.2.2.2.2.2.2.2.2.2.2.1 rx.2.2.2.2.2.2.2.2.2.2.2.2.2.1 rx.2.2.2.2.2.2.2.2.2.2.2.2.2.2.1 rx.2.2.2.2.2.2.2.2.2.2.2.2.2.2.2.1 rx.2.2.2.2.2.2.2.2.2.2.2.2.2.2.2.2.1 rx.2.2.2.2.2.2.2.2.2.2.2.2.2.2.2.2.2.1 rx.2.2.2.2.2.2.2.2.2.2.2.2.2.2.2.2.2.2.1 rx.2.2.2.2.2.2.2.2.2.2.2.2.2.2.2.2.2.2.2.1 rx.2.2.2.2.2.2.2.2.2.2.2.2.2.2.2.2.2.2.2.2.1 rx.2.2.2.2.2.2.2.2.2.2.2.2.2.2.2.2.2.2.2.2.2.1 rx.2.2.2.2.2.2.2.2.2.2.2.2.2.2.2.2.2.2.2.2.2.2.1 i_sort i_howOften i_sorts i_moves n_uq n_u u_leasts u_howMany rx.2.2.2.2.2.2.2.2.2.2.2.2.2.2.2.2.2.2.2.2.2.2.2.1 n_wq n_w w_leasts w_howMany rx.2.2.2.2.2.2.2.2.2.2.2.2.2.2.2.2.2.2.2.2.2.2.2.2.1 t_signs rx.2.2.2.2.2.2.2.2.2.2.2.2.2.2.2.2.2.2.2.2.2.2.2.2.2.1 rx.2.2.2.2.2.2.2.2.2.2.2.2.2.2.2.2.2.2.2.2.2.2.2.2.2.2.1 rx.2.2.2.2.2.2.2.2.2.2.2.2.2.2.2.2.2.2.2.2.2.2.2.2.2.2.2.1 rx.2.2.2.2.2.2.2.2.2.2.2.2.2.2.2.2.2.2.2.2.2.2.2.2.2.2.2.2.1 rx.2.2.2.2.2.2.2.2.2.2.2.2.2.2.2.2.2.2.2.2.2.2.2.2.2.2.2.2.2.1 rx.2.2.2.2.2.2.2.2.2.2.2.2.2.2.2.2.2.2.2.2.2.2.2.2.2.2.2.2.2.2.1 rx.2.2.2.2.2.2.2.2.2.2.2.2.2.2.2.2.2.2.2.2.2.2.2.2.2.2.2.2.2.2.2) ++ ((tl G h tp ta ti sr ln it) ++ (mw G g z_thrown z_s z_kept z_isKept z_moveMany z_moves z_hands z_troubles z_troubleSorts z_troubleNumbers z_asked z_paint z_leasts z_isSeen z_classMany z_types z_typeCounts z_typeMany z_text z_signs z_at z_lacks z_clauses z_begun z_letters z_firsts z_seconds z_aside z_sorts z_sizes z_items)))) X E hI (c_X9_read l G h ex) kv_L_119 hd_X9_read ⟨rfl, rfl⟩ (by decide) 0 rfl rfl rfl rfl hl.1 rfl (Nat.le_of_ble_eq_true rfl) dL_law_1014 ⟨by show C + 0 ≤ 600000; omega, by show S + 0 ≤ 7302249; omega⟩ rfl (fun H locs hI => ?_)
  refine lv_aload_n (pc := 1017) hx hb dL_law_1017 rfl (lv_at hl 2 rfl) ?_
  refine x_cVR (pc := 1018) (st1 := [.int rm.1, .int rx.1]) (w1 := (mw G g z_thrown rm.2.1 z_kept z_isKept rm.2.2.1 rm.2.2.2.1 rm.2.2.2.2.1 rm.2.2.2.2.2.1 rm.2.2.2.2.2.2.1 rm.2.2.2.2.2.2.2.1 z_asked z_paint z_leasts z_isSeen z_classMany z_types z_typeCounts z_typeMany z_text rm.2.2.2.2.2.2.2.2.1 rm.2.2.2.2.2.2.2.2.2.1 rm.2.2.2.2.2.2.2.2.2.2.1 rm.2.2.2.2.2.2.2.2.2.2.2.1 rm.2.2.2.2.2.2.2.2.2.2.2.2.1 rm.2.2.2.2.2.2.2.2.2.2.2.2.2.1 rm.2.2.2.2.2.2.2.2.2.2.2.2.2.2.1 rm.2.2.2.2.2.2.2.2.2.2.2.2.2.2.2 z_aside z_sorts z_sizes z_items)) X E hI (c_X10_read l G g em) kv_L_122 hd_X10_read ⟨rfl, rfl⟩ (by decide) 0 rfl rfl rfl rfl hl.1 rfl (Nat.le_of_ble_eq_true rfl) dL_law_1018 ⟨by show C + 0 + 0 ≤ 600000; omega, by show S + 0 + 0 ≤ 7302249; omega⟩ rfl (fun H locs hI => ?_)
  refine lv_icmp_eq (pc := 1021) (tgt := 1492) hx hb dL_law_1021 (by decide) (fun c1 => ?_) (fun c1 => ?_)
  rotate_left
  · exact absurd er c1
  refine W.widen (k := C + 1) (n := S + 4096) (by omega) (by omega) ?_
  exact kk _ _ _ ⟨h, g, rx.2.2.2.2.2.2.2.1, rx.2.2.2.2.2.2.2.2.1, rx.2.2.2.2.2.2.2.2.2.1, rx.2.2.2.2.2.2.2.2.2.2.1, rx.2.2.2.2.2.2.2.2.2.2.2.1, rx.2.2.2.2.2.2.2.2.2.2.2.2.1, n_uq, n_wq, tp, ta, ti, x_hasImage, rx.2.1, rx.2.2.1, rx.2.2.2.1, rx.2.2.2.2.1, rx.2.2.2.2.2.1, rx.2.2.2.2.2.2.1, f_howManySeen, f_seenFirst, f_seenSecond, f_seenIs, f_seenPlaces, f_howManyEvents, f_eventWhat, f_eventNumber, g_places, g_kinds, g_weights, g_howManyGenerators, g_generators, g_racks, g_howManySeen, g_seenFirst, g_seenSecond, g_seenIs, g_seenPlaces, g_howManyEvents, g_eventWhat, g_eventNumber, rx.2.2.2.2.2.2.2.2.2.2.2.2.2.1, rx.2.2.2.2.2.2.2.2.2.2.2.2.2.2.1, rx.2.2.2.2.2.2.2.2.2.2.2.2.2.2.2.1, rx.2.2.2.2.2.2.2.2.2.2.2.2.2.2.2.2.1, rx.2.2.2.2.2.2.2.2.2.2.2.2.2.2.2.2.2.1, rx.2.2.2.2.2.2.2.2.2.2.2.2.2.2.2.2.2.2.1, rx.2.2.2.2.2.2.2.2.2.2.2.2.2.2.2.2.2.2.2.1, rx.2.2.2.2.2.2.2.2.2.2.2.2.2.2.2.2.2.2.2.2.1, rx.2.2.2.2.2.2.2.2.2.2.2.2.2.2.2.2.2.2.2.2.2.1, rx.2.2.2.2.2.2.2.2.2.2.2.2.2.2.2.2.2.2.2.2.2.2.1, i_sort, i_howOften, i_sorts, i_moves, n_u, u_leasts, u_howMany, rx.2.2.2.2.2.2.2.2.2.2.2.2.2.2.2.2.2.2.2.2.2.2.2.1, n_w, w_leasts, w_howMany, rx.2.2.2.2.2.2.2.2.2.2.2.2.2.2.2.2.2.2.2.2.2.2.2.2.1, t_signs, rx.2.2.2.2.2.2.2.2.2.2.2.2.2.2.2.2.2.2.2.2.2.2.2.2.2.1, rx.2.2.2.2.2.2.2.2.2.2.2.2.2.2.2.2.2.2.2.2.2.2.2.2.2.2.1, rx.2.2.2.2.2.2.2.2.2.2.2.2.2.2.2.2.2.2.2.2.2.2.2.2.2.2.2.1, rx.2.2.2.2.2.2.2.2.2.2.2.2.2.2.2.2.2.2.2.2.2.2.2.2.2.2.2.2.1, rx.2.2.2.2.2.2.2.2.2.2.2.2.2.2.2.2.2.2.2.2.2.2.2.2.2.2.2.2.2.1, rx.2.2.2.2.2.2.2.2.2.2.2.2.2.2.2.2.2.2.2.2.2.2.2.2.2.2.2.2.2.2.1, rx.2.2.2.2.2.2.2.2.2.2.2.2.2.2.2.2.2.2.2.2.2.2.2.2.2.2.2.2.2.2.2, sr, ln, it, z_thrown, rm.2.1, z_kept, z_isKept, rm.2.2.1, rm.2.2.2.1, rm.2.2.2.2.1, rm.2.2.2.2.2.1, rm.2.2.2.2.2.2.1, rm.2.2.2.2.2.2.2.1, z_asked, z_paint, z_leasts, z_isSeen, z_classMany, z_types, z_typeCounts, z_typeMany, z_text, rm.2.2.2.2.2.2.2.2.1, rm.2.2.2.2.2.2.2.2.2.1, rm.2.2.2.2.2.2.2.2.2.2.1, rm.2.2.2.2.2.2.2.2.2.2.2.1, rm.2.2.2.2.2.2.2.2.2.2.2.2.1, rm.2.2.2.2.2.2.2.2.2.2.2.2.2.1, rm.2.2.2.2.2.2.2.2.2.2.2.2.2.2.1, rm.2.2.2.2.2.2.2.2.2.2.2.2.2.2.2, z_aside, z_sorts, z_sizes, z_items, htp, hR, hI, hl⟩
set_option maxHeartbeats 8000000 in
set_option maxRecDepth 100000 in
theorem law_26 {rr : RT} (op_cause : OP_cause rr) {p : Program} {l : Launch} {e : Env} {s : State} {m : MethodId} {below : List Frame} {meth : Method} {c : Code} {b L : Nat} {xs : Nat → Int32} {A : Nat → Prop} {G : GX} {Q : State → Prop} (X : CX RL code 4 ret p s m #[Value.ref b] meth c) (E : EX G A s) (hX : va_X b L xs s s.heap) (hbl : b < s.heap.size) (hbA : ¬ A b) {i C S : Nat} (hi : i + 6 ≤ L) (hL : L ≤ 3072) (hC : C + 1 ≤ 600000) (hS : S + 4096 ≤ 7302249) {H : Heap} {locs : List Loc} {ls : Array Slot} (hLI : LI rr G A s b i H locs ls)
    (kk : ∀ (H : Heap) (locs : List Loc) (ls : Array Slot), LI rr G A s b i H locs ls → W p l e room_1 s m #[Value.ref b] below meth c H locs (C + 1) (S + 4096) Q (F0 m 1492 ls [])) : W p l e room_1 s m #[Value.ref b] below meth c H locs C S Q (F0 m 1026 ls []) := by
  obtain ⟨hx, hb, hml, hown, hts, hr, hlk⟩ := id X
  obtain ⟨h, g, n_m0, n_m1, n_m2, n_s0, n_s1, n_s2, n_uq, n_wq, tp, ta, ti, x_hasImage, f_places, f_kinds, f_weights, f_howManyGenerators, f_generators, f_racks, f_howManySeen, f_seenFirst, f_seenSecond, f_seenIs, f_seenPlaces, f_howManyEvents, f_eventWhat, f_eventNumber, g_places, g_kinds, g_weights, g_howManyGenerators, g_generators, g_racks, g_howManySeen, g_seenFirst, g_seenSecond, g_seenIs, g_seenPlaces, g_howManyEvents, g_eventWhat, g_eventNumber, v_keys, v_asFound, v_found, v_turns, v_places, p_keys, p_asFound, p_found, p_turns, p_places, i_sort, i_howOften, i_sorts, i_moves, n_u, u_leasts, u_howMany, u_known, n_w, w_leasts, w_howMany, w_known, t_signs, t_length, t_whole, t_begins, t_ends, r_sorts, r_numbers, r_length, sr, ln, it, z_thrown, z_s, z_kept, z_isKept, z_moveMany, z_moves, z_hands, z_troubles, z_troubleSorts, z_troubleNumbers, z_asked, z_paint, z_leasts, z_isSeen, z_classMany, z_types, z_typeCounts, z_typeMany, z_text, z_signs, z_at, z_lacks, z_clauses, z_begun, z_letters, z_firsts, z_seconds, z_aside, z_sorts, z_sizes, z_items, htp, hR, hI, hl⟩ := hLI
  have hv1 := q_v1 hi hL
  have hv2 := q_v2 hi hL
  have hv3 := q_v3 hi hL
  have hv4 := q_v4 hi hL
  have hv5 := q_v5 hi hL
  refine lv_aload_n (pc := 1026) hx hb dL_law_1026 rfl (lv_at hl 1 rfl) ?_
  refine lv_aload_n (pc := 1027) hx hb dL_law_1027 rfl (lv_at hl 0 rfl) ?_
  refine lv_iload_n (pc := 1028) hx hb dL_law_1028 rfl (lv_at hl 3 rfl) ?_
  refine lv_iconst (pc := 1029) (v := 1) hx hb dL_law_1029 (by decide) ?_
  refine lv_iadd (pc := 1030) hx hb dL_law_1030 ?_
  refine va_sld (pc := 1031) hx hb hX hbl hbA hI.2.2 hv1 dL_law_1031 ?_
  refine lv_aload_n (pc := 1032) hx hb dL_law_1032 rfl (lv_at hl 0 rfl) ?_
  refine lv_iload_n (pc := 1033) hx hb dL_law_1033 rfl (lv_at hl 3 rfl) ?_
  refine lv_iconst (pc := 1034) (v := 2) hx hb dL_law_1034 (by decide) ?_
  refine lv_iadd (pc := 1035) hx hb dL_law_1035 ?_
  refine va_sld (pc := 1036) hx hb hX hbl hbA hI.2.2 hv2 dL_law_1036 ?_
  obtain ⟨rm, em, rx, ex, er, hR⟩ := op_cause hR (xs (nI i + 1).toNatClampNeg) (xs (nI i + 2).toNatClampNeg)
  refine x_cVs (pc := 1037) (st1 := [.int rx]) (w1 := ((xb G h x_hasImage f_places f_kinds f_weights f_howManyGenerators f_generators f_racks f_howManySeen f_seenFirst f_seenSecond f_seenIs f_seenPlaces f_howManyEvents f_eventWhat f_eventNumber g_places g_kinds g_weights g_howManyGenerators g_generators g_racks g_howManySeen g_seenFirst g_seenSecond g_seenIs g_seenPlaces g_howManyEvents g_eventWhat g_eventNumber n_m0 n_m1 n_m2 n_s0 n_s1 n_s2 v_keys v_asFound v_found v_turns v_places p_keys p_asFound p_found p_turns p_places i_sort i_howOften i_sorts i_moves n_uq n_u u_leasts u_howMany u_known n_wq n_w w_leasts w_howMany w_known t_signs t_length t_whole t_begins t_ends r_sorts r_numbers r_length) ++ ((tl G h tp ta ti sr ln it) ++ (mw G g z_thrown z_s z_kept z_isKept z_moveMany z_moves z_hands z_troubles z_troubleSorts z_troubleNumbers z_asked z_paint z_leasts z_isSeen z_classMany z_types z_typeCounts z_typeMany z_text z_signs z_at z_lacks z_clauses z_begun z_letters z_firsts z_seconds z_aside z_sorts z_sizes z_items)))) X E hI (c_X9_cause l G h ex) kv_L_123 hd_X9_cause ⟨rfl, rfl⟩ (by decide) 0 rfl rfl rfl rfl hl.1 rfl (Nat.le_of_ble_eq_true rfl) dL_law_1037 ⟨by show C + 0 ≤ 600000; omega, by show S + 0 ≤ 7302249; omega⟩ rfl (fun H locs hI => ?_)
  refine lv_aload_n (pc := 1040) hx hb dL_law_1040 rfl (lv_at hl 2 rfl) ?_
  refine lv_aload_n (pc := 1041) hx hb dL_law_1041 rfl (lv_at hl 0 rfl) ?_
  refine lv_iload_n (pc := 1042) hx hb dL_law_1042 rfl (lv_at hl 3 rfl) ?_
  refine lv_iconst (pc := 1043) (v := 1) hx hb dL_law_1043 (by decide) ?_
  refine lv_iadd (pc := 1044) hx hb dL_law_1044 ?_
  refine va_sld (pc := 1045) hx hb hX hbl hbA hI.2.2 hv1 dL_law_1045 ?_
  refine lv_aload_n (pc := 1046) hx hb dL_law_1046 rfl (lv_at hl 0 rfl) ?_
  refine lv_iload_n (pc := 1047) hx hb dL_law_1047 rfl (lv_at hl 3 rfl) ?_
  refine lv_iconst (pc := 1048) (v := 2) hx hb dL_law_1048 (by decide) ?_
  refine lv_iadd (pc := 1049) hx hb dL_law_1049 ?_
  refine va_sld (pc := 1050) hx hb hX hbl hbA hI.2.2 hv2 dL_law_1050 ?_
  refine x_cVR (pc := 1051) (st1 := [.int rm, .int rx]) (w1 := (mw G g z_thrown z_s z_kept z_isKept z_moveMany z_moves z_hands z_troubles z_troubleSorts z_troubleNumbers z_asked z_paint z_leasts z_isSeen z_classMany z_types z_typeCounts z_typeMany z_text z_signs z_at z_lacks z_clauses z_begun z_letters z_firsts z_seconds z_aside z_sorts z_sizes z_items)) X E hI (c_X10_cause l G g em) kv_L_126 hd_X10_cause ⟨rfl, rfl⟩ (by decide) 0 rfl rfl rfl rfl hl.1 rfl (Nat.le_of_ble_eq_true rfl) dL_law_1051 ⟨by show C + 0 + 0 ≤ 600000; omega, by show S + 0 + 0 ≤ 7302249; omega⟩ rfl (fun H locs hI => ?_)
  refine lv_icmp_eq (pc := 1054) (tgt := 1492) hx hb dL_law_1054 (by decide) (fun c1 => ?_) (fun c1 => ?_)
  rotate_left
  · exact absurd er c1
  refine W.widen (k := C + 1) (n := S + 4096) (by omega) (by omega) ?_
  exact kk _ _ _ ⟨h, g, n_m0, n_m1, n_m2, n_s0, n_s1, n_s2, n_uq, n_wq, tp, ta, ti, x_hasImage, f_places, f_kinds, f_weights, f_howManyGenerators, f_generators, f_racks, f_howManySeen, f_seenFirst, f_seenSecond, f_seenIs, f_seenPlaces, f_howManyEvents, f_eventWhat, f_eventNumber, g_places, g_kinds, g_weights, g_howManyGenerators, g_generators, g_racks, g_howManySeen, g_seenFirst, g_seenSecond, g_seenIs, g_seenPlaces, g_howManyEvents, g_eventWhat, g_eventNumber, v_keys, v_asFound, v_found, v_turns, v_places, p_keys, p_asFound, p_found, p_turns, p_places, i_sort, i_howOften, i_sorts, i_moves, n_u, u_leasts, u_howMany, u_known, n_w, w_leasts, w_howMany, w_known, t_signs, t_length, t_whole, t_begins, t_ends, r_sorts, r_numbers, r_length, sr, ln, it, z_thrown, z_s, z_kept, z_isKept, z_moveMany, z_moves, z_hands, z_troubles, z_troubleSorts, z_troubleNumbers, z_asked, z_paint, z_leasts, z_isSeen, z_classMany, z_types, z_typeCounts, z_typeMany, z_text, z_signs, z_at, z_lacks, z_clauses, z_begun, z_letters, z_firsts, z_seconds, z_aside, z_sorts, z_sizes, z_items, htp, hR, hI, hl⟩
set_option maxHeartbeats 8000000 in
set_option maxRecDepth 100000 in
theorem law_27 {rr : RT} (op_see : OP_see rr) {p : Program} {l : Launch} {e : Env} {s : State} {m : MethodId} {below : List Frame} {meth : Method} {c : Code} {b L : Nat} {xs : Nat → Int32} {A : Nat → Prop} {G : GX} {Q : State → Prop} (X : CX RL code 4 ret p s m #[Value.ref b] meth c) (E : EX G A s) (hX : va_X b L xs s s.heap) (hbl : b < s.heap.size) (hbA : ¬ A b) {i C S : Nat} (hi : i + 6 ≤ L) (hL : L ≤ 3072) (hC : C + 1 ≤ 600000) (hS : S + 4096 ≤ 7302249) {H : Heap} {locs : List Loc} {ls : Array Slot} (hLI : LI rr G A s b i H locs ls)
    (kk : ∀ (H : Heap) (locs : List Loc) (ls : Array Slot), LI rr G A s b i H locs ls → W p l e room_1 s m #[Value.ref b] below meth c H locs (C + 1) (S + 4096) Q (F0 m 1492 ls [])) : W p l e room_1 s m #[Value.ref b] below meth c H locs C S Q (F0 m 1059 ls []) := by
  obtain ⟨hx, hb, hml, hown, hts, hr, hlk⟩ := id X
  obtain ⟨h, g, n_m0, n_m1, n_m2, n_s0, n_s1, n_s2, n_uq, n_wq, tp, ta, ti, x_hasImage, f_places, f_kinds, f_weights, f_howManyGenerators, f_generators, f_racks, f_howManySeen, f_seenFirst, f_seenSecond, f_seenIs, f_seenPlaces, f_howManyEvents, f_eventWhat, f_eventNumber, g_places, g_kinds, g_weights, g_howManyGenerators, g_generators, g_racks, g_howManySeen, g_seenFirst, g_seenSecond, g_seenIs, g_seenPlaces, g_howManyEvents, g_eventWhat, g_eventNumber, v_keys, v_asFound, v_found, v_turns, v_places, p_keys, p_asFound, p_found, p_turns, p_places, i_sort, i_howOften, i_sorts, i_moves, n_u, u_leasts, u_howMany, u_known, n_w, w_leasts, w_howMany, w_known, t_signs, t_length, t_whole, t_begins, t_ends, r_sorts, r_numbers, r_length, sr, ln, it, z_thrown, z_s, z_kept, z_isKept, z_moveMany, z_moves, z_hands, z_troubles, z_troubleSorts, z_troubleNumbers, z_asked, z_paint, z_leasts, z_isSeen, z_classMany, z_types, z_typeCounts, z_typeMany, z_text, z_signs, z_at, z_lacks, z_clauses, z_begun, z_letters, z_firsts, z_seconds, z_aside, z_sorts, z_sizes, z_items, htp, hR, hI, hl⟩ := hLI
  have hv1 := q_v1 hi hL
  have hv2 := q_v2 hi hL
  have hv3 := q_v3 hi hL
  have hv4 := q_v4 hi hL
  have hv5 := q_v5 hi hL
  refine lv_aload_n (pc := 1059) hx hb dL_law_1059 rfl (lv_at hl 1 rfl) ?_
  refine lv_aload_n (pc := 1060) hx hb dL_law_1060 rfl (lv_at hl 0 rfl) ?_
  refine lv_iload_n (pc := 1061) hx hb dL_law_1061 rfl (lv_at hl 3 rfl) ?_
  refine lv_iconst (pc := 1062) (v := 1) hx hb dL_law_1062 (by decide) ?_
  refine lv_iadd (pc := 1063) hx hb dL_law_1063 ?_
  refine va_sld (pc := 1064) hx hb hX hbl hbA hI.2.2 hv1 dL_law_1064 ?_
  refine lv_aload_n (pc := 1065) hx hb dL_law_1065 rfl (lv_at hl 0 rfl) ?_
  refine lv_iload_n (pc := 1066) hx hb dL_law_1066 rfl (lv_at hl 3 rfl) ?_
  refine lv_iconst (pc := 1067) (v := 2) hx hb dL_law_1067 (by decide) ?_
  refine lv_iadd (pc := 1068) hx hb dL_law_1068 ?_
  refine va_sld (pc := 1069) hx hb hX hbl hbA hI.2.2 hv2 dL_law_1069 ?_
  refine lv_aload_n (pc := 1070) hx hb dL_law_1070 rfl (lv_at hl 0 rfl) ?_
  refine lv_iload_n (pc := 1071) hx hb dL_law_1071 rfl (lv_at hl 3 rfl) ?_
  refine lv_iconst (pc := 1072) (v := 3) hx hb dL_law_1072 (by decide) ?_
  refine lv_iadd (pc := 1073) hx hb dL_law_1073 ?_
  refine va_sld (pc := 1074) hx hb hX hbl hbA hI.2.2 hv3 dL_law_1074 ?_
  refine lv_if_eq (pc := 1075) (tgt := 1082) hx hb dL_law_1075 (by decide) (fun cz => ?_) (fun cz => ?_)
  · refine lv_iconst (pc := 1082) (v := 0) hx hb dL_law_1082 (by decide) ?_
    obtain ⟨rm, em, rx, ex, er, hR⟩ := op_see hR (xs (nI i + 1).toNatClampNeg) (xs (nI i + 2).toNatClampNeg) 0
    refine x_cVs (pc := 1083) (st1 := [.int rx.1]) (w1 := ((xb G h x_hasImage f_places f_kinds f_weights f_howManyGenerators f_generators f_racks rx.2.1 rx.2.2.1 rx.2.2.2.1 rx.2.2.2.2.1 rx.2.2.2.2.2 f_howManyEvents f_eventWhat f_eventNumber g_places g_kinds g_weights g_howManyGenerators g_generators g_racks g_howManySeen g_seenFirst g_seenSecond g_seenIs g_seenPlaces g_howManyEvents g_eventWhat g_eventNumber n_m0 n_m1 n_m2 n_s0 n_s1 n_s2 v_keys v_asFound v_found v_turns v_places p_keys p_asFound p_found p_turns p_places i_sort i_howOften i_sorts i_moves n_uq n_u u_leasts u_howMany u_known n_wq n_w w_leasts w_howMany w_known t_signs t_length t_whole t_begins t_ends r_sorts r_numbers r_length) ++ ((tl G h tp ta ti sr ln it) ++ (mw G g z_thrown z_s z_kept z_isKept z_moveMany z_moves z_hands z_troubles z_troubleSorts z_troubleNumbers z_asked z_paint z_leasts z_isSeen z_classMany z_types z_typeCounts z_typeMany z_text z_signs z_at z_lacks z_clauses z_begun z_letters z_firsts z_seconds z_aside z_sorts z_sizes z_items)))) X E hI (c_X9_see l G h ex) kv_L_127 hd_X9_see ⟨rfl, rfl⟩ (by decide) 0 rfl rfl rfl rfl hl.1 rfl (Nat.le_of_ble_eq_true rfl) dL_law_1083 ⟨by show C + 0 ≤ 600000; omega, by show S + 0 ≤ 7302249; omega⟩ rfl (fun H locs hI => ?_)
    refine lv_aload_n (pc := 1086) hx hb dL_law_1086 rfl (lv_at hl 2 rfl) ?_
    refine lv_aload_n (pc := 1087) hx hb dL_law_1087 rfl (lv_at hl 0 rfl) ?_
    refine lv_iload_n (pc := 1088) hx hb dL_law_1088 rfl (lv_at hl 3 rfl) ?_
    refine lv_iconst (pc := 1089) (v := 1) hx hb dL_law_1089 (by decide) ?_
    refine lv_iadd (pc := 1090) hx hb dL_law_1090 ?_
    refine va_sld (pc := 1091) hx hb hX hbl hbA hI.2.2 hv1 dL_law_1091 ?_
    refine lv_aload_n (pc := 1092) hx hb dL_law_1092 rfl (lv_at hl 0 rfl) ?_
    refine lv_iload_n (pc := 1093) hx hb dL_law_1093 rfl (lv_at hl 3 rfl) ?_
    refine lv_iconst (pc := 1094) (v := 2) hx hb dL_law_1094 (by decide) ?_
    refine lv_iadd (pc := 1095) hx hb dL_law_1095 ?_
    refine va_sld (pc := 1096) hx hb hX hbl hbA hI.2.2 hv2 dL_law_1096 ?_
    refine lv_aload_n (pc := 1097) hx hb dL_law_1097 rfl (lv_at hl 0 rfl) ?_
    refine lv_iload_n (pc := 1098) hx hb dL_law_1098 rfl (lv_at hl 3 rfl) ?_
    refine lv_iconst (pc := 1099) (v := 3) hx hb dL_law_1099 (by decide) ?_
    refine lv_iadd (pc := 1100) hx hb dL_law_1100 ?_
    refine va_sld (pc := 1101) hx hb hX hbl hbA hI.2.2 hv3 dL_law_1101 ?_
    refine lv_if_eq (pc := 1102) (tgt := 1109) hx hb dL_law_1102 (by decide) (fun c9 => ?_) (fun c9 => ?_)
    rotate_left
    · exact absurd cz c9
    refine lv_iconst (pc := 1109) (v := 0) hx hb dL_law_1109 (by decide) ?_
    refine x_cVR (pc := 1110) (st1 := [.int rm.1, .int rx.1]) (w1 := (mw G g z_thrown rm.2 z_kept z_isKept z_moveMany z_moves z_hands z_troubles z_troubleSorts z_troubleNumbers z_asked z_paint z_leasts z_isSeen z_classMany z_types z_typeCounts z_typeMany z_text z_signs z_at z_lacks z_clauses z_begun z_letters z_firsts z_seconds z_aside z_sorts z_sizes z_items)) X E hI (c_X10_see l G g em) kv_L_131 hd_X10_see ⟨rfl, rfl⟩ (by decide) 0 rfl rfl rfl rfl hl.1 rfl (Nat.le_of_ble_eq_true rfl) dL_law_1110 ⟨by show C + 0 + 0 ≤ 600000; omega, by show S + 0 + 0 ≤ 7302249; omega⟩ rfl (fun H locs hI => ?_)
    refine lv_icmp_eq (pc := 1113) (tgt := 1492) hx hb dL_law_1113 (by decide) (fun c1 => ?_) (fun c1 => ?_)
    rotate_left
    · exact absurd er c1
    refine W.widen (k := C + 1) (n := S + 4096) (by omega) (by omega) ?_
    exact kk _ _ _ ⟨h, g, n_m0, n_m1, n_m2, n_s0, n_s1, n_s2, n_uq, n_wq, tp, ta, ti, x_hasImage, f_places, f_kinds, f_weights, f_howManyGenerators, f_generators, f_racks, rx.2.1, rx.2.2.1, rx.2.2.2.1, rx.2.2.2.2.1, rx.2.2.2.2.2, f_howManyEvents, f_eventWhat, f_eventNumber, g_places, g_kinds, g_weights, g_howManyGenerators, g_generators, g_racks, g_howManySeen, g_seenFirst, g_seenSecond, g_seenIs, g_seenPlaces, g_howManyEvents, g_eventWhat, g_eventNumber, v_keys, v_asFound, v_found, v_turns, v_places, p_keys, p_asFound, p_found, p_turns, p_places, i_sort, i_howOften, i_sorts, i_moves, n_u, u_leasts, u_howMany, u_known, n_w, w_leasts, w_howMany, w_known, t_signs, t_length, t_whole, t_begins, t_ends, r_sorts, r_numbers, r_length, sr, ln, it, z_thrown, rm.2, z_kept, z_isKept, z_moveMany, z_moves, z_hands, z_troubles, z_troubleSorts, z_troubleNumbers, z_asked, z_paint, z_leasts, z_isSeen, z_classMany, z_types, z_typeCounts, z_typeMany, z_text, z_signs, z_at, z_lacks, z_clauses, z_begun, z_letters, z_firsts, z_seconds, z_aside, z_sorts, z_sizes, z_items, htp, hR, hI, hl⟩
  · refine lv_iconst (pc := 1078) (v := 1) hx hb dL_law_1078 (by decide) ?_
    refine lv_goto (pc := 1079) (tgt := 1083) hx hb dL_law_1079 (by decide) ?_
    obtain ⟨rm, em, rx, ex, er, hR⟩ := op_see hR (xs (nI i + 1).toNatClampNeg) (xs (nI i + 2).toNatClampNeg) 1
    refine x_cVs (pc := 1083) (st1 := [.int rx.1]) (w1 := ((xb G h x_hasImage f_places f_kinds f_weights f_howManyGenerators f_generators f_racks rx.2.1 rx.2.2.1 rx.2.2.2.1 rx.2.2.2.2.1 rx.2.2.2.2.2 f_howManyEvents f_eventWhat f_eventNumber g_places g_kinds g_weights g_howManyGenerators g_generators g_racks g_howManySeen g_seenFirst g_seenSecond g_seenIs g_seenPlaces g_howManyEvents g_eventWhat g_eventNumber n_m0 n_m1 n_m2 n_s0 n_s1 n_s2 v_keys v_asFound v_found v_turns v_places p_keys p_asFound p_found p_turns p_places i_sort i_howOften i_sorts i_moves n_uq n_u u_leasts u_howMany u_known n_wq n_w w_leasts w_howMany w_known t_signs t_length t_whole t_begins t_ends r_sorts r_numbers r_length) ++ ((tl G h tp ta ti sr ln it) ++ (mw G g z_thrown z_s z_kept z_isKept z_moveMany z_moves z_hands z_troubles z_troubleSorts z_troubleNumbers z_asked z_paint z_leasts z_isSeen z_classMany z_types z_typeCounts z_typeMany z_text z_signs z_at z_lacks z_clauses z_begun z_letters z_firsts z_seconds z_aside z_sorts z_sizes z_items)))) X E hI (c_X9_see l G h ex) kv_L_127 hd_X9_see ⟨rfl, rfl⟩ (by decide) 0 rfl rfl rfl rfl hl.1 rfl (Nat.le_of_ble_eq_true rfl) dL_law_1083 ⟨by show C + 0 ≤ 600000; omega, by show S + 0 ≤ 7302249; omega⟩ rfl (fun H locs hI => ?_)
    refine lv_aload_n (pc := 1086) hx hb dL_law_1086 rfl (lv_at hl 2 rfl) ?_
    refine lv_aload_n (pc := 1087) hx hb dL_law_1087 rfl (lv_at hl 0 rfl) ?_
    refine lv_iload_n (pc := 1088) hx hb dL_law_1088 rfl (lv_at hl 3 rfl) ?_
    refine lv_iconst (pc := 1089) (v := 1) hx hb dL_law_1089 (by decide) ?_
    refine lv_iadd (pc := 1090) hx hb dL_law_1090 ?_
    refine va_sld (pc := 1091) hx hb hX hbl hbA hI.2.2 hv1 dL_law_1091 ?_
    refine lv_aload_n (pc := 1092) hx hb dL_law_1092 rfl (lv_at hl 0 rfl) ?_
    refine lv_iload_n (pc := 1093) hx hb dL_law_1093 rfl (lv_at hl 3 rfl) ?_
    refine lv_iconst (pc := 1094) (v := 2) hx hb dL_law_1094 (by decide) ?_
    refine lv_iadd (pc := 1095) hx hb dL_law_1095 ?_
    refine va_sld (pc := 1096) hx hb hX hbl hbA hI.2.2 hv2 dL_law_1096 ?_
    refine lv_aload_n (pc := 1097) hx hb dL_law_1097 rfl (lv_at hl 0 rfl) ?_
    refine lv_iload_n (pc := 1098) hx hb dL_law_1098 rfl (lv_at hl 3 rfl) ?_
    refine lv_iconst (pc := 1099) (v := 3) hx hb dL_law_1099 (by decide) ?_
    refine lv_iadd (pc := 1100) hx hb dL_law_1100 ?_
    refine va_sld (pc := 1101) hx hb hX hbl hbA hI.2.2 hv3 dL_law_1101 ?_
    refine lv_if_eq (pc := 1102) (tgt := 1109) hx hb dL_law_1102 (by decide) (fun c9 => ?_) (fun c9 => ?_)
    · exact absurd c9 cz
    refine lv_iconst (pc := 1105) (v := 1) hx hb dL_law_1105 (by decide) ?_
    refine lv_goto (pc := 1106) (tgt := 1110) hx hb dL_law_1106 (by decide) ?_
    refine x_cVR (pc := 1110) (st1 := [.int rm.1, .int rx.1]) (w1 := (mw G g z_thrown rm.2 z_kept z_isKept z_moveMany z_moves z_hands z_troubles z_troubleSorts z_troubleNumbers z_asked z_paint z_leasts z_isSeen z_classMany z_types z_typeCounts z_typeMany z_text z_signs z_at z_lacks z_clauses z_begun z_letters z_firsts z_seconds z_aside z_sorts z_sizes z_items)) X E hI (c_X10_see l G g em) kv_L_131 hd_X10_see ⟨rfl, rfl⟩ (by decide) 0 rfl rfl rfl rfl hl.1 rfl (Nat.le_of_ble_eq_true rfl) dL_law_1110 ⟨by show C + 0 + 0 ≤ 600000; omega, by show S + 0 + 0 ≤ 7302249; omega⟩ rfl (fun H locs hI => ?_)
    refine lv_icmp_eq (pc := 1113) (tgt := 1492) hx hb dL_law_1113 (by decide) (fun c1 => ?_) (fun c1 => ?_)
    rotate_left
    · exact absurd er c1
    refine W.widen (k := C + 1) (n := S + 4096) (by omega) (by omega) ?_
    exact kk _ _ _ ⟨h, g, n_m0, n_m1, n_m2, n_s0, n_s1, n_s2, n_uq, n_wq, tp, ta, ti, x_hasImage, f_places, f_kinds, f_weights, f_howManyGenerators, f_generators, f_racks, rx.2.1, rx.2.2.1, rx.2.2.2.1, rx.2.2.2.2.1, rx.2.2.2.2.2, f_howManyEvents, f_eventWhat, f_eventNumber, g_places, g_kinds, g_weights, g_howManyGenerators, g_generators, g_racks, g_howManySeen, g_seenFirst, g_seenSecond, g_seenIs, g_seenPlaces, g_howManyEvents, g_eventWhat, g_eventNumber, v_keys, v_asFound, v_found, v_turns, v_places, p_keys, p_asFound, p_found, p_turns, p_places, i_sort, i_howOften, i_sorts, i_moves, n_u, u_leasts, u_howMany, u_known, n_w, w_leasts, w_howMany, w_known, t_signs, t_length, t_whole, t_begins, t_ends, r_sorts, r_numbers, r_length, sr, ln, it, z_thrown, rm.2, z_kept, z_isKept, z_moveMany, z_moves, z_hands, z_troubles, z_troubleSorts, z_troubleNumbers, z_asked, z_paint, z_leasts, z_isSeen, z_classMany, z_types, z_typeCounts, z_typeMany, z_text, z_signs, z_at, z_lacks, z_clauses, z_begun, z_letters, z_firsts, z_seconds, z_aside, z_sorts, z_sizes, z_items, htp, hR, hI, hl⟩
set_option maxHeartbeats 8000000 in
set_option maxRecDepth 100000 in
theorem law_28 {rr : RT} (op_fits : OP_fits rr) {p : Program} {l : Launch} {e : Env} {s : State} {m : MethodId} {below : List Frame} {meth : Method} {c : Code} {b L : Nat} {xs : Nat → Int32} {A : Nat → Prop} {G : GX} {Q : State → Prop} (X : CX RL code 4 ret p s m #[Value.ref b] meth c) (E : EX G A s) (hX : va_X b L xs s s.heap) (hbl : b < s.heap.size) (hbA : ¬ A b) {i C S : Nat} (hi : i + 6 ≤ L) (hL : L ≤ 3072) (hC : C + 1 ≤ 600000) (hS : S + 4096 ≤ 7302249) {H : Heap} {locs : List Loc} {ls : Array Slot} (hLI : LI rr G A s b i H locs ls)
    (kk : ∀ (H : Heap) (locs : List Loc) (ls : Array Slot), LI rr G A s b i H locs ls → W p l e room_1 s m #[Value.ref b] below meth c H locs (C + 1) (S + 4096) Q (F0 m 1492 ls [])) : W p l e room_1 s m #[Value.ref b] below meth c H locs C S Q (F0 m 1118 ls []) := by
  obtain ⟨hx, hb, hml, hown, hts, hr, hlk⟩ := id X
  obtain ⟨h, g, n_m0, n_m1, n_m2, n_s0, n_s1, n_s2, n_uq, n_wq, tp, ta, ti, x_hasImage, f_places, f_kinds, f_weights, f_howManyGenerators, f_generators, f_racks, f_howManySeen, f_seenFirst, f_seenSecond, f_seenIs, f_seenPlaces, f_howManyEvents, f_eventWhat, f_eventNumber, g_places, g_kinds, g_weights, g_howManyGenerators, g_generators, g_racks, g_howManySeen, g_seenFirst, g_seenSecond, g_seenIs, g_seenPlaces, g_howManyEvents, g_eventWhat, g_eventNumber, v_keys, v_asFound, v_found, v_turns, v_places, p_keys, p_asFound, p_found, p_turns, p_places, i_sort, i_howOften, i_sorts, i_moves, n_u, u_leasts, u_howMany, u_known, n_w, w_leasts, w_howMany, w_known, t_signs, t_length, t_whole, t_begins, t_ends, r_sorts, r_numbers, r_length, sr, ln, it, z_thrown, z_s, z_kept, z_isKept, z_moveMany, z_moves, z_hands, z_troubles, z_troubleSorts, z_troubleNumbers, z_asked, z_paint, z_leasts, z_isSeen, z_classMany, z_types, z_typeCounts, z_typeMany, z_text, z_signs, z_at, z_lacks, z_clauses, z_begun, z_letters, z_firsts, z_seconds, z_aside, z_sorts, z_sizes, z_items, htp, hR, hI, hl⟩ := hLI
  have hv1 := q_v1 hi hL
  have hv2 := q_v2 hi hL
  have hv3 := q_v3 hi hL
  have hv4 := q_v4 hi hL
  have hv5 := q_v5 hi hL
  refine lv_aload_n (pc := 1118) hx hb dL_law_1118 rfl (lv_at hl 1 rfl) ?_
  refine lv_aload_n (pc := 1119) hx hb dL_law_1119 rfl (lv_at hl 0 rfl) ?_
  refine lv_iload_n (pc := 1120) hx hb dL_law_1120 rfl (lv_at hl 3 rfl) ?_
  refine lv_iconst (pc := 1121) (v := 1) hx hb dL_law_1121 (by decide) ?_
  refine lv_iadd (pc := 1122) hx hb dL_law_1122 ?_
  refine va_sld (pc := 1123) hx hb hX hbl hbA hI.2.2 hv1 dL_law_1123 ?_
  obtain ⟨rm, em, rx, ex, er, hR⟩ := op_fits hR (xs (nI i + 1).toNatClampNeg)
  refine x_cVs (pc := 1124) (st1 := [.int rx.1]) (w1 := ((xb G h x_hasImage f_places f_kinds f_weights f_howManyGenerators f_generators f_racks f_howManySeen f_seenFirst f_seenSecond f_seenIs f_seenPlaces f_howManyEvents f_eventWhat f_eventNumber g_places g_kinds g_weights g_howManyGenerators g_generators g_racks g_howManySeen g_seenFirst g_seenSecond g_seenIs g_seenPlaces g_howManyEvents g_eventWhat g_eventNumber n_m0 n_m1 n_m2 n_s0 n_s1 n_s2 v_keys v_asFound v_found v_turns v_places rx.2.1 rx.2.2.1 rx.2.2.2.1 rx.2.2.2.2.1 rx.2.2.2.2.2 i_sort i_howOften i_sorts i_moves n_uq n_u u_leasts u_howMany u_known n_wq n_w w_leasts w_howMany w_known t_signs t_length t_whole t_begins t_ends r_sorts r_numbers r_length) ++ ((tl G h tp ta ti sr ln it) ++ (mw G g z_thrown z_s z_kept z_isKept z_moveMany z_moves z_hands z_troubles z_troubleSorts z_troubleNumbers z_asked z_paint z_leasts z_isSeen z_classMany z_types z_typeCounts z_typeMany z_text z_signs z_at z_lacks z_clauses z_begun z_letters z_firsts z_seconds z_aside z_sorts z_sizes z_items)))) X E hI (c_X9_fits l G h ex) kv_L_132 hd_X9_fits ⟨rfl, rfl⟩ (by decide) 0 rfl rfl rfl rfl hl.1 rfl (Nat.le_of_ble_eq_true rfl) dL_law_1124 ⟨by show C + 0 ≤ 600000; omega, by show S + 0 ≤ 7302249; omega⟩ rfl (fun H locs hI => ?_)
  refine lv_aload_n (pc := 1127) hx hb dL_law_1127 rfl (lv_at hl 2 rfl) ?_
  refine lv_aload_n (pc := 1128) hx hb dL_law_1128 rfl (lv_at hl 0 rfl) ?_
  refine lv_iload_n (pc := 1129) hx hb dL_law_1129 rfl (lv_at hl 3 rfl) ?_
  refine lv_iconst (pc := 1130) (v := 1) hx hb dL_law_1130 (by decide) ?_
  refine lv_iadd (pc := 1131) hx hb dL_law_1131 ?_
  refine va_sld (pc := 1132) hx hb hX hbl hbA hI.2.2 hv1 dL_law_1132 ?_
  refine x_cVR (pc := 1133) (st1 := [.int rm.1, .int rx.1]) (w1 := (mw G g z_thrown z_s z_kept z_isKept rm.2.1 rm.2.2.1 rm.2.2.2.1 z_troubles z_troubleSorts z_troubleNumbers z_asked rm.2.2.2.2 z_leasts z_isSeen z_classMany z_types z_typeCounts z_typeMany z_text z_signs z_at z_lacks z_clauses z_begun z_letters z_firsts z_seconds z_aside z_sorts z_sizes z_items)) X E hI (c_X10_fits l G g em) kv_L_135 hd_X10_fits ⟨rfl, rfl⟩ (by decide) 0 rfl rfl rfl rfl hl.1 rfl (Nat.le_of_ble_eq_true rfl) dL_law_1133 ⟨by show C + 0 + 0 ≤ 600000; omega, by show S + 0 + 0 ≤ 7302249; omega⟩ rfl (fun H locs hI => ?_)
  refine lv_icmp_eq (pc := 1136) (tgt := 1492) hx hb dL_law_1136 (by decide) (fun c1 => ?_) (fun c1 => ?_)
  rotate_left
  · exact absurd er c1
  refine W.widen (k := C + 1) (n := S + 4096) (by omega) (by omega) ?_
  exact kk _ _ _ ⟨h, g, n_m0, n_m1, n_m2, n_s0, n_s1, n_s2, n_uq, n_wq, tp, ta, ti, x_hasImage, f_places, f_kinds, f_weights, f_howManyGenerators, f_generators, f_racks, f_howManySeen, f_seenFirst, f_seenSecond, f_seenIs, f_seenPlaces, f_howManyEvents, f_eventWhat, f_eventNumber, g_places, g_kinds, g_weights, g_howManyGenerators, g_generators, g_racks, g_howManySeen, g_seenFirst, g_seenSecond, g_seenIs, g_seenPlaces, g_howManyEvents, g_eventWhat, g_eventNumber, v_keys, v_asFound, v_found, v_turns, v_places, rx.2.1, rx.2.2.1, rx.2.2.2.1, rx.2.2.2.2.1, rx.2.2.2.2.2, i_sort, i_howOften, i_sorts, i_moves, n_u, u_leasts, u_howMany, u_known, n_w, w_leasts, w_howMany, w_known, t_signs, t_length, t_whole, t_begins, t_ends, r_sorts, r_numbers, r_length, sr, ln, it, z_thrown, z_s, z_kept, z_isKept, rm.2.1, rm.2.2.1, rm.2.2.2.1, z_troubles, z_troubleSorts, z_troubleNumbers, z_asked, rm.2.2.2.2, z_leasts, z_isSeen, z_classMany, z_types, z_typeCounts, z_typeMany, z_text, z_signs, z_at, z_lacks, z_clauses, z_begun, z_letters, z_firsts, z_seconds, z_aside, z_sorts, z_sizes, z_items, htp, hR, hI, hl⟩
set_option maxHeartbeats 8000000 in
set_option maxRecDepth 100000 in
theorem law_29 {rr : RT} (op_event : OP_event rr) {p : Program} {l : Launch} {e : Env} {s : State} {m : MethodId} {below : List Frame} {meth : Method} {c : Code} {b L : Nat} {xs : Nat → Int32} {A : Nat → Prop} {G : GX} {Q : State → Prop} (X : CX RL code 4 ret p s m #[Value.ref b] meth c) (E : EX G A s) (hX : va_X b L xs s s.heap) (hbl : b < s.heap.size) (hbA : ¬ A b) {i C S : Nat} (hi : i + 6 ≤ L) (hL : L ≤ 3072) (hC : C + 1 ≤ 600000) (hS : S + 4096 ≤ 7302249) {H : Heap} {locs : List Loc} {ls : Array Slot} (hLI : LI rr G A s b i H locs ls)
    (kk : ∀ (H : Heap) (locs : List Loc) (ls : Array Slot), LI rr G A s b i H locs ls → W p l e room_1 s m #[Value.ref b] below meth c H locs (C + 1) (S + 4096) Q (F0 m 1492 ls [])) : W p l e room_1 s m #[Value.ref b] below meth c H locs C S Q (F0 m 1141 ls []) := by
  obtain ⟨hx, hb, hml, hown, hts, hr, hlk⟩ := id X
  obtain ⟨h, g, n_m0, n_m1, n_m2, n_s0, n_s1, n_s2, n_uq, n_wq, tp, ta, ti, x_hasImage, f_places, f_kinds, f_weights, f_howManyGenerators, f_generators, f_racks, f_howManySeen, f_seenFirst, f_seenSecond, f_seenIs, f_seenPlaces, f_howManyEvents, f_eventWhat, f_eventNumber, g_places, g_kinds, g_weights, g_howManyGenerators, g_generators, g_racks, g_howManySeen, g_seenFirst, g_seenSecond, g_seenIs, g_seenPlaces, g_howManyEvents, g_eventWhat, g_eventNumber, v_keys, v_asFound, v_found, v_turns, v_places, p_keys, p_asFound, p_found, p_turns, p_places, i_sort, i_howOften, i_sorts, i_moves, n_u, u_leasts, u_howMany, u_known, n_w, w_leasts, w_howMany, w_known, t_signs, t_length, t_whole, t_begins, t_ends, r_sorts, r_numbers, r_length, sr, ln, it, z_thrown, z_s, z_kept, z_isKept, z_moveMany, z_moves, z_hands, z_troubles, z_troubleSorts, z_troubleNumbers, z_asked, z_paint, z_leasts, z_isSeen, z_classMany, z_types, z_typeCounts, z_typeMany, z_text, z_signs, z_at, z_lacks, z_clauses, z_begun, z_letters, z_firsts, z_seconds, z_aside, z_sorts, z_sizes, z_items, htp, hR, hI, hl⟩ := hLI
  have hv1 := q_v1 hi hL
  have hv2 := q_v2 hi hL
  have hv3 := q_v3 hi hL
  have hv4 := q_v4 hi hL
  have hv5 := q_v5 hi hL
  refine lv_aload_n (pc := 1141) hx hb dL_law_1141 rfl (lv_at hl 1 rfl) ?_
  refine lv_aload_n (pc := 1142) hx hb dL_law_1142 rfl (lv_at hl 0 rfl) ?_
  refine lv_iload_n (pc := 1143) hx hb dL_law_1143 rfl (lv_at hl 3 rfl) ?_
  refine lv_iconst (pc := 1144) (v := 1) hx hb dL_law_1144 (by decide) ?_
  refine lv_iadd (pc := 1145) hx hb dL_law_1145 ?_
  refine va_sld (pc := 1146) hx hb hX hbl hbA hI.2.2 hv1 dL_law_1146 ?_
  refine lv_aload_n (pc := 1147) hx hb dL_law_1147 rfl (lv_at hl 0 rfl) ?_
  refine lv_iload_n (pc := 1148) hx hb dL_law_1148 rfl (lv_at hl 3 rfl) ?_
  refine lv_iconst (pc := 1149) (v := 2) hx hb dL_law_1149 (by decide) ?_
  refine lv_iadd (pc := 1150) hx hb dL_law_1150 ?_
  refine va_sld (pc := 1151) hx hb hX hbl hbA hI.2.2 hv2 dL_law_1151 ?_
  obtain ⟨rm, em, rx, ex, er, hR⟩ := op_event hR (xs (nI i + 1).toNatClampNeg) (xs (nI i + 2).toNatClampNeg)
  refine x_cVs (pc := 1152) (st1 := [.int rx.1]) (w1 := ((xb G h x_hasImage f_places f_kinds f_weights f_howManyGenerators f_generators f_racks f_howManySeen f_seenFirst f_seenSecond f_seenIs f_seenPlaces rx.2.1 rx.2.2.1 rx.2.2.2 g_places g_kinds g_weights g_howManyGenerators g_generators g_racks g_howManySeen g_seenFirst g_seenSecond g_seenIs g_seenPlaces g_howManyEvents g_eventWhat g_eventNumber n_m0 n_m1 n_m2 n_s0 n_s1 n_s2 v_keys v_asFound v_found v_turns v_places p_keys p_asFound p_found p_turns p_places i_sort i_howOften i_sorts i_moves n_uq n_u u_leasts u_howMany u_known n_wq n_w w_leasts w_howMany w_known t_signs t_length t_whole t_begins t_ends r_sorts r_numbers r_length) ++ ((tl G h tp ta ti sr ln it) ++ (mw G g z_thrown z_s z_kept z_isKept z_moveMany z_moves z_hands z_troubles z_troubleSorts z_troubleNumbers z_asked z_paint z_leasts z_isSeen z_classMany z_types z_typeCounts z_typeMany z_text z_signs z_at z_lacks z_clauses z_begun z_letters z_firsts z_seconds z_aside z_sorts z_sizes z_items)))) X E hI (c_X9_event l G h ex) kv_L_136 hd_X9_event ⟨rfl, rfl⟩ (by decide) 0 rfl rfl rfl rfl hl.1 rfl (Nat.le_of_ble_eq_true rfl) dL_law_1152 ⟨by show C + 0 ≤ 600000; omega, by show S + 0 ≤ 7302249; omega⟩ rfl (fun H locs hI => ?_)
  refine lv_aload_n (pc := 1155) hx hb dL_law_1155 rfl (lv_at hl 2 rfl) ?_
  refine lv_aload_n (pc := 1156) hx hb dL_law_1156 rfl (lv_at hl 0 rfl) ?_
  refine lv_iload_n (pc := 1157) hx hb dL_law_1157 rfl (lv_at hl 3 rfl) ?_
  refine lv_iconst (pc := 1158) (v := 1) hx hb dL_law_1158 (by decide) ?_
  refine lv_iadd (pc := 1159) hx hb dL_law_1159 ?_
  refine va_sld (pc := 1160) hx hb hX hbl hbA hI.2.2 hv1 dL_law_1160 ?_
  refine lv_aload_n (pc := 1161) hx hb dL_law_1161 rfl (lv_at hl 0 rfl) ?_
  refine lv_iload_n (pc := 1162) hx hb dL_law_1162 rfl (lv_at hl 3 rfl) ?_
  refine lv_iconst (pc := 1163) (v := 2) hx hb dL_law_1163 (by decide) ?_
  refine lv_iadd (pc := 1164) hx hb dL_law_1164 ?_
  refine va_sld (pc := 1165) hx hb hX hbl hbA hI.2.2 hv2 dL_law_1165 ?_
  refine x_cVR (pc := 1166) (st1 := [.int rm.1, .int rx.1]) (w1 := (mw G g z_thrown rm.2 z_kept z_isKept z_moveMany z_moves z_hands z_troubles z_troubleSorts z_troubleNumbers z_asked z_paint z_leasts z_isSeen z_classMany z_types z_typeCounts z_typeMany z_text z_signs z_at z_lacks z_clauses z_begun z_letters z_firsts z_seconds z_aside z_sorts z_sizes z_items)) X E hI (c_X10_event l G g em) kv_L_139 hd_X10_event ⟨rfl, rfl⟩ (by decide) 0 rfl rfl rfl rfl hl.1 rfl (Nat.le_of_ble_eq_true rfl) dL_law_1166 ⟨by show C + 0 + 0 ≤ 600000; omega, by show S + 0 + 0 ≤ 7302249; omega⟩ rfl (fun H locs hI => ?_)
  refine lv_icmp_eq (pc := 1169) (tgt := 1492) hx hb dL_law_1169 (by decide) (fun c1 => ?_) (fun c1 => ?_)
  rotate_left
  · exact absurd er c1
  refine W.widen (k := C + 1) (n := S + 4096) (by omega) (by omega) ?_
  exact kk _ _ _ ⟨h, g, n_m0, n_m1, n_m2, n_s0, n_s1, n_s2, n_uq, n_wq, tp, ta, ti, x_hasImage, f_places, f_kinds, f_weights, f_howManyGenerators, f_generators, f_racks, f_howManySeen, f_seenFirst, f_seenSecond, f_seenIs, f_seenPlaces, rx.2.1, rx.2.2.1, rx.2.2.2, g_places, g_kinds, g_weights, g_howManyGenerators, g_generators, g_racks, g_howManySeen, g_seenFirst, g_seenSecond, g_seenIs, g_seenPlaces, g_howManyEvents, g_eventWhat, g_eventNumber, v_keys, v_asFound, v_found, v_turns, v_places, p_keys, p_asFound, p_found, p_turns, p_places, i_sort, i_howOften, i_sorts, i_moves, n_u, u_leasts, u_howMany, u_known, n_w, w_leasts, w_howMany, w_known, t_signs, t_length, t_whole, t_begins, t_ends, r_sorts, r_numbers, r_length, sr, ln, it, z_thrown, rm.2, z_kept, z_isKept, z_moveMany, z_moves, z_hands, z_troubles, z_troubleSorts, z_troubleNumbers, z_asked, z_paint, z_leasts, z_isSeen, z_classMany, z_types, z_typeCounts, z_typeMany, z_text, z_signs, z_at, z_lacks, z_clauses, z_begun, z_letters, z_firsts, z_seconds, z_aside, z_sorts, z_sizes, z_items, htp, hR, hI, hl⟩
set_option maxHeartbeats 8000000 in
set_option maxRecDepth 100000 in
theorem law_30 {rr : RT} (op_after : OP_after rr) {p : Program} {l : Launch} {e : Env} {s : State} {m : MethodId} {below : List Frame} {meth : Method} {c : Code} {b L : Nat} {xs : Nat → Int32} {A : Nat → Prop} {G : GX} {Q : State → Prop} (X : CX RL code 4 ret p s m #[Value.ref b] meth c) (E : EX G A s) (hX : va_X b L xs s s.heap) (hbl : b < s.heap.size) (hbA : ¬ A b) {i C S : Nat} (hi : i + 6 ≤ L) (hL : L ≤ 3072) (hC : C + 1 ≤ 600000) (hS : S + 4096 ≤ 7302249) {H : Heap} {locs : List Loc} {ls : Array Slot} (hLI : LI rr G A s b i H locs ls)
    (kk : ∀ (H : Heap) (locs : List Loc) (ls : Array Slot), LI rr G A s b i H locs ls → W p l e room_1 s m #[Value.ref b] below meth c H locs (C + 1) (S + 4096) Q (F0 m 1492 ls [])) : W p l e room_1 s m #[Value.ref b] below meth c H locs C S Q (F0 m 1174 ls []) := by
  obtain ⟨hx, hb, hml, hown, hts, hr, hlk⟩ := id X
  obtain ⟨h, g, n_m0, n_m1, n_m2, n_s0, n_s1, n_s2, n_uq, n_wq, tp, ta, ti, x_hasImage, f_places, f_kinds, f_weights, f_howManyGenerators, f_generators, f_racks, f_howManySeen, f_seenFirst, f_seenSecond, f_seenIs, f_seenPlaces, f_howManyEvents, f_eventWhat, f_eventNumber, g_places, g_kinds, g_weights, g_howManyGenerators, g_generators, g_racks, g_howManySeen, g_seenFirst, g_seenSecond, g_seenIs, g_seenPlaces, g_howManyEvents, g_eventWhat, g_eventNumber, v_keys, v_asFound, v_found, v_turns, v_places, p_keys, p_asFound, p_found, p_turns, p_places, i_sort, i_howOften, i_sorts, i_moves, n_u, u_leasts, u_howMany, u_known, n_w, w_leasts, w_howMany, w_known, t_signs, t_length, t_whole, t_begins, t_ends, r_sorts, r_numbers, r_length, sr, ln, it, z_thrown, z_s, z_kept, z_isKept, z_moveMany, z_moves, z_hands, z_troubles, z_troubleSorts, z_troubleNumbers, z_asked, z_paint, z_leasts, z_isSeen, z_classMany, z_types, z_typeCounts, z_typeMany, z_text, z_signs, z_at, z_lacks, z_clauses, z_begun, z_letters, z_firsts, z_seconds, z_aside, z_sorts, z_sizes, z_items, htp, hR, hI, hl⟩ := hLI
  have hv1 := q_v1 hi hL
  have hv2 := q_v2 hi hL
  have hv3 := q_v3 hi hL
  have hv4 := q_v4 hi hL
  have hv5 := q_v5 hi hL
  refine lv_aload_n (pc := 1174) hx hb dL_law_1174 rfl (lv_at hl 1 rfl) ?_
  obtain ⟨rm, em, rx, ex, er, hR⟩ := op_after hR 
  refine x_cVs (pc := 1175) (st1 := [.int rx.1]) (w1 := ((xb G h x_hasImage f_places f_kinds f_weights f_howManyGenerators f_generators f_racks f_howManySeen f_seenFirst f_seenSecond f_seenIs f_seenPlaces f_howManyEvents f_eventWhat f_eventNumber g_places g_kinds g_weights g_howManyGenerators g_generators g_racks g_howManySeen g_seenFirst g_seenSecond g_seenIs g_seenPlaces g_howManyEvents g_eventWhat g_eventNumber n_m0 n_m1 n_m2 n_s0 n_s1 n_s2 v_keys v_asFound v_found v_turns v_places rx.2.1 rx.2.2.1 rx.2.2.2.1 rx.2.2.2.2.1 rx.2.2.2.2.2.1 rx.2.2.2.2.2.2.1 rx.2.2.2.2.2.2.2.1 rx.2.2.2.2.2.2.2.2.1 rx.2.2.2.2.2.2.2.2.2 n_uq n_u u_leasts u_howMany u_known n_wq n_w w_leasts w_howMany w_known t_signs t_length t_whole t_begins t_ends r_sorts r_numbers r_length) ++ ((tl G h tp ta ti sr ln it) ++ (mw G g z_thrown z_s z_kept z_isKept z_moveMany z_moves z_hands z_troubles z_troubleSorts z_troubleNumbers z_asked z_paint z_leasts z_isSeen z_classMany z_types z_typeCounts z_typeMany z_text z_signs z_at z_lacks z_clauses z_begun z_letters z_firsts z_seconds z_aside z_sorts z_sizes z_items)))) X E hI (c_X9_after l G h ex) kv_L_140 hd_X9_after ⟨rfl, rfl⟩ (by decide) 0 rfl rfl rfl rfl hl.1 rfl (Nat.le_of_ble_eq_true rfl) dL_law_1175 ⟨by show C + 0 ≤ 600000; omega, by show S + 0 ≤ 7302249; omega⟩ rfl (fun H locs hI => ?_)
  refine lv_aload_n (pc := 1178) hx hb dL_law_1178 rfl (lv_at hl 2 rfl) ?_
  refine x_cVR (pc := 1179) (st1 := [.int rm.1, .int rx.1]) (w1 := (mw G g z_thrown rm.2.1 z_kept z_isKept rm.2.2.1 rm.2.2.2.1 rm.2.2.2.2.1 z_troubles z_troubleSorts z_troubleNumbers z_asked rm.2.2.2.2.2.1 rm.2.2.2.2.2.2.1 rm.2.2.2.2.2.2.2.1 rm.2.2.2.2.2.2.2.2.1 z_types z_typeCounts z_typeMany z_text z_signs z_at z_lacks z_clauses z_begun z_letters z_firsts z_seconds rm.2.2.2.2.2.2.2.2.2 z_sorts z_sizes z_items)) X E hI (c_X10_after l G g em) kv_L_143 hd_X10_after ⟨rfl, rfl⟩ (by decide) 0 rfl rfl rfl rfl hl.1 rfl (Nat.le_of_ble_eq_true rfl) dL_law_1179 ⟨by show C + 0 + 0 ≤ 600000; omega, by show S + 0 + 0 ≤ 7302249; omega⟩ rfl (fun H locs hI => ?_)
  refine lv_icmp_eq (pc := 1182) (tgt := 1492) hx hb dL_law_1182 (by decide) (fun c1 => ?_) (fun c1 => ?_)
  rotate_left
  · exact absurd er c1
  refine W.widen (k := C + 1) (n := S + 4096) (by omega) (by omega) ?_
  exact kk _ _ _ ⟨h, g, n_m0, n_m1, n_m2, n_s0, n_s1, n_s2, n_uq, n_wq, tp, ta, ti, x_hasImage, f_places, f_kinds, f_weights, f_howManyGenerators, f_generators, f_racks, f_howManySeen, f_seenFirst, f_seenSecond, f_seenIs, f_seenPlaces, f_howManyEvents, f_eventWhat, f_eventNumber, g_places, g_kinds, g_weights, g_howManyGenerators, g_generators, g_racks, g_howManySeen, g_seenFirst, g_seenSecond, g_seenIs, g_seenPlaces, g_howManyEvents, g_eventWhat, g_eventNumber, v_keys, v_asFound, v_found, v_turns, v_places, rx.2.1, rx.2.2.1, rx.2.2.2.1, rx.2.2.2.2.1, rx.2.2.2.2.2.1, rx.2.2.2.2.2.2.1, rx.2.2.2.2.2.2.2.1, rx.2.2.2.2.2.2.2.2.1, rx.2.2.2.2.2.2.2.2.2, n_u, u_leasts, u_howMany, u_known, n_w, w_leasts, w_howMany, w_known, t_signs, t_length, t_whole, t_begins, t_ends, r_sorts, r_numbers, r_length, sr, ln, it, z_thrown, rm.2.1, z_kept, z_isKept, rm.2.2.1, rm.2.2.2.1, rm.2.2.2.2.1, z_troubles, z_troubleSorts, z_troubleNumbers, z_asked, rm.2.2.2.2.2.1, rm.2.2.2.2.2.2.1, rm.2.2.2.2.2.2.2.1, rm.2.2.2.2.2.2.2.2.1, z_types, z_typeCounts, z_typeMany, z_text, z_signs, z_at, z_lacks, z_clauses, z_begun, z_letters, z_firsts, z_seconds, rm.2.2.2.2.2.2.2.2.2, z_sorts, z_sizes, z_items, htp, hR, hI, hl⟩
