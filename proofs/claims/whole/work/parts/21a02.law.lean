set_option maxHeartbeats 8000000 in
set_option maxRecDepth 100000 in
theorem law_12 {rr : RT} (op_many : OP_many rr) {p : Program} {l : Launch} {e : Env} {s : State} {m : MethodId} {below : List Frame} {meth : Method} {c : Code} {b L : Nat} {xs : Nat → Int32} {A : Nat → Prop} {G : GX} {Q : State → Prop} (X : CX RL code 4 ret p s m #[Value.ref b] meth c) (E : EX G A s) (hX : va_X b L xs s s.heap) (hbl : b < s.heap.size) (hbA : ¬ A b) {i C S : Nat} (hi : i + 6 ≤ L) (hL : L ≤ 3072) (hC : C + 1 ≤ room_1.cells) (hS : S + 4096 ≤ room_1.slots) {H : Heap} {locs : List Loc} {ls : Array Slot} {h : Nat → Nat} {g : Nat → Nat} {n_m0 : Nat} {n_m1 : Nat} {n_m2 : Nat} {n_s0 : Nat} {n_s1 : Nat} {n_s2 : Nat} {n_uq : Nat} {n_wq : Nat} {tp : Nat → Option Nat} {ta : Nat → Nat} {ti : Nat → Nat} {x_hasImage : Int32} {f_places : Int32} {f_kinds : Int32} {f_weights : Nat → Int32} {f_howManyGenerators : Int32} {f_generators : Nat → Int32} {f_racks : Nat → Int32} {f_howManySeen : Int32} {f_seenFirst : Nat → Int32} {f_seenSecond : Nat → Int32} {f_seenIs : Nat → Int32} {f_seenPlaces : Nat → Int32} {f_howManyEvents : Int32} {f_eventWhat : Nat → Int32} {f_eventNumber : Nat → Int32} {g_places : Int32} {g_kinds : Int32} {g_weights : Nat → Int32} {g_howManyGenerators : Int32} {g_generators : Nat → Int32} {g_racks : Nat → Int32} {g_howManySeen : Int32} {g_seenFirst : Nat → Int32} {g_seenSecond : Nat → Int32} {g_seenIs : Nat → Int32} {g_seenPlaces : Nat → Int32} {g_howManyEvents : Int32} {g_eventWhat : Nat → Int32} {g_eventNumber : Nat → Int32} {v_keys : Nat → Int32} {v_asFound : Nat → Int32} {v_found : Int32} {v_turns : Int32} {v_places : Int32} {p_keys : Nat → Int32} {p_asFound : Nat → Int32} {p_found : Int32} {p_turns : Int32} {p_places : Int32} {i_sort : Nat → Int32} {i_howOften : Nat → Int32} {i_sorts : Int32} {i_moves : Int32} {n_u : Nat} {u_leasts : Nat → Int32} {u_howMany : Int32} {u_known : Int32} {n_w : Nat} {w_leasts : Nat → Int32} {w_howMany : Int32} {w_known : Int32} {t_signs : Nat → Int32} {t_length : Int32} {t_whole : Int32} {t_begins : Nat → Int32} {t_ends : Nat → Int32} {r_sorts : Nat → Int32} {r_numbers : Nat → Int32} {r_length : Int32} {sr : Nat → Int32} {ln : Nat → Int32} {it : Nat → Nat → Int64} {z_thrown : Int32} {z_s : Nat → Int32} {z_kept : Nat → Int32} {z_isKept : Int32} {z_moveMany : Int32} {z_moves : Nat → Int32} {z_hands : Nat → Int32} {z_troubles : Int32} {z_troubleSorts : Nat → Int32} {z_troubleNumbers : Nat → Int32} {z_asked : Nat → Int32} {z_paint : Nat → Int32} {z_leasts : Nat → Int32} {z_isSeen : Nat → Int32} {z_classMany : Int32} {z_types : Nat → Int32} {z_typeCounts : Nat → Int32} {z_typeMany : Int32} {z_text : Nat → Int32} {z_signs : Int32} {z_at : Int32} {z_lacks : Int32} {z_clauses : Int32} {z_begun : Int32} {z_letters : Nat → Int32} {z_firsts : Nat → Int32} {z_seconds : Nat → Int32} {z_aside : Nat → Int32} {z_sorts : Nat → Int32} {z_sizes : Nat → Int32} {z_items : Nat → Int64} (htp : ∀ j : Nat, j < 6 → tp j = some (ta j)) (hR : rr x_hasImage f_places f_kinds f_weights f_howManyGenerators f_generators f_racks f_howManySeen f_seenFirst f_seenSecond f_seenIs f_seenPlaces f_howManyEvents f_eventWhat f_eventNumber g_places g_kinds g_weights g_howManyGenerators g_generators g_racks g_howManySeen g_seenFirst g_seenSecond g_seenIs g_seenPlaces g_howManyEvents g_eventWhat g_eventNumber v_keys v_asFound v_found v_turns v_places p_keys p_asFound p_found p_turns p_places i_sort i_howOften i_sorts i_moves n_u u_leasts u_howMany u_known n_w w_leasts w_howMany w_known t_signs t_length t_whole t_begins t_ends r_sorts r_numbers r_length sr ln it z_thrown z_s z_kept z_isKept z_moveMany z_moves z_hands z_troubles z_troubleSorts z_troubleNumbers z_asked z_paint z_leasts z_isSeen z_classMany z_types z_typeCounts z_typeMany z_text z_signs z_at z_lacks z_clauses z_begun z_letters z_firsts z_seconds z_aside z_sorts z_sizes z_items) (hI : IN A G ((xb G h x_hasImage f_places f_kinds f_weights f_howManyGenerators f_generators f_racks f_howManySeen f_seenFirst f_seenSecond f_seenIs f_seenPlaces f_howManyEvents f_eventWhat f_eventNumber g_places g_kinds g_weights g_howManyGenerators g_generators g_racks g_howManySeen g_seenFirst g_seenSecond g_seenIs g_seenPlaces g_howManyEvents g_eventWhat g_eventNumber n_m0 n_m1 n_m2 n_s0 n_s1 n_s2 v_keys v_asFound v_found v_turns v_places p_keys p_asFound p_found p_turns p_places i_sort i_howOften i_sorts i_moves n_uq n_u u_leasts u_howMany u_known n_wq n_w w_leasts w_howMany w_known t_signs t_length t_whole t_begins t_ends r_sorts r_numbers r_length) ++ ((tl G h tp ta ti sr ln it) ++ (mw G g z_thrown z_s z_kept z_isKept z_moveMany z_moves z_hands z_troubles z_troubleSorts z_troubleNumbers z_asked z_paint z_leasts z_isSeen z_classMany z_types z_typeCounts z_typeMany z_text z_signs z_at z_lacks z_clauses z_begun z_letters z_firsts z_seconds z_aside z_sorts z_sizes z_items))) s H locs) (hl : lv_has ls 4 [(0, .ref b), (1, .ref (h 0)), (2, .ref (g 0)), (3, .int (nI i))])
    (kk : ∀ (H : Heap) (locs : List Loc) (ls : Array Slot), LI rr G A s b i H locs ls → W p l e room_1 s m #[Value.ref b] below meth c H locs (C + 1) (S + 4096) Q (F0 m 1492 ls [])) : W p l e room_1 s m #[Value.ref b] below meth c H locs C S Q (F0 m 581 ls []) := by
  obtain ⟨hx, hb, hml, hown, hts, hr, hlk⟩ := id X
  have hv1 := q_v1 hi hL
  have hv2 := q_v2 hi hL
  have hv3 := q_v3 hi hL
  have hv4 := q_v4 hi hL
  have hv5 := q_v5 hi hL
  refine lv_aload_n (pc := 581) hx hb dL_law_581 rfl (lv_at hl 1 rfl) ?_
  refine lv_aload_n (pc := 582) hx hb dL_law_582 rfl (lv_at hl 0 rfl) ?_
  refine lv_iload_n (pc := 583) hx hb dL_law_583 rfl (lv_at hl 3 rfl) ?_
  refine lv_iconst (pc := 584) (v := 1) hx hb dL_law_584 (by decide) ?_
  refine lv_iadd (pc := 585) hx hb dL_law_585 ?_
  refine va_sld (pc := 586) hx hb hX hbl hbA hI.2.2 hv1 dL_law_586 ?_
  refine lv_aload_n (pc := 587) hx hb dL_law_587 rfl (lv_at hl 0 rfl) ?_
  refine lv_iload_n (pc := 588) hx hb dL_law_588 rfl (lv_at hl 3 rfl) ?_
  refine lv_iconst (pc := 589) (v := 2) hx hb dL_law_589 (by decide) ?_
  refine lv_iadd (pc := 590) hx hb dL_law_590 ?_
  refine va_sld (pc := 591) hx hb hX hbl hbA hI.2.2 hv2 dL_law_591 ?_
  obtain ⟨rm, em, rx, ex, er, hR⟩ := op_many hR (xs (nI i + 1).toNatClampNeg) (xs (nI i + 2).toNatClampNeg)
  refine x_cVs (pc := 592) (st1 := [.long rx.1]) (w1 := ((xb G h x_hasImage f_places f_kinds f_weights f_howManyGenerators f_generators f_racks f_howManySeen f_seenFirst f_seenSecond f_seenIs f_seenPlaces f_howManyEvents f_eventWhat f_eventNumber g_places g_kinds g_weights g_howManyGenerators g_generators g_racks g_howManySeen g_seenFirst g_seenSecond g_seenIs g_seenPlaces g_howManyEvents g_eventWhat g_eventNumber n_m0 n_m1 n_m2 n_s0 n_s1 n_s2 v_keys v_asFound v_found v_turns v_places p_keys p_asFound p_found p_turns p_places rx.2.1 rx.2.2.1 rx.2.2.2.1 rx.2.2.2.2 n_uq n_u u_leasts u_howMany u_known n_wq n_w w_leasts w_howMany w_known t_signs t_length t_whole t_begins t_ends r_sorts r_numbers r_length) ++ ((tl G h tp ta ti sr ln it) ++ (mw G g z_thrown z_s z_kept z_isKept z_moveMany z_moves z_hands z_troubles z_troubleSorts z_troubleNumbers z_asked z_paint z_leasts z_isSeen z_classMany z_types z_typeCounts z_typeMany z_text z_signs z_at z_lacks z_clauses z_begun z_letters z_firsts z_seconds z_aside z_sorts z_sizes z_items)))) X E hI (c_X9_many l G h ex) kv_L_66 hd_X9_many ⟨rfl, rfl⟩ (by decide) 0 rfl rfl rfl rfl hl.1 rfl (Nat.le_of_ble_eq_true rfl) dL_law_592 ⟨by show C + 0 ≤ room_1.cells; omega, by show S + 0 ≤ room_1.slots; omega⟩ rfl (fun H locs hI => ?_)
  refine lv_aload_n (pc := 595) hx hb dL_law_595 rfl (lv_at hl 2 rfl) ?_
  refine lv_aload_n (pc := 596) hx hb dL_law_596 rfl (lv_at hl 0 rfl) ?_
  refine lv_iload_n (pc := 597) hx hb dL_law_597 rfl (lv_at hl 3 rfl) ?_
  refine lv_iconst (pc := 598) (v := 1) hx hb dL_law_598 (by decide) ?_
  refine lv_iadd (pc := 599) hx hb dL_law_599 ?_
  refine va_sld (pc := 600) hx hb hX hbl hbA hI.2.2 hv1 dL_law_600 ?_
  refine lv_aload_n (pc := 601) hx hb dL_law_601 rfl (lv_at hl 0 rfl) ?_
  refine lv_iload_n (pc := 602) hx hb dL_law_602 rfl (lv_at hl 3 rfl) ?_
  refine lv_iconst (pc := 603) (v := 2) hx hb dL_law_603 (by decide) ?_
  refine lv_iadd (pc := 604) hx hb dL_law_604 ?_
  refine va_sld (pc := 605) hx hb hX hbl hbA hI.2.2 hv2 dL_law_605 ?_
  refine x_cVR (pc := 606) (st1 := [.long rm.1, .long rx.1]) (w1 := (mw G g z_thrown z_s z_kept z_isKept rm.2.1 rm.2.2.1 rm.2.2.2.1 z_troubles z_troubleSorts z_troubleNumbers rm.2.2.2.2 z_paint z_leasts z_isSeen z_classMany z_types z_typeCounts z_typeMany z_text z_signs z_at z_lacks z_clauses z_begun z_letters z_firsts z_seconds z_aside z_sorts z_sizes z_items)) X E hI (c_X10_many l G g em) kv_L_70 hd_X10_many ⟨rfl, rfl⟩ (by decide) 0 rfl rfl rfl rfl hl.1 rfl (Nat.le_of_ble_eq_true rfl) dL_law_606 ⟨by show C + 0 + 0 ≤ room_1.cells; omega, by show S + 0 + 0 ≤ room_1.slots; omega⟩ rfl (fun H locs hI => ?_)
  refine W.lcmp (pc := 609) hx hb dL_law_609 ?_
  refine lv_if_eq (pc := 610) (tgt := 1492) hx hb dL_law_610 (by decide) (fun c1 => ?_) (fun c1 => ?_)
  rotate_left
  · exact absurd (by rw [er]; exact q_lcmp _) c1
  refine W.widen (k := C + 1) (n := S + 4096) (by omega) (by omega) ?_
  exact kk _ _ _ (LI_mk htp hR hI hl)
set_option maxHeartbeats 8000000 in
set_option maxRecDepth 100000 in
theorem law_13 {rr : RT} (op_least : OP_least rr) {p : Program} {l : Launch} {e : Env} {s : State} {m : MethodId} {below : List Frame} {meth : Method} {c : Code} {b L : Nat} {xs : Nat → Int32} {A : Nat → Prop} {G : GX} {Q : State → Prop} (X : CX RL code 4 ret p s m #[Value.ref b] meth c) (E : EX G A s) (hX : va_X b L xs s s.heap) (hbl : b < s.heap.size) (hbA : ¬ A b) {i C S : Nat} (hi : i + 6 ≤ L) (hL : L ≤ 3072) (hC : C + 1 ≤ room_1.cells) (hS : S + 4096 ≤ room_1.slots) {H : Heap} {locs : List Loc} {ls : Array Slot} {h : Nat → Nat} {g : Nat → Nat} {n_m0 : Nat} {n_m1 : Nat} {n_m2 : Nat} {n_s0 : Nat} {n_s1 : Nat} {n_s2 : Nat} {n_uq : Nat} {n_wq : Nat} {tp : Nat → Option Nat} {ta : Nat → Nat} {ti : Nat → Nat} {x_hasImage : Int32} {f_places : Int32} {f_kinds : Int32} {f_weights : Nat → Int32} {f_howManyGenerators : Int32} {f_generators : Nat → Int32} {f_racks : Nat → Int32} {f_howManySeen : Int32} {f_seenFirst : Nat → Int32} {f_seenSecond : Nat → Int32} {f_seenIs : Nat → Int32} {f_seenPlaces : Nat → Int32} {f_howManyEvents : Int32} {f_eventWhat : Nat → Int32} {f_eventNumber : Nat → Int32} {g_places : Int32} {g_kinds : Int32} {g_weights : Nat → Int32} {g_howManyGenerators : Int32} {g_generators : Nat → Int32} {g_racks : Nat → Int32} {g_howManySeen : Int32} {g_seenFirst : Nat → Int32} {g_seenSecond : Nat → Int32} {g_seenIs : Nat → Int32} {g_seenPlaces : Nat → Int32} {g_howManyEvents : Int32} {g_eventWhat : Nat → Int32} {g_eventNumber : Nat → Int32} {v_keys : Nat → Int32} {v_asFound : Nat → Int32} {v_found : Int32} {v_turns : Int32} {v_places : Int32} {p_keys : Nat → Int32} {p_asFound : Nat → Int32} {p_found : Int32} {p_turns : Int32} {p_places : Int32} {i_sort : Nat → Int32} {i_howOften : Nat → Int32} {i_sorts : Int32} {i_moves : Int32} {n_u : Nat} {u_leasts : Nat → Int32} {u_howMany : Int32} {u_known : Int32} {n_w : Nat} {w_leasts : Nat → Int32} {w_howMany : Int32} {w_known : Int32} {t_signs : Nat → Int32} {t_length : Int32} {t_whole : Int32} {t_begins : Nat → Int32} {t_ends : Nat → Int32} {r_sorts : Nat → Int32} {r_numbers : Nat → Int32} {r_length : Int32} {sr : Nat → Int32} {ln : Nat → Int32} {it : Nat → Nat → Int64} {z_thrown : Int32} {z_s : Nat → Int32} {z_kept : Nat → Int32} {z_isKept : Int32} {z_moveMany : Int32} {z_moves : Nat → Int32} {z_hands : Nat → Int32} {z_troubles : Int32} {z_troubleSorts : Nat → Int32} {z_troubleNumbers : Nat → Int32} {z_asked : Nat → Int32} {z_paint : Nat → Int32} {z_leasts : Nat → Int32} {z_isSeen : Nat → Int32} {z_classMany : Int32} {z_types : Nat → Int32} {z_typeCounts : Nat → Int32} {z_typeMany : Int32} {z_text : Nat → Int32} {z_signs : Int32} {z_at : Int32} {z_lacks : Int32} {z_clauses : Int32} {z_begun : Int32} {z_letters : Nat → Int32} {z_firsts : Nat → Int32} {z_seconds : Nat → Int32} {z_aside : Nat → Int32} {z_sorts : Nat → Int32} {z_sizes : Nat → Int32} {z_items : Nat → Int64} (htp : ∀ j : Nat, j < 6 → tp j = some (ta j)) (hR : rr x_hasImage f_places f_kinds f_weights f_howManyGenerators f_generators f_racks f_howManySeen f_seenFirst f_seenSecond f_seenIs f_seenPlaces f_howManyEvents f_eventWhat f_eventNumber g_places g_kinds g_weights g_howManyGenerators g_generators g_racks g_howManySeen g_seenFirst g_seenSecond g_seenIs g_seenPlaces g_howManyEvents g_eventWhat g_eventNumber v_keys v_asFound v_found v_turns v_places p_keys p_asFound p_found p_turns p_places i_sort i_howOften i_sorts i_moves n_u u_leasts u_howMany u_known n_w w_leasts w_howMany w_known t_signs t_length t_whole t_begins t_ends r_sorts r_numbers r_length sr ln it z_thrown z_s z_kept z_isKept z_moveMany z_moves z_hands z_troubles z_troubleSorts z_troubleNumbers z_asked z_paint z_leasts z_isSeen z_classMany z_types z_typeCounts z_typeMany z_text z_signs z_at z_lacks z_clauses z_begun z_letters z_firsts z_seconds z_aside z_sorts z_sizes z_items) (hI : IN A G ((xb G h x_hasImage f_places f_kinds f_weights f_howManyGenerators f_generators f_racks f_howManySeen f_seenFirst f_seenSecond f_seenIs f_seenPlaces f_howManyEvents f_eventWhat f_eventNumber g_places g_kinds g_weights g_howManyGenerators g_generators g_racks g_howManySeen g_seenFirst g_seenSecond g_seenIs g_seenPlaces g_howManyEvents g_eventWhat g_eventNumber n_m0 n_m1 n_m2 n_s0 n_s1 n_s2 v_keys v_asFound v_found v_turns v_places p_keys p_asFound p_found p_turns p_places i_sort i_howOften i_sorts i_moves n_uq n_u u_leasts u_howMany u_known n_wq n_w w_leasts w_howMany w_known t_signs t_length t_whole t_begins t_ends r_sorts r_numbers r_length) ++ ((tl G h tp ta ti sr ln it) ++ (mw G g z_thrown z_s z_kept z_isKept z_moveMany z_moves z_hands z_troubles z_troubleSorts z_troubleNumbers z_asked z_paint z_leasts z_isSeen z_classMany z_types z_typeCounts z_typeMany z_text z_signs z_at z_lacks z_clauses z_begun z_letters z_firsts z_seconds z_aside z_sorts z_sizes z_items))) s H locs) (hl : lv_has ls 4 [(0, .ref b), (1, .ref (h 0)), (2, .ref (g 0)), (3, .int (nI i))])
    (kk : ∀ (H : Heap) (locs : List Loc) (ls : Array Slot), LI rr G A s b i H locs ls → W p l e room_1 s m #[Value.ref b] below meth c H locs (C + 1) (S + 4096) Q (F0 m 1492 ls [])) : W p l e room_1 s m #[Value.ref b] below meth c H locs C S Q (F0 m 615 ls []) := by
  obtain ⟨hx, hb, hml, hown, hts, hr, hlk⟩ := id X
  have hv1 := q_v1 hi hL
  have hv2 := q_v2 hi hL
  have hv3 := q_v3 hi hL
  have hv4 := q_v4 hi hL
  have hv5 := q_v5 hi hL
  refine lv_aload_n (pc := 615) hx hb dL_law_615 rfl (lv_at hl 1 rfl) ?_
  refine lv_aload_n (pc := 616) hx hb dL_law_616 rfl (lv_at hl 0 rfl) ?_
  refine lv_iload_n (pc := 617) hx hb dL_law_617 rfl (lv_at hl 3 rfl) ?_
  refine lv_iconst (pc := 618) (v := 1) hx hb dL_law_618 (by decide) ?_
  refine lv_iadd (pc := 619) hx hb dL_law_619 ?_
  refine va_sld (pc := 620) hx hb hX hbl hbA hI.2.2 hv1 dL_law_620 ?_
  refine lv_aload_n (pc := 621) hx hb dL_law_621 rfl (lv_at hl 0 rfl) ?_
  refine lv_iload_n (pc := 622) hx hb dL_law_622 rfl (lv_at hl 3 rfl) ?_
  refine lv_iconst (pc := 623) (v := 2) hx hb dL_law_623 (by decide) ?_
  refine lv_iadd (pc := 624) hx hb dL_law_624 ?_
  refine va_sld (pc := 625) hx hb hX hbl hbA hI.2.2 hv2 dL_law_625 ?_
  obtain ⟨rm, em, rx, ex, er, hR⟩ := op_least hR (xs (nI i + 1).toNatClampNeg) (xs (nI i + 2).toNatClampNeg)
  refine x_cVs (pc := 626) (st1 := [.int rx]) (w1 := ((xb G h x_hasImage f_places f_kinds f_weights f_howManyGenerators f_generators f_racks f_howManySeen f_seenFirst f_seenSecond f_seenIs f_seenPlaces f_howManyEvents f_eventWhat f_eventNumber g_places g_kinds g_weights g_howManyGenerators g_generators g_racks g_howManySeen g_seenFirst g_seenSecond g_seenIs g_seenPlaces g_howManyEvents g_eventWhat g_eventNumber n_m0 n_m1 n_m2 n_s0 n_s1 n_s2 v_keys v_asFound v_found v_turns v_places p_keys p_asFound p_found p_turns p_places i_sort i_howOften i_sorts i_moves n_uq n_u u_leasts u_howMany u_known n_wq n_w w_leasts w_howMany w_known t_signs t_length t_whole t_begins t_ends r_sorts r_numbers r_length) ++ ((tl G h tp ta ti sr ln it) ++ (mw G g z_thrown z_s z_kept z_isKept z_moveMany z_moves z_hands z_troubles z_troubleSorts z_troubleNumbers z_asked z_paint z_leasts z_isSeen z_classMany z_types z_typeCounts z_typeMany z_text z_signs z_at z_lacks z_clauses z_begun z_letters z_firsts z_seconds z_aside z_sorts z_sizes z_items)))) X E hI (c_X9_least l G h ex) kv_L_71 hd_X9_least ⟨rfl, rfl⟩ (by decide) 0 rfl rfl rfl rfl hl.1 rfl (Nat.le_of_ble_eq_true rfl) dL_law_626 ⟨by show C + 0 ≤ room_1.cells; omega, by show S + 0 ≤ room_1.slots; omega⟩ rfl (fun H locs hI => ?_)
  refine lv_aload_n (pc := 629) hx hb dL_law_629 rfl (lv_at hl 2 rfl) ?_
  refine lv_aload_n (pc := 630) hx hb dL_law_630 rfl (lv_at hl 0 rfl) ?_
  refine lv_iload_n (pc := 631) hx hb dL_law_631 rfl (lv_at hl 3 rfl) ?_
  refine lv_iconst (pc := 632) (v := 1) hx hb dL_law_632 (by decide) ?_
  refine lv_iadd (pc := 633) hx hb dL_law_633 ?_
  refine va_sld (pc := 634) hx hb hX hbl hbA hI.2.2 hv1 dL_law_634 ?_
  refine lv_aload_n (pc := 635) hx hb dL_law_635 rfl (lv_at hl 0 rfl) ?_
  refine lv_iload_n (pc := 636) hx hb dL_law_636 rfl (lv_at hl 3 rfl) ?_
  refine lv_iconst (pc := 637) (v := 2) hx hb dL_law_637 (by decide) ?_
  refine lv_iadd (pc := 638) hx hb dL_law_638 ?_
  refine va_sld (pc := 639) hx hb hX hbl hbA hI.2.2 hv2 dL_law_639 ?_
  refine x_cVR (pc := 640) (st1 := [.int rm.1, .int rx]) (w1 := (mw G g z_thrown z_s z_kept z_isKept rm.2.1 rm.2.2.1 rm.2.2.2.1 z_troubles z_troubleSorts z_troubleNumbers z_asked rm.2.2.2.2 z_leasts z_isSeen z_classMany z_types z_typeCounts z_typeMany z_text z_signs z_at z_lacks z_clauses z_begun z_letters z_firsts z_seconds z_aside z_sorts z_sizes z_items)) X E hI (c_X10_least l G g em) kv_L_74 hd_X10_least ⟨rfl, rfl⟩ (by decide) 0 rfl rfl rfl rfl hl.1 rfl (Nat.le_of_ble_eq_true rfl) dL_law_640 ⟨by show C + 0 + 0 ≤ room_1.cells; omega, by show S + 0 + 0 ≤ room_1.slots; omega⟩ rfl (fun H locs hI => ?_)
  refine lv_icmp_eq (pc := 643) (tgt := 1492) hx hb dL_law_643 (by decide) (fun c1 => ?_) (fun c1 => ?_)
  rotate_left
  · exact absurd er c1
  refine W.widen (k := C + 1) (n := S + 4096) (by omega) (by omega) ?_
  exact kk _ _ _ (LI_mk htp hR hI hl)
set_option maxHeartbeats 8000000 in
set_option maxRecDepth 100000 in
theorem law_14 {rr : RT} (op_size : OP_size rr) {p : Program} {l : Launch} {e : Env} {s : State} {m : MethodId} {below : List Frame} {meth : Method} {c : Code} {b L : Nat} {xs : Nat → Int32} {A : Nat → Prop} {G : GX} {Q : State → Prop} (X : CX RL code 4 ret p s m #[Value.ref b] meth c) (E : EX G A s) (hX : va_X b L xs s s.heap) (hbl : b < s.heap.size) (hbA : ¬ A b) {i C S : Nat} (hi : i + 6 ≤ L) (hL : L ≤ 3072) (hC : C + 1 ≤ room_1.cells) (hS : S + 4096 ≤ room_1.slots) {H : Heap} {locs : List Loc} {ls : Array Slot} {h : Nat → Nat} {g : Nat → Nat} {n_m0 : Nat} {n_m1 : Nat} {n_m2 : Nat} {n_s0 : Nat} {n_s1 : Nat} {n_s2 : Nat} {n_uq : Nat} {n_wq : Nat} {tp : Nat → Option Nat} {ta : Nat → Nat} {ti : Nat → Nat} {x_hasImage : Int32} {f_places : Int32} {f_kinds : Int32} {f_weights : Nat → Int32} {f_howManyGenerators : Int32} {f_generators : Nat → Int32} {f_racks : Nat → Int32} {f_howManySeen : Int32} {f_seenFirst : Nat → Int32} {f_seenSecond : Nat → Int32} {f_seenIs : Nat → Int32} {f_seenPlaces : Nat → Int32} {f_howManyEvents : Int32} {f_eventWhat : Nat → Int32} {f_eventNumber : Nat → Int32} {g_places : Int32} {g_kinds : Int32} {g_weights : Nat → Int32} {g_howManyGenerators : Int32} {g_generators : Nat → Int32} {g_racks : Nat → Int32} {g_howManySeen : Int32} {g_seenFirst : Nat → Int32} {g_seenSecond : Nat → Int32} {g_seenIs : Nat → Int32} {g_seenPlaces : Nat → Int32} {g_howManyEvents : Int32} {g_eventWhat : Nat → Int32} {g_eventNumber : Nat → Int32} {v_keys : Nat → Int32} {v_asFound : Nat → Int32} {v_found : Int32} {v_turns : Int32} {v_places : Int32} {p_keys : Nat → Int32} {p_asFound : Nat → Int32} {p_found : Int32} {p_turns : Int32} {p_places : Int32} {i_sort : Nat → Int32} {i_howOften : Nat → Int32} {i_sorts : Int32} {i_moves : Int32} {n_u : Nat} {u_leasts : Nat → Int32} {u_howMany : Int32} {u_known : Int32} {n_w : Nat} {w_leasts : Nat → Int32} {w_howMany : Int32} {w_known : Int32} {t_signs : Nat → Int32} {t_length : Int32} {t_whole : Int32} {t_begins : Nat → Int32} {t_ends : Nat → Int32} {r_sorts : Nat → Int32} {r_numbers : Nat → Int32} {r_length : Int32} {sr : Nat → Int32} {ln : Nat → Int32} {it : Nat → Nat → Int64} {z_thrown : Int32} {z_s : Nat → Int32} {z_kept : Nat → Int32} {z_isKept : Int32} {z_moveMany : Int32} {z_moves : Nat → Int32} {z_hands : Nat → Int32} {z_troubles : Int32} {z_troubleSorts : Nat → Int32} {z_troubleNumbers : Nat → Int32} {z_asked : Nat → Int32} {z_paint : Nat → Int32} {z_leasts : Nat → Int32} {z_isSeen : Nat → Int32} {z_classMany : Int32} {z_types : Nat → Int32} {z_typeCounts : Nat → Int32} {z_typeMany : Int32} {z_text : Nat → Int32} {z_signs : Int32} {z_at : Int32} {z_lacks : Int32} {z_clauses : Int32} {z_begun : Int32} {z_letters : Nat → Int32} {z_firsts : Nat → Int32} {z_seconds : Nat → Int32} {z_aside : Nat → Int32} {z_sorts : Nat → Int32} {z_sizes : Nat → Int32} {z_items : Nat → Int64} (htp : ∀ j : Nat, j < 6 → tp j = some (ta j)) (hR : rr x_hasImage f_places f_kinds f_weights f_howManyGenerators f_generators f_racks f_howManySeen f_seenFirst f_seenSecond f_seenIs f_seenPlaces f_howManyEvents f_eventWhat f_eventNumber g_places g_kinds g_weights g_howManyGenerators g_generators g_racks g_howManySeen g_seenFirst g_seenSecond g_seenIs g_seenPlaces g_howManyEvents g_eventWhat g_eventNumber v_keys v_asFound v_found v_turns v_places p_keys p_asFound p_found p_turns p_places i_sort i_howOften i_sorts i_moves n_u u_leasts u_howMany u_known n_w w_leasts w_howMany w_known t_signs t_length t_whole t_begins t_ends r_sorts r_numbers r_length sr ln it z_thrown z_s z_kept z_isKept z_moveMany z_moves z_hands z_troubles z_troubleSorts z_troubleNumbers z_asked z_paint z_leasts z_isSeen z_classMany z_types z_typeCounts z_typeMany z_text z_signs z_at z_lacks z_clauses z_begun z_letters z_firsts z_seconds z_aside z_sorts z_sizes z_items) (hI : IN A G ((xb G h x_hasImage f_places f_kinds f_weights f_howManyGenerators f_generators f_racks f_howManySeen f_seenFirst f_seenSecond f_seenIs f_seenPlaces f_howManyEvents f_eventWhat f_eventNumber g_places g_kinds g_weights g_howManyGenerators g_generators g_racks g_howManySeen g_seenFirst g_seenSecond g_seenIs g_seenPlaces g_howManyEvents g_eventWhat g_eventNumber n_m0 n_m1 n_m2 n_s0 n_s1 n_s2 v_keys v_asFound v_found v_turns v_places p_keys p_asFound p_found p_turns p_places i_sort i_howOften i_sorts i_moves n_uq n_u u_leasts u_howMany u_known n_wq n_w w_leasts w_howMany w_known t_signs t_length t_whole t_begins t_ends r_sorts r_numbers r_length) ++ ((tl G h tp ta ti sr ln it) ++ (mw G g z_thrown z_s z_kept z_isKept z_moveMany z_moves z_hands z_troubles z_troubleSorts z_troubleNumbers z_asked z_paint z_leasts z_isSeen z_classMany z_types z_typeCounts z_typeMany z_text z_signs z_at z_lacks z_clauses z_begun z_letters z_firsts z_seconds z_aside z_sorts z_sizes z_items))) s H locs) (hl : lv_has ls 4 [(0, .ref b), (1, .ref (h 0)), (2, .ref (g 0)), (3, .int (nI i))])
    (kk : ∀ (H : Heap) (locs : List Loc) (ls : Array Slot), LI rr G A s b i H locs ls → W p l e room_1 s m #[Value.ref b] below meth c H locs (C + 1) (S + 4096) Q (F0 m 1492 ls [])) : W p l e room_1 s m #[Value.ref b] below meth c H locs C S Q (F0 m 648 ls []) := by
  obtain ⟨hx, hb, hml, hown, hts, hr, hlk⟩ := id X
  have hv1 := q_v1 hi hL
  have hv2 := q_v2 hi hL
  have hv3 := q_v3 hi hL
  have hv4 := q_v4 hi hL
  have hv5 := q_v5 hi hL
  refine lv_aload_n (pc := 648) hx hb dL_law_648 rfl (lv_at hl 1 rfl) ?_
  refine lv_aload_n (pc := 649) hx hb dL_law_649 rfl (lv_at hl 0 rfl) ?_
  refine lv_iload_n (pc := 650) hx hb dL_law_650 rfl (lv_at hl 3 rfl) ?_
  refine lv_iconst (pc := 651) (v := 1) hx hb dL_law_651 (by decide) ?_
  refine lv_iadd (pc := 652) hx hb dL_law_652 ?_
  refine va_sld (pc := 653) hx hb hX hbl hbA hI.2.2 hv1 dL_law_653 ?_
  refine lv_aload_n (pc := 654) hx hb dL_law_654 rfl (lv_at hl 0 rfl) ?_
  refine lv_iload_n (pc := 655) hx hb dL_law_655 rfl (lv_at hl 3 rfl) ?_
  refine lv_iconst (pc := 656) (v := 2) hx hb dL_law_656 (by decide) ?_
  refine lv_iadd (pc := 657) hx hb dL_law_657 ?_
  refine va_sld (pc := 658) hx hb hX hbl hbA hI.2.2 hv2 dL_law_658 ?_
  obtain ⟨rm, em, rx, ex, er, hR⟩ := op_size hR (xs (nI i + 1).toNatClampNeg) (xs (nI i + 2).toNatClampNeg)
  refine x_cVs (pc := 659) (st1 := [.int rx]) (w1 := ((xb G h x_hasImage f_places f_kinds f_weights f_howManyGenerators f_generators f_racks f_howManySeen f_seenFirst f_seenSecond f_seenIs f_seenPlaces f_howManyEvents f_eventWhat f_eventNumber g_places g_kinds g_weights g_howManyGenerators g_generators g_racks g_howManySeen g_seenFirst g_seenSecond g_seenIs g_seenPlaces g_howManyEvents g_eventWhat g_eventNumber n_m0 n_m1 n_m2 n_s0 n_s1 n_s2 v_keys v_asFound v_found v_turns v_places p_keys p_asFound p_found p_turns p_places i_sort i_howOften i_sorts i_moves n_uq n_u u_leasts u_howMany u_known n_wq n_w w_leasts w_howMany w_known t_signs t_length t_whole t_begins t_ends r_sorts r_numbers r_length) ++ ((tl G h tp ta ti sr ln it) ++ (mw G g z_thrown z_s z_kept z_isKept z_moveMany z_moves z_hands z_troubles z_troubleSorts z_troubleNumbers z_asked z_paint z_leasts z_isSeen z_classMany z_types z_typeCounts z_typeMany z_text z_signs z_at z_lacks z_clauses z_begun z_letters z_firsts z_seconds z_aside z_sorts z_sizes z_items)))) X E hI (c_X9_size l G h ex) kv_L_75 hd_X9_size ⟨rfl, rfl⟩ (by decide) 0 rfl rfl rfl rfl hl.1 rfl (Nat.le_of_ble_eq_true rfl) dL_law_659 ⟨by show C + 0 ≤ room_1.cells; omega, by show S + 0 ≤ room_1.slots; omega⟩ rfl (fun H locs hI => ?_)
  refine lv_aload_n (pc := 662) hx hb dL_law_662 rfl (lv_at hl 2 rfl) ?_
  refine lv_aload_n (pc := 663) hx hb dL_law_663 rfl (lv_at hl 0 rfl) ?_
  refine lv_iload_n (pc := 664) hx hb dL_law_664 rfl (lv_at hl 3 rfl) ?_
  refine lv_iconst (pc := 665) (v := 1) hx hb dL_law_665 (by decide) ?_
  refine lv_iadd (pc := 666) hx hb dL_law_666 ?_
  refine va_sld (pc := 667) hx hb hX hbl hbA hI.2.2 hv1 dL_law_667 ?_
  refine lv_aload_n (pc := 668) hx hb dL_law_668 rfl (lv_at hl 0 rfl) ?_
  refine lv_iload_n (pc := 669) hx hb dL_law_669 rfl (lv_at hl 3 rfl) ?_
  refine lv_iconst (pc := 670) (v := 2) hx hb dL_law_670 (by decide) ?_
  refine lv_iadd (pc := 671) hx hb dL_law_671 ?_
  refine va_sld (pc := 672) hx hb hX hbl hbA hI.2.2 hv2 dL_law_672 ?_
  refine x_cVR (pc := 673) (st1 := [.int rm.1, .int rx]) (w1 := (mw G g z_thrown z_s z_kept z_isKept rm.2.1 rm.2.2.1 rm.2.2.2.1 z_troubles z_troubleSorts z_troubleNumbers z_asked rm.2.2.2.2 z_leasts z_isSeen z_classMany z_types z_typeCounts z_typeMany z_text z_signs z_at z_lacks z_clauses z_begun z_letters z_firsts z_seconds z_aside z_sorts z_sizes z_items)) X E hI (c_X10_size l G g em) kv_L_78 hd_X10_size ⟨rfl, rfl⟩ (by decide) 0 rfl rfl rfl rfl hl.1 rfl (Nat.le_of_ble_eq_true rfl) dL_law_673 ⟨by show C + 0 + 0 ≤ room_1.cells; omega, by show S + 0 + 0 ≤ room_1.slots; omega⟩ rfl (fun H locs hI => ?_)
  refine lv_icmp_eq (pc := 676) (tgt := 1492) hx hb dL_law_676 (by decide) (fun c1 => ?_) (fun c1 => ?_)
  rotate_left
  · exact absurd er c1
  refine W.widen (k := C + 1) (n := S + 4096) (by omega) (by omega) ?_
  exact kk _ _ _ (LI_mk htp hR hI hl)
set_option maxHeartbeats 8000000 in
set_option maxRecDepth 100000 in
theorem law_15 {rr : RT} (op_kindOf : OP_kindOf rr) {p : Program} {l : Launch} {e : Env} {s : State} {m : MethodId} {below : List Frame} {meth : Method} {c : Code} {b L : Nat} {xs : Nat → Int32} {A : Nat → Prop} {G : GX} {Q : State → Prop} (X : CX RL code 4 ret p s m #[Value.ref b] meth c) (E : EX G A s) (hX : va_X b L xs s s.heap) (hbl : b < s.heap.size) (hbA : ¬ A b) {i C S : Nat} (hi : i + 6 ≤ L) (hL : L ≤ 3072) (hC : C + 1 ≤ room_1.cells) (hS : S + 4096 ≤ room_1.slots) {H : Heap} {locs : List Loc} {ls : Array Slot} {h : Nat → Nat} {g : Nat → Nat} {n_m0 : Nat} {n_m1 : Nat} {n_m2 : Nat} {n_s0 : Nat} {n_s1 : Nat} {n_s2 : Nat} {n_uq : Nat} {n_wq : Nat} {tp : Nat → Option Nat} {ta : Nat → Nat} {ti : Nat → Nat} {x_hasImage : Int32} {f_places : Int32} {f_kinds : Int32} {f_weights : Nat → Int32} {f_howManyGenerators : Int32} {f_generators : Nat → Int32} {f_racks : Nat → Int32} {f_howManySeen : Int32} {f_seenFirst : Nat → Int32} {f_seenSecond : Nat → Int32} {f_seenIs : Nat → Int32} {f_seenPlaces : Nat → Int32} {f_howManyEvents : Int32} {f_eventWhat : Nat → Int32} {f_eventNumber : Nat → Int32} {g_places : Int32} {g_kinds : Int32} {g_weights : Nat → Int32} {g_howManyGenerators : Int32} {g_generators : Nat → Int32} {g_racks : Nat → Int32} {g_howManySeen : Int32} {g_seenFirst : Nat → Int32} {g_seenSecond : Nat → Int32} {g_seenIs : Nat → Int32} {g_seenPlaces : Nat → Int32} {g_howManyEvents : Int32} {g_eventWhat : Nat → Int32} {g_eventNumber : Nat → Int32} {v_keys : Nat → Int32} {v_asFound : Nat → Int32} {v_found : Int32} {v_turns : Int32} {v_places : Int32} {p_keys : Nat → Int32} {p_asFound : Nat → Int32} {p_found : Int32} {p_turns : Int32} {p_places : Int32} {i_sort : Nat → Int32} {i_howOften : Nat → Int32} {i_sorts : Int32} {i_moves : Int32} {n_u : Nat} {u_leasts : Nat → Int32} {u_howMany : Int32} {u_known : Int32} {n_w : Nat} {w_leasts : Nat → Int32} {w_howMany : Int32} {w_known : Int32} {t_signs : Nat → Int32} {t_length : Int32} {t_whole : Int32} {t_begins : Nat → Int32} {t_ends : Nat → Int32} {r_sorts : Nat → Int32} {r_numbers : Nat → Int32} {r_length : Int32} {sr : Nat → Int32} {ln : Nat → Int32} {it : Nat → Nat → Int64} {z_thrown : Int32} {z_s : Nat → Int32} {z_kept : Nat → Int32} {z_isKept : Int32} {z_moveMany : Int32} {z_moves : Nat → Int32} {z_hands : Nat → Int32} {z_troubles : Int32} {z_troubleSorts : Nat → Int32} {z_troubleNumbers : Nat → Int32} {z_asked : Nat → Int32} {z_paint : Nat → Int32} {z_leasts : Nat → Int32} {z_isSeen : Nat → Int32} {z_classMany : Int32} {z_types : Nat → Int32} {z_typeCounts : Nat → Int32} {z_typeMany : Int32} {z_text : Nat → Int32} {z_signs : Int32} {z_at : Int32} {z_lacks : Int32} {z_clauses : Int32} {z_begun : Int32} {z_letters : Nat → Int32} {z_firsts : Nat → Int32} {z_seconds : Nat → Int32} {z_aside : Nat → Int32} {z_sorts : Nat → Int32} {z_sizes : Nat → Int32} {z_items : Nat → Int64} (htp : ∀ j : Nat, j < 6 → tp j = some (ta j)) (hR : rr x_hasImage f_places f_kinds f_weights f_howManyGenerators f_generators f_racks f_howManySeen f_seenFirst f_seenSecond f_seenIs f_seenPlaces f_howManyEvents f_eventWhat f_eventNumber g_places g_kinds g_weights g_howManyGenerators g_generators g_racks g_howManySeen g_seenFirst g_seenSecond g_seenIs g_seenPlaces g_howManyEvents g_eventWhat g_eventNumber v_keys v_asFound v_found v_turns v_places p_keys p_asFound p_found p_turns p_places i_sort i_howOften i_sorts i_moves n_u u_leasts u_howMany u_known n_w w_leasts w_howMany w_known t_signs t_length t_whole t_begins t_ends r_sorts r_numbers r_length sr ln it z_thrown z_s z_kept z_isKept z_moveMany z_moves z_hands z_troubles z_troubleSorts z_troubleNumbers z_asked z_paint z_leasts z_isSeen z_classMany z_types z_typeCounts z_typeMany z_text z_signs z_at z_lacks z_clauses z_begun z_letters z_firsts z_seconds z_aside z_sorts z_sizes z_items) (hI : IN A G ((xb G h x_hasImage f_places f_kinds f_weights f_howManyGenerators f_generators f_racks f_howManySeen f_seenFirst f_seenSecond f_seenIs f_seenPlaces f_howManyEvents f_eventWhat f_eventNumber g_places g_kinds g_weights g_howManyGenerators g_generators g_racks g_howManySeen g_seenFirst g_seenSecond g_seenIs g_seenPlaces g_howManyEvents g_eventWhat g_eventNumber n_m0 n_m1 n_m2 n_s0 n_s1 n_s2 v_keys v_asFound v_found v_turns v_places p_keys p_asFound p_found p_turns p_places i_sort i_howOften i_sorts i_moves n_uq n_u u_leasts u_howMany u_known n_wq n_w w_leasts w_howMany w_known t_signs t_length t_whole t_begins t_ends r_sorts r_numbers r_length) ++ ((tl G h tp ta ti sr ln it) ++ (mw G g z_thrown z_s z_kept z_isKept z_moveMany z_moves z_hands z_troubles z_troubleSorts z_troubleNumbers z_asked z_paint z_leasts z_isSeen z_classMany z_types z_typeCounts z_typeMany z_text z_signs z_at z_lacks z_clauses z_begun z_letters z_firsts z_seconds z_aside z_sorts z_sizes z_items))) s H locs) (hl : lv_has ls 4 [(0, .ref b), (1, .ref (h 0)), (2, .ref (g 0)), (3, .int (nI i))])
    (kk : ∀ (H : Heap) (locs : List Loc) (ls : Array Slot), LI rr G A s b i H locs ls → W p l e room_1 s m #[Value.ref b] below meth c H locs (C + 1) (S + 4096) Q (F0 m 1492 ls [])) : W p l e room_1 s m #[Value.ref b] below meth c H locs C S Q (F0 m 681 ls []) := by
  obtain ⟨hx, hb, hml, hown, hts, hr, hlk⟩ := id X
  have hv1 := q_v1 hi hL
  have hv2 := q_v2 hi hL
  have hv3 := q_v3 hi hL
  have hv4 := q_v4 hi hL
  have hv5 := q_v5 hi hL
  refine lv_aload_n (pc := 681) hx hb dL_law_681 rfl (lv_at hl 1 rfl) ?_
  refine lv_aload_n (pc := 682) hx hb dL_law_682 rfl (lv_at hl 0 rfl) ?_
  refine lv_iload_n (pc := 683) hx hb dL_law_683 rfl (lv_at hl 3 rfl) ?_
  refine lv_iconst (pc := 684) (v := 1) hx hb dL_law_684 (by decide) ?_
  refine lv_iadd (pc := 685) hx hb dL_law_685 ?_
  refine va_sld (pc := 686) hx hb hX hbl hbA hI.2.2 hv1 dL_law_686 ?_
  refine lv_aload_n (pc := 687) hx hb dL_law_687 rfl (lv_at hl 0 rfl) ?_
  refine lv_iload_n (pc := 688) hx hb dL_law_688 rfl (lv_at hl 3 rfl) ?_
  refine lv_iconst (pc := 689) (v := 2) hx hb dL_law_689 (by decide) ?_
  refine lv_iadd (pc := 690) hx hb dL_law_690 ?_
  refine va_sld (pc := 691) hx hb hX hbl hbA hI.2.2 hv2 dL_law_691 ?_
  refine lv_aload_n (pc := 692) hx hb dL_law_692 rfl (lv_at hl 0 rfl) ?_
  refine lv_iload_n (pc := 693) hx hb dL_law_693 rfl (lv_at hl 3 rfl) ?_
  refine lv_iconst (pc := 694) (v := 3) hx hb dL_law_694 (by decide) ?_
  refine lv_iadd (pc := 695) hx hb dL_law_695 ?_
  refine va_sld (pc := 696) hx hb hX hbl hbA hI.2.2 hv3 dL_law_696 ?_
  obtain ⟨rm, em, ⟨p0, rx, ex, er, hR⟩ | ⟨p0, rx, ex, er, hR⟩ | ⟨rx, ex, er, hR⟩⟩ := op_kindOf hR (xs (nI i + 1).toNatClampNeg) (xs (nI i + 2).toNatClampNeg) (xs (nI i + 3).toNatClampNeg)
  · rw [p0]
    refine x_cVsE (pc := 697) (st1 := [.int rx.1]) X E hI (c_X9_kindOf_0 l G h ex) kv_L_79 hd_X9_kindOf ⟨rfl, rfl⟩ (by decide) 0 rfl rfl rfl rfl hl.1 rfl (Nat.le_of_ble_eq_true rfl) dL_law_697 ⟨by show C + 1 ≤ room_1.cells; omega, by show S + 4096 ≤ room_1.slots; omega⟩ rfl (fun q9 H locs hI => ?_)
    have hI : IN A G ((xb G h x_hasImage f_places f_kinds f_weights f_howManyGenerators f_generators f_racks f_howManySeen f_seenFirst f_seenSecond f_seenIs f_seenPlaces f_howManyEvents f_eventWhat f_eventNumber g_places g_kinds g_weights g_howManyGenerators g_generators g_racks g_howManySeen g_seenFirst g_seenSecond g_seenIs g_seenPlaces g_howManyEvents g_eventWhat g_eventNumber n_m0 n_m1 n_m2 n_s0 n_s1 n_s2 v_keys v_asFound v_found v_turns v_places p_keys p_asFound p_found p_turns p_places i_sort i_howOften i_sorts i_moves q9 rx.2.1 rx.2.2.1 rx.2.2.2.1 rx.2.2.2.2 n_wq n_w w_leasts w_howMany w_known t_signs t_length t_whole t_begins t_ends r_sorts r_numbers r_length) ++ ((tl G h tp ta ti sr ln it) ++ (mw G g z_thrown z_s z_kept z_isKept z_moveMany z_moves z_hands z_troubles z_troubleSorts z_troubleNumbers z_asked z_paint z_leasts z_isSeen z_classMany z_types z_typeCounts z_typeMany z_text z_signs z_at z_lacks z_clauses z_begun z_letters z_firsts z_seconds z_aside z_sorts z_sizes z_items))) s H locs := hI
    refine lv_aload_n (pc := 700) hx hb dL_law_700 rfl (lv_at hl 2 rfl) ?_
    refine lv_aload_n (pc := 701) hx hb dL_law_701 rfl (lv_at hl 0 rfl) ?_
    refine lv_iload_n (pc := 702) hx hb dL_law_702 rfl (lv_at hl 3 rfl) ?_
    refine lv_iconst (pc := 703) (v := 1) hx hb dL_law_703 (by decide) ?_
    refine lv_iadd (pc := 704) hx hb dL_law_704 ?_
    refine va_sld (pc := 705) hx hb hX hbl hbA hI.2.2 hv1 dL_law_705 ?_
    refine lv_aload_n (pc := 706) hx hb dL_law_706 rfl (lv_at hl 0 rfl) ?_
    refine lv_iload_n (pc := 707) hx hb dL_law_707 rfl (lv_at hl 3 rfl) ?_
    refine lv_iconst (pc := 708) (v := 2) hx hb dL_law_708 (by decide) ?_
    refine lv_iadd (pc := 709) hx hb dL_law_709 ?_
    refine va_sld (pc := 710) hx hb hX hbl hbA hI.2.2 hv2 dL_law_710 ?_
    refine lv_aload_n (pc := 711) hx hb dL_law_711 rfl (lv_at hl 0 rfl) ?_
    refine lv_iload_n (pc := 712) hx hb dL_law_712 rfl (lv_at hl 3 rfl) ?_
    refine lv_iconst (pc := 713) (v := 3) hx hb dL_law_713 (by decide) ?_
    refine lv_iadd (pc := 714) hx hb dL_law_714 ?_
    refine va_sld (pc := 715) hx hb hX hbl hbA hI.2.2 hv3 dL_law_715 ?_
    refine x_cVR (pc := 716) (st1 := [.int rm.1, .int rx.1]) (w1 := (mw G g z_thrown z_s z_kept z_isKept rm.2.1 rm.2.2.1 rm.2.2.2.1 z_troubles z_troubleSorts z_troubleNumbers z_asked rm.2.2.2.2.1 rm.2.2.2.2.2.1 rm.2.2.2.2.2.2.1 rm.2.2.2.2.2.2.2 z_types z_typeCounts z_typeMany z_text z_signs z_at z_lacks z_clauses z_begun z_letters z_firsts z_seconds z_aside z_sorts z_sizes z_items)) X E hI (c_X10_kindOf l G g em) kv_L_82 hd_X10_kindOf ⟨rfl, rfl⟩ (by decide) 0 rfl rfl rfl rfl hl.1 rfl (Nat.le_of_ble_eq_true rfl) dL_law_716 ⟨by show C + 1 + 0 ≤ room_1.cells; omega, by show S + 4096 + 0 ≤ room_1.slots; omega⟩ rfl (fun H locs hI => ?_)
    refine lv_icmp_eq (pc := 719) (tgt := 1492) hx hb dL_law_719 (by decide) (fun c1 => ?_) (fun c1 => ?_)
    rotate_left
    · exact absurd er c1
    refine W.widen (k := C + 1) (n := S + 4096) (by omega) (by omega) ?_
    exact kk _ _ _ (LI_mk htp hR hI hl)
  · rw [p0]
    refine x_cVsE (pc := 697) (st1 := [.int rx.1]) X E hI (c_X9_kindOf_1 l G h ex) kv_L_79 hd_X9_kindOf ⟨rfl, rfl⟩ (by decide) 0 rfl rfl rfl rfl hl.1 rfl (Nat.le_of_ble_eq_true rfl) dL_law_697 ⟨by show C + 1 ≤ room_1.cells; omega, by show S + 4096 ≤ room_1.slots; omega⟩ rfl (fun q9 H locs hI => ?_)
    have hI : IN A G ((xb G h x_hasImage f_places f_kinds f_weights f_howManyGenerators f_generators f_racks f_howManySeen f_seenFirst f_seenSecond f_seenIs f_seenPlaces f_howManyEvents f_eventWhat f_eventNumber g_places g_kinds g_weights g_howManyGenerators g_generators g_racks g_howManySeen g_seenFirst g_seenSecond g_seenIs g_seenPlaces g_howManyEvents g_eventWhat g_eventNumber n_m0 n_m1 n_m2 n_s0 n_s1 n_s2 v_keys v_asFound v_found v_turns v_places p_keys p_asFound p_found p_turns p_places i_sort i_howOften i_sorts i_moves n_uq n_u u_leasts u_howMany u_known q9 rx.2.1 rx.2.2.1 rx.2.2.2.1 rx.2.2.2.2 t_signs t_length t_whole t_begins t_ends r_sorts r_numbers r_length) ++ ((tl G h tp ta ti sr ln it) ++ (mw G g z_thrown z_s z_kept z_isKept z_moveMany z_moves z_hands z_troubles z_troubleSorts z_troubleNumbers z_asked z_paint z_leasts z_isSeen z_classMany z_types z_typeCounts z_typeMany z_text z_signs z_at z_lacks z_clauses z_begun z_letters z_firsts z_seconds z_aside z_sorts z_sizes z_items))) s H locs := hI
    refine lv_aload_n (pc := 700) hx hb dL_law_700 rfl (lv_at hl 2 rfl) ?_
    refine lv_aload_n (pc := 701) hx hb dL_law_701 rfl (lv_at hl 0 rfl) ?_
    refine lv_iload_n (pc := 702) hx hb dL_law_702 rfl (lv_at hl 3 rfl) ?_
    refine lv_iconst (pc := 703) (v := 1) hx hb dL_law_703 (by decide) ?_
    refine lv_iadd (pc := 704) hx hb dL_law_704 ?_
    refine va_sld (pc := 705) hx hb hX hbl hbA hI.2.2 hv1 dL_law_705 ?_
    refine lv_aload_n (pc := 706) hx hb dL_law_706 rfl (lv_at hl 0 rfl) ?_
    refine lv_iload_n (pc := 707) hx hb dL_law_707 rfl (lv_at hl 3 rfl) ?_
    refine lv_iconst (pc := 708) (v := 2) hx hb dL_law_708 (by decide) ?_
    refine lv_iadd (pc := 709) hx hb dL_law_709 ?_
    refine va_sld (pc := 710) hx hb hX hbl hbA hI.2.2 hv2 dL_law_710 ?_
    refine lv_aload_n (pc := 711) hx hb dL_law_711 rfl (lv_at hl 0 rfl) ?_
    refine lv_iload_n (pc := 712) hx hb dL_law_712 rfl (lv_at hl 3 rfl) ?_
    refine lv_iconst (pc := 713) (v := 3) hx hb dL_law_713 (by decide) ?_
    refine lv_iadd (pc := 714) hx hb dL_law_714 ?_
    refine va_sld (pc := 715) hx hb hX hbl hbA hI.2.2 hv3 dL_law_715 ?_
    refine x_cVR (pc := 716) (st1 := [.int rm.1, .int rx.1]) (w1 := (mw G g z_thrown z_s z_kept z_isKept rm.2.1 rm.2.2.1 rm.2.2.2.1 z_troubles z_troubleSorts z_troubleNumbers z_asked rm.2.2.2.2.1 rm.2.2.2.2.2.1 rm.2.2.2.2.2.2.1 rm.2.2.2.2.2.2.2 z_types z_typeCounts z_typeMany z_text z_signs z_at z_lacks z_clauses z_begun z_letters z_firsts z_seconds z_aside z_sorts z_sizes z_items)) X E hI (c_X10_kindOf l G g em) kv_L_82 hd_X10_kindOf ⟨rfl, rfl⟩ (by decide) 0 rfl rfl rfl rfl hl.1 rfl (Nat.le_of_ble_eq_true rfl) dL_law_716 ⟨by show C + 1 + 0 ≤ room_1.cells; omega, by show S + 4096 + 0 ≤ room_1.slots; omega⟩ rfl (fun H locs hI => ?_)
    refine lv_icmp_eq (pc := 719) (tgt := 1492) hx hb dL_law_719 (by decide) (fun c1 => ?_) (fun c1 => ?_)
    rotate_left
    · exact absurd er c1
    refine W.widen (k := C + 1) (n := S + 4096) (by omega) (by omega) ?_
    exact kk _ _ _ (LI_mk htp hR hI hl)
  · refine x_cVs (pc := 697) (st1 := [.int rx]) (w1 := ((xb G h x_hasImage f_places f_kinds f_weights f_howManyGenerators f_generators f_racks f_howManySeen f_seenFirst f_seenSecond f_seenIs f_seenPlaces f_howManyEvents f_eventWhat f_eventNumber g_places g_kinds g_weights g_howManyGenerators g_generators g_racks g_howManySeen g_seenFirst g_seenSecond g_seenIs g_seenPlaces g_howManyEvents g_eventWhat g_eventNumber n_m0 n_m1 n_m2 n_s0 n_s1 n_s2 v_keys v_asFound v_found v_turns v_places p_keys p_asFound p_found p_turns p_places i_sort i_howOften i_sorts i_moves n_uq n_u u_leasts u_howMany u_known n_wq n_w w_leasts w_howMany w_known t_signs t_length t_whole t_begins t_ends r_sorts r_numbers r_length) ++ ((tl G h tp ta ti sr ln it) ++ (mw G g z_thrown z_s z_kept z_isKept z_moveMany z_moves z_hands z_troubles z_troubleSorts z_troubleNumbers z_asked z_paint z_leasts z_isSeen z_classMany z_types z_typeCounts z_typeMany z_text z_signs z_at z_lacks z_clauses z_begun z_letters z_firsts z_seconds z_aside z_sorts z_sizes z_items)))) X E hI (c_X9_kindOf_n l G h ex) kv_L_79 hd_X9_kindOf ⟨rfl, rfl⟩ (by decide) 0 rfl rfl rfl rfl hl.1 rfl (Nat.le_of_ble_eq_true rfl) dL_law_697 ⟨by show C + 0 ≤ room_1.cells; omega, by show S + 0 ≤ room_1.slots; omega⟩ rfl (fun H locs hI => ?_)
    refine lv_aload_n (pc := 700) hx hb dL_law_700 rfl (lv_at hl 2 rfl) ?_
    refine lv_aload_n (pc := 701) hx hb dL_law_701 rfl (lv_at hl 0 rfl) ?_
    refine lv_iload_n (pc := 702) hx hb dL_law_702 rfl (lv_at hl 3 rfl) ?_
    refine lv_iconst (pc := 703) (v := 1) hx hb dL_law_703 (by decide) ?_
    refine lv_iadd (pc := 704) hx hb dL_law_704 ?_
    refine va_sld (pc := 705) hx hb hX hbl hbA hI.2.2 hv1 dL_law_705 ?_
    refine lv_aload_n (pc := 706) hx hb dL_law_706 rfl (lv_at hl 0 rfl) ?_
    refine lv_iload_n (pc := 707) hx hb dL_law_707 rfl (lv_at hl 3 rfl) ?_
    refine lv_iconst (pc := 708) (v := 2) hx hb dL_law_708 (by decide) ?_
    refine lv_iadd (pc := 709) hx hb dL_law_709 ?_
    refine va_sld (pc := 710) hx hb hX hbl hbA hI.2.2 hv2 dL_law_710 ?_
    refine lv_aload_n (pc := 711) hx hb dL_law_711 rfl (lv_at hl 0 rfl) ?_
    refine lv_iload_n (pc := 712) hx hb dL_law_712 rfl (lv_at hl 3 rfl) ?_
    refine lv_iconst (pc := 713) (v := 3) hx hb dL_law_713 (by decide) ?_
    refine lv_iadd (pc := 714) hx hb dL_law_714 ?_
    refine va_sld (pc := 715) hx hb hX hbl hbA hI.2.2 hv3 dL_law_715 ?_
    refine x_cVR (pc := 716) (st1 := [.int rm.1, .int rx]) (w1 := (mw G g z_thrown z_s z_kept z_isKept rm.2.1 rm.2.2.1 rm.2.2.2.1 z_troubles z_troubleSorts z_troubleNumbers z_asked rm.2.2.2.2.1 rm.2.2.2.2.2.1 rm.2.2.2.2.2.2.1 rm.2.2.2.2.2.2.2 z_types z_typeCounts z_typeMany z_text z_signs z_at z_lacks z_clauses z_begun z_letters z_firsts z_seconds z_aside z_sorts z_sizes z_items)) X E hI (c_X10_kindOf l G g em) kv_L_82 hd_X10_kindOf ⟨rfl, rfl⟩ (by decide) 0 rfl rfl rfl rfl hl.1 rfl (Nat.le_of_ble_eq_true rfl) dL_law_716 ⟨by show C + 0 + 0 ≤ room_1.cells; omega, by show S + 0 + 0 ≤ room_1.slots; omega⟩ rfl (fun H locs hI => ?_)
    refine lv_icmp_eq (pc := 719) (tgt := 1492) hx hb dL_law_719 (by decide) (fun c1 => ?_) (fun c1 => ?_)
    rotate_left
    · exact absurd er c1
    refine W.widen (k := C + 1) (n := S + 4096) (by omega) (by omega) ?_
    exact kk _ _ _ (LI_mk htp hR hI hl)
set_option maxHeartbeats 8000000 in
set_option maxRecDepth 100000 in
theorem law_16 {rr : RT} (op_heavy : OP_heavy rr) {p : Program} {l : Launch} {e : Env} {s : State} {m : MethodId} {below : List Frame} {meth : Method} {c : Code} {b L : Nat} {xs : Nat → Int32} {A : Nat → Prop} {G : GX} {Q : State → Prop} (X : CX RL code 4 ret p s m #[Value.ref b] meth c) (E : EX G A s) (hX : va_X b L xs s s.heap) (hbl : b < s.heap.size) (hbA : ¬ A b) {i C S : Nat} (hi : i + 6 ≤ L) (hL : L ≤ 3072) (hC : C + 1 ≤ room_1.cells) (hS : S + 4096 ≤ room_1.slots) {H : Heap} {locs : List Loc} {ls : Array Slot} {h : Nat → Nat} {g : Nat → Nat} {n_m0 : Nat} {n_m1 : Nat} {n_m2 : Nat} {n_s0 : Nat} {n_s1 : Nat} {n_s2 : Nat} {n_uq : Nat} {n_wq : Nat} {tp : Nat → Option Nat} {ta : Nat → Nat} {ti : Nat → Nat} {x_hasImage : Int32} {f_places : Int32} {f_kinds : Int32} {f_weights : Nat → Int32} {f_howManyGenerators : Int32} {f_generators : Nat → Int32} {f_racks : Nat → Int32} {f_howManySeen : Int32} {f_seenFirst : Nat → Int32} {f_seenSecond : Nat → Int32} {f_seenIs : Nat → Int32} {f_seenPlaces : Nat → Int32} {f_howManyEvents : Int32} {f_eventWhat : Nat → Int32} {f_eventNumber : Nat → Int32} {g_places : Int32} {g_kinds : Int32} {g_weights : Nat → Int32} {g_howManyGenerators : Int32} {g_generators : Nat → Int32} {g_racks : Nat → Int32} {g_howManySeen : Int32} {g_seenFirst : Nat → Int32} {g_seenSecond : Nat → Int32} {g_seenIs : Nat → Int32} {g_seenPlaces : Nat → Int32} {g_howManyEvents : Int32} {g_eventWhat : Nat → Int32} {g_eventNumber : Nat → Int32} {v_keys : Nat → Int32} {v_asFound : Nat → Int32} {v_found : Int32} {v_turns : Int32} {v_places : Int32} {p_keys : Nat → Int32} {p_asFound : Nat → Int32} {p_found : Int32} {p_turns : Int32} {p_places : Int32} {i_sort : Nat → Int32} {i_howOften : Nat → Int32} {i_sorts : Int32} {i_moves : Int32} {n_u : Nat} {u_leasts : Nat → Int32} {u_howMany : Int32} {u_known : Int32} {n_w : Nat} {w_leasts : Nat → Int32} {w_howMany : Int32} {w_known : Int32} {t_signs : Nat → Int32} {t_length : Int32} {t_whole : Int32} {t_begins : Nat → Int32} {t_ends : Nat → Int32} {r_sorts : Nat → Int32} {r_numbers : Nat → Int32} {r_length : Int32} {sr : Nat → Int32} {ln : Nat → Int32} {it : Nat → Nat → Int64} {z_thrown : Int32} {z_s : Nat → Int32} {z_kept : Nat → Int32} {z_isKept : Int32} {z_moveMany : Int32} {z_moves : Nat → Int32} {z_hands : Nat → Int32} {z_troubles : Int32} {z_troubleSorts : Nat → Int32} {z_troubleNumbers : Nat → Int32} {z_asked : Nat → Int32} {z_paint : Nat → Int32} {z_leasts : Nat → Int32} {z_isSeen : Nat → Int32} {z_classMany : Int32} {z_types : Nat → Int32} {z_typeCounts : Nat → Int32} {z_typeMany : Int32} {z_text : Nat → Int32} {z_signs : Int32} {z_at : Int32} {z_lacks : Int32} {z_clauses : Int32} {z_begun : Int32} {z_letters : Nat → Int32} {z_firsts : Nat → Int32} {z_seconds : Nat → Int32} {z_aside : Nat → Int32} {z_sorts : Nat → Int32} {z_sizes : Nat → Int32} {z_items : Nat → Int64} (htp : ∀ j : Nat, j < 6 → tp j = some (ta j)) (hR : rr x_hasImage f_places f_kinds f_weights f_howManyGenerators f_generators f_racks f_howManySeen f_seenFirst f_seenSecond f_seenIs f_seenPlaces f_howManyEvents f_eventWhat f_eventNumber g_places g_kinds g_weights g_howManyGenerators g_generators g_racks g_howManySeen g_seenFirst g_seenSecond g_seenIs g_seenPlaces g_howManyEvents g_eventWhat g_eventNumber v_keys v_asFound v_found v_turns v_places p_keys p_asFound p_found p_turns p_places i_sort i_howOften i_sorts i_moves n_u u_leasts u_howMany u_known n_w w_leasts w_howMany w_known t_signs t_length t_whole t_begins t_ends r_sorts r_numbers r_length sr ln it z_thrown z_s z_kept z_isKept z_moveMany z_moves z_hands z_troubles z_troubleSorts z_troubleNumbers z_asked z_paint z_leasts z_isSeen z_classMany z_types z_typeCounts z_typeMany z_text z_signs z_at z_lacks z_clauses z_begun z_letters z_firsts z_seconds z_aside z_sorts z_sizes z_items) (hI : IN A G ((xb G h x_hasImage f_places f_kinds f_weights f_howManyGenerators f_generators f_racks f_howManySeen f_seenFirst f_seenSecond f_seenIs f_seenPlaces f_howManyEvents f_eventWhat f_eventNumber g_places g_kinds g_weights g_howManyGenerators g_generators g_racks g_howManySeen g_seenFirst g_seenSecond g_seenIs g_seenPlaces g_howManyEvents g_eventWhat g_eventNumber n_m0 n_m1 n_m2 n_s0 n_s1 n_s2 v_keys v_asFound v_found v_turns v_places p_keys p_asFound p_found p_turns p_places i_sort i_howOften i_sorts i_moves n_uq n_u u_leasts u_howMany u_known n_wq n_w w_leasts w_howMany w_known t_signs t_length t_whole t_begins t_ends r_sorts r_numbers r_length) ++ ((tl G h tp ta ti sr ln it) ++ (mw G g z_thrown z_s z_kept z_isKept z_moveMany z_moves z_hands z_troubles z_troubleSorts z_troubleNumbers z_asked z_paint z_leasts z_isSeen z_classMany z_types z_typeCounts z_typeMany z_text z_signs z_at z_lacks z_clauses z_begun z_letters z_firsts z_seconds z_aside z_sorts z_sizes z_items))) s H locs) (hl : lv_has ls 4 [(0, .ref b), (1, .ref (h 0)), (2, .ref (g 0)), (3, .int (nI i))])
    (kk : ∀ (H : Heap) (locs : List Loc) (ls : Array Slot), LI rr G A s b i H locs ls → W p l e room_1 s m #[Value.ref b] below meth c H locs (C + 1) (S + 4096) Q (F0 m 1492 ls [])) : W p l e room_1 s m #[Value.ref b] below meth c H locs C S Q (F0 m 724 ls []) := by
  obtain ⟨hx, hb, hml, hown, hts, hr, hlk⟩ := id X
  have hv1 := q_v1 hi hL
  have hv2 := q_v2 hi hL
  have hv3 := q_v3 hi hL
  have hv4 := q_v4 hi hL
  have hv5 := q_v5 hi hL
  refine lv_aload_n (pc := 724) hx hb dL_law_724 rfl (lv_at hl 1 rfl) ?_
  refine lv_aload_n (pc := 725) hx hb dL_law_725 rfl (lv_at hl 0 rfl) ?_
  refine lv_iload_n (pc := 726) hx hb dL_law_726 rfl (lv_at hl 3 rfl) ?_
  refine lv_iconst (pc := 727) (v := 1) hx hb dL_law_727 (by decide) ?_
  refine lv_iadd (pc := 728) hx hb dL_law_728 ?_
  refine va_sld (pc := 729) hx hb hX hbl hbA hI.2.2 hv1 dL_law_729 ?_
  refine lv_aload_n (pc := 730) hx hb dL_law_730 rfl (lv_at hl 0 rfl) ?_
  refine lv_iload_n (pc := 731) hx hb dL_law_731 rfl (lv_at hl 3 rfl) ?_
  refine lv_iconst (pc := 732) (v := 2) hx hb dL_law_732 (by decide) ?_
  refine lv_iadd (pc := 733) hx hb dL_law_733 ?_
  refine va_sld (pc := 734) hx hb hX hbl hbA hI.2.2 hv2 dL_law_734 ?_
  obtain ⟨rm, em, ⟨p0, rx, ex, er, hR⟩ | ⟨p0, rx, ex, er, hR⟩ | ⟨rx, ex, er, hR⟩⟩ := op_heavy hR (xs (nI i + 1).toNatClampNeg) (xs (nI i + 2).toNatClampNeg)
  · rw [p0]
    refine x_cVsE (pc := 735) (st1 := [.int rx.1]) X E hI (c_X9_heavy_0 l G h ex) kv_L_83 hd_X9_heavy ⟨rfl, rfl⟩ (by decide) 0 rfl rfl rfl rfl hl.1 rfl (Nat.le_of_ble_eq_true rfl) dL_law_735 ⟨by show C + 1 ≤ room_1.cells; omega, by show S + 4096 ≤ room_1.slots; omega⟩ rfl (fun q9 H locs hI => ?_)
    have hI : IN A G ((xb G h x_hasImage f_places f_kinds f_weights f_howManyGenerators f_generators f_racks f_howManySeen f_seenFirst f_seenSecond f_seenIs f_seenPlaces f_howManyEvents f_eventWhat f_eventNumber g_places g_kinds g_weights g_howManyGenerators g_generators g_racks g_howManySeen g_seenFirst g_seenSecond g_seenIs g_seenPlaces g_howManyEvents g_eventWhat g_eventNumber n_m0 n_m1 n_m2 n_s0 n_s1 n_s2 v_keys v_asFound v_found v_turns v_places p_keys p_asFound p_found p_turns p_places i_sort i_howOften i_sorts i_moves q9 rx.2.1 rx.2.2.1 rx.2.2.2.1 rx.2.2.2.2 n_wq n_w w_leasts w_howMany w_known t_signs t_length t_whole t_begins t_ends r_sorts r_numbers r_length) ++ ((tl G h tp ta ti sr ln it) ++ (mw G g z_thrown z_s z_kept z_isKept z_moveMany z_moves z_hands z_troubles z_troubleSorts z_troubleNumbers z_asked z_paint z_leasts z_isSeen z_classMany z_types z_typeCounts z_typeMany z_text z_signs z_at z_lacks z_clauses z_begun z_letters z_firsts z_seconds z_aside z_sorts z_sizes z_items))) s H locs := hI
    refine lv_aload_n (pc := 738) hx hb dL_law_738 rfl (lv_at hl 2 rfl) ?_
    refine lv_aload_n (pc := 739) hx hb dL_law_739 rfl (lv_at hl 0 rfl) ?_
    refine lv_iload_n (pc := 740) hx hb dL_law_740 rfl (lv_at hl 3 rfl) ?_
    refine lv_iconst (pc := 741) (v := 1) hx hb dL_law_741 (by decide) ?_
    refine lv_iadd (pc := 742) hx hb dL_law_742 ?_
    refine va_sld (pc := 743) hx hb hX hbl hbA hI.2.2 hv1 dL_law_743 ?_
    refine lv_aload_n (pc := 744) hx hb dL_law_744 rfl (lv_at hl 0 rfl) ?_
    refine lv_iload_n (pc := 745) hx hb dL_law_745 rfl (lv_at hl 3 rfl) ?_
    refine lv_iconst (pc := 746) (v := 2) hx hb dL_law_746 (by decide) ?_
    refine lv_iadd (pc := 747) hx hb dL_law_747 ?_
    refine va_sld (pc := 748) hx hb hX hbl hbA hI.2.2 hv2 dL_law_748 ?_
    refine x_cVR (pc := 749) (st1 := [.int rm.1, .int rx.1]) (w1 := (mw G g z_thrown z_s z_kept z_isKept rm.2.1 rm.2.2.1 rm.2.2.2.1 z_troubles z_troubleSorts z_troubleNumbers z_asked rm.2.2.2.2.1 rm.2.2.2.2.2.1 rm.2.2.2.2.2.2.1 rm.2.2.2.2.2.2.2 z_types z_typeCounts z_typeMany z_text z_signs z_at z_lacks z_clauses z_begun z_letters z_firsts z_seconds z_aside z_sorts z_sizes z_items)) X E hI (c_X10_heavy l G g em) kv_L_86 hd_X10_heavy ⟨rfl, rfl⟩ (by decide) 0 rfl rfl rfl rfl hl.1 rfl (Nat.le_of_ble_eq_true rfl) dL_law_749 ⟨by show C + 1 + 0 ≤ room_1.cells; omega, by show S + 4096 + 0 ≤ room_1.slots; omega⟩ rfl (fun H locs hI => ?_)
    refine lv_icmp_eq (pc := 752) (tgt := 1492) hx hb dL_law_752 (by decide) (fun c1 => ?_) (fun c1 => ?_)
    rotate_left
    · exact absurd er c1
    refine W.widen (k := C + 1) (n := S + 4096) (by omega) (by omega) ?_
    exact kk _ _ _ (LI_mk htp hR hI hl)
  · rw [p0]
    refine x_cVsE (pc := 735) (st1 := [.int rx.1]) X E hI (c_X9_heavy_1 l G h ex) kv_L_83 hd_X9_heavy ⟨rfl, rfl⟩ (by decide) 0 rfl rfl rfl rfl hl.1 rfl (Nat.le_of_ble_eq_true rfl) dL_law_735 ⟨by show C + 1 ≤ room_1.cells; omega, by show S + 4096 ≤ room_1.slots; omega⟩ rfl (fun q9 H locs hI => ?_)
    have hI : IN A G ((xb G h x_hasImage f_places f_kinds f_weights f_howManyGenerators f_generators f_racks f_howManySeen f_seenFirst f_seenSecond f_seenIs f_seenPlaces f_howManyEvents f_eventWhat f_eventNumber g_places g_kinds g_weights g_howManyGenerators g_generators g_racks g_howManySeen g_seenFirst g_seenSecond g_seenIs g_seenPlaces g_howManyEvents g_eventWhat g_eventNumber n_m0 n_m1 n_m2 n_s0 n_s1 n_s2 v_keys v_asFound v_found v_turns v_places p_keys p_asFound p_found p_turns p_places i_sort i_howOften i_sorts i_moves n_uq n_u u_leasts u_howMany u_known q9 rx.2.1 rx.2.2.1 rx.2.2.2.1 rx.2.2.2.2 t_signs t_length t_whole t_begins t_ends r_sorts r_numbers r_length) ++ ((tl G h tp ta ti sr ln it) ++ (mw G g z_thrown z_s z_kept z_isKept z_moveMany z_moves z_hands z_troubles z_troubleSorts z_troubleNumbers z_asked z_paint z_leasts z_isSeen z_classMany z_types z_typeCounts z_typeMany z_text z_signs z_at z_lacks z_clauses z_begun z_letters z_firsts z_seconds z_aside z_sorts z_sizes z_items))) s H locs := hI
    refine lv_aload_n (pc := 738) hx hb dL_law_738 rfl (lv_at hl 2 rfl) ?_
    refine lv_aload_n (pc := 739) hx hb dL_law_739 rfl (lv_at hl 0 rfl) ?_
    refine lv_iload_n (pc := 740) hx hb dL_law_740 rfl (lv_at hl 3 rfl) ?_
    refine lv_iconst (pc := 741) (v := 1) hx hb dL_law_741 (by decide) ?_
    refine lv_iadd (pc := 742) hx hb dL_law_742 ?_
    refine va_sld (pc := 743) hx hb hX hbl hbA hI.2.2 hv1 dL_law_743 ?_
    refine lv_aload_n (pc := 744) hx hb dL_law_744 rfl (lv_at hl 0 rfl) ?_
    refine lv_iload_n (pc := 745) hx hb dL_law_745 rfl (lv_at hl 3 rfl) ?_
    refine lv_iconst (pc := 746) (v := 2) hx hb dL_law_746 (by decide) ?_
    refine lv_iadd (pc := 747) hx hb dL_law_747 ?_
    refine va_sld (pc := 748) hx hb hX hbl hbA hI.2.2 hv2 dL_law_748 ?_
    refine x_cVR (pc := 749) (st1 := [.int rm.1, .int rx.1]) (w1 := (mw G g z_thrown z_s z_kept z_isKept rm.2.1 rm.2.2.1 rm.2.2.2.1 z_troubles z_troubleSorts z_troubleNumbers z_asked rm.2.2.2.2.1 rm.2.2.2.2.2.1 rm.2.2.2.2.2.2.1 rm.2.2.2.2.2.2.2 z_types z_typeCounts z_typeMany z_text z_signs z_at z_lacks z_clauses z_begun z_letters z_firsts z_seconds z_aside z_sorts z_sizes z_items)) X E hI (c_X10_heavy l G g em) kv_L_86 hd_X10_heavy ⟨rfl, rfl⟩ (by decide) 0 rfl rfl rfl rfl hl.1 rfl (Nat.le_of_ble_eq_true rfl) dL_law_749 ⟨by show C + 1 + 0 ≤ room_1.cells; omega, by show S + 4096 + 0 ≤ room_1.slots; omega⟩ rfl (fun H locs hI => ?_)
    refine lv_icmp_eq (pc := 752) (tgt := 1492) hx hb dL_law_752 (by decide) (fun c1 => ?_) (fun c1 => ?_)
    rotate_left
    · exact absurd er c1
    refine W.widen (k := C + 1) (n := S + 4096) (by omega) (by omega) ?_
    exact kk _ _ _ (LI_mk htp hR hI hl)
  · refine x_cVs (pc := 735) (st1 := [.int rx]) (w1 := ((xb G h x_hasImage f_places f_kinds f_weights f_howManyGenerators f_generators f_racks f_howManySeen f_seenFirst f_seenSecond f_seenIs f_seenPlaces f_howManyEvents f_eventWhat f_eventNumber g_places g_kinds g_weights g_howManyGenerators g_generators g_racks g_howManySeen g_seenFirst g_seenSecond g_seenIs g_seenPlaces g_howManyEvents g_eventWhat g_eventNumber n_m0 n_m1 n_m2 n_s0 n_s1 n_s2 v_keys v_asFound v_found v_turns v_places p_keys p_asFound p_found p_turns p_places i_sort i_howOften i_sorts i_moves n_uq n_u u_leasts u_howMany u_known n_wq n_w w_leasts w_howMany w_known t_signs t_length t_whole t_begins t_ends r_sorts r_numbers r_length) ++ ((tl G h tp ta ti sr ln it) ++ (mw G g z_thrown z_s z_kept z_isKept z_moveMany z_moves z_hands z_troubles z_troubleSorts z_troubleNumbers z_asked z_paint z_leasts z_isSeen z_classMany z_types z_typeCounts z_typeMany z_text z_signs z_at z_lacks z_clauses z_begun z_letters z_firsts z_seconds z_aside z_sorts z_sizes z_items)))) X E hI (c_X9_heavy_n l G h ex) kv_L_83 hd_X9_heavy ⟨rfl, rfl⟩ (by decide) 0 rfl rfl rfl rfl hl.1 rfl (Nat.le_of_ble_eq_true rfl) dL_law_735 ⟨by show C + 0 ≤ room_1.cells; omega, by show S + 0 ≤ room_1.slots; omega⟩ rfl (fun H locs hI => ?_)
    refine lv_aload_n (pc := 738) hx hb dL_law_738 rfl (lv_at hl 2 rfl) ?_
    refine lv_aload_n (pc := 739) hx hb dL_law_739 rfl (lv_at hl 0 rfl) ?_
    refine lv_iload_n (pc := 740) hx hb dL_law_740 rfl (lv_at hl 3 rfl) ?_
    refine lv_iconst (pc := 741) (v := 1) hx hb dL_law_741 (by decide) ?_
    refine lv_iadd (pc := 742) hx hb dL_law_742 ?_
    refine va_sld (pc := 743) hx hb hX hbl hbA hI.2.2 hv1 dL_law_743 ?_
    refine lv_aload_n (pc := 744) hx hb dL_law_744 rfl (lv_at hl 0 rfl) ?_
    refine lv_iload_n (pc := 745) hx hb dL_law_745 rfl (lv_at hl 3 rfl) ?_
    refine lv_iconst (pc := 746) (v := 2) hx hb dL_law_746 (by decide) ?_
    refine lv_iadd (pc := 747) hx hb dL_law_747 ?_
    refine va_sld (pc := 748) hx hb hX hbl hbA hI.2.2 hv2 dL_law_748 ?_
    refine x_cVR (pc := 749) (st1 := [.int rm.1, .int rx]) (w1 := (mw G g z_thrown z_s z_kept z_isKept rm.2.1 rm.2.2.1 rm.2.2.2.1 z_troubles z_troubleSorts z_troubleNumbers z_asked rm.2.2.2.2.1 rm.2.2.2.2.2.1 rm.2.2.2.2.2.2.1 rm.2.2.2.2.2.2.2 z_types z_typeCounts z_typeMany z_text z_signs z_at z_lacks z_clauses z_begun z_letters z_firsts z_seconds z_aside z_sorts z_sizes z_items)) X E hI (c_X10_heavy l G g em) kv_L_86 hd_X10_heavy ⟨rfl, rfl⟩ (by decide) 0 rfl rfl rfl rfl hl.1 rfl (Nat.le_of_ble_eq_true rfl) dL_law_749 ⟨by show C + 0 + 0 ≤ room_1.cells; omega, by show S + 0 + 0 ≤ room_1.slots; omega⟩ rfl (fun H locs hI => ?_)
    refine lv_icmp_eq (pc := 752) (tgt := 1492) hx hb dL_law_752 (by decide) (fun c1 => ?_) (fun c1 => ?_)
    rotate_left
    · exact absurd er c1
    refine W.widen (k := C + 1) (n := S + 4096) (by omega) (by omega) ?_
    exact kk _ _ _ (LI_mk htp hR hI hl)
