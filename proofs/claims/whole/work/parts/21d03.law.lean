set_option maxHeartbeats 8000000 in
set_option maxRecDepth 100000 in
theorem law_38 {rr : RT} (op_shift : OP_shift rr) {p : Program} {l : Launch} {e : Env} {s : State} {m : MethodId} {below : List Frame} {meth : Method} {c : Code} {b L : Nat} {xs : Nat → Int32} {A : Nat → Prop} {G : GX} {Q : State → Prop} (X : CX RL code 4 ret p s m #[Value.ref b] meth c) (E : EX G A s) (hX : va_X b L xs s s.heap) (hbl : b < s.heap.size) (hbA : ¬ A b) {i C S : Nat} (hi : i + 6 ≤ L) (hL : L ≤ 3072) (hC : C + 1 ≤ room_1.cells) (hS : S + 4096 ≤ room_1.slots) {H : Heap} {locs : List Loc} {ls : Array Slot} {h : Nat → Nat} {g : Nat → Nat} {n_m0 : Nat} {n_m1 : Nat} {n_m2 : Nat} {n_s0 : Nat} {n_s1 : Nat} {n_s2 : Nat} {n_uq : Nat} {n_wq : Nat} {tp : Nat → Option Nat} {ta : Nat → Nat} {ti : Nat → Nat} {x_hasImage : Int32} {f_places : Int32} {f_kinds : Int32} {f_weights : Nat → Int32} {f_howManyGenerators : Int32} {f_generators : Nat → Int32} {f_racks : Nat → Int32} {f_howManySeen : Int32} {f_seenFirst : Nat → Int32} {f_seenSecond : Nat → Int32} {f_seenIs : Nat → Int32} {f_seenPlaces : Nat → Int32} {f_howManyEvents : Int32} {f_eventWhat : Nat → Int32} {f_eventNumber : Nat → Int32} {g_places : Int32} {g_kinds : Int32} {g_weights : Nat → Int32} {g_howManyGenerators : Int32} {g_generators : Nat → Int32} {g_racks : Nat → Int32} {g_howManySeen : Int32} {g_seenFirst : Nat → Int32} {g_seenSecond : Nat → Int32} {g_seenIs : Nat → Int32} {g_seenPlaces : Nat → Int32} {g_howManyEvents : Int32} {g_eventWhat : Nat → Int32} {g_eventNumber : Nat → Int32} {v_keys : Nat → Int32} {v_asFound : Nat → Int32} {v_found : Int32} {v_turns : Int32} {v_places : Int32} {p_keys : Nat → Int32} {p_asFound : Nat → Int32} {p_found : Int32} {p_turns : Int32} {p_places : Int32} {i_sort : Nat → Int32} {i_howOften : Nat → Int32} {i_sorts : Int32} {i_moves : Int32} {n_u : Nat} {u_leasts : Nat → Int32} {u_howMany : Int32} {u_known : Int32} {n_w : Nat} {w_leasts : Nat → Int32} {w_howMany : Int32} {w_known : Int32} {t_signs : Nat → Int32} {t_length : Int32} {t_whole : Int32} {t_begins : Nat → Int32} {t_ends : Nat → Int32} {r_sorts : Nat → Int32} {r_numbers : Nat → Int32} {r_length : Int32} {sr : Nat → Int32} {ln : Nat → Int32} {it : Nat → Nat → Int64} {z_thrown : Int32} {z_s : Nat → Int32} {z_kept : Nat → Int32} {z_isKept : Int32} {z_moveMany : Int32} {z_moves : Nat → Int32} {z_hands : Nat → Int32} {z_troubles : Int32} {z_troubleSorts : Nat → Int32} {z_troubleNumbers : Nat → Int32} {z_asked : Nat → Int32} {z_paint : Nat → Int32} {z_leasts : Nat → Int32} {z_isSeen : Nat → Int32} {z_classMany : Int32} {z_types : Nat → Int32} {z_typeCounts : Nat → Int32} {z_typeMany : Int32} {z_text : Nat → Int32} {z_signs : Int32} {z_at : Int32} {z_lacks : Int32} {z_clauses : Int32} {z_begun : Int32} {z_letters : Nat → Int32} {z_firsts : Nat → Int32} {z_seconds : Nat → Int32} {z_aside : Nat → Int32} {z_sorts : Nat → Int32} {z_sizes : Nat → Int32} {z_items : Nat → Int64} (htp : ∀ j : Nat, j < 6 → tp j = some (ta j)) (hR : rr x_hasImage f_places f_kinds f_weights f_howManyGenerators f_generators f_racks f_howManySeen f_seenFirst f_seenSecond f_seenIs f_seenPlaces f_howManyEvents f_eventWhat f_eventNumber g_places g_kinds g_weights g_howManyGenerators g_generators g_racks g_howManySeen g_seenFirst g_seenSecond g_seenIs g_seenPlaces g_howManyEvents g_eventWhat g_eventNumber v_keys v_asFound v_found v_turns v_places p_keys p_asFound p_found p_turns p_places i_sort i_howOften i_sorts i_moves n_u u_leasts u_howMany u_known n_w w_leasts w_howMany w_known t_signs t_length t_whole t_begins t_ends r_sorts r_numbers r_length sr ln it z_thrown z_s z_kept z_isKept z_moveMany z_moves z_hands z_troubles z_troubleSorts z_troubleNumbers z_asked z_paint z_leasts z_isSeen z_classMany z_types z_typeCounts z_typeMany z_text z_signs z_at z_lacks z_clauses z_begun z_letters z_firsts z_seconds z_aside z_sorts z_sizes z_items) (hI : IN A G ((xb G h x_hasImage f_places f_kinds f_weights f_howManyGenerators f_generators f_racks f_howManySeen f_seenFirst f_seenSecond f_seenIs f_seenPlaces f_howManyEvents f_eventWhat f_eventNumber g_places g_kinds g_weights g_howManyGenerators g_generators g_racks g_howManySeen g_seenFirst g_seenSecond g_seenIs g_seenPlaces g_howManyEvents g_eventWhat g_eventNumber n_m0 n_m1 n_m2 n_s0 n_s1 n_s2 v_keys v_asFound v_found v_turns v_places p_keys p_asFound p_found p_turns p_places i_sort i_howOften i_sorts i_moves n_uq n_u u_leasts u_howMany u_known n_wq n_w w_leasts w_howMany w_known t_signs t_length t_whole t_begins t_ends r_sorts r_numbers r_length) ++ ((tl G h tp ta ti sr ln it) ++ (mw G g z_thrown z_s z_kept z_isKept z_moveMany z_moves z_hands z_troubles z_troubleSorts z_troubleNumbers z_asked z_paint z_leasts z_isSeen z_classMany z_types z_typeCounts z_typeMany z_text z_signs z_at z_lacks z_clauses z_begun z_letters z_firsts z_seconds z_aside z_sorts z_sizes z_items))) s H locs) (hl : lv_has ls 4 [(0, .ref b), (1, .ref (h 0)), (2, .ref (g 0)), (3, .int (nI i))])
    (kk : ∀ (H : Heap) (locs : List Loc) (ls : Array Slot), LI rr G A s b i H locs ls → W p l e room_1 s m #[Value.ref b] below meth c H locs (C + 1) (S + 4096) Q (F0 m 1492 ls [])) : W p l e room_1 s m #[Value.ref b] below meth c H locs C S Q (F0 m 1429 ls []) := by
  obtain ⟨hx, hb, hml, hown, hts, hr, hlk⟩ := id X
  have hv1 := q_v1 hi hL
  have hv2 := q_v2 hi hL
  have hv3 := q_v3 hi hL
  have hv4 := q_v4 hi hL
  have hv5 := q_v5 hi hL
  refine lv_aload_n (pc := 1429) hx hb dL_law_1429 rfl (lv_at hl 1 rfl) ?_
  refine lv_aload_n (pc := 1430) hx hb dL_law_1430 rfl (lv_at hl 0 rfl) ?_
  refine lv_iload_n (pc := 1431) hx hb dL_law_1431 rfl (lv_at hl 3 rfl) ?_
  refine lv_iconst (pc := 1432) (v := 1) hx hb dL_law_1432 (by decide) ?_
  refine lv_iadd (pc := 1433) hx hb dL_law_1433 ?_
  refine va_sld (pc := 1434) hx hb hX hbl hbA hI.2.2 hv1 dL_law_1434 ?_
  refine lv_aload_n (pc := 1435) hx hb dL_law_1435 rfl (lv_at hl 0 rfl) ?_
  refine lv_iload_n (pc := 1436) hx hb dL_law_1436 rfl (lv_at hl 3 rfl) ?_
  refine lv_iconst (pc := 1437) (v := 2) hx hb dL_law_1437 (by decide) ?_
  refine lv_iadd (pc := 1438) hx hb dL_law_1438 ?_
  refine va_sld (pc := 1439) hx hb hX hbl hbA hI.2.2 hv2 dL_law_1439 ?_
  refine lv_aload_n (pc := 1440) hx hb dL_law_1440 rfl (lv_at hl 0 rfl) ?_
  refine lv_iload_n (pc := 1441) hx hb dL_law_1441 rfl (lv_at hl 3 rfl) ?_
  refine lv_iconst (pc := 1442) (v := 3) hx hb dL_law_1442 (by decide) ?_
  refine lv_iadd (pc := 1443) hx hb dL_law_1443 ?_
  refine va_sld (pc := 1444) hx hb hX hbl hbA hI.2.2 hv3 dL_law_1444 ?_
  refine lv_aload_n (pc := 1445) hx hb dL_law_1445 rfl (lv_at hl 0 rfl) ?_
  refine lv_iload_n (pc := 1446) hx hb dL_law_1446 rfl (lv_at hl 3 rfl) ?_
  refine lv_iconst (pc := 1447) (v := 4) hx hb dL_law_1447 (by decide) ?_
  refine lv_iadd (pc := 1448) hx hb dL_law_1448 ?_
  refine va_sld (pc := 1449) hx hb hX hbl hbA hI.2.2 hv4 dL_law_1449 ?_
  refine lv_aload_n (pc := 1450) hx hb dL_law_1450 rfl (lv_at hl 0 rfl) ?_
  refine lv_iload_n (pc := 1451) hx hb dL_law_1451 rfl (lv_at hl 3 rfl) ?_
  refine lv_iconst (pc := 1452) (v := 5) hx hb dL_law_1452 (by decide) ?_
  refine lv_iadd (pc := 1453) hx hb dL_law_1453 ?_
  refine va_sld (pc := 1454) hx hb hX hbl hbA hI.2.2 hv5 dL_law_1454 ?_
  obtain ⟨rm, em, ⟨t, ht, p0, p9, rx, ex, er, hR⟩ | ⟨t, u, ht, hu, hne, p0, p9, rx, ex, er, hR⟩ | ⟨rx, ex, er, hR⟩⟩ := op_shift hR (xs (nI i + 1).toNatClampNeg) (xs (nI i + 2).toNatClampNeg) (xs (nI i + 3).toNatClampNeg) (xs (nI i + 4).toNatClampNeg) (xs (nI i + 5).toNatClampNeg)
  · rcases (show t = 0 ∨ t = 1 ∨ t = 2 ∨ t = 3 ∨ t = 4 ∨ t = 5 by omega) with rfl | rfl | rfl | rfl | rfl | rfl
    · rw [p0, p9] at ex ⊢
      exact sh_t_0 X E hC hS htp hI hl ex (fun H locs hI => sh_tail X E hX hbl hbA hi hL hC hS htp hI hl em er hR kk)
    · rw [p0, p9] at ex ⊢
      exact sh_t_1 X E hC hS htp hI hl ex (fun H locs hI => sh_tail X E hX hbl hbA hi hL hC hS htp hI hl em er hR kk)
    · rw [p0, p9] at ex ⊢
      exact sh_t_2 X E hC hS htp hI hl ex (fun H locs hI => sh_tail X E hX hbl hbA hi hL hC hS htp hI hl em er hR kk)
    · rw [p0, p9] at ex ⊢
      exact sh_t_3 X E hC hS htp hI hl ex (fun H locs hI => sh_tail X E hX hbl hbA hi hL hC hS htp hI hl em er hR kk)
    · rw [p0, p9] at ex ⊢
      exact sh_t_4 X E hC hS htp hI hl ex (fun H locs hI => sh_tail X E hX hbl hbA hi hL hC hS htp hI hl em er hR kk)
    · rw [p0, p9] at ex ⊢
      exact sh_t_5 X E hC hS htp hI hl ex (fun H locs hI => sh_tail X E hX hbl hbA hi hL hC hS htp hI hl em er hR kk)
  · rcases (show t = 0 ∨ t = 1 ∨ t = 2 ∨ t = 3 ∨ t = 4 ∨ t = 5 by omega) with rfl | rfl | rfl | rfl | rfl | rfl
    · rcases (show u = 1 ∨ u = 2 ∨ u = 3 ∨ u = 4 ∨ u = 5 by omega) with rfl | rfl | rfl | rfl | rfl
      · rw [p0, p9] at ex ⊢
        exact sh_u_01 X E hC hS htp hI hl ex (fun H locs hI => sh_tail X E hX hbl hbA hi hL hC hS htp hI hl em er hR kk)
      · rw [p0, p9] at ex ⊢
        exact sh_u_02 X E hC hS htp hI hl ex (fun H locs hI => sh_tail X E hX hbl hbA hi hL hC hS htp hI hl em er hR kk)
      · rw [p0, p9] at ex ⊢
        exact sh_u_03 X E hC hS htp hI hl ex (fun H locs hI => sh_tail X E hX hbl hbA hi hL hC hS htp hI hl em er hR kk)
      · rw [p0, p9] at ex ⊢
        exact sh_u_04 X E hC hS htp hI hl ex (fun H locs hI => sh_tail X E hX hbl hbA hi hL hC hS htp hI hl em er hR kk)
      · rw [p0, p9] at ex ⊢
        exact sh_u_05 X E hC hS htp hI hl ex (fun H locs hI => sh_tail X E hX hbl hbA hi hL hC hS htp hI hl em er hR kk)
    · rcases (show u = 0 ∨ u = 2 ∨ u = 3 ∨ u = 4 ∨ u = 5 by omega) with rfl | rfl | rfl | rfl | rfl
      · rw [p0, p9] at ex ⊢
        exact sh_u_10 X E hC hS htp hI hl ex (fun H locs hI => sh_tail X E hX hbl hbA hi hL hC hS htp hI hl em er hR kk)
      · rw [p0, p9] at ex ⊢
        exact sh_u_12 X E hC hS htp hI hl ex (fun H locs hI => sh_tail X E hX hbl hbA hi hL hC hS htp hI hl em er hR kk)
      · rw [p0, p9] at ex ⊢
        exact sh_u_13 X E hC hS htp hI hl ex (fun H locs hI => sh_tail X E hX hbl hbA hi hL hC hS htp hI hl em er hR kk)
      · rw [p0, p9] at ex ⊢
        exact sh_u_14 X E hC hS htp hI hl ex (fun H locs hI => sh_tail X E hX hbl hbA hi hL hC hS htp hI hl em er hR kk)
      · rw [p0, p9] at ex ⊢
        exact sh_u_15 X E hC hS htp hI hl ex (fun H locs hI => sh_tail X E hX hbl hbA hi hL hC hS htp hI hl em er hR kk)
    · rcases (show u = 0 ∨ u = 1 ∨ u = 3 ∨ u = 4 ∨ u = 5 by omega) with rfl | rfl | rfl | rfl | rfl
      · rw [p0, p9] at ex ⊢
        exact sh_u_20 X E hC hS htp hI hl ex (fun H locs hI => sh_tail X E hX hbl hbA hi hL hC hS htp hI hl em er hR kk)
      · rw [p0, p9] at ex ⊢
        exact sh_u_21 X E hC hS htp hI hl ex (fun H locs hI => sh_tail X E hX hbl hbA hi hL hC hS htp hI hl em er hR kk)
      · rw [p0, p9] at ex ⊢
        exact sh_u_23 X E hC hS htp hI hl ex (fun H locs hI => sh_tail X E hX hbl hbA hi hL hC hS htp hI hl em er hR kk)
      · rw [p0, p9] at ex ⊢
        exact sh_u_24 X E hC hS htp hI hl ex (fun H locs hI => sh_tail X E hX hbl hbA hi hL hC hS htp hI hl em er hR kk)
      · rw [p0, p9] at ex ⊢
        exact sh_u_25 X E hC hS htp hI hl ex (fun H locs hI => sh_tail X E hX hbl hbA hi hL hC hS htp hI hl em er hR kk)
    · rcases (show u = 0 ∨ u = 1 ∨ u = 2 ∨ u = 4 ∨ u = 5 by omega) with rfl | rfl | rfl | rfl | rfl
      · rw [p0, p9] at ex ⊢
        exact sh_u_30 X E hC hS htp hI hl ex (fun H locs hI => sh_tail X E hX hbl hbA hi hL hC hS htp hI hl em er hR kk)
      · rw [p0, p9] at ex ⊢
        exact sh_u_31 X E hC hS htp hI hl ex (fun H locs hI => sh_tail X E hX hbl hbA hi hL hC hS htp hI hl em er hR kk)
      · rw [p0, p9] at ex ⊢
        exact sh_u_32 X E hC hS htp hI hl ex (fun H locs hI => sh_tail X E hX hbl hbA hi hL hC hS htp hI hl em er hR kk)
      · rw [p0, p9] at ex ⊢
        exact sh_u_34 X E hC hS htp hI hl ex (fun H locs hI => sh_tail X E hX hbl hbA hi hL hC hS htp hI hl em er hR kk)
      · rw [p0, p9] at ex ⊢
        exact sh_u_35 X E hC hS htp hI hl ex (fun H locs hI => sh_tail X E hX hbl hbA hi hL hC hS htp hI hl em er hR kk)
    · rcases (show u = 0 ∨ u = 1 ∨ u = 2 ∨ u = 3 ∨ u = 5 by omega) with rfl | rfl | rfl | rfl | rfl
      · rw [p0, p9] at ex ⊢
        exact sh_u_40 X E hC hS htp hI hl ex (fun H locs hI => sh_tail X E hX hbl hbA hi hL hC hS htp hI hl em er hR kk)
      · rw [p0, p9] at ex ⊢
        exact sh_u_41 X E hC hS htp hI hl ex (fun H locs hI => sh_tail X E hX hbl hbA hi hL hC hS htp hI hl em er hR kk)
      · rw [p0, p9] at ex ⊢
        exact sh_u_42 X E hC hS htp hI hl ex (fun H locs hI => sh_tail X E hX hbl hbA hi hL hC hS htp hI hl em er hR kk)
      · rw [p0, p9] at ex ⊢
        exact sh_u_43 X E hC hS htp hI hl ex (fun H locs hI => sh_tail X E hX hbl hbA hi hL hC hS htp hI hl em er hR kk)
      · rw [p0, p9] at ex ⊢
        exact sh_u_45 X E hC hS htp hI hl ex (fun H locs hI => sh_tail X E hX hbl hbA hi hL hC hS htp hI hl em er hR kk)
    · rcases (show u = 0 ∨ u = 1 ∨ u = 2 ∨ u = 3 ∨ u = 4 by omega) with rfl | rfl | rfl | rfl | rfl
      · rw [p0, p9] at ex ⊢
        exact sh_u_50 X E hC hS htp hI hl ex (fun H locs hI => sh_tail X E hX hbl hbA hi hL hC hS htp hI hl em er hR kk)
      · rw [p0, p9] at ex ⊢
        exact sh_u_51 X E hC hS htp hI hl ex (fun H locs hI => sh_tail X E hX hbl hbA hi hL hC hS htp hI hl em er hR kk)
      · rw [p0, p9] at ex ⊢
        exact sh_u_52 X E hC hS htp hI hl ex (fun H locs hI => sh_tail X E hX hbl hbA hi hL hC hS htp hI hl em er hR kk)
      · rw [p0, p9] at ex ⊢
        exact sh_u_53 X E hC hS htp hI hl ex (fun H locs hI => sh_tail X E hX hbl hbA hi hL hC hS htp hI hl em er hR kk)
      · rw [p0, p9] at ex ⊢
        exact sh_u_54 X E hC hS htp hI hl ex (fun H locs hI => sh_tail X E hX hbl hbA hi hL hC hS htp hI hl em er hR kk)
  · exact sh_n X E hC hS htp hI hl ex (fun H locs hI => sh_tail X E hX hbl hbA hi hL hC hS htp hI hl em er hR kk)
