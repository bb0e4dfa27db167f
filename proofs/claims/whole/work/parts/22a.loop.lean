-- ===== the law's loop (written by program) =====
theorem LI_at {rr : RT} {G : GX} {A : Nat → Prop} {s : State} {b i : Nat} {H : Heap} {locs : List Loc} {ls : Array Slot} (hLI : LI rr G A s b i H locs ls) : va_S A s.heap H locs ∧ ∃ h0 g0 : Nat, lv_has ls 4 [(0, .ref b), (1, .ref h0), (2, .ref g0), (3, .int (nI i))] ∧ ∀ (i' : Nat) (ls' : Array Slot), lv_has ls' 4 [(0, .ref b), (1, .ref h0), (2, .ref g0), (3, .int (nI i'))] → LI rr G A s b i' H locs ls' :=
  LI_of hLI (fun h g n_m0 n_m1 n_m2 n_s0 n_s1 n_s2 n_uq n_wq tp ta ti x_hasImage f_places f_kinds f_weights f_howManyGenerators f_generators f_racks f_howManySeen f_seenFirst f_seenSecond f_seenIs f_seenPlaces f_howManyEvents f_eventWhat f_eventNumber g_places g_kinds g_weights g_howManyGenerators g_generators g_racks g_howManySeen g_seenFirst g_seenSecond g_seenIs g_seenPlaces g_howManyEvents g_eventWhat g_eventNumber v_keys v_asFound v_found v_turns v_places p_keys p_asFound p_found p_turns p_places i_sort i_howOften i_sorts i_moves n_u u_leasts u_howMany u_known n_w w_leasts w_howMany w_known t_signs t_length t_whole t_begins t_ends r_sorts r_numbers r_length sr ln it z_thrown z_s z_kept z_isKept z_moveMany z_moves z_hands z_troubles z_troubleSorts z_troubleNumbers z_asked z_paint z_leasts z_isSeen z_classMany z_types z_typeCounts z_typeMany z_text z_signs z_at z_lacks z_clauses z_begun z_letters z_firsts z_seconds z_aside z_sorts z_sizes z_items htp hR hI hl => ⟨hI.2.2, h 0, g 0, hl, fun i' ls' hl' => LI_mk htp hR hI hl'⟩)
theorem and63 (x : Int32) : ∃ v, v < 64 ∧ x &&& 63 = nI v := by
  have e : x = nI x.toBitVec.toNat := by
    apply Int32.toBitVec_inj.mp
    show x.toBitVec = BitVec.ofNat 32 x.toBitVec.toNat
    simp
  refine ⟨x.toBitVec.toNat % 64, Nat.mod_lt _ (by decide), ?_⟩
  have h : x &&& 63 = nI x.toBitVec.toNat &&& nI (2 ^ 6 - 1) := by
    conv => lhs; rw [e]
    rfl
  rw [h, nI_and, Nat.and_two_pow_sub_one_eq_mod]
theorem out_38 {v : Nat} (h : v < 64) (h2 : ¬ v < 39) : (nI v).toInt < 0 ∨ 38 < (nI v).toInt := by
  rw [nI_toInt (by omega)]
  omega
theorem law_more {L i : Nat} (hL : L ≤ 3072) (hi : i ≤ 4096) (h : ¬ Int32.ofNat L - nI 6 < nI i) : i + 6 ≤ L := by
  have e1 : (nI L).toInt = (L : Int) := nI_toInt (by omega)
  have e2 : (nI 6).toInt = (6 : Int) := nI_toInt (by omega)
  have e3 : (nI i).toInt = (i : Int) := nI_toInt (by omega)
  rw [show Int32.ofNat L = nI L from rfl, fa_lt, fb_subI (by omega) (by omega), e1, e2, e3] at h
  omega
set_option maxHeartbeats 8000000 in
set_option maxRecDepth 100000 in
theorem law_turnc {p : Program} {l : Launch} {e : Env} {s : State} {m : MethodId} {below : List Frame} {meth : Method} {c : Code} {b L : Nat} {xs : Nat → Int32} {A : Nat → Prop} {G : GX} {Q : State → Prop} (X : CX RL code 4 ret p s m #[Value.ref b] meth c) (E : EX G A s) (hX : va_X b L xs s s.heap) (hbl : b < s.heap.size) (hbA : ¬ A b) {i C S : Nat} (hi : i + 6 ≤ L) (hL : L ≤ 3072) (hC : C + 1 ≤ room_1.cells) (hS : S + 4096 ≤ room_1.slots) {H : Heap} {locs : List Loc} {ls : Array Slot} {h : Nat → Nat} {g : Nat → Nat} {n_m0 : Nat} {n_m1 : Nat} {n_m2 : Nat} {n_s0 : Nat} {n_s1 : Nat} {n_s2 : Nat} {n_uq : Nat} {n_wq : Nat} {tp : Nat → Option Nat} {ta : Nat → Nat} {ti : Nat → Nat} {x_hasImage : Int32} {f_places : Int32} {f_kinds : Int32} {f_weights : Nat → Int32} {f_howManyGenerators : Int32} {f_generators : Nat → Int32} {f_racks : Nat → Int32} {f_howManySeen : Int32} {f_seenFirst : Nat → Int32} {f_seenSecond : Nat → Int32} {f_seenIs : Nat → Int32} {f_seenPlaces : Nat → Int32} {f_howManyEvents : Int32} {f_eventWhat : Nat → Int32} {f_eventNumber : Nat → Int32} {g_places : Int32} {g_kinds : Int32} {g_weights : Nat → Int32} {g_howManyGenerators : Int32} {g_generators : Nat → Int32} {g_racks : Nat → Int32} {g_howManySeen : Int32} {g_seenFirst : Nat → Int32} {g_seenSecond : Nat → Int32} {g_seenIs : Nat → Int32} {g_seenPlaces : Nat → Int32} {g_howManyEvents : Int32} {g_eventWhat : Nat → Int32} {g_eventNumber : Nat → Int32} {v_keys : Nat → Int32} {v_asFound : Nat → Int32} {v_found : Int32} {v_turns : Int32} {v_places : Int32} {p_keys : Nat → Int32} {p_asFound : Nat → Int32} {p_found : Int32} {p_turns : Int32} {p_places : Int32} {i_sort : Nat → Int32} {i_howOften : Nat → Int32} {i_sorts : Int32} {i_moves : Int32} {n_u : Nat} {u_leasts : Nat → Int32} {u_howMany : Int32} {u_known : Int32} {n_w : Nat} {w_leasts : Nat → Int32} {w_howMany : Int32} {w_known : Int32} {t_signs : Nat → Int32} {t_length : Int32} {t_whole : Int32} {t_begins : Nat → Int32} {t_ends : Nat → Int32} {r_sorts : Nat → Int32} {r_numbers : Nat → Int32} {r_length : Int32} {sr : Nat → Int32} {ln : Nat → Int32} {it : Nat → Nat → Int64} {z_thrown : Int32} {z_s : Nat → Int32} {z_kept : Nat → Int32} {z_isKept : Int32} {z_moveMany : Int32} {z_moves : Nat → Int32} {z_hands : Nat → Int32} {z_troubles : Int32} {z_troubleSorts : Nat → Int32} {z_troubleNumbers : Nat → Int32} {z_asked : Nat → Int32} {z_paint : Nat → Int32} {z_leasts : Nat → Int32} {z_isSeen : Nat → Int32} {z_classMany : Int32} {z_types : Nat → Int32} {z_typeCounts : Nat → Int32} {z_typeMany : Int32} {z_text : Nat → Int32} {z_signs : Int32} {z_at : Int32} {z_lacks : Int32} {z_clauses : Int32} {z_begun : Int32} {z_letters : Nat → Int32} {z_firsts : Nat → Int32} {z_seconds : Nat → Int32} {z_aside : Nat → Int32} {z_sorts : Nat → Int32} {z_sizes : Nat → Int32} {z_items : Nat → Int64} (htp : ∀ j : Nat, j < 6 → tp j = some (ta j)) (hR : RR x_hasImage f_places f_kinds f_weights f_howManyGenerators f_generators f_racks f_howManySeen f_seenFirst f_seenSecond f_seenIs f_seenPlaces f_howManyEvents f_eventWhat f_eventNumber g_places g_kinds g_weights g_howManyGenerators g_generators g_racks g_howManySeen g_seenFirst g_seenSecond g_seenIs g_seenPlaces g_howManyEvents g_eventWhat g_eventNumber v_keys v_asFound v_found v_turns v_places p_keys p_asFound p_found p_turns p_places i_sort i_howOften i_sorts i_moves n_u u_leasts u_howMany u_known n_w w_leasts w_howMany w_known t_signs t_length t_whole t_begins t_ends r_sorts r_numbers r_length sr ln it z_thrown z_s z_kept z_isKept z_moveMany z_moves z_hands z_troubles z_troubleSorts z_troubleNumbers z_asked z_paint z_leasts z_isSeen z_classMany z_types z_typeCounts z_typeMany z_text z_signs z_at z_lacks z_clauses z_begun z_letters z_firsts z_seconds z_aside z_sorts z_sizes z_items) (hI : IN A G ((xb G h x_hasImage f_places f_kinds f_weights f_howManyGenerators f_generators f_racks f_howManySeen f_seenFirst f_seenSecond f_seenIs f_seenPlaces f_howManyEvents f_eventWhat f_eventNumber g_places g_kinds g_weights g_howManyGenerators g_generators g_racks g_howManySeen g_seenFirst g_seenSecond g_seenIs g_seenPlaces g_howManyEvents g_eventWhat g_eventNumber n_m0 n_m1 n_m2 n_s0 n_s1 n_s2 v_keys v_asFound v_found v_turns v_places p_keys p_asFound p_found p_turns p_places i_sort i_howOften i_sorts i_moves n_uq n_u u_leasts u_howMany u_known n_wq n_w w_leasts w_howMany w_known t_signs t_length t_whole t_begins t_ends r_sorts r_numbers r_length) ++ ((tl G h tp ta ti sr ln it) ++ (mw G g z_thrown z_s z_kept z_isKept z_moveMany z_moves z_hands z_troubles z_troubleSorts z_troubleNumbers z_asked z_paint z_leasts z_isSeen z_classMany z_types z_typeCounts z_typeMany z_text z_signs z_at z_lacks z_clauses z_begun z_letters z_firsts z_seconds z_aside z_sorts z_sizes z_items))) s H locs) (hl : lv_has ls 4 [(0, .ref b), (1, .ref (h 0)), (2, .ref (g 0)), (3, .int (nI i))]) (hLI : LI RR G A s b i H locs ls)
    (kk : ∀ (H : Heap) (locs : List Loc) (ls : Array Slot), LI RR G A s b i H locs ls → W p l e room_1 s m #[Value.ref b] below meth c H locs (C + 1) (S + 4096) Q (F0 m 1492 ls [])) {v : Nat} (hv : v < 64) : W p l e room_1 s m #[Value.ref b] below meth c H locs C S Q (F0 m 33 ls [.int (nI v)]) := by
  obtain ⟨hx, hb, hml, hown, hts, hr, hlk⟩ := id X
  by_cases c0 : v = 0
  · subst c0
    refine lv_tableIn (pc := 33) (tgt := 204) hx hb dL_law_33 (by decide) (by decide) rfl (by decide) ?_
    exact law_0 (rr := RR) @op_places X E hX hbl hbA hi hL hC hS htp hR hI hl kk
  by_cases c1 : v = 1
  · subst c1
    refine lv_tableIn (pc := 33) (tgt := 227) hx hb dL_law_33 (by decide) (by decide) rfl (by decide) ?_
    exact law_1 (rr := RR) @op_kinds X E hX hbl hbA hi hL hC hS htp hR hI hl kk
  by_cases c2 : v = 2
  · subst c2
    refine lv_tableIn (pc := 33) (tgt := 250) hx hb dL_law_33 (by decide) (by decide) rfl (by decide) ?_
    exact law_2 (rr := RR) @op_weight X E hX hbl hbA hi hL hC hS htp hR hI hl kk
  by_cases c3 : v = 3
  · subst c3
    refine lv_tableIn (pc := 33) (tgt := 283) hx hb dL_law_33 (by decide) (by decide) rfl (by decide) ?_
    exact law_3 (rr := RR) @op_generator X E hX hbl hbA hi hL hC hS htp hR hI hl kk
  by_cases c4 : v = 4
  · subst c4
    refine lv_tableIn (pc := 33) (tgt := 316) hx hb dL_law_33 (by decide) (by decide) rfl (by decide) ?_
    exact law_4 (rr := RR) @op_drop X E hX hbl hbA hi hL hC hS htp hR hI hl kk
  by_cases c5 : v = 5
  · subst c5
    refine lv_tableIn (pc := 33) (tgt := 329) hx hb dL_law_33 (by decide) (by decide) rfl (by decide) ?_
    exact law_5 (rr := RR) @op_of X E hX hbl hbA hi hL hC hS htp hR hI hl kk
  by_cases c6 : v = 6
  · subst c6
    refine lv_tableIn (pc := 33) (tgt := 362) hx hb dL_law_33 (by decide) (by decide) rfl (by decide) ?_
    exact law_6 (rr := RR) @op_lay X E hX hbl hbA hi hL hC hS htp hR hI hl kk
  by_cases c7 : v = 7
  · subst c7
    refine lv_tableIn (pc := 33) (tgt := 405) hx hb dL_law_33 (by decide) (by decide) rfl (by decide) ?_
    exact law_7 (rr := RR) @op_rack X E hX hbl hbA hi hL hC hS htp hR hI hl kk
  by_cases c8 : v = 8
  · subst c8
    refine lv_tableIn (pc := 33) (tgt := 438) hx hb dL_law_33 (by decide) (by decide) rfl (by decide) ?_
    exact law_8 (rr := RR) @op_move X E hX hbl hbA hi hL hC hS htp hR hI hl kk
  by_cases c9 : v = 9
  · subst c9
    refine lv_tableIn (pc := 33) (tgt := 471) hx hb dL_law_33 (by decide) (by decide) rfl (by decide) ?_
    exact law_9 (rr := RR) @op_told X E hX hbl hbA hi hL hC hS htp hR hI hl kk
  by_cases c10 : v = 10
  · subst c10
    refine lv_tableIn (pc := 33) (tgt := 494) hx hb dL_law_33 (by decide) (by decide) rfl (by decide) ?_
    exact law_10 (rr := RR) @op_index X E hX hbl hbA hi hL hC hS htp hR hI hl kk
  by_cases c11 : v = 11
  · subst c11
    refine lv_tableIn (pc := 33) (tgt := 537) hx hb dL_law_33 (by decide) (by decide) rfl (by decide) ?_
    exact law_11 (rr := RR) @op_part X E hX hbl hbA hi hL hC hS htp hR hI hl kk
  by_cases c12 : v = 12
  · subst c12
    refine lv_tableIn (pc := 33) (tgt := 581) hx hb dL_law_33 (by decide) (by decide) rfl (by decide) ?_
    exact law_12 (rr := RR) @op_many X E hX hbl hbA hi hL hC hS htp hR hI hl kk
  by_cases c13 : v = 13
  · subst c13
    refine lv_tableIn (pc := 33) (tgt := 615) hx hb dL_law_33 (by decide) (by decide) rfl (by decide) ?_
    exact law_13 (rr := RR) @op_least X E hX hbl hbA hi hL hC hS htp hR hI hl kk
  by_cases c14 : v = 14
  · subst c14
    refine lv_tableIn (pc := 33) (tgt := 648) hx hb dL_law_33 (by decide) (by decide) rfl (by decide) ?_
    exact law_14 (rr := RR) @op_size X E hX hbl hbA hi hL hC hS htp hR hI hl kk
  by_cases c15 : v = 15
  · subst c15
    refine lv_tableIn (pc := 33) (tgt := 681) hx hb dL_law_33 (by decide) (by decide) rfl (by decide) ?_
    exact law_15 (rr := RR) @op_kindOf X E hX hbl hbA hi hL hC hS htp hR hI hl kk
  by_cases c16 : v = 16
  · subst c16
    refine lv_tableIn (pc := 33) (tgt := 724) hx hb dL_law_33 (by decide) (by decide) rfl (by decide) ?_
    exact law_16 (rr := RR) @op_heavy X E hX hbl hbA hi hL hC hS htp hR hI hl kk
  by_cases c17 : v = 17
  · subst c17
    refine lv_tableIn (pc := 33) (tgt := 757) hx hb dL_law_33 (by decide) (by decide) rfl (by decide) ?_
    exact law_17 (rr := RR) @op_use X E hX hbl hbA hi hL hC hS htp hR hI hl kk
  by_cases c18 : v = 18
  · subst c18
    refine lv_tableIn (pc := 33) (tgt := 790) hx hb dL_law_33 (by decide) (by decide) rfl (by decide) ?_
    exact law_18 (rr := RR) @op_same X E hX hbl hbA hi hL hC hS htp hR hI hl kk
  by_cases c19 : v = 19
  · subst c19
    refine lv_tableIn (pc := 33) (tgt := 833) hx hb dL_law_33 (by decide) (by decide) rfl (by decide) ?_
    exact law_19 (rr := RR) @op_handed X E hX hbl hbA hi hL hC hS htp hR hI hl kk
  by_cases c20 : v = 20
  · subst c20
    refine lv_tableIn (pc := 33) (tgt := 866) hx hb dL_law_33 (by decide) (by decide) rfl (by decide) ?_
    exact law_20 (rr := RR) @op_even X E hX hbl hbA hi hL hC hS htp hR hI hl kk
  by_cases c21 : v = 21
  · subst c21
    refine lv_tableIn (pc := 33) (tgt := 889) hx hb dL_law_33 (by decide) (by decide) rfl (by decide) ?_
    exact law_21 (rr := RR) @op_likely X E hX hbl hbA hi hL hC hS htp hR hI hl kk
  by_cases c22 : v = 22
  · subst c22
    refine lv_tableIn (pc := 33) (tgt := 923) hx hb dL_law_33 (by decide) (by decide) rfl (by decide) ?_
    exact law_22 (rr := RR) @op_mean X E hX hbl hbA hi hL hC hS htp hR hI hl kk
  by_cases c23 : v = 23
  · subst c23
    refine lv_tableIn (pc := 33) (tgt := 956) hx hb dL_law_33 (by decide) (by decide) rfl (by decide) ?_
    exact law_23 (rr := RR) @op_spread X E hX hbl hbA hi hL hC hS htp hR hI hl kk
  by_cases c24 : v = 24
  · subst c24
    refine lv_tableIn (pc := 33) (tgt := 990) hx hb dL_law_33 (by decide) (by decide) rfl (by decide) ?_
    exact law_24 (rr := RR) @op_feed X E hX hbl hbA hi hL hC hS htp hR hI hl kk
  by_cases c25 : v = 25
  · subst c25
    refine lv_tableIn (pc := 33) (tgt := 1013) hx hb dL_law_33 (by decide) (by decide) rfl (by decide) ?_
    exact law_25 (rr := RR) @op_read X E hX hbl hbA hi hL hC hS htp hR hI hl kk
  by_cases c26 : v = 26
  · subst c26
    refine lv_tableIn (pc := 33) (tgt := 1026) hx hb dL_law_33 (by decide) (by decide) rfl (by decide) ?_
    exact law_26 (rr := RR) @op_cause X E hX hbl hbA hi hL hC hS htp hR hI hl kk
  by_cases c27 : v = 27
  · subst c27
    refine lv_tableIn (pc := 33) (tgt := 1059) hx hb dL_law_33 (by decide) (by decide) rfl (by decide) ?_
    exact law_27 (rr := RR) @op_see X E hX hbl hbA hi hL hC hS htp hR hI hl kk
  by_cases c28 : v = 28
  · subst c28
    refine lv_tableIn (pc := 33) (tgt := 1118) hx hb dL_law_33 (by decide) (by decide) rfl (by decide) ?_
    exact law_28 (rr := RR) @op_fits X E hX hbl hbA hi hL hC hS htp hR hI hl kk
  by_cases c29 : v = 29
  · subst c29
    refine lv_tableIn (pc := 33) (tgt := 1141) hx hb dL_law_33 (by decide) (by decide) rfl (by decide) ?_
    exact law_29 (rr := RR) @op_event X E hX hbl hbA hi hL hC hS htp hR hI hl kk
  by_cases c30 : v = 30
  · subst c30
    refine lv_tableIn (pc := 33) (tgt := 1174) hx hb dL_law_33 (by decide) (by decide) rfl (by decide) ?_
    exact law_30 (rr := RR) @op_after X E hX hbl hbA hi hL hC hS htp hR hI hl kk
  by_cases c31 : v = 31
  · subst c31
    refine lv_tableIn (pc := 33) (tgt := 1187) hx hb dL_law_33 (by decide) (by decide) rfl (by decide) ?_
    exact law_31 (rr := RR) @op_judge X E hX hbl hbA hi hL hC hS htp hR hI hl kk
  by_cases c32 : v = 32
  · subst c32
    refine lv_tableIn (pc := 33) (tgt := 1230) hx hb dL_law_33 (by decide) (by decide) rfl (by decide) ?_
    exact law_32 (rr := RR) @op_image X E hX hbl hbA hi hL hC hS htp hR hI hl kk
  by_cases c33 : v = 33
  · subst c33
    refine lv_tableIn (pc := 33) (tgt := 1243) hx hb dL_law_33 (by decide) (by decide) rfl (by decide) ?_
    exact law_33 (rr := RR) @op_undo X E hX hbl hbA hi hL hC hS htp hR hI hl kk
  by_cases c34 : v = 34
  · subst c34
    refine lv_tableIn (pc := 33) (tgt := 1256) hx hb dL_law_33 (by decide) (by decide) rfl (by decide) ?_
    exact law_34 (rr := RR) @op_count X E hX hbl hbA hi hL hC hS htp hR hI hl kk
  by_cases c35 : v = 35
  · subst c35
    refine lv_tableIn (pc := 33) (tgt := 1279) hx hb dL_law_33 (by decide) (by decide) rfl (by decide) ?_
    exact law_35 (rr := RR) @op_tape X E hX hbl hbA hi hL hC hS htp hR hI hl kk
  by_cases c36 : v = 36
  · subst c36
    refine lv_tableIn (pc := 33) (tgt := 1322) hx hb dL_law_33 (by decide) (by decide) rfl (by decide) ?_
    exact law_36 (rr := RR) @op_item X E hX hbl hbA hi hL hC hS htp hR hI hl kk
  by_cases c37 : v = 37
  · subst c37
    refine lv_tableIn (pc := 33) (tgt := 1395) hx hb dL_law_33 (by decide) (by decide) rfl (by decide) ?_
    exact law_37 (rr := RR) @op_peek X E hX hbl hbA hi hL hC hS htp hR hI hl kk
  by_cases c38 : v = 38
  · subst c38
    refine lv_tableIn (pc := 33) (tgt := 1429) hx hb dL_law_33 (by decide) (by decide) rfl (by decide) ?_
    exact law_38 (rr := RR) @op_shift X E hX hbl hbA hi hL hC hS htp hR hI hl kk
  refine lv_tableOut (pc := 33) (tgt := 1492) hx hb dL_law_33 (out_38 hv (by omega)) (by decide) ?_
  exact W.widen (k := C + 1) (n := S + 4096) (by omega) (by omega) (kk _ _ _ hLI)
set_option maxHeartbeats 8000000 in
set_option maxRecDepth 100000 in
theorem law_turn {p : Program} {l : Launch} {e : Env} {s : State} {m : MethodId} {below : List Frame} {meth : Method} {c : Code} {b L : Nat} {xs : Nat → Int32} {A : Nat → Prop} {G : GX} {Q : State → Prop} (X : CX RL code 4 ret p s m #[Value.ref b] meth c) (E : EX G A s) (hX : va_X b L xs s s.heap) (hbl : b < s.heap.size) (hbA : ¬ A b) {i C S : Nat} (hi : i + 6 ≤ L) (hL : L ≤ 3072) (hC : C + 1 ≤ room_1.cells) (hS : S + 4096 ≤ room_1.slots) {H : Heap} {locs : List Loc} {ls : Array Slot} (hLI : LI RR G A s b i H locs ls)
    (kk : ∀ (H : Heap) (locs : List Loc) (ls : Array Slot), LI RR G A s b i H locs ls → W p l e room_1 s m #[Value.ref b] below meth c H locs (C + 1) (S + 4096) Q (F0 m 1492 ls [])) {v : Nat} (hv : v < 64) : W p l e room_1 s m #[Value.ref b] below meth c H locs C S Q (F0 m 33 ls [.int (nI v)]) :=
  LI_of hLI (fun h g n_m0 n_m1 n_m2 n_s0 n_s1 n_s2 n_uq n_wq tp ta ti x_hasImage f_places f_kinds f_weights f_howManyGenerators f_generators f_racks f_howManySeen f_seenFirst f_seenSecond f_seenIs f_seenPlaces f_howManyEvents f_eventWhat f_eventNumber g_places g_kinds g_weights g_howManyGenerators g_generators g_racks g_howManySeen g_seenFirst g_seenSecond g_seenIs g_seenPlaces g_howManyEvents g_eventWhat g_eventNumber v_keys v_asFound v_found v_turns v_places p_keys p_asFound p_found p_turns p_places i_sort i_howOften i_sorts i_moves n_u u_leasts u_howMany u_known n_w w_leasts w_howMany w_known t_signs t_length t_whole t_begins t_ends r_sorts r_numbers r_length sr ln it z_thrown z_s z_kept z_isKept z_moveMany z_moves z_hands z_troubles z_troubleSorts z_troubleNumbers z_asked z_paint z_leasts z_isSeen z_classMany z_types z_typeCounts z_typeMany z_text z_signs z_at z_lacks z_clauses z_begun z_letters z_firsts z_seconds z_aside z_sorts z_sizes z_items htp hR hI hl => law_turnc X E hX hbl hbA hi hL hC hS htp hR hI hl hLI kk hv)
theorem law_loop {p : Program} {l : Launch} {e : Env} {s : State} {m : MethodId} {below : List Frame} {meth : Method} {c : Code} {b L : Nat} {xs : Nat → Int32} {A : Nat → Prop} {G : GX} {Q : State → Prop} (X : CX RL code 4 ret p s m #[Value.ref b] meth c) (E : EX G A s) (hX : va_X b L xs s s.heap) (hbl : b < s.heap.size) (hbA : ¬ A b) (hL : L ≤ 3072) (hQ : ∀ (H : Heap) (locs : List Loc) (ls : Array Slot) (C S : Nat), C ≤ room_1.cells → S ≤ room_1.slots → va_S A s.heap H locs → W p l e room_1 s m #[Value.ref b] below meth c H locs C S Q (F0 m 1498 ls [])) : ∀ (d i C S : Nat) (H : Heap) (locs : List Loc) (ls : Array Slot), L < i + 6 * (d + 1) → i ≤ 4096 → C + d ≤ room_1.cells → S + 4096 * d ≤ room_1.slots → LI RR G A s b i H locs ls → W p l e room_1 s m #[Value.ref b] below meth c H locs C S Q (F0 m 18 ls []) := by
  obtain ⟨hx, hb, hml, hown, hts, hr, hlk⟩ := id X
  intro d
  induction d with
  | zero =>
    intro i C S H locs ls hd hi4 hC hS hLI
    obtain ⟨hVS, h0, g0, hl, hback⟩ := LI_at hLI
    refine lv_iload_n (pc := 18) hx hb dL_law_18 rfl (lv_at hl 3 rfl) ?_
    refine lv_aload_n (pc := 19) hx hb dL_law_19 rfl (lv_at hl 0 rfl) ?_
    refine va_slen (pc := 20) hx hb hX hbl hbA hVS dL_law_20 ?_
    refine lv_bipush (pc := 21) (v := nI 6) hx hb dL_law_21 (by decide) ?_
    refine lv_isub (pc := 23) hx hb dL_law_23 ?_
    refine lv_icmp_gt (pc := 24) (tgt := 1498) hx hb dL_law_24 (by decide) (fun c1 => hQ _ _ _ _ _ (by omega) (by omega) hVS) (fun c1 => ?_)
    exact absurd (law_more hL hi4 c1) (by omega)
  | succ d ih =>
    intro i C S H locs ls hd hi4 hC hS hLI
    obtain ⟨hVS, h0, g0, hl, hback⟩ := LI_at hLI
    refine lv_iload_n (pc := 18) hx hb dL_law_18 rfl (lv_at hl 3 rfl) ?_
    refine lv_aload_n (pc := 19) hx hb dL_law_19 rfl (lv_at hl 0 rfl) ?_
    refine va_slen (pc := 20) hx hb hX hbl hbA hVS dL_law_20 ?_
    refine lv_bipush (pc := 21) (v := nI 6) hx hb dL_law_21 (by decide) ?_
    refine lv_isub (pc := 23) hx hb dL_law_23 ?_
    refine lv_icmp_gt (pc := 24) (tgt := 1498) hx hb dL_law_24 (by decide) (fun c1 => hQ _ _ _ _ _ (by omega) (by omega) hVS) (fun c1 => ?_)
    have hi := law_more hL hi4 c1
    refine lv_aload_n (pc := 27) hx hb dL_law_27 rfl (lv_at hl 0 rfl) ?_
    refine lv_iload_n (pc := 28) hx hb dL_law_28 rfl (lv_at hl 3 rfl) ?_
    refine va_sld (pc := 29) hx hb hX hbl hbA hVS (show vp_in (nI i) L from vp_in_nI (by omega) (by omega)) dL_law_29 ?_
    refine lv_bipush (pc := 30) (v := 63) hx hb dL_law_30 (by decide) ?_
    refine lv_iand (pc := 32) hx hb dL_law_32 ?_
    obtain ⟨v, hv, ev⟩ := and63 (xs (nI i).toNatClampNeg)
    rw [ev]
    have h9 : S + 4096 * (d + 1) = S + 4096 + 4096 * d := by rw [Nat.mul_succ, Nat.add_comm (4096 * d), Nat.add_assoc]
    have hS1 : S + 4096 + 4096 * d ≤ room_1.slots := by
      rw [← h9]
      exact hS
    have hS2 : S + 4096 ≤ room_1.slots := Nat.le_trans (Nat.le_add_right _ _) hS1
    refine law_turn X E hX hbl hbA hi hL (by omega) hS2 hLI (fun H locs ls hLI => ?_) hv
    obtain ⟨hVS, h0, g0, hl, hback⟩ := LI_at hLI
    refine lv_iinc (pc := 1492) (v := nI (i + 6)) (lv' := [(3, .int (nI (i + 6))), (0, .ref b), (1, .ref h0), (2, .ref g0)]) hx hb dL_law_1492 hl (k := 3) rfl (nI_add i 6) (by decide) rfl (fun ls hl => ?_)
    refine lv_goto (pc := 1495) (tgt := 18) hx hb dL_law_1495 (by decide) ?_
    exact ih (i + 6) (C + 1) (S + 4096) _ _ _ (by omega) (by omega) (by omega) hS1 (hback _ _ (lv_sub hl [1, 2, 3, 0] rfl))
