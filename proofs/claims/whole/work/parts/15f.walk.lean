abbrev rm_X9_see : Room := { frames := 3, cells := 0, slots := 0, locals := 69 }
set_option maxHeartbeats 4000000 in
set_option maxRecDepth 100000 in
theorem c_X9_see (l : Launch) (G : GX) (h : Nat → Nat) {l1 : Int32} {l2 : Int32} {l3 : Int32} {f_places : Int32} {f_kinds : Int32} {f_howManySeen : Int32} {f_seenFirst : Nat → Int32} {f_seenSecond : Nat → Int32} {f_seenIs : Nat → Int32} {f_seenPlaces : Nat → Int32} {x_hasImage : Int32} {f_weights : Nat → Int32} {f_howManyGenerators : Int32} {f_generators : Nat → Int32} {f_racks : Nat → Int32} {f_howManyEvents : Int32} {f_eventWhat : Nat → Int32} {f_eventNumber : Nat → Int32} {g_places : Int32} {g_kinds : Int32} {g_weights : Nat → Int32} {g_howManyGenerators : Int32} {g_generators : Nat → Int32} {g_racks : Nat → Int32} {g_howManySeen : Int32} {g_seenFirst : Nat → Int32} {g_seenSecond : Nat → Int32} {g_seenIs : Nat → Int32} {g_seenPlaces : Nat → Int32} {g_howManyEvents : Int32} {g_eventWhat : Nat → Int32} {g_eventNumber : Nat → Int32} {n_m0 : Nat} {n_m1 : Nat} {n_m2 : Nat} {n_s0 : Nat} {n_s1 : Nat} {n_s2 : Nat} {v_keys : Nat → Int32} {v_asFound : Nat → Int32} {v_found : Int32} {v_turns : Int32} {v_places : Int32} {p_keys : Nat → Int32} {p_asFound : Nat → Int32} {p_found : Int32} {p_turns : Int32} {p_places : Int32} {i_sort : Nat → Int32} {i_howOften : Nat → Int32} {i_sorts : Int32} {i_moves : Int32} {n_uq : Nat} {n_u : Nat} {u_leasts : Nat → Int32} {u_howMany : Int32} {u_known : Int32} {n_wq : Nat} {n_w : Nat} {w_leasts : Nat → Int32} {w_howMany : Int32} {w_known : Int32} {t_signs : Nat → Int32} {t_length : Int32} {t_whole : Int32} {t_begins : Nat → Int32} {t_ends : Nat → Int32} {r_sorts : Nat → Int32} {r_numbers : Nat → Int32} {r_length : Int32} {wo : va_W} {res : Int32 × Int32 × (Nat → Int32) × (Nat → Int32) × (Nat → Int32) × (Nat → Int32)} (hf : f_X9_see l1 l2 l3 f_places f_kinds f_howManySeen f_seenFirst f_seenSecond f_seenIs f_seenPlaces = some res) : MX l yX9_see cX9_see 6 (some .int) rm_X9_see G ((xb G h x_hasImage f_places f_kinds f_weights f_howManyGenerators f_generators f_racks f_howManySeen f_seenFirst f_seenSecond f_seenIs f_seenPlaces f_howManyEvents f_eventWhat f_eventNumber g_places g_kinds g_weights g_howManyGenerators g_generators g_racks g_howManySeen g_seenFirst g_seenSecond g_seenIs g_seenPlaces g_howManyEvents g_eventWhat g_eventNumber n_m0 n_m1 n_m2 n_s0 n_s1 n_s2 v_keys v_asFound v_found v_turns v_places p_keys p_asFound p_found p_turns p_places i_sort i_howOften i_sorts i_moves n_uq n_u u_leasts u_howMany u_known n_wq n_w w_leasts w_howMany w_known t_signs t_length t_whole t_begins t_ends r_sorts r_numbers r_length) ++ wo) [.ref (h 0), .int l1, .int l2, .int l3] ((xb G h x_hasImage f_places f_kinds f_weights f_howManyGenerators f_generators f_racks res.2.1 res.2.2.1 res.2.2.2.1 res.2.2.2.2.1 res.2.2.2.2.2 f_howManyEvents f_eventWhat f_eventNumber g_places g_kinds g_weights g_howManyGenerators g_generators g_racks g_howManySeen g_seenFirst g_seenSecond g_seenIs g_seenPlaces g_howManyEvents g_eventWhat g_eventNumber n_m0 n_m1 n_m2 n_s0 n_s1 n_s2 v_keys v_asFound v_found v_turns v_places p_keys p_asFound p_found p_turns p_places i_sort i_howOften i_sorts i_moves n_uq n_u u_leasts u_howMany u_known n_wq n_w w_leasts w_howMany w_known t_signs t_length t_whole t_begins t_ends r_sorts r_numbers r_length) ++ wo) (some (.int res.1)) 0 0 := by
  refine MX.of (plainFor_of_name (by decide)) (Nat.le_of_ble_eq_true rfl) ?_
  intro p e s m below meth c A X E hI ls hl
  obtain ⟨hx, hb, hml, hown, hts, hr, hlk⟩ := id X
  have hl : lv_has ls 6 [(0, .ref (h 0)), (1, .int l1), (2, .int l2), (3, .int l3)] := hl
  unfold f_X9_see at hf
  refine lv_iload_n (pc := 0) hx hb dX9_see_0 rfl (lv_at hl 1 rfl) ?_
  refine lv_iconst (pc := 1) (v := (-1)) hx hb dX9_see_1 (by decide) ?_
  refine lv_icmp_ne (pc := 2) (tgt := 15) hx hb dX9_see_2 (by decide) (fun c1 => ?_) (fun c1 => ?_)
  · have hf := q_in c1 hf
    refine lv_aload_n (pc := 15) hx hb dX9_see_15 rfl (lv_at hl 0 rfl) ?_
    refine lv_iload_n (pc := 16) hx hb dX9_see_16 rfl (lv_at hl 1 rfl) ?_
    obtain ⟨t2, e2, hf⟩ := q_ob hf
    refine x_cVs (pc := 17) (st1 := [.int t2]) (w1 := ((xb G h x_hasImage f_places f_kinds f_weights f_howManyGenerators f_generators f_racks f_howManySeen f_seenFirst f_seenSecond f_seenIs f_seenPlaces f_howManyEvents f_eventWhat f_eventNumber g_places g_kinds g_weights g_howManyGenerators g_generators g_racks g_howManySeen g_seenFirst g_seenSecond g_seenIs g_seenPlaces g_howManyEvents g_eventWhat g_eventNumber n_m0 n_m1 n_m2 n_s0 n_s1 n_s2 v_keys v_asFound v_found v_turns v_places p_keys p_asFound p_found p_turns p_places i_sort i_howOften i_sorts i_moves n_uq n_u u_leasts u_howMany u_known n_wq n_w w_leasts w_howMany w_known t_signs t_length t_whole t_begins t_ends r_sorts r_numbers r_length) ++ wo)) X E hI (c_X9_packedPainting l G h e2) kv_X9_182 hd_X9_packedPainting ⟨rfl, rfl⟩ (by decide) 0 rfl rfl rfl rfl hl.1 rfl (Nat.le_of_ble_eq_true rfl) dX9_see_17 ⟨Nat.le_of_ble_eq_true rfl, Nat.le_of_ble_eq_true rfl⟩ rfl (fun H locs hI => ?_)
    refine lv_istore (pc := 20) (lv' := [(4, .int t2), (0, .ref (h 0)), (1, .int l1), (2, .int l2), (3, .int l3)]) hx hb dX9_see_20 hl (by decide) rfl (fun ls hl => ?_)
    refine lv_aload_n (pc := 22) hx hb dX9_see_22 rfl (lv_at hl 1 rfl) ?_
    refine lv_iload_n (pc := 23) hx hb dX9_see_23 rfl (lv_at hl 3 rfl) ?_
    obtain ⟨t3, e3, hf⟩ := q_ob hf
    refine x_cVs (pc := 24) (st1 := [.int t3]) (w1 := ((xb G h x_hasImage f_places f_kinds f_weights f_howManyGenerators f_generators f_racks f_howManySeen f_seenFirst f_seenSecond f_seenIs f_seenPlaces f_howManyEvents f_eventWhat f_eventNumber g_places g_kinds g_weights g_howManyGenerators g_generators g_racks g_howManySeen g_seenFirst g_seenSecond g_seenIs g_seenPlaces g_howManyEvents g_eventWhat g_eventNumber n_m0 n_m1 n_m2 n_s0 n_s1 n_s2 v_keys v_asFound v_found v_turns v_places p_keys p_asFound p_found p_turns p_places i_sort i_howOften i_sorts i_moves n_uq n_u u_leasts u_howMany u_known n_wq n_w w_leasts w_howMany w_known t_signs t_length t_whole t_begins t_ends r_sorts r_numbers r_length) ++ wo)) X E hI (c_X9_packedPainting l G h e3) kv_X9_182 hd_X9_packedPainting ⟨rfl, rfl⟩ (by decide) 0 rfl rfl rfl rfl hl.1 rfl (Nat.le_of_ble_eq_true rfl) dX9_see_24 ⟨Nat.le_of_ble_eq_true rfl, Nat.le_of_ble_eq_true rfl⟩ rfl (fun H locs hI => ?_)
    refine lv_istore (pc := 27) (lv' := [(5, .int t3), (4, .int t2), (0, .ref (h 0)), (1, .int l1), (2, .int l2), (3, .int l3)]) hx hb dX9_see_27 hl (by decide) rfl (fun ls hl => ?_)
    refine lv_iload (pc := 29) hx hb dX9_see_29 (lv_at hl 1 rfl) ?_
    refine lv_if_lt (pc := 31) (tgt := 39) hx hb dX9_see_31 (by decide) (fun c4 => ?_) (fun c4 => ?_)
    · have hf := q_ip c4 hf
      refine lv_bipush (pc := 39) (v := (-2)) hx hb dX9_see_39 (by decide) ?_
      obtain rfl := Option.some.inj hf
      exact x_iret X hI dX9_see_41
    · have hf := q_in c4 hf
      refine lv_iload (pc := 34) hx hb dX9_see_34 (lv_at hl 0 rfl) ?_
      refine lv_if_ge (pc := 36) (tgt := 42) hx hb dX9_see_36 (by decide) (fun c5 => ?_) (fun c5 => ?_)
      · have hf := q_ip c5 hf
        refine lv_aload_n (pc := 42) hx hb dX9_see_42 rfl (lv_at hl 2 rfl) ?_
        refine x_get (pc := 43) X E hI inX9 0 rfl rfl 0 (by decide) tw_2_7 rfl dX9_see_43 ?_
        refine lv_iload (pc := 46) hx hb dX9_see_46 (lv_at hl 1 rfl) ?_
        refine lv_iload (pc := 48) hx hb dX9_see_48 (lv_at hl 0 rfl) ?_
        refine lv_iload_n (pc := 50) hx hb dX9_see_50 rfl (lv_at hl 5 rfl) ?_
        refine lv_if_eq (pc := 51) (tgt := 58) hx hb dX9_see_51 (by decide) (fun c6 => ?_) (fun c6 => ?_)
        · have hf := q_ip c6 hf
          refine lv_iconst (pc := 58) (v := 0) hx hb dX9_see_58 (by decide) ?_
          obtain ⟨t7, e7, hf⟩ := q_ob hf
          refine x_cVt (pc := 59) (st1 := [.int t7.1]) (w2 := (xb G h x_hasImage f_places f_kinds f_weights f_howManyGenerators f_generators f_racks t7.2.1 t7.2.2.1 t7.2.2.2.1 t7.2.2.2.2.1 t7.2.2.2.2.2 f_howManyEvents f_eventWhat f_eventNumber g_places g_kinds g_weights g_howManyGenerators g_generators g_racks g_howManySeen g_seenFirst g_seenSecond g_seenIs g_seenPlaces g_howManyEvents g_eventWhat g_eventNumber n_m0 n_m1 n_m2 n_s0 n_s1 n_s2 v_keys v_asFound v_found v_turns v_places p_keys p_asFound p_found p_turns p_places i_sort i_howOften i_sorts i_moves n_uq n_u u_leasts u_howMany u_known n_wq n_w w_leasts w_howMany w_known t_signs t_length t_whole t_begins t_ends r_sorts r_numbers r_length)) X E hI (c_X3_addSeen l G (h 1) (h 2) (h 3) (h 4) (h 5) (h 6) (h 7) (h 8) (h 9) (h 10) e7) kv_X9_263 hd_X3_addSeen ⟨rfl, rfl⟩ (by decide) pt_xb_fw_0 pt_xb_fw_0q 0 rfl rfl rfl rfl hl.1 rfl (Nat.le_of_ble_eq_true rfl) dX9_see_59 ⟨Nat.le_of_ble_eq_true rfl, Nat.le_of_ble_eq_true rfl⟩ rfl (fun H locs hI => ?_)
          refine lv_if_eq (pc := 62) (tgt := 75) hx hb dX9_see_62 (by decide) (fun c8 => ?_) (fun c8 => ?_)
          · have hf := q_ip c8 hf
            refine lv_bipush (pc := 75) (v := (-4)) hx hb dX9_see_75 (by decide) ?_
            obtain rfl := Option.some.inj hf
            exact x_iret X hI dX9_see_77
          · have hf := q_in c8 hf
            refine lv_aload_n (pc := 65) hx hb dX9_see_65 rfl (lv_at hl 2 rfl) ?_
            refine x_get (pc := 66) X E hI inX9 0 rfl rfl 0 (by decide) tw_2_7 rfl dX9_see_66 ?_
            refine x_get (pc := 69) X E hI inX3 1 rfl rfl 6 (by decide) tw_1_47 rfl dX9_see_69 ?_
            refine lv_goto (pc := 72) (tgt := 77) hx hb dX9_see_72 (by decide) ?_
            obtain rfl := Option.some.inj hf
            exact x_iret X hI dX9_see_77
        · have hf := q_in c6 hf
          refine lv_iconst (pc := 54) (v := 1) hx hb dX9_see_54 (by decide) ?_
          refine lv_goto (pc := 55) (tgt := 59) hx hb dX9_see_55 (by decide) ?_
          obtain ⟨t9, e9, hf⟩ := q_ob hf
          refine x_cVt (pc := 59) (st1 := [.int t9.1]) (w2 := (xb G h x_hasImage f_places f_kinds f_weights f_howManyGenerators f_generators f_racks t9.2.1 t9.2.2.1 t9.2.2.2.1 t9.2.2.2.2.1 t9.2.2.2.2.2 f_howManyEvents f_eventWhat f_eventNumber g_places g_kinds g_weights g_howManyGenerators g_generators g_racks g_howManySeen g_seenFirst g_seenSecond g_seenIs g_seenPlaces g_howManyEvents g_eventWhat g_eventNumber n_m0 n_m1 n_m2 n_s0 n_s1 n_s2 v_keys v_asFound v_found v_turns v_places p_keys p_asFound p_found p_turns p_places i_sort i_howOften i_sorts i_moves n_uq n_u u_leasts u_howMany u_known n_wq n_w w_leasts w_howMany w_known t_signs t_length t_whole t_begins t_ends r_sorts r_numbers r_length)) X E hI (c_X3_addSeen l G (h 1) (h 2) (h 3) (h 4) (h 5) (h 6) (h 7) (h 8) (h 9) (h 10) e9) kv_X9_263 hd_X3_addSeen ⟨rfl, rfl⟩ (by decide) pt_xb_fw_0 pt_xb_fw_0q 0 rfl rfl rfl rfl hl.1 rfl (Nat.le_of_ble_eq_true rfl) dX9_see_59 ⟨Nat.le_of_ble_eq_true rfl, Nat.le_of_ble_eq_true rfl⟩ rfl (fun H locs hI => ?_)
          refine lv_if_eq (pc := 62) (tgt := 75) hx hb dX9_see_62 (by decide) (fun c10 => ?_) (fun c10 => ?_)
          · have hf := q_ip c10 hf
            refine lv_bipush (pc := 75) (v := (-4)) hx hb dX9_see_75 (by decide) ?_
            obtain rfl := Option.some.inj hf
            exact x_iret X hI dX9_see_77
          · have hf := q_in c10 hf
            refine lv_aload_n (pc := 65) hx hb dX9_see_65 rfl (lv_at hl 2 rfl) ?_
            refine x_get (pc := 66) X E hI inX9 0 rfl rfl 0 (by decide) tw_2_7 rfl dX9_see_66 ?_
            refine x_get (pc := 69) X E hI inX3 1 rfl rfl 6 (by decide) tw_1_47 rfl dX9_see_69 ?_
            refine lv_goto (pc := 72) (tgt := 77) hx hb dX9_see_72 (by decide) ?_
            obtain rfl := Option.some.inj hf
            exact x_iret X hI dX9_see_77
      · have hf := q_in c5 hf
        refine lv_bipush (pc := 39) (v := (-2)) hx hb dX9_see_39 (by decide) ?_
        obtain rfl := Option.some.inj hf
        exact x_iret X hI dX9_see_41
  · have hf := q_ip c1 hf
    refine lv_aload_n (pc := 5) hx hb dX9_see_5 rfl (lv_at hl 0 rfl) ?_
    refine x_get (pc := 6) X E hI inX9 0 rfl rfl 0 (by decide) tw_2_7 rfl dX9_see_6 ?_
    refine lv_iconst (pc := 9) (v := 0) hx hb dX9_see_9 (by decide) ?_
    refine x_put (pc := 10) (w' := ((xb G h x_hasImage f_places f_kinds f_weights f_howManyGenerators f_generators f_racks 0 f_seenFirst f_seenSecond f_seenIs f_seenPlaces f_howManyEvents f_eventWhat f_eventNumber g_places g_kinds g_weights g_howManyGenerators g_generators g_racks g_howManySeen g_seenFirst g_seenSecond g_seenIs g_seenPlaces g_howManyEvents g_eventWhat g_eventNumber n_m0 n_m1 n_m2 n_s0 n_s1 n_s2 v_keys v_asFound v_found v_turns v_places p_keys p_asFound p_found p_turns p_places i_sort i_howOften i_sorts i_moves n_uq n_u u_leasts u_howMany u_known n_wq n_w w_leasts w_howMany w_known t_signs t_length t_whole t_begins t_ends r_sorts r_numbers r_length) ++ wo)) X E hI inX3 tyX3 tyX3_ok nmX3 1 rfl rfl 6 (by decide) tw_1_47 rfl rfl rfl (Nat.le_of_ble_eq_true rfl) rfl dX9_see_10 (fun H locs hI => ?_)
    refine lv_iconst (pc := 13) (v := 0) hx hb dX9_see_13 (by decide) ?_
    obtain rfl := Option.some.inj hf
    exact x_iret X hI dX9_see_14

abbrev rm_X9_allIsAsSeen : Room := { frames := 4, cells := 0, slots := 0, locals := 108 }
set_option maxHeartbeats 4000000 in
set_option maxRecDepth 100000 in
theorem k_X9_allIsAsSeen_L25 {p : Program} {l : Launch} {e : Env} {s : State} {m : MethodId} {args : Array Value} {below : List Frame} {meth : Method} {c : Code} {A : Nat → Prop} {G : GX} {h : Nat → Nat} {x_hasImage : Int32} {f_places : Int32} {f_kinds : Int32} {f_weights : Nat → Int32} {f_howManyGenerators : Int32} {f_generators : Nat → Int32} {f_racks : Nat → Int32} {f_howManySeen : Int32} {f_seenFirst : Nat → Int32} {f_seenSecond : Nat → Int32} {f_seenIs : Nat → Int32} {f_seenPlaces : Nat → Int32} {f_howManyEvents : Int32} {f_eventWhat : Nat → Int32} {f_eventNumber : Nat → Int32} {g_places : Int32} {g_kinds : Int32} {g_weights : Nat → Int32} {g_howManyGenerators : Int32} {g_generators : Nat → Int32} {g_racks : Nat → Int32} {g_howManySeen : Int32} {g_seenFirst : Nat → Int32} {g_seenSecond : Nat → Int32} {g_seenIs : Nat → Int32} {g_seenPlaces : Nat → Int32} {g_howManyEvents : Int32} {g_eventWhat : Nat → Int32} {g_eventNumber : Nat → Int32} {n_m0 : Nat} {n_m1 : Nat} {n_m2 : Nat} {n_s0 : Nat} {n_s1 : Nat} {n_s2 : Nat} {v_keys : Nat → Int32} {v_asFound : Nat → Int32} {v_found : Int32} {v_turns : Int32} {v_places : Int32} {p_keys : Nat → Int32} {p_asFound : Nat → Int32} {p_found : Int32} {p_turns : Int32} {p_places : Int32} {i_sort : Nat → Int32} {i_howOften : Nat → Int32} {i_sorts : Int32} {i_moves : Int32} {n_uq : Nat} {n_u : Nat} {u_leasts : Nat → Int32} {u_howMany : Int32} {u_known : Int32} {n_wq : Nat} {n_w : Nat} {w_leasts : Nat → Int32} {w_howMany : Int32} {w_known : Int32} {t_signs : Nat → Int32} {t_length : Int32} {t_whole : Int32} {t_begins : Nat → Int32} {t_ends : Nat → Int32} {r_sorts : Nat → Int32} {r_numbers : Nat → Int32} {r_length : Int32} {wo : va_W} {K : Int32 → Option (Int32 × (Nat → Int32) × (Nat → Int32) × Int32 × Int32 × Int32)} {res : Int32 × (Nat → Int32) × (Nat → Int32) × Int32 × Int32 × Int32} (X : CX RX9 cX9_allIsAsSeen 4 (some .boolean) p s m args meth c) (E : EX G A s)
    (hK : ∀ (l2 : Int32) (H : Heap) (locs : List Loc) (ls : Array Slot), IN A G ((xb G h x_hasImage f_places f_kinds f_weights f_howManyGenerators f_generators f_racks f_howManySeen f_seenFirst f_seenSecond f_seenIs f_seenPlaces f_howManyEvents f_eventWhat f_eventNumber g_places g_kinds g_weights g_howManyGenerators g_generators g_racks g_howManySeen g_seenFirst g_seenSecond g_seenIs g_seenPlaces g_howManyEvents g_eventWhat g_eventNumber n_m0 n_m1 n_m2 n_s0 n_s1 n_s2 v_keys v_asFound v_found v_turns v_places p_keys p_asFound p_found p_turns p_places i_sort i_howOften i_sorts i_moves n_uq n_u u_leasts u_howMany u_known n_wq n_w w_leasts w_howMany w_known t_signs t_length t_whole t_begins t_ends r_sorts r_numbers r_length) ++ wo) s H locs → lv_has ls 4 [(0, .ref (h 0)), (2, .int l2)] → K l2 = some res → W p l e rm_X9_allIsAsSeen s m args below meth c H locs 0 0 (MQ below (QX G A ((xb G h x_hasImage f_places f_kinds f_weights f_howManyGenerators f_generators f_racks f_howManySeen f_seenFirst f_seenSecond f_seenIs f_seenPlaces f_howManyEvents f_eventWhat f_eventNumber g_places g_kinds g_weights g_howManyGenerators g_generators g_racks g_howManySeen g_seenFirst g_seenSecond g_seenIs g_seenPlaces g_howManyEvents g_eventWhat g_eventNumber n_m0 n_m1 n_m2 n_s0 n_s1 n_s2 v_keys v_asFound v_found v_turns v_places res.2.1 res.2.2.1 res.2.2.2.1 res.2.2.2.2.1 res.2.2.2.2.2 i_sort i_howOften i_sorts i_moves n_uq n_u u_leasts u_howMany u_known n_wq n_w w_leasts w_howMany w_known t_signs t_length t_whole t_begins t_ends r_sorts r_numbers r_length) ++ wo) (some (.int res.1))) args s 0 0 A) (F0 m 93 ls [])) :
    ∀ {k : Nat} {l2 : Int32} {H : Heap} {locs : List Loc} {ls : Array Slot}, IN A G ((xb G h x_hasImage f_places f_kinds f_weights f_howManyGenerators f_generators f_racks f_howManySeen f_seenFirst f_seenSecond f_seenIs f_seenPlaces f_howManyEvents f_eventWhat f_eventNumber g_places g_kinds g_weights g_howManyGenerators g_generators g_racks g_howManySeen g_seenFirst g_seenSecond g_seenIs g_seenPlaces g_howManyEvents g_eventWhat g_eventNumber n_m0 n_m1 n_m2 n_s0 n_s1 n_s2 v_keys v_asFound v_found v_turns v_places p_keys p_asFound p_found p_turns p_places i_sort i_howOften i_sorts i_moves n_uq n_u u_leasts u_howMany u_known n_wq n_w w_leasts w_howMany w_known t_signs t_length t_whole t_begins t_ends r_sorts r_numbers r_length) ++ wo) s H locs → lv_has ls 4 [(0, .ref (h 0)), (2, .int l2)] → f_X9_allIsAsSeen_L25 f_howManySeen f_seenFirst f_seenSecond f_seenIs p_keys p_asFound p_found p_turns p_places K k l2 = some res → W p l e rm_X9_allIsAsSeen s m args below meth c H locs 0 0 (MQ below (QX G A ((xb G h x_hasImage f_places f_kinds f_weights f_howManyGenerators f_generators f_racks f_howManySeen f_seenFirst f_seenSecond f_seenIs f_seenPlaces f_howManyEvents f_eventWhat f_eventNumber g_places g_kinds g_weights g_howManyGenerators g_generators g_racks g_howManySeen g_seenFirst g_seenSecond g_seenIs g_seenPlaces g_howManyEvents g_eventWhat g_eventNumber n_m0 n_m1 n_m2 n_s0 n_s1 n_s2 v_keys v_asFound v_found v_turns v_places res.2.1 res.2.2.1 res.2.2.2.1 res.2.2.2.2.1 res.2.2.2.2.2 i_sort i_howOften i_sorts i_moves n_uq n_u u_leasts u_howMany u_known n_wq n_w w_leasts w_howMany w_known t_signs t_length t_whole t_begins t_ends r_sorts r_numbers r_length) ++ wo) (some (.int res.1))) args s 0 0 A) (F0 m 25 ls []) := by
  obtain ⟨hx, hb, hml, hown, hts, hr, hlk⟩ := id X
  intro k
  induction k with
  | zero => intro l2 H locs ls hI hl hf; exact nomatch (show none = some res from hf)
  | succ k ih =>
    intro l2 H locs ls hI hl hf
    rw [f_X9_allIsAsSeen_L25] at hf
    refine lv_iload_n (pc := 25) hx hb dX9_allIsAsSeen_25 rfl (lv_at hl 1 rfl) ?_
    refine lv_aload_n (pc := 26) hx hb dX9_allIsAsSeen_26 rfl (lv_at hl 0 rfl) ?_
    refine x_get (pc := 27) X E hI inX9 0 rfl rfl 0 (by decide) tw_2_7 rfl dX9_allIsAsSeen_27 ?_
    refine x_get (pc := 30) X E hI inX3 1 rfl rfl 6 (by decide) tw_1_47 rfl dX9_allIsAsSeen_30 ?_
    refine lv_icmp_ge (pc := 33) (tgt := 93) hx hb dX9_allIsAsSeen_33 (by decide) (fun c1 => ?_) (fun c1 => ?_)
    · have hf := q_ip c1 hf
      exact hK _ _ _ _ hI (lv_sub hl [0, 1] rfl) hf
    · have hf := q_in c1 hf
      refine lv_aload_n (pc := 36) hx hb dX9_allIsAsSeen_36 rfl (lv_at hl 0 rfl) ?_
      refine x_get (pc := 37) X E hI inX9 0 rfl rfl 4 (by decide) tw_2_11 rfl dX9_allIsAsSeen_37 ?_
      refine lv_aload_n (pc := 40) hx hb dX9_allIsAsSeen_40 rfl (lv_at hl 0 rfl) ?_
      refine x_get (pc := 41) X E hI inX9 0 rfl rfl 0 (by decide) tw_2_7 rfl dX9_allIsAsSeen_41 ?_
      refine x_get (pc := 44) X E hI inX3 1 rfl rfl 7 (by decide) tw_1_49 rfl dX9_allIsAsSeen_44 ?_
      refine lv_iload_n (pc := 47) hx hb dX9_allIsAsSeen_47 rfl (lv_at hl 1 rfl) ?_
      obtain ⟨t2, e2, hf⟩ := q_ob hf
      refine x_iald (pc := 48) X E hI 5 rfl e2 dX9_allIsAsSeen_48 ?_
      refine lv_aload_n (pc := 49) hx hb dX9_allIsAsSeen_49 rfl (lv_at hl 0 rfl) ?_
      refine x_get (pc := 50) X E hI inX9 0 rfl rfl 0 (by decide) tw_2_7 rfl dX9_allIsAsSeen_50 ?_
      refine x_get (pc := 53) X E hI inX3 1 rfl rfl 8 (by decide) tw_1_51 rfl dX9_allIsAsSeen_53 ?_
      refine lv_iload_n (pc := 56) hx hb dX9_allIsAsSeen_56 rfl (lv_at hl 1 rfl) ?_
      obtain ⟨t3, e3, hf⟩ := q_ob hf
      refine x_iald (pc := 57) X E hI 6 rfl e3 dX9_allIsAsSeen_57 ?_
      refine lv_iconst (pc := 58) (v := 1) hx hb dX9_allIsAsSeen_58 (by decide) ?_
      obtain ⟨t4, e4, hf⟩ := q_ob hf
      refine x_cVt (pc := 59) (st1 := [.int t4]) (w2 := (xb G h x_hasImage f_places f_kinds f_weights f_howManyGenerators f_generators f_racks f_howManySeen f_seenFirst f_seenSecond f_seenIs f_seenPlaces f_howManyEvents f_eventWhat f_eventNumber g_places g_kinds g_weights g_howManyGenerators g_generators g_racks g_howManySeen g_seenFirst g_seenSecond g_seenIs g_seenPlaces g_howManyEvents g_eventWhat g_eventNumber n_m0 n_m1 n_m2 n_s0 n_s1 n_s2 v_keys v_asFound v_found v_turns v_places p_keys p_asFound p_found p_turns p_places i_sort i_howOften i_sorts i_moves n_uq n_u u_leasts u_howMany u_known n_wq n_w w_leasts w_howMany w_known t_signs t_length t_whole t_begins t_ends r_sorts r_numbers r_length)) X E hI (c_X5_makes l G n_s0 n_s1 n_s2 e4) kv_X9_211 hd_X5_makes ⟨rfl, rfl⟩ (by decide) pt_xb_vw_1 pt_xb_vw_1q 0 rfl rfl rfl rfl hl.1 rfl (Nat.le_of_ble_eq_true rfl) dX9_allIsAsSeen_59 ⟨Nat.le_of_ble_eq_true rfl, Nat.le_of_ble_eq_true rfl⟩ rfl (fun H locs hI => ?_)
      refine lv_istore_n (pc := 62) (lv' := [(3, .int t4), (0, .ref (h 0)), (2, .int l2)]) hx hb dX9_allIsAsSeen_62 rfl hl (by decide) rfl (fun ls hl => ?_)
      refine lv_iload_n (pc := 63) hx hb dX9_allIsAsSeen_63 rfl (lv_at hl 0 rfl) ?_
      refine lv_aload_n (pc := 64) hx hb dX9_allIsAsSeen_64 rfl (lv_at hl 1 rfl) ?_
      refine x_get (pc := 65) X E hI inX9 0 rfl rfl 0 (by decide) tw_2_7 rfl dX9_allIsAsSeen_65 ?_
      refine x_get (pc := 68) X E hI inX3 1 rfl rfl 9 (by decide) tw_1_53 rfl dX9_allIsAsSeen_68 ?_
      refine lv_iload_n (pc := 71) hx hb dX9_allIsAsSeen_71 rfl (lv_at hl 2 rfl) ?_
      obtain ⟨t5, e5, hf⟩ := q_ob hf
      refine x_iald (pc := 72) X E hI 7 rfl e5 dX9_allIsAsSeen_72 ?_
      refine lv_iconst (pc := 73) (v := 1) hx hb dX9_allIsAsSeen_73 (by decide) ?_
      refine lv_icmp_ne (pc := 74) (tgt := 81) hx hb dX9_allIsAsSeen_74 (by decide) (fun c6 => ?_) (fun c6 => ?_)
      · have hf := q_in c6 hf
        refine lv_iconst (pc := 81) (v := 0) hx hb dX9_allIsAsSeen_81 (by decide) ?_
        refine lv_icmp_eq (pc := 82) (tgt := 87) hx hb dX9_allIsAsSeen_82 (by decide) (fun c7 => ?_) (fun c7 => ?_)
        · have hf := q_ip c7 hf
          refine lv_iinc (pc := 87) (v := l2 + 1) (lv' := [(2, .int (l2 + 1)), (3, .int t4), (0, .ref (h 0))]) hx hb dX9_allIsAsSeen_87 hl (k := 2) rfl rfl (by decide) rfl (fun ls hl => ?_)
          refine lv_goto (pc := 90) (tgt := 25) hx hb dX9_allIsAsSeen_90 (by decide) ?_
          exact ih hI (lv_sub hl [2, 0] rfl) hf
        · have hf := q_in c7 hf
          refine lv_iconst (pc := 85) (v := 0) hx hb dX9_allIsAsSeen_85 (by decide) ?_
          obtain rfl := Option.some.inj hf
          exact x_zret X hI (Or.inl rfl) dX9_allIsAsSeen_86
      · have hf := q_ip c6 hf
        refine lv_iconst (pc := 77) (v := 1) hx hb dX9_allIsAsSeen_77 (by decide) ?_
        refine lv_goto (pc := 78) (tgt := 82) hx hb dX9_allIsAsSeen_78 (by decide) ?_
        refine lv_icmp_eq (pc := 82) (tgt := 87) hx hb dX9_allIsAsSeen_82 (by decide) (fun c8 => ?_) (fun c8 => ?_)
        · have hf := q_ip c8 hf
          refine lv_iinc (pc := 87) (v := l2 + 1) (lv' := [(2, .int (l2 + 1)), (3, .int t4), (0, .ref (h 0))]) hx hb dX9_allIsAsSeen_87 hl (k := 2) rfl rfl (by decide) rfl (fun ls hl => ?_)
          refine lv_goto (pc := 90) (tgt := 25) hx hb dX9_allIsAsSeen_90 (by decide) ?_
          exact ih hI (lv_sub hl [2, 0] rfl) hf
        · have hf := q_in c8 hf
          refine lv_iconst (pc := 85) (v := 0) hx hb dX9_allIsAsSeen_85 (by decide) ?_
          obtain rfl := Option.some.inj hf
          exact x_zret X hI (Or.inl rfl) dX9_allIsAsSeen_86

set_option maxHeartbeats 4000000 in
set_option maxRecDepth 100000 in
theorem c_X9_allIsAsSeen (l : Launch) (G : GX) (h : Nat → Nat) {l1 : Int32} {f_places : Int32} {f_generators : Nat → Int32} {f_howManySeen : Int32} {f_seenFirst : Nat → Int32} {f_seenSecond : Nat → Int32} {f_seenIs : Nat → Int32} {p_keys : Nat → Int32} {p_asFound : Nat → Int32} {p_found : Int32} {p_turns : Int32} {p_places : Int32} {x_hasImage : Int32} {f_kinds : Int32} {f_weights : Nat → Int32} {f_howManyGenerators : Int32} {f_racks : Nat → Int32} {f_seenPlaces : Nat → Int32} {f_howManyEvents : Int32} {f_eventWhat : Nat → Int32} {f_eventNumber : Nat → Int32} {g_places : Int32} {g_kinds : Int32} {g_weights : Nat → Int32} {g_howManyGenerators : Int32} {g_generators : Nat → Int32} {g_racks : Nat → Int32} {g_howManySeen : Int32} {g_seenFirst : Nat → Int32} {g_seenSecond : Nat → Int32} {g_seenIs : Nat → Int32} {g_seenPlaces : Nat → Int32} {g_howManyEvents : Int32} {g_eventWhat : Nat → Int32} {g_eventNumber : Nat → Int32} {n_m0 : Nat} {n_m1 : Nat} {n_m2 : Nat} {n_s0 : Nat} {n_s1 : Nat} {n_s2 : Nat} {v_keys : Nat → Int32} {v_asFound : Nat → Int32} {v_found : Int32} {v_turns : Int32} {v_places : Int32} {i_sort : Nat → Int32} {i_howOften : Nat → Int32} {i_sorts : Int32} {i_moves : Int32} {n_uq : Nat} {n_u : Nat} {u_leasts : Nat → Int32} {u_howMany : Int32} {u_known : Int32} {n_wq : Nat} {n_w : Nat} {w_leasts : Nat → Int32} {w_howMany : Int32} {w_known : Int32} {t_signs : Nat → Int32} {t_length : Int32} {t_whole : Int32} {t_begins : Nat → Int32} {t_ends : Nat → Int32} {r_sorts : Nat → Int32} {r_numbers : Nat → Int32} {r_length : Int32} {wo : va_W} {res : Int32 × (Nat → Int32) × (Nat → Int32) × Int32 × Int32 × Int32} (hf : f_X9_allIsAsSeen l1 f_places f_generators f_howManySeen f_seenFirst f_seenSecond f_seenIs p_keys p_asFound p_found p_turns p_places = some res) : MX l yX9_allIsAsSeen cX9_allIsAsSeen 4 (some .boolean) rm_X9_allIsAsSeen G ((xb G h x_hasImage f_places f_kinds f_weights f_howManyGenerators f_generators f_racks f_howManySeen f_seenFirst f_seenSecond f_seenIs f_seenPlaces f_howManyEvents f_eventWhat f_eventNumber g_places g_kinds g_weights g_howManyGenerators g_generators g_racks g_howManySeen g_seenFirst g_seenSecond g_seenIs g_seenPlaces g_howManyEvents g_eventWhat g_eventNumber n_m0 n_m1 n_m2 n_s0 n_s1 n_s2 v_keys v_asFound v_found v_turns v_places p_keys p_asFound p_found p_turns p_places i_sort i_howOften i_sorts i_moves n_uq n_u u_leasts u_howMany u_known n_wq n_w w_leasts w_howMany w_known t_signs t_length t_whole t_begins t_ends r_sorts r_numbers r_length) ++ wo) [.ref (h 0), .int l1] ((xb G h x_hasImage f_places f_kinds f_weights f_howManyGenerators f_generators f_racks f_howManySeen f_seenFirst f_seenSecond f_seenIs f_seenPlaces f_howManyEvents f_eventWhat f_eventNumber g_places g_kinds g_weights g_howManyGenerators g_generators g_racks g_howManySeen g_seenFirst g_seenSecond g_seenIs g_seenPlaces g_howManyEvents g_eventWhat g_eventNumber n_m0 n_m1 n_m2 n_s0 n_s1 n_s2 v_keys v_asFound v_found v_turns v_places res.2.1 res.2.2.1 res.2.2.2.1 res.2.2.2.2.1 res.2.2.2.2.2 i_sort i_howOften i_sorts i_moves n_uq n_u u_leasts u_howMany u_known n_wq n_w w_leasts w_howMany w_known t_signs t_length t_whole t_begins t_ends r_sorts r_numbers r_length) ++ wo) (some (.int res.1)) 0 0 := by
  refine MX.of (plainFor_of_name (by decide)) (Nat.le_of_ble_eq_true rfl) ?_
  intro p e s m below meth c A X E hI ls hl
  obtain ⟨hx, hb, hml, hown, hts, hr, hlk⟩ := id X
  have hl : lv_has ls 4 [(0, .ref (h 0)), (1, .int l1)] := hl
  unfold f_X9_allIsAsSeen at hf
  refine lv_aload_n (pc := 0) hx hb dX9_allIsAsSeen_0 rfl (lv_at hl 0 rfl) ?_
  refine x_get (pc := 1) X E hI inX9 0 rfl rfl 4 (by decide) tw_2_11 rfl dX9_allIsAsSeen_1 ?_
  refine lv_aload_n (pc := 4) hx hb dX9_allIsAsSeen_4 rfl (lv_at hl 0 rfl) ?_
  refine x_get (pc := 5) X E hI inX9 0 rfl rfl 0 (by decide) tw_2_7 rfl dX9_allIsAsSeen_5 ?_
  refine x_get (pc := 8) X E hI inX3 1 rfl rfl 4 (by decide) tw_1_43 rfl dX9_allIsAsSeen_8 ?_
  refine lv_iload_n (pc := 11) hx hb dX9_allIsAsSeen_11 rfl (lv_at hl 1 rfl) ?_
  refine lv_aload_n (pc := 12) hx hb dX9_allIsAsSeen_12 rfl (lv_at hl 0 rfl) ?_
  refine x_get (pc := 13) X E hI inX9 0 rfl rfl 0 (by decide) tw_2_7 rfl dX9_allIsAsSeen_13 ?_
  refine x_get (pc := 16) X E hI inX3 1 rfl rfl 0 (by decide) tw_1_35 rfl dX9_allIsAsSeen_16 ?_
  obtain ⟨t1, e1, hf⟩ := q_ob hf
  refine x_cVt (pc := 19) (st1 := [.int t1.1]) (w2 := (xb G h x_hasImage f_places f_kinds f_weights f_howManyGenerators f_generators f_racks f_howManySeen f_seenFirst f_seenSecond f_seenIs f_seenPlaces f_howManyEvents f_eventWhat f_eventNumber g_places g_kinds g_weights g_howManyGenerators g_generators g_racks g_howManySeen g_seenFirst g_seenSecond g_seenIs g_seenPlaces g_howManyEvents g_eventWhat g_eventNumber n_m0 n_m1 n_m2 n_s0 n_s1 n_s2 v_keys v_asFound v_found v_turns v_places t1.2.1 t1.2.2.1 t1.2.2.2.1 t1.2.2.2.2.1 t1.2.2.2.2.2 i_sort i_howOften i_sorts i_moves n_uq n_u u_leasts u_howMany u_known n_wq n_w w_leasts w_howMany w_known t_signs t_length t_whole t_begins t_ends r_sorts r_numbers r_length)) X E hI (c_X5_grow l G n_s0 n_s1 n_s2 (h 3) e1) kv_X9_110 hd_X5_grow ⟨rfl, rfl⟩ (by decide) pt_xb_vgw_1 pt_xb_vgw_1q 0 rfl rfl rfl rfl hl.1 rfl (Nat.le_of_ble_eq_true rfl) dX9_allIsAsSeen_19 ⟨Nat.le_of_ble_eq_true rfl, Nat.le_of_ble_eq_true rfl⟩ rfl (fun H locs hI => ?_)
  refine lv_pop (pc := 22) hx hb dX9_allIsAsSeen_22 rfl ?_
  refine lv_iconst (pc := 23) (v := 0) hx hb dX9_allIsAsSeen_23 (by decide) ?_
  refine lv_istore_n (pc := 24) (lv' := [(2, .int 0), (0, .ref (h 0)), (1, .int l1)]) hx hb dX9_allIsAsSeen_24 rfl hl (by decide) rfl (fun ls hl => ?_)
  refine k_X9_allIsAsSeen_L25 X E (fun l2_2 H locs ls hI hl hf => ?_) hI (lv_sub hl [1, 0] rfl) hf
  refine lv_iconst (pc := 93) (v := 1) hx hb dX9_allIsAsSeen_93 (by decide) ?_
  obtain rfl := Option.some.inj hf
  exact x_zret X hI (Or.inr rfl) dX9_allIsAsSeen_94

abbrev rm_X9_fits : Room := { frames := 5, cells := 0, slots := 0, locals := 131 }
set_option maxHeartbeats 4000000 in
set_option maxRecDepth 100000 in
theorem k_X9_fits_L37 {p : Program} {l : Launch} {e : Env} {s : State} {m : MethodId} {args : Array Value} {below : List Frame} {meth : Method} {c : Code} {A : Nat → Prop} {G : GX} {h : Nat → Nat} {l1 : Int32} {l4 : Int32} {l5 : Int32} {x_hasImage : Int32} {f_places : Int32} {f_kinds : Int32} {f_weights : Nat → Int32} {f_howManyGenerators : Int32} {f_generators : Nat → Int32} {f_racks : Nat → Int32} {f_howManySeen : Int32} {f_seenFirst : Nat → Int32} {f_seenSecond : Nat → Int32} {f_seenIs : Nat → Int32} {f_seenPlaces : Nat → Int32} {f_howManyEvents : Int32} {f_eventWhat : Nat → Int32} {f_eventNumber : Nat → Int32} {g_places : Int32} {g_kinds : Int32} {g_weights : Nat → Int32} {g_howManyGenerators : Int32} {g_generators : Nat → Int32} {g_racks : Nat → Int32} {g_howManySeen : Int32} {g_seenFirst : Nat → Int32} {g_seenSecond : Nat → Int32} {g_seenIs : Nat → Int32} {g_seenPlaces : Nat → Int32} {g_howManyEvents : Int32} {g_eventWhat : Nat → Int32} {g_eventNumber : Nat → Int32} {n_m0 : Nat} {n_m1 : Nat} {n_m2 : Nat} {n_s0 : Nat} {n_s1 : Nat} {n_s2 : Nat} {v_keys : Nat → Int32} {v_asFound : Nat → Int32} {v_found : Int32} {v_turns : Int32} {v_places : Int32} {i_sort : Nat → Int32} {i_howOften : Nat → Int32} {i_sorts : Int32} {i_moves : Int32} {n_uq : Nat} {n_u : Nat} {u_leasts : Nat → Int32} {u_howMany : Int32} {u_known : Int32} {n_wq : Nat} {n_w : Nat} {w_leasts : Nat → Int32} {w_howMany : Int32} {w_known : Int32} {t_signs : Nat → Int32} {t_length : Int32} {t_whole : Int32} {t_begins : Nat → Int32} {t_ends : Nat → Int32} {r_sorts : Nat → Int32} {r_numbers : Nat → Int32} {r_length : Int32} {wo : va_W} {K : Int32 → Int32 → Int32 → (Nat → Int32) → (Nat → Int32) → Int32 → Int32 → Int32 → Option (Int32 × (Nat → Int32) × (Nat → Int32) × Int32 × Int32 × Int32)} {res : Int32 × (Nat → Int32) × (Nat → Int32) × Int32 × Int32 × Int32} (X : CX RX9 cX9_fits 7 (some .int) p s m args meth c) (E : EX G A s)
    (hK : ∀ (l2 : Int32) (l3 : Int32) (l6 : Int32) (p_keys : (Nat → Int32)) (p_asFound : (Nat → Int32)) (p_found : Int32) (p_turns : Int32) (p_places : Int32) (H : Heap) (locs : List Loc) (ls : Array Slot), IN A G ((xb G h x_hasImage f_places f_kinds f_weights f_howManyGenerators f_generators f_racks f_howManySeen f_seenFirst f_seenSecond f_seenIs f_seenPlaces f_howManyEvents f_eventWhat f_eventNumber g_places g_kinds g_weights g_howManyGenerators g_generators g_racks g_howManySeen g_seenFirst g_seenSecond g_seenIs g_seenPlaces g_howManyEvents g_eventWhat g_eventNumber n_m0 n_m1 n_m2 n_s0 n_s1 n_s2 v_keys v_asFound v_found v_turns v_places p_keys p_asFound p_found p_turns p_places i_sort i_howOften i_sorts i_moves n_uq n_u u_leasts u_howMany u_known n_wq n_w w_leasts w_howMany w_known t_signs t_length t_whole t_begins t_ends r_sorts r_numbers r_length) ++ wo) s H locs → lv_has ls 7 [(0, .ref (h 0)), (1, .int l1), (2, .int l2), (3, .int l3), (4, .int l4), (5, .int l5), (6, .int l6)] → K l2 l3 l6 p_keys p_asFound p_found p_turns p_places = some res → W p l e rm_X9_fits s m args below meth c H locs 0 0 (MQ below (QX G A ((xb G h x_hasImage f_places f_kinds f_weights f_howManyGenerators f_generators f_racks f_howManySeen f_seenFirst f_seenSecond f_seenIs f_seenPlaces f_howManyEvents f_eventWhat f_eventNumber g_places g_kinds g_weights g_howManyGenerators g_generators g_racks g_howManySeen g_seenFirst g_seenSecond g_seenIs g_seenPlaces g_howManyEvents g_eventWhat g_eventNumber n_m0 n_m1 n_m2 n_s0 n_s1 n_s2 v_keys v_asFound v_found v_turns v_places res.2.1 res.2.2.1 res.2.2.2.1 res.2.2.2.2.1 res.2.2.2.2.2 i_sort i_howOften i_sorts i_moves n_uq n_u u_leasts u_howMany u_known n_wq n_w w_leasts w_howMany w_known t_signs t_length t_whole t_begins t_ends r_sorts r_numbers r_length) ++ wo) (some (.int res.1))) args s 0 0 A) (F0 m 78 ls [])) :
    ∀ {k : Nat} {l2 : Int32} {l3 : Int32} {l6 : Int32} {p_keys : (Nat → Int32)} {p_asFound : (Nat → Int32)} {p_found : Int32} {p_turns : Int32} {p_places : Int32} {H : Heap} {locs : List Loc} {ls : Array Slot}, IN A G ((xb G h x_hasImage f_places f_kinds f_weights f_howManyGenerators f_generators f_racks f_howManySeen f_seenFirst f_seenSecond f_seenIs f_seenPlaces f_howManyEvents f_eventWhat f_eventNumber g_places g_kinds g_weights g_howManyGenerators g_generators g_racks g_howManySeen g_seenFirst g_seenSecond g_seenIs g_seenPlaces g_howManyEvents g_eventWhat g_eventNumber n_m0 n_m1 n_m2 n_s0 n_s1 n_s2 v_keys v_asFound v_found v_turns v_places p_keys p_asFound p_found p_turns p_places i_sort i_howOften i_sorts i_moves n_uq n_u u_leasts u_howMany u_known n_wq n_w w_leasts w_howMany w_known t_signs t_length t_whole t_begins t_ends r_sorts r_numbers r_length) ++ wo) s H locs → lv_has ls 7 [(0, .ref (h 0)), (1, .int l1), (2, .int l2), (3, .int l3), (4, .int l4), (5, .int l5), (6, .int l6)] → f_X9_fits_L37 l1 l4 l5 f_places f_generators f_howManySeen f_seenFirst f_seenSecond f_seenIs K k l2 l3 l6 p_keys p_asFound p_found p_turns p_places = some res → W p l e rm_X9_fits s m args below meth c H locs 0 0 (MQ below (QX G A ((xb G h x_hasImage f_places f_kinds f_weights f_howManyGenerators f_generators f_racks f_howManySeen f_seenFirst f_seenSecond f_seenIs f_seenPlaces f_howManyEvents f_eventWhat f_eventNumber g_places g_kinds g_weights g_howManyGenerators g_generators g_racks g_howManySeen g_seenFirst g_seenSecond g_seenIs g_seenPlaces g_howManyEvents g_eventWhat g_eventNumber n_m0 n_m1 n_m2 n_s0 n_s1 n_s2 v_keys v_asFound v_found v_turns v_places res.2.1 res.2.2.1 res.2.2.2.1 res.2.2.2.2.1 res.2.2.2.2.2 i_sort i_howOften i_sorts i_moves n_uq n_u u_leasts u_howMany u_known n_wq n_w w_leasts w_howMany w_known t_signs t_length t_whole t_begins t_ends r_sorts r_numbers r_length) ++ wo) (some (.int res.1))) args s 0 0 A) (F0 m 37 ls []) := by
  obtain ⟨hx, hb, hml, hown, hts, hr, hlk⟩ := id X
  intro k
  induction k with
  | zero => intro l2 l3 l6 p_keys p_asFound p_found p_turns p_places H locs ls hI hl hf; exact nomatch (show none = some res from hf)
  | succ k ih =>
    intro l2 l3 l6 p_keys p_asFound p_found p_turns p_places H locs ls hI hl hf
    rw [f_X9_fits_L37] at hf
    refine lv_iload (pc := 37) hx hb dX9_fits_37 (lv_at hl 5 rfl) ?_
    refine lv_if_eq (pc := 39) (tgt := 78) hx hb dX9_fits_39 (by decide) (fun c1 => ?_) (fun c1 => ?_)
    · have hf := q_ip c1 hf
      exact hK _ _ _ _ _ _ _ _ _ _ _ hI (lv_sub hl [0, 1, 2, 3, 4, 5, 6] rfl) hf
    · have hf := q_in c1 hf
      refine lv_iload (pc := 42) hx hb dX9_fits_42 (lv_at hl 6 rfl) ?_
      refine lv_iload (pc := 44) hx hb dX9_fits_44 (lv_at hl 4 rfl) ?_
      refine lv_icmp_ge (pc := 46) (tgt := 78) hx hb dX9_fits_46 (by decide) (fun c2 => ?_) (fun c2 => ?_)
      · have hf := q_ip c2 hf
        exact hK _ _ _ _ _ _ _ _ _ _ _ hI (lv_sub hl [0, 1, 2, 3, 4, 5, 6] rfl) hf
      · have hf := q_in c2 hf
        refine lv_aload_n (pc := 49) hx hb dX9_fits_49 rfl (lv_at hl 0 rfl) ?_
        refine lv_iload (pc := 50) hx hb dX9_fits_50 (lv_at hl 6 rfl) ?_
        obtain ⟨t3, e3, hf⟩ := q_ob hf
        refine x_cVs (pc := 52) (st1 := [.int t3.1]) (w1 := ((xb G h x_hasImage f_places f_kinds f_weights f_howManyGenerators f_generators f_racks f_howManySeen f_seenFirst f_seenSecond f_seenIs f_seenPlaces f_howManyEvents f_eventWhat f_eventNumber g_places g_kinds g_weights g_howManyGenerators g_generators g_racks g_howManySeen g_seenFirst g_seenSecond g_seenIs g_seenPlaces g_howManyEvents g_eventWhat g_eventNumber n_m0 n_m1 n_m2 n_s0 n_s1 n_s2 v_keys v_asFound v_found v_turns v_places t3.2.1 t3.2.2.1 t3.2.2.2.1 t3.2.2.2.2.1 t3.2.2.2.2.2 i_sort i_howOften i_sorts i_moves n_uq n_u u_leasts u_howMany u_known n_wq n_w w_leasts w_howMany w_known t_signs t_length t_whole t_begins t_ends r_sorts r_numbers r_length) ++ wo)) X E hI (c_X9_allIsAsSeen l G h e3) kv_X9_270 hd_X9_allIsAsSeen ⟨rfl, rfl⟩ (by decide) 0 rfl rfl rfl rfl hl.1 rfl (Nat.le_of_ble_eq_true rfl) dX9_fits_52 ⟨Nat.le_of_ble_eq_true rfl, Nat.le_of_ble_eq_true rfl⟩ rfl (fun H locs hI => ?_)
        refine lv_if_eq (pc := 55) (tgt := 72) hx hb dX9_fits_55 (by decide) (fun c4 => ?_) (fun c4 => ?_)
        · have hf := q_ip c4 hf
          refine lv_iinc (pc := 72) (v := l6 + 1) (lv' := [(6, .int (l6 + 1)), (0, .ref (h 0)), (1, .int l1), (2, .int l2), (3, .int l3), (4, .int l4), (5, .int l5)]) hx hb dX9_fits_72 hl (k := 6) rfl rfl (by decide) rfl (fun ls hl => ?_)
          refine lv_goto (pc := 75) (tgt := 37) hx hb dX9_fits_75 (by decide) ?_
          exact ih hI (lv_sub hl [1, 2, 3, 4, 5, 6, 0] rfl) hf
        · have hf := q_in c4 hf
          refine lv_iload_n (pc := 58) hx hb dX9_fits_58 rfl (lv_at hl 2 rfl) ?_
          refine lv_if_ne (pc := 59) (tgt := 67) hx hb dX9_fits_59 (by decide) (fun c5 => ?_) (fun c5 => ?_)
          · have hf := q_in c5 hf
            refine lv_iload_n (pc := 67) hx hb dX9_fits_67 rfl (lv_at hl 3 rfl) ?_
            refine lv_istore_n (pc := 68) (lv' := [(3, .int l3), (0, .ref (h 0)), (1, .int l1), (2, .int l2), (4, .int l4), (5, .int l5), (6, .int l6)]) hx hb dX9_fits_68 rfl hl (by decide) rfl (fun ls hl => ?_)
            refine lv_iinc (pc := 69) (v := l2 + 1) (lv' := [(2, .int (l2 + 1)), (3, .int l3), (0, .ref (h 0)), (1, .int l1), (4, .int l4), (5, .int l5), (6, .int l6)]) hx hb dX9_fits_69 hl (k := 3) rfl rfl (by decide) rfl (fun ls hl => ?_)
            refine lv_iinc (pc := 72) (v := l6 + 1) (lv' := [(6, .int (l6 + 1)), (2, .int (l2 + 1)), (3, .int l3), (0, .ref (h 0)), (1, .int l1), (4, .int l4), (5, .int l5)]) hx hb dX9_fits_72 hl (k := 6) rfl rfl (by decide) rfl (fun ls hl => ?_)
            refine lv_goto (pc := 75) (tgt := 37) hx hb dX9_fits_75 (by decide) ?_
            exact ih hI (lv_sub hl [3, 4, 1, 2, 5, 6, 0] rfl) hf
          · have hf := q_ip c5 hf
            refine lv_iload (pc := 62) hx hb dX9_fits_62 (lv_at hl 6 rfl) ?_
            refine lv_goto (pc := 64) (tgt := 68) hx hb dX9_fits_64 (by decide) ?_
            refine lv_istore_n (pc := 68) (lv' := [(3, .int l6), (0, .ref (h 0)), (1, .int l1), (2, .int l2), (4, .int l4), (5, .int l5), (6, .int l6)]) hx hb dX9_fits_68 rfl hl (by decide) rfl (fun ls hl => ?_)
            refine lv_iinc (pc := 69) (v := l2 + 1) (lv' := [(2, .int (l2 + 1)), (3, .int l6), (0, .ref (h 0)), (1, .int l1), (4, .int l4), (5, .int l5), (6, .int l6)]) hx hb dX9_fits_69 hl (k := 3) rfl rfl (by decide) rfl (fun ls hl => ?_)
            refine lv_iinc (pc := 72) (v := l6 + 1) (lv' := [(6, .int (l6 + 1)), (2, .int (l2 + 1)), (3, .int l6), (0, .ref (h 0)), (1, .int l1), (4, .int l4), (5, .int l5)]) hx hb dX9_fits_72 hl (k := 6) rfl rfl (by decide) rfl (fun ls hl => ?_)
            refine lv_goto (pc := 75) (tgt := 37) hx hb dX9_fits_75 (by decide) ?_
            exact ih hI (lv_sub hl [3, 4, 1, 2, 5, 6, 0] rfl) hf

set_option maxHeartbeats 4000000 in
set_option maxRecDepth 100000 in
theorem c_X9_fits (l : Launch) (G : GX) (h : Nat → Nat) {l1 : Int32} {f_places : Int32} {f_kinds : Int32} {f_howManyGenerators : Int32} {f_generators : Nat → Int32} {f_howManySeen : Int32} {f_seenFirst : Nat → Int32} {f_seenSecond : Nat → Int32} {f_seenIs : Nat → Int32} {f_seenPlaces : Nat → Int32} {p_keys : Nat → Int32} {p_asFound : Nat → Int32} {p_found : Int32} {p_turns : Int32} {p_places : Int32} {x_hasImage : Int32} {f_weights : Nat → Int32} {f_racks : Nat → Int32} {f_howManyEvents : Int32} {f_eventWhat : Nat → Int32} {f_eventNumber : Nat → Int32} {g_places : Int32} {g_kinds : Int32} {g_weights : Nat → Int32} {g_howManyGenerators : Int32} {g_generators : Nat → Int32} {g_racks : Nat → Int32} {g_howManySeen : Int32} {g_seenFirst : Nat → Int32} {g_seenSecond : Nat → Int32} {g_seenIs : Nat → Int32} {g_seenPlaces : Nat → Int32} {g_howManyEvents : Int32} {g_eventWhat : Nat → Int32} {g_eventNumber : Nat → Int32} {n_m0 : Nat} {n_m1 : Nat} {n_m2 : Nat} {n_s0 : Nat} {n_s1 : Nat} {n_s2 : Nat} {v_keys : Nat → Int32} {v_asFound : Nat → Int32} {v_found : Int32} {v_turns : Int32} {v_places : Int32} {i_sort : Nat → Int32} {i_howOften : Nat → Int32} {i_sorts : Int32} {i_moves : Int32} {n_uq : Nat} {n_u : Nat} {u_leasts : Nat → Int32} {u_howMany : Int32} {u_known : Int32} {n_wq : Nat} {n_w : Nat} {w_leasts : Nat → Int32} {w_howMany : Int32} {w_known : Int32} {t_signs : Nat → Int32} {t_length : Int32} {t_whole : Int32} {t_begins : Nat → Int32} {t_ends : Nat → Int32} {r_sorts : Nat → Int32} {r_numbers : Nat → Int32} {r_length : Int32} {wo : va_W} {res : Int32 × (Nat → Int32) × (Nat → Int32) × Int32 × Int32 × Int32} (hf : f_X9_fits l1 f_places f_kinds f_howManyGenerators f_generators f_howManySeen f_seenFirst f_seenSecond f_seenIs f_seenPlaces p_keys p_asFound p_found p_turns p_places = some res) : MX l yX9_fits cX9_fits 7 (some .int) rm_X9_fits G ((xb G h x_hasImage f_places f_kinds f_weights f_howManyGenerators f_generators f_racks f_howManySeen f_seenFirst f_seenSecond f_seenIs f_seenPlaces f_howManyEvents f_eventWhat f_eventNumber g_places g_kinds g_weights g_howManyGenerators g_generators g_racks g_howManySeen g_seenFirst g_seenSecond g_seenIs g_seenPlaces g_howManyEvents g_eventWhat g_eventNumber n_m0 n_m1 n_m2 n_s0 n_s1 n_s2 v_keys v_asFound v_found v_turns v_places p_keys p_asFound p_found p_turns p_places i_sort i_howOften i_sorts i_moves n_uq n_u u_leasts u_howMany u_known n_wq n_w w_leasts w_howMany w_known t_signs t_length t_whole t_begins t_ends r_sorts r_numbers r_length) ++ wo) [.ref (h 0), .int l1] ((xb G h x_hasImage f_places f_kinds f_weights f_howManyGenerators f_generators f_racks f_howManySeen f_seenFirst f_seenSecond f_seenIs f_seenPlaces f_howManyEvents f_eventWhat f_eventNumber g_places g_kinds g_weights g_howManyGenerators g_generators g_racks g_howManySeen g_seenFirst g_seenSecond g_seenIs g_seenPlaces g_howManyEvents g_eventWhat g_eventNumber n_m0 n_m1 n_m2 n_s0 n_s1 n_s2 v_keys v_asFound v_found v_turns v_places res.2.1 res.2.2.1 res.2.2.2.1 res.2.2.2.2.1 res.2.2.2.2.2 i_sort i_howOften i_sorts i_moves n_uq n_u u_leasts u_howMany u_known n_wq n_w w_leasts w_howMany w_known t_signs t_length t_whole t_begins t_ends r_sorts r_numbers r_length) ++ wo) (some (.int res.1)) 0 0 := by
  refine MX.of (plainFor_of_name (by decide)) (Nat.le_of_ble_eq_true rfl) ?_
  intro p e s m below meth c A X E hI ls hl
  obtain ⟨hx, hb, hml, hown, hts, hr, hlk⟩ := id X
  have hl : lv_has ls 7 [(0, .ref (h 0)), (1, .int l1)] := hl
  unfold f_X9_fits at hf
  refine lv_iload_n (pc := 0) hx hb dX9_fits_0 rfl (lv_at hl 1 rfl) ?_
  obtain ⟨t1, e1, hf⟩ := q_ob hf
  refine x_cSn (pc := 1) (st1 := [.int t1]) X E hI (c_X9_isFlag l G e1) ks_X9_99 hd_X9_isFlag ⟨rfl, rfl⟩ (by decide) rfl hl.1 rfl (Nat.le_of_ble_eq_true rfl) dX9_fits_1 ⟨Nat.le_of_ble_eq_true rfl, Nat.le_of_ble_eq_true rfl⟩ rfl (fun H locs hI => ?_)
  refine lv_if_ne (pc := 4) (tgt := 9) hx hb dX9_fits_4 (by decide) (fun c2 => ?_) (fun c2 => ?_)
  · have hf := q_in c2 hf
    refine lv_iconst (pc := 9) (v := 0) hx hb dX9_fits_9 (by decide) ?_
    refine lv_istore_n (pc := 10) (lv' := [(2, .int 0), (0, .ref (h 0)), (1, .int l1)]) hx hb dX9_fits_10 rfl hl (by decide) rfl (fun ls hl => ?_)
    refine lv_bipush (pc := 11) (v := (-5)) hx hb dX9_fits_11 (by decide) ?_
    refine lv_istore_n (pc := 13) (lv' := [(3, .int ((-5))), (2, .int 0), (0, .ref (h 0)), (1, .int l1)]) hx hb dX9_fits_13 rfl hl (by decide) rfl (fun ls hl => ?_)
    refine lv_iconst (pc := 14) (v := 1) hx hb dX9_fits_14 (by decide) ?_
    refine lv_aload_n (pc := 15) hx hb dX9_fits_15 rfl (lv_at hl 2 rfl) ?_
    refine x_get (pc := 16) X E hI inX9 0 rfl rfl 0 (by decide) tw_2_7 rfl dX9_fits_16 ?_
    refine x_get (pc := 19) X E hI inX3 1 rfl rfl 3 (by decide) tw_1_40 rfl dX9_fits_19 ?_
    refine lv_ishl (pc := 22) hx hb dX9_fits_22 ?_
    refine lv_istore (pc := 23) (lv' := [(4, .int (1 <<< (f_howManyGenerators &&& 31))), (3, .int ((-5))), (2, .int 0), (0, .ref (h 0)), (1, .int l1)]) hx hb dX9_fits_23 hl (by decide) rfl (fun ls hl => ?_)
    refine lv_aload_n (pc := 25) hx hb dX9_fits_25 rfl (lv_at hl 3 rfl) ?_
    refine x_get (pc := 26) X E hI inX9 0 rfl rfl 0 (by decide) tw_2_7 rfl dX9_fits_26 ?_
    obtain ⟨t3, e3, hf⟩ := q_ob hf
    refine x_cVt (pc := 29) (st1 := [.int t3]) (w2 := (xb G h x_hasImage f_places f_kinds f_weights f_howManyGenerators f_generators f_racks f_howManySeen f_seenFirst f_seenSecond f_seenIs f_seenPlaces f_howManyEvents f_eventWhat f_eventNumber g_places g_kinds g_weights g_howManyGenerators g_generators g_racks g_howManySeen g_seenFirst g_seenSecond g_seenIs g_seenPlaces g_howManyEvents g_eventWhat g_eventNumber n_m0 n_m1 n_m2 n_s0 n_s1 n_s2 v_keys v_asFound v_found v_turns v_places p_keys p_asFound p_found p_turns p_places i_sort i_howOften i_sorts i_moves n_uq n_u u_leasts u_howMany u_known n_wq n_w w_leasts w_howMany w_known t_signs t_length t_whole t_begins t_ends r_sorts r_numbers r_length)) X E hI (c_X3_allSeenCount l G (h 1) (h 2) (h 3) (h 4) (h 5) (h 6) (h 7) (h 8) (h 9) (h 10) e3) kv_X9_266 hd_X3_allSeenCount ⟨rfl, rfl⟩ (by decide) pt_xb_fw_0 pt_xb_fw_0q 0 rfl rfl rfl rfl hl.1 rfl (Nat.le_of_ble_eq_true rfl) dX9_fits_29 ⟨Nat.le_of_ble_eq_true rfl, Nat.le_of_ble_eq_true rfl⟩ rfl (fun H locs hI => ?_)
    refine lv_istore (pc := 32) (lv' := [(5, .int t3), (4, .int (1 <<< (f_howManyGenerators &&& 31))), (3, .int ((-5))), (2, .int 0), (0, .ref (h 0)), (1, .int l1)]) hx hb dX9_fits_32 hl (by decide) rfl (fun ls hl => ?_)
    refine lv_iconst (pc := 34) (v := 0) hx hb dX9_fits_34 (by decide) ?_
    refine lv_istore (pc := 35) (lv' := [(6, .int 0), (5, .int t3), (4, .int (1 <<< (f_howManyGenerators &&& 31))), (3, .int ((-5))), (2, .int 0), (0, .ref (h 0)), (1, .int l1)]) hx hb dX9_fits_35 hl (by decide) rfl (fun ls hl => ?_)
    refine k_X9_fits_L37 X E (fun l2_4 l3_4 l6_4 p_keys_4 p_asFound_4 p_found_4 p_turns_4 p_places_4 H locs ls hI hl hf => ?_) hI (lv_sub hl [5, 6, 4, 3, 2, 1, 0] rfl) hf
    refine lv_iload_n (pc := 78) hx hb dX9_fits_78 rfl (lv_at hl 1 rfl) ?_
    refine lv_if_ne (pc := 79) (tgt := 86) hx hb dX9_fits_79 (by decide) (fun c5 => ?_) (fun c5 => ?_)
    · have hf := q_in c5 hf
      refine lv_iload_n (pc := 86) hx hb dX9_fits_86 rfl (lv_at hl 3 rfl) ?_
      obtain rfl := Option.some.inj hf
      exact x_iret X hI dX9_fits_87
    · have hf := q_ip c5 hf
      refine lv_iload_n (pc := 82) hx hb dX9_fits_82 rfl (lv_at hl 2 rfl) ?_
      refine lv_goto (pc := 83) (tgt := 87) hx hb dX9_fits_83 (by decide) ?_
      obtain rfl := Option.some.inj hf
      exact x_iret X hI dX9_fits_87
  · have hf := q_ip c2 hf
    refine lv_iconst (pc := 7) (v := (-1)) hx hb dX9_fits_7 (by decide) ?_
    obtain rfl := Option.some.inj hf
    exact x_iret X hI dX9_fits_8

abbrev rm_X9_event : Room := { frames := 1, cells := 0, slots := 0, locals := 22 }
set_option maxHeartbeats 4000000 in
set_option maxRecDepth 100000 in
theorem c_X9_event (l : Launch) (G : GX) (h : Nat → Nat) {l1 : Int32} {l2 : Int32} {f_howManyEvents : Int32} {f_eventWhat : Nat → Int32} {f_eventNumber : Nat → Int32} {x_hasImage : Int32} {f_places : Int32} {f_kinds : Int32} {f_weights : Nat → Int32} {f_howManyGenerators : Int32} {f_generators : Nat → Int32} {f_racks : Nat → Int32} {f_howManySeen : Int32} {f_seenFirst : Nat → Int32} {f_seenSecond : Nat → Int32} {f_seenIs : Nat → Int32} {f_seenPlaces : Nat → Int32} {g_places : Int32} {g_kinds : Int32} {g_weights : Nat → Int32} {g_howManyGenerators : Int32} {g_generators : Nat → Int32} {g_racks : Nat → Int32} {g_howManySeen : Int32} {g_seenFirst : Nat → Int32} {g_seenSecond : Nat → Int32} {g_seenIs : Nat → Int32} {g_seenPlaces : Nat → Int32} {g_howManyEvents : Int32} {g_eventWhat : Nat → Int32} {g_eventNumber : Nat → Int32} {n_m0 : Nat} {n_m1 : Nat} {n_m2 : Nat} {n_s0 : Nat} {n_s1 : Nat} {n_s2 : Nat} {v_keys : Nat → Int32} {v_asFound : Nat → Int32} {v_found : Int32} {v_turns : Int32} {v_places : Int32} {p_keys : Nat → Int32} {p_asFound : Nat → Int32} {p_found : Int32} {p_turns : Int32} {p_places : Int32} {i_sort : Nat → Int32} {i_howOften : Nat → Int32} {i_sorts : Int32} {i_moves : Int32} {n_uq : Nat} {n_u : Nat} {u_leasts : Nat → Int32} {u_howMany : Int32} {u_known : Int32} {n_wq : Nat} {n_w : Nat} {w_leasts : Nat → Int32} {w_howMany : Int32} {w_known : Int32} {t_signs : Nat → Int32} {t_length : Int32} {t_whole : Int32} {t_begins : Nat → Int32} {t_ends : Nat → Int32} {r_sorts : Nat → Int32} {r_numbers : Nat → Int32} {r_length : Int32} {wo : va_W} {res : Int32 × Int32 × (Nat → Int32) × (Nat → Int32)} (hf : f_X9_event l1 l2 f_howManyEvents f_eventWhat f_eventNumber = some res) : MX l yX9_event cX9_event 4 (some .int) rm_X9_event G ((xb G h x_hasImage f_places f_kinds f_weights f_howManyGenerators f_generators f_racks f_howManySeen f_seenFirst f_seenSecond f_seenIs f_seenPlaces f_howManyEvents f_eventWhat f_eventNumber g_places g_kinds g_weights g_howManyGenerators g_generators g_racks g_howManySeen g_seenFirst g_seenSecond g_seenIs g_seenPlaces g_howManyEvents g_eventWhat g_eventNumber n_m0 n_m1 n_m2 n_s0 n_s1 n_s2 v_keys v_asFound v_found v_turns v_places p_keys p_asFound p_found p_turns p_places i_sort i_howOften i_sorts i_moves n_uq n_u u_leasts u_howMany u_known n_wq n_w w_leasts w_howMany w_known t_signs t_length t_whole t_begins t_ends r_sorts r_numbers r_length) ++ wo) [.ref (h 0), .int l1, .int l2] ((xb G h x_hasImage f_places f_kinds f_weights f_howManyGenerators f_generators f_racks f_howManySeen f_seenFirst f_seenSecond f_seenIs f_seenPlaces res.2.1 res.2.2.1 res.2.2.2 g_places g_kinds g_weights g_howManyGenerators g_generators g_racks g_howManySeen g_seenFirst g_seenSecond g_seenIs g_seenPlaces g_howManyEvents g_eventWhat g_eventNumber n_m0 n_m1 n_m2 n_s0 n_s1 n_s2 v_keys v_asFound v_found v_turns v_places p_keys p_asFound p_found p_turns p_places i_sort i_howOften i_sorts i_moves n_uq n_u u_leasts u_howMany u_known n_wq n_w w_leasts w_howMany w_known t_signs t_length t_whole t_begins t_ends r_sorts r_numbers r_length) ++ wo) (some (.int res.1)) 0 0 := by
  refine MX.of (plainFor_of_name (by decide)) (Nat.le_of_ble_eq_true rfl) ?_
  intro p e s m below meth c A X E hI ls hl
  obtain ⟨hx, hb, hml, hown, hts, hr, hlk⟩ := id X
  have hl : lv_has ls 4 [(0, .ref (h 0)), (1, .int l1), (2, .int l2)] := hl
  unfold f_X9_event at hf
  refine lv_iload_n (pc := 0) hx hb dX9_event_0 rfl (lv_at hl 1 rfl) ?_
  refine lv_iconst (pc := 1) (v := (-1)) hx hb dX9_event_1 (by decide) ?_
  refine lv_icmp_ne (pc := 2) (tgt := 15) hx hb dX9_event_2 (by decide) (fun c1 => ?_) (fun c1 => ?_)
  · have hf := q_in c1 hf
    refine lv_iload_n (pc := 15) hx hb dX9_event_15 rfl (lv_at hl 1 rfl) ?_
    refine lv_if_lt (pc := 16) (tgt := 24) hx hb dX9_event_16 (by decide) (fun c2 => ?_) (fun c2 => ?_)
    · have hf := q_ip c2 hf
      refine lv_iconst (pc := 24) (v := (-1)) hx hb dX9_event_24 (by decide) ?_
      obtain rfl := Option.some.inj hf
      exact x_iret X hI dX9_event_25
    · have hf := q_in c2 hf
      refine lv_iload_n (pc := 19) hx hb dX9_event_19 rfl (lv_at hl 1 rfl) ?_
      refine lv_iconst (pc := 20) (v := 2) hx hb dX9_event_20 (by decide) ?_
      refine lv_icmp_le (pc := 21) (tgt := 26) hx hb dX9_event_21 (by decide) (fun c3 => ?_) (fun c3 => ?_)
      · have hf := q_ip c3 hf
        refine lv_iload_n (pc := 26) hx hb dX9_event_26 rfl (lv_at hl 1 rfl) ?_
        refine lv_if_ne (pc := 27) (tgt := 48) hx hb dX9_event_27 (by decide) (fun c4 => ?_) (fun c4 => ?_)
        · have hf := q_in c4 hf
          refine lv_iload_n (pc := 48) hx hb dX9_event_48 rfl (lv_at hl 2 rfl) ?_
          refine lv_if_lt (pc := 49) (tgt := 61) hx hb dX9_event_49 (by decide) (fun c5 => ?_) (fun c5 => ?_)
          · have hf := q_ip c5 hf
            refine lv_iconst (pc := 61) (v := 0) hx hb dX9_event_61 (by decide) ?_
            refine lv_istore_n (pc := 62) (lv' := [(3, .int 0), (0, .ref (h 0)), (1, .int l1), (2, .int l2)]) hx hb dX9_event_62 rfl hl (by decide) rfl (fun ls hl => ?_)
            refine lv_iload_n (pc := 63) hx hb dX9_event_63 rfl (lv_at hl 0 rfl) ?_
            refine lv_if_ne (pc := 64) (tgt := 70) hx hb dX9_event_64 (by decide) (fun c6 => ?_) (fun c6 => ?_)
            · exact absurd c6 (by decide)
            · refine lv_bipush (pc := 67) (v := (-2)) hx hb dX9_event_67 (by decide) ?_
              obtain rfl := Option.some.inj hf
              exact x_iret X hI dX9_event_69
          · have hf := q_in c5 hf
            refine lv_iload_n (pc := 52) hx hb dX9_event_52 rfl (lv_at hl 2 rfl) ?_
            refine lv_iconst (pc := 53) (v := 4) hx hb dX9_event_53 (by decide) ?_
            refine lv_icmp_ge (pc := 54) (tgt := 61) hx hb dX9_event_54 (by decide) (fun c7 => ?_) (fun c7 => ?_)
            · have hf := q_ip c7 hf
              refine lv_iconst (pc := 61) (v := 0) hx hb dX9_event_61 (by decide) ?_
              refine lv_istore_n (pc := 62) (lv' := [(3, .int 0), (0, .ref (h 0)), (1, .int l1), (2, .int l2)]) hx hb dX9_event_62 rfl hl (by decide) rfl (fun ls hl => ?_)
              refine lv_iload_n (pc := 63) hx hb dX9_event_63 rfl (lv_at hl 0 rfl) ?_
              refine lv_if_ne (pc := 64) (tgt := 70) hx hb dX9_event_64 (by decide) (fun c8 => ?_) (fun c8 => ?_)
              · exact absurd c8 (by decide)
              · refine lv_bipush (pc := 67) (v := (-2)) hx hb dX9_event_67 (by decide) ?_
                obtain rfl := Option.some.inj hf
                exact x_iret X hI dX9_event_69
            · have hf := q_in c7 hf
              refine lv_iconst (pc := 57) (v := 1) hx hb dX9_event_57 (by decide) ?_
              refine lv_goto (pc := 58) (tgt := 62) hx hb dX9_event_58 (by decide) ?_
              refine lv_istore_n (pc := 62) (lv' := [(3, .int 1), (0, .ref (h 0)), (1, .int l1), (2, .int l2)]) hx hb dX9_event_62 rfl hl (by decide) rfl (fun ls hl => ?_)
              refine lv_iload_n (pc := 63) hx hb dX9_event_63 rfl (lv_at hl 0 rfl) ?_
              refine lv_if_ne (pc := 64) (tgt := 70) hx hb dX9_event_64 (by decide) (fun c9 => ?_) (fun c9 => ?_)
              · refine lv_aload_n (pc := 70) hx hb dX9_event_70 rfl (lv_at hl 1 rfl) ?_
                refine x_get (pc := 71) X E hI inX9 0 rfl rfl 0 (by decide) tw_2_7 rfl dX9_event_71 ?_
                refine lv_iload_n (pc := 74) hx hb dX9_event_74 rfl (lv_at hl 2 rfl) ?_
                refine lv_iload_n (pc := 75) hx hb dX9_event_75 rfl (lv_at hl 3 rfl) ?_
                obtain ⟨t10, e10, hf⟩ := q_ob hf
                refine x_cVt (pc := 76) (st1 := [.int t10.1]) (w2 := (xb G h x_hasImage f_places f_kinds f_weights f_howManyGenerators f_generators f_racks f_howManySeen f_seenFirst f_seenSecond f_seenIs f_seenPlaces t10.2.1 t10.2.2.1 t10.2.2.2 g_places g_kinds g_weights g_howManyGenerators g_generators g_racks g_howManySeen g_seenFirst g_seenSecond g_seenIs g_seenPlaces g_howManyEvents g_eventWhat g_eventNumber n_m0 n_m1 n_m2 n_s0 n_s1 n_s2 v_keys v_asFound v_found v_turns v_places p_keys p_asFound p_found p_turns p_places i_sort i_howOften i_sorts i_moves n_uq n_u u_leasts u_howMany u_known n_wq n_w w_leasts w_howMany w_known t_signs t_length t_whole t_begins t_ends r_sorts r_numbers r_length)) X E hI (c_X3_addEvent l G (h 1) (h 2) (h 3) (h 4) (h 5) (h 6) (h 7) (h 8) (h 9) (h 10) e10) kv_X9_276 hd_X3_addEvent ⟨rfl, rfl⟩ (by decide) pt_xb_fw_0 pt_xb_fw_0q 0 rfl rfl rfl rfl hl.1 rfl (Nat.le_of_ble_eq_true rfl) dX9_event_76 ⟨Nat.le_of_ble_eq_true rfl, Nat.le_of_ble_eq_true rfl⟩ rfl (fun H locs hI => ?_)
                refine lv_if_eq (pc := 79) (tgt := 92) hx hb dX9_event_79 (by decide) (fun c11 => ?_) (fun c11 => ?_)
                · have hf := q_ip c11 hf
                  refine lv_bipush (pc := 92) (v := (-4)) hx hb dX9_event_92 (by decide) ?_
                  obtain rfl := Option.some.inj hf
                  exact x_iret X hI dX9_event_94
                · have hf := q_in c11 hf
                  refine lv_aload_n (pc := 82) hx hb dX9_event_82 rfl (lv_at hl 1 rfl) ?_
                  refine x_get (pc := 83) X E hI inX9 0 rfl rfl 0 (by decide) tw_2_7 rfl dX9_event_83 ?_
                  refine x_get (pc := 86) X E hI inX3 1 rfl rfl 11 (by decide) tw_1_56 rfl dX9_event_86 ?_
                  refine lv_goto (pc := 89) (tgt := 94) hx hb dX9_event_89 (by decide) ?_
                  obtain rfl := Option.some.inj hf
                  exact x_iret X hI dX9_event_94
              · exact absurd c9 (by decide)
        · have hf := q_ip c4 hf
          refine lv_iload_n (pc := 30) hx hb dX9_event_30 rfl (lv_at hl 2 rfl) ?_
          refine lv_iconst (pc := 31) (v := 1) hx hb dX9_event_31 (by decide) ?_
          refine lv_icmp_lt (pc := 32) (tgt := 44) hx hb dX9_event_32 (by decide) (fun c12 => ?_) (fun c12 => ?_)
          · have hf := q_ip c12 hf
            refine lv_iconst (pc := 44) (v := 0) hx hb dX9_event_44 (by decide) ?_
            refine lv_goto (pc := 45) (tgt := 62) hx hb dX9_event_45 (by decide) ?_
            refine lv_istore_n (pc := 62) (lv' := [(3, .int 0), (0, .ref (h 0)), (1, .int l1), (2, .int l2)]) hx hb dX9_event_62 rfl hl (by decide) rfl (fun ls hl => ?_)
            refine lv_iload_n (pc := 63) hx hb dX9_event_63 rfl (lv_at hl 0 rfl) ?_
            refine lv_if_ne (pc := 64) (tgt := 70) hx hb dX9_event_64 (by decide) (fun c13 => ?_) (fun c13 => ?_)
            · exact absurd c13 (by decide)
            · refine lv_bipush (pc := 67) (v := (-2)) hx hb dX9_event_67 (by decide) ?_
              obtain rfl := Option.some.inj hf
              exact x_iret X hI dX9_event_69
          · have hf := q_in c12 hf
            refine lv_iload_n (pc := 35) hx hb dX9_event_35 rfl (lv_at hl 2 rfl) ?_
            refine lv_iconst (pc := 36) (v := 4) hx hb dX9_event_36 (by decide) ?_
            refine lv_icmp_gt (pc := 37) (tgt := 44) hx hb dX9_event_37 (by decide) (fun c14 => ?_) (fun c14 => ?_)
            · have hf := q_ip c14 hf
              refine lv_iconst (pc := 44) (v := 0) hx hb dX9_event_44 (by decide) ?_
              refine lv_goto (pc := 45) (tgt := 62) hx hb dX9_event_45 (by decide) ?_
              refine lv_istore_n (pc := 62) (lv' := [(3, .int 0), (0, .ref (h 0)), (1, .int l1), (2, .int l2)]) hx hb dX9_event_62 rfl hl (by decide) rfl (fun ls hl => ?_)
              refine lv_iload_n (pc := 63) hx hb dX9_event_63 rfl (lv_at hl 0 rfl) ?_
              refine lv_if_ne (pc := 64) (tgt := 70) hx hb dX9_event_64 (by decide) (fun c15 => ?_) (fun c15 => ?_)
              · exact absurd c15 (by decide)
              · refine lv_bipush (pc := 67) (v := (-2)) hx hb dX9_event_67 (by decide) ?_
                obtain rfl := Option.some.inj hf
                exact x_iret X hI dX9_event_69
            · have hf := q_in c14 hf
              refine lv_iconst (pc := 40) (v := 1) hx hb dX9_event_40 (by decide) ?_
              refine lv_goto (pc := 41) (tgt := 62) hx hb dX9_event_41 (by decide) ?_
              refine lv_istore_n (pc := 62) (lv' := [(3, .int 1), (0, .ref (h 0)), (1, .int l1), (2, .int l2)]) hx hb dX9_event_62 rfl hl (by decide) rfl (fun ls hl => ?_)
              refine lv_iload_n (pc := 63) hx hb dX9_event_63 rfl (lv_at hl 0 rfl) ?_
              refine lv_if_ne (pc := 64) (tgt := 70) hx hb dX9_event_64 (by decide) (fun c16 => ?_) (fun c16 => ?_)
              · refine lv_aload_n (pc := 70) hx hb dX9_event_70 rfl (lv_at hl 1 rfl) ?_
                refine x_get (pc := 71) X E hI inX9 0 rfl rfl 0 (by decide) tw_2_7 rfl dX9_event_71 ?_
                refine lv_iload_n (pc := 74) hx hb dX9_event_74 rfl (lv_at hl 2 rfl) ?_
                refine lv_iload_n (pc := 75) hx hb dX9_event_75 rfl (lv_at hl 3 rfl) ?_
                obtain ⟨t17, e17, hf⟩ := q_ob hf
                refine x_cVt (pc := 76) (st1 := [.int t17.1]) (w2 := (xb G h x_hasImage f_places f_kinds f_weights f_howManyGenerators f_generators f_racks f_howManySeen f_seenFirst f_seenSecond f_seenIs f_seenPlaces t17.2.1 t17.2.2.1 t17.2.2.2 g_places g_kinds g_weights g_howManyGenerators g_generators g_racks g_howManySeen g_seenFirst g_seenSecond g_seenIs g_seenPlaces g_howManyEvents g_eventWhat g_eventNumber n_m0 n_m1 n_m2 n_s0 n_s1 n_s2 v_keys v_asFound v_found v_turns v_places p_keys p_asFound p_found p_turns p_places i_sort i_howOften i_sorts i_moves n_uq n_u u_leasts u_howMany u_known n_wq n_w w_leasts w_howMany w_known t_signs t_length t_whole t_begins t_ends r_sorts r_numbers r_length)) X E hI (c_X3_addEvent l G (h 1) (h 2) (h 3) (h 4) (h 5) (h 6) (h 7) (h 8) (h 9) (h 10) e17) kv_X9_276 hd_X3_addEvent ⟨rfl, rfl⟩ (by decide) pt_xb_fw_0 pt_xb_fw_0q 0 rfl rfl rfl rfl hl.1 rfl (Nat.le_of_ble_eq_true rfl) dX9_event_76 ⟨Nat.le_of_ble_eq_true rfl, Nat.le_of_ble_eq_true rfl⟩ rfl (fun H locs hI => ?_)
                refine lv_if_eq (pc := 79) (tgt := 92) hx hb dX9_event_79 (by decide) (fun c18 => ?_) (fun c18 => ?_)
                · have hf := q_ip c18 hf
                  refine lv_bipush (pc := 92) (v := (-4)) hx hb dX9_event_92 (by decide) ?_
                  obtain rfl := Option.some.inj hf
                  exact x_iret X hI dX9_event_94
                · have hf := q_in c18 hf
                  refine lv_aload_n (pc := 82) hx hb dX9_event_82 rfl (lv_at hl 1 rfl) ?_
                  refine x_get (pc := 83) X E hI inX9 0 rfl rfl 0 (by decide) tw_2_7 rfl dX9_event_83 ?_
                  refine x_get (pc := 86) X E hI inX3 1 rfl rfl 11 (by decide) tw_1_56 rfl dX9_event_86 ?_
                  refine lv_goto (pc := 89) (tgt := 94) hx hb dX9_event_89 (by decide) ?_
                  obtain rfl := Option.some.inj hf
                  exact x_iret X hI dX9_event_94
              · exact absurd c16 (by decide)
      · have hf := q_in c3 hf
        refine lv_iconst (pc := 24) (v := (-1)) hx hb dX9_event_24 (by decide) ?_
        obtain rfl := Option.some.inj hf
        exact x_iret X hI dX9_event_25
  · have hf := q_ip c1 hf
    refine lv_aload_n (pc := 5) hx hb dX9_event_5 rfl (lv_at hl 0 rfl) ?_
    refine x_get (pc := 6) X E hI inX9 0 rfl rfl 0 (by decide) tw_2_7 rfl dX9_event_6 ?_
    refine lv_iconst (pc := 9) (v := 0) hx hb dX9_event_9 (by decide) ?_
    refine x_put (pc := 10) (w' := ((xb G h x_hasImage f_places f_kinds f_weights f_howManyGenerators f_generators f_racks f_howManySeen f_seenFirst f_seenSecond f_seenIs f_seenPlaces 0 f_eventWhat f_eventNumber g_places g_kinds g_weights g_howManyGenerators g_generators g_racks g_howManySeen g_seenFirst g_seenSecond g_seenIs g_seenPlaces g_howManyEvents g_eventWhat g_eventNumber n_m0 n_m1 n_m2 n_s0 n_s1 n_s2 v_keys v_asFound v_found v_turns v_places p_keys p_asFound p_found p_turns p_places i_sort i_howOften i_sorts i_moves n_uq n_u u_leasts u_howMany u_known n_wq n_w w_leasts w_howMany w_known t_signs t_length t_whole t_begins t_ends r_sorts r_numbers r_length) ++ wo)) X E hI inX3 tyX3 tyX3_ok nmX3 1 rfl rfl 11 (by decide) tw_1_56 rfl rfl rfl (Nat.le_of_ble_eq_true rfl) rfl dX9_event_10 (fun H locs hI => ?_)
    refine lv_iconst (pc := 13) (v := 0) hx hb dX9_event_13 (by decide) ?_
    obtain rfl := Option.some.inj hf
    exact x_iret X hI dX9_event_14

abbrev rm_X9_after : Room := { frames := 4, cells := 0, slots := 0, locals := 108 }
set_option maxHeartbeats 4000000 in
set_option maxRecDepth 100000 in
theorem k_X9_after_L21 {p : Program} {l : Launch} {e : Env} {s : State} {m : MethodId} {args : Array Value} {below : List Frame} {meth : Method} {c : Code} {A : Nat → Prop} {G : GX} {h : Nat → Nat} {x_hasImage : Int32} {f_places : Int32} {f_kinds : Int32} {f_weights : Nat → Int32} {f_howManyGenerators : Int32} {f_generators : Nat → Int32} {f_racks : Nat → Int32} {f_howManySeen : Int32} {f_seenFirst : Nat → Int32} {f_seenSecond : Nat → Int32} {f_seenIs : Nat → Int32} {f_seenPlaces : Nat → Int32} {f_howManyEvents : Int32} {f_eventWhat : Nat → Int32} {f_eventNumber : Nat → Int32} {g_places : Int32} {g_kinds : Int32} {g_weights : Nat → Int32} {g_howManyGenerators : Int32} {g_generators : Nat → Int32} {g_racks : Nat → Int32} {g_howManySeen : Int32} {g_seenFirst : Nat → Int32} {g_seenSecond : Nat → Int32} {g_seenIs : Nat → Int32} {g_seenPlaces : Nat → Int32} {g_howManyEvents : Int32} {g_eventWhat : Nat → Int32} {g_eventNumber : Nat → Int32} {n_m0 : Nat} {n_m1 : Nat} {n_m2 : Nat} {n_s0 : Nat} {n_s1 : Nat} {n_s2 : Nat} {v_keys : Nat → Int32} {v_asFound : Nat → Int32} {v_found : Int32} {v_turns : Int32} {v_places : Int32} {p_keys : Nat → Int32} {p_asFound : Nat → Int32} {p_found : Int32} {p_turns : Int32} {p_places : Int32} {i_sort : Nat → Int32} {i_howOften : Nat → Int32} {i_sorts : Int32} {i_moves : Int32} {n_uq : Nat} {n_u : Nat} {u_leasts : Nat → Int32} {u_howMany : Int32} {u_known : Int32} {n_wq : Nat} {n_w : Nat} {w_leasts : Nat → Int32} {w_howMany : Int32} {w_known : Int32} {t_signs : Nat → Int32} {t_length : Int32} {t_whole : Int32} {t_begins : Nat → Int32} {t_ends : Nat → Int32} {r_sorts : Nat → Int32} {r_numbers : Nat → Int32} {r_length : Int32} {wo : va_W} {K : Int32 → Int32 → Int32 → Option (Int32 × (Nat → Int32) × (Nat → Int32) × Int32 × Int32 × Int32 × (Nat → Int32) × (Nat → Int32) × Int32 × Int32)} {res : Int32 × (Nat → Int32) × (Nat → Int32) × Int32 × Int32 × Int32 × (Nat → Int32) × (Nat → Int32) × Int32 × Int32} (X : CX RX9 cX9_after 4 (some .int) p s m args meth c) (E : EX G A s)
    (hK : ∀ (l1 : Int32) (l2 : Int32) (l3 : Int32) (H : Heap) (locs : List Loc) (ls : Array Slot), IN A G ((xb G h x_hasImage f_places f_kinds f_weights f_howManyGenerators f_generators f_racks f_howManySeen f_seenFirst f_seenSecond f_seenIs f_seenPlaces f_howManyEvents f_eventWhat f_eventNumber g_places g_kinds g_weights g_howManyGenerators g_generators g_racks g_howManySeen g_seenFirst g_seenSecond g_seenIs g_seenPlaces g_howManyEvents g_eventWhat g_eventNumber n_m0 n_m1 n_m2 n_s0 n_s1 n_s2 v_keys v_asFound v_found v_turns v_places p_keys p_asFound p_found p_turns p_places i_sort i_howOften i_sorts i_moves n_uq n_u u_leasts u_howMany u_known n_wq n_w w_leasts w_howMany w_known t_signs t_length t_whole t_begins t_ends r_sorts r_numbers r_length) ++ wo) s H locs → lv_has ls 4 [(0, .ref (h 0)), (1, .int l1), (2, .int l2), (3, .int l3)] → K l1 l2 l3 = some res → W p l e rm_X9_after s m args below meth c H locs 0 0 (MQ below (QX G A ((xb G h x_hasImage f_places f_kinds f_weights f_howManyGenerators f_generators f_racks f_howManySeen f_seenFirst f_seenSecond f_seenIs f_seenPlaces f_howManyEvents f_eventWhat f_eventNumber g_places g_kinds g_weights g_howManyGenerators g_generators g_racks g_howManySeen g_seenFirst g_seenSecond g_seenIs g_seenPlaces g_howManyEvents g_eventWhat g_eventNumber n_m0 n_m1 n_m2 n_s0 n_s1 n_s2 v_keys v_asFound v_found v_turns v_places res.2.1 res.2.2.1 res.2.2.2.1 res.2.2.2.2.1 res.2.2.2.2.2.1 res.2.2.2.2.2.2.1 res.2.2.2.2.2.2.2.1 res.2.2.2.2.2.2.2.2.1 res.2.2.2.2.2.2.2.2.2 n_uq n_u u_leasts u_howMany u_known n_wq n_w w_leasts w_howMany w_known t_signs t_length t_whole t_begins t_ends r_sorts r_numbers r_length) ++ wo) (some (.int res.1))) args s 0 0 A) (F0 m 92 ls [])) :
    ∀ {k : Nat} {l1 : Int32} {l2 : Int32} {l3 : Int32} {H : Heap} {locs : List Loc} {ls : Array Slot}, IN A G ((xb G h x_hasImage f_places f_kinds f_weights f_howManyGenerators f_generators f_racks f_howManySeen f_seenFirst f_seenSecond f_seenIs f_seenPlaces f_howManyEvents f_eventWhat f_eventNumber g_places g_kinds g_weights g_howManyGenerators g_generators g_racks g_howManySeen g_seenFirst g_seenSecond g_seenIs g_seenPlaces g_howManyEvents g_eventWhat g_eventNumber n_m0 n_m1 n_m2 n_s0 n_s1 n_s2 v_keys v_asFound v_found v_turns v_places p_keys p_asFound p_found p_turns p_places i_sort i_howOften i_sorts i_moves n_uq n_u u_leasts u_howMany u_known n_wq n_w w_leasts w_howMany w_known t_signs t_length t_whole t_begins t_ends r_sorts r_numbers r_length) ++ wo) s H locs → lv_has ls 4 [(0, .ref (h 0)), (1, .int l1), (2, .int l2), (3, .int l3)] → f_X9_after_L21 f_howManyEvents f_eventWhat f_eventNumber K k l1 l2 l3 = some res → W p l e rm_X9_after s m args below meth c H locs 0 0 (MQ below (QX G A ((xb G h x_hasImage f_places f_kinds f_weights f_howManyGenerators f_generators f_racks f_howManySeen f_seenFirst f_seenSecond f_seenIs f_seenPlaces f_howManyEvents f_eventWhat f_eventNumber g_places g_kinds g_weights g_howManyGenerators g_generators g_racks g_howManySeen g_seenFirst g_seenSecond g_seenIs g_seenPlaces g_howManyEvents g_eventWhat g_eventNumber n_m0 n_m1 n_m2 n_s0 n_s1 n_s2 v_keys v_asFound v_found v_turns v_places res.2.1 res.2.2.1 res.2.2.2.1 res.2.2.2.2.1 res.2.2.2.2.2.1 res.2.2.2.2.2.2.1 res.2.2.2.2.2.2.2.1 res.2.2.2.2.2.2.2.2.1 res.2.2.2.2.2.2.2.2.2 n_uq n_u u_leasts u_howMany u_known n_wq n_w w_leasts w_howMany w_known t_signs t_length t_whole t_begins t_ends r_sorts r_numbers r_length) ++ wo) (some (.int res.1))) args s 0 0 A) (F0 m 21 ls []) := by
  obtain ⟨hx, hb, hml, hown, hts, hr, hlk⟩ := id X
  intro k
  induction k with
  | zero => intro l1 l2 l3 H locs ls hI hl hf; exact nomatch (show none = some res from hf)
  | succ k ih =>
    intro l1 l2 l3 H locs ls hI hl hf
    rw [f_X9_after_L21] at hf
    refine lv_iload_n (pc := 21) hx hb dX9_after_21 rfl (lv_at hl 3 rfl) ?_
    refine lv_aload_n (pc := 22) hx hb dX9_after_22 rfl (lv_at hl 0 rfl) ?_
    refine x_get (pc := 23) X E hI inX9 0 rfl rfl 0 (by decide) tw_2_7 rfl dX9_after_23 ?_
    refine x_get (pc := 26) X E hI inX3 1 rfl rfl 11 (by decide) tw_1_56 rfl dX9_after_26 ?_
    refine lv_icmp_ge (pc := 29) (tgt := 92) hx hb dX9_after_29 (by decide) (fun c1 => ?_) (fun c1 => ?_)
    · have hf := q_ip c1 hf
      exact hK _ _ _ _ _ _ hI (lv_sub hl [0, 1, 2, 3] rfl) hf
    · have hf := q_in c1 hf
      refine lv_aload_n (pc := 32) hx hb dX9_after_32 rfl (lv_at hl 0 rfl) ?_
      refine x_get (pc := 33) X E hI inX9 0 rfl rfl 0 (by decide) tw_2_7 rfl dX9_after_33 ?_
      refine x_get (pc := 36) X E hI inX3 1 rfl rfl 12 (by decide) tw_1_58 rfl dX9_after_36 ?_
      refine lv_iload_n (pc := 39) hx hb dX9_after_39 rfl (lv_at hl 3 rfl) ?_
      obtain ⟨t2, e2, hf⟩ := q_ob hf
      refine x_iald (pc := 40) X E hI 9 rfl e2 dX9_after_40 ?_
      refine lv_if_ne (pc := 41) (tgt := 57) hx hb dX9_after_41 (by decide) (fun c3 => ?_) (fun c3 => ?_)
      · have hf := q_in c3 hf
        refine lv_aload_n (pc := 57) hx hb dX9_after_57 rfl (lv_at hl 0 rfl) ?_
        refine x_get (pc := 58) X E hI inX9 0 rfl rfl 0 (by decide) tw_2_7 rfl dX9_after_58 ?_
        refine x_get (pc := 61) X E hI inX3 1 rfl rfl 12 (by decide) tw_1_58 rfl dX9_after_61 ?_
        refine lv_iload_n (pc := 64) hx hb dX9_after_64 rfl (lv_at hl 3 rfl) ?_
        obtain ⟨t4, e4, hf⟩ := q_ob hf
        refine x_iald (pc := 65) X E hI 9 rfl e4 dX9_after_65 ?_
        refine lv_iconst (pc := 66) (v := 1) hx hb dX9_after_66 (by decide) ?_
        refine lv_icmp_ne (pc := 67) (tgt := 86) hx hb dX9_after_67 (by decide) (fun c5 => ?_) (fun c5 => ?_)
        · have hf := q_in c5 hf
          refine lv_iinc (pc := 86) (v := l3 + 1) (lv' := [(3, .int (l3 + 1)), (0, .ref (h 0)), (1, .int l1), (2, .int l2)]) hx hb dX9_after_86 hl (k := 3) rfl rfl (by decide) rfl (fun ls hl => ?_)
          refine lv_goto (pc := 89) (tgt := 21) hx hb dX9_after_89 (by decide) ?_
          exact ih hI (lv_sub hl [1, 2, 3, 0] rfl) hf
        · have hf := q_ip c5 hf
          refine lv_iload_n (pc := 70) hx hb dX9_after_70 rfl (lv_at hl 2 rfl) ?_
          refine lv_iconst (pc := 71) (v := 1) hx hb dX9_after_71 (by decide) ?_
          refine lv_aload_n (pc := 72) hx hb dX9_after_72 rfl (lv_at hl 0 rfl) ?_
          refine x_get (pc := 73) X E hI inX9 0 rfl rfl 0 (by decide) tw_2_7 rfl dX9_after_73 ?_
          refine x_get (pc := 76) X E hI inX3 1 rfl rfl 13 (by decide) tw_1_60 rfl dX9_after_76 ?_
          refine lv_iload_n (pc := 79) hx hb dX9_after_79 rfl (lv_at hl 3 rfl) ?_
          obtain ⟨t6, e6, hf⟩ := q_ob hf
          refine x_iald (pc := 80) X E hI 10 rfl e6 dX9_after_80 ?_
          refine lv_ishl (pc := 81) hx hb dX9_after_81 ?_
          refine lv_iconst (pc := 82) (v := (-1)) hx hb dX9_after_82 (by decide) ?_
          refine lv_ixor (pc := 83) hx hb dX9_after_83 ?_
          refine lv_iand (pc := 84) hx hb dX9_after_84 ?_
          refine lv_istore_n (pc := 85) (lv' := [(2, .int (l2 &&& ((1 <<< (t6 &&& 31)) ^^^ ((-1))))), (0, .ref (h 0)), (1, .int l1), (3, .int l3)]) hx hb dX9_after_85 rfl hl (by decide) rfl (fun ls hl => ?_)
          refine lv_iinc (pc := 86) (v := l3 + 1) (lv' := [(3, .int (l3 + 1)), (2, .int (l2 &&& ((1 <<< (t6 &&& 31)) ^^^ ((-1))))), (0, .ref (h 0)), (1, .int l1)]) hx hb dX9_after_86 hl (k := 3) rfl rfl (by decide) rfl (fun ls hl => ?_)
          refine lv_goto (pc := 89) (tgt := 21) hx hb dX9_after_89 (by decide) ?_
          exact ih hI (lv_sub hl [2, 3, 1, 0] rfl) hf
      · have hf := q_ip c3 hf
        refine lv_aload_n (pc := 44) hx hb dX9_after_44 rfl (lv_at hl 0 rfl) ?_
        refine x_get (pc := 45) X E hI inX9 0 rfl rfl 0 (by decide) tw_2_7 rfl dX9_after_45 ?_
        refine x_get (pc := 48) X E hI inX3 1 rfl rfl 13 (by decide) tw_1_60 rfl dX9_after_48 ?_
        refine lv_iload_n (pc := 51) hx hb dX9_after_51 rfl (lv_at hl 3 rfl) ?_
        obtain ⟨t7, e7, hf⟩ := q_ob hf
        refine x_iald (pc := 52) X E hI 10 rfl e7 dX9_after_52 ?_
        refine lv_istore_n (pc := 53) (lv' := [(1, .int t7), (0, .ref (h 0)), (2, .int l2), (3, .int l3)]) hx hb dX9_after_53 rfl hl (by decide) rfl (fun ls hl => ?_)
        refine lv_goto (pc := 54) (tgt := 86) hx hb dX9_after_54 (by decide) ?_
        refine lv_iinc (pc := 86) (v := l3 + 1) (lv' := [(3, .int (l3 + 1)), (1, .int t7), (0, .ref (h 0)), (2, .int l2)]) hx hb dX9_after_86 hl (k := 3) rfl rfl (by decide) rfl (fun ls hl => ?_)
        refine lv_goto (pc := 89) (tgt := 21) hx hb dX9_after_89 (by decide) ?_
        exact ih hI (lv_sub hl [2, 1, 3, 0] rfl) hf

set_option maxHeartbeats 4000000 in
set_option maxRecDepth 100000 in
theorem c_X9_after (l : Launch) (G : GX) (h : Nat → Nat) {f_places : Int32} {f_kinds : Int32} {f_howManyGenerators : Int32} {f_generators : Nat → Int32} {f_howManyEvents : Int32} {f_eventWhat : Nat → Int32} {f_eventNumber : Nat → Int32} {p_keys : Nat → Int32} {p_asFound : Nat → Int32} {p_found : Int32} {p_turns : Int32} {p_places : Int32} {i_sort : Nat → Int32} {i_howOften : Nat → Int32} {i_sorts : Int32} {i_moves : Int32} {x_hasImage : Int32} {f_weights : Nat → Int32} {f_racks : Nat → Int32} {f_howManySeen : Int32} {f_seenFirst : Nat → Int32} {f_seenSecond : Nat → Int32} {f_seenIs : Nat → Int32} {f_seenPlaces : Nat → Int32} {g_places : Int32} {g_kinds : Int32} {g_weights : Nat → Int32} {g_howManyGenerators : Int32} {g_generators : Nat → Int32} {g_racks : Nat → Int32} {g_howManySeen : Int32} {g_seenFirst : Nat → Int32} {g_seenSecond : Nat → Int32} {g_seenIs : Nat → Int32} {g_seenPlaces : Nat → Int32} {g_howManyEvents : Int32} {g_eventWhat : Nat → Int32} {g_eventNumber : Nat → Int32} {n_m0 : Nat} {n_m1 : Nat} {n_m2 : Nat} {n_s0 : Nat} {n_s1 : Nat} {n_s2 : Nat} {v_keys : Nat → Int32} {v_asFound : Nat → Int32} {v_found : Int32} {v_turns : Int32} {v_places : Int32} {n_uq : Nat} {n_u : Nat} {u_leasts : Nat → Int32} {u_howMany : Int32} {u_known : Int32} {n_wq : Nat} {n_w : Nat} {w_leasts : Nat → Int32} {w_howMany : Int32} {w_known : Int32} {t_signs : Nat → Int32} {t_length : Int32} {t_whole : Int32} {t_begins : Nat → Int32} {t_ends : Nat → Int32} {r_sorts : Nat → Int32} {r_numbers : Nat → Int32} {r_length : Int32} {wo : va_W} {res : Int32 × (Nat → Int32) × (Nat → Int32) × Int32 × Int32 × Int32 × (Nat → Int32) × (Nat → Int32) × Int32 × Int32} (hf : f_X9_after f_places f_kinds f_howManyGenerators f_generators f_howManyEvents f_eventWhat f_eventNumber p_keys p_asFound p_found p_turns p_places i_sort i_howOften i_sorts i_moves = some res) : MX l yX9_after cX9_after 4 (some .int) rm_X9_after G ((xb G h x_hasImage f_places f_kinds f_weights f_howManyGenerators f_generators f_racks f_howManySeen f_seenFirst f_seenSecond f_seenIs f_seenPlaces f_howManyEvents f_eventWhat f_eventNumber g_places g_kinds g_weights g_howManyGenerators g_generators g_racks g_howManySeen g_seenFirst g_seenSecond g_seenIs g_seenPlaces g_howManyEvents g_eventWhat g_eventNumber n_m0 n_m1 n_m2 n_s0 n_s1 n_s2 v_keys v_asFound v_found v_turns v_places p_keys p_asFound p_found p_turns p_places i_sort i_howOften i_sorts i_moves n_uq n_u u_leasts u_howMany u_known n_wq n_w w_leasts w_howMany w_known t_signs t_length t_whole t_begins t_ends r_sorts r_numbers r_length) ++ wo) [.ref (h 0)] ((xb G h x_hasImage f_places f_kinds f_weights f_howManyGenerators f_generators f_racks f_howManySeen f_seenFirst f_seenSecond f_seenIs f_seenPlaces f_howManyEvents f_eventWhat f_eventNumber g_places g_kinds g_weights g_howManyGenerators g_generators g_racks g_howManySeen g_seenFirst g_seenSecond g_seenIs g_seenPlaces g_howManyEvents g_eventWhat g_eventNumber n_m0 n_m1 n_m2 n_s0 n_s1 n_s2 v_keys v_asFound v_found v_turns v_places res.2.1 res.2.2.1 res.2.2.2.1 res.2.2.2.2.1 res.2.2.2.2.2.1 res.2.2.2.2.2.2.1 res.2.2.2.2.2.2.2.1 res.2.2.2.2.2.2.2.2.1 res.2.2.2.2.2.2.2.2.2 n_uq n_u u_leasts u_howMany u_known n_wq n_w w_leasts w_howMany w_known t_signs t_length t_whole t_begins t_ends r_sorts r_numbers r_length) ++ wo) (some (.int res.1)) 0 0 := by
  refine MX.of (plainFor_of_name (by decide)) (Nat.le_of_ble_eq_true rfl) ?_
  intro p e s m below meth c A X E hI ls hl
  obtain ⟨hx, hb, hml, hown, hts, hr, hlk⟩ := id X
  have hl : lv_has ls 4 [(0, .ref (h 0))] := hl
  unfold f_X9_after at hf
  refine lv_aload_n (pc := 0) hx hb dX9_after_0 rfl (lv_at hl 0 rfl) ?_
  refine x_get (pc := 1) X E hI inX9 0 rfl rfl 0 (by decide) tw_2_7 rfl dX9_after_1 ?_
  refine x_get (pc := 4) X E hI inX3 1 rfl rfl 1 (by decide) tw_1_37 rfl dX9_after_4 ?_
  refine lv_istore_n (pc := 7) (lv' := [(1, .int f_kinds), (0, .ref (h 0))]) hx hb dX9_after_7 rfl hl (by decide) rfl (fun ls hl => ?_)
  refine lv_aload_n (pc := 8) hx hb dX9_after_8 rfl (lv_at hl 1 rfl) ?_
  refine x_get (pc := 9) X E hI inX9 0 rfl rfl 0 (by decide) tw_2_7 rfl dX9_after_9 ?_
  refine x_get (pc := 12) X E hI inX3 1 rfl rfl 3 (by decide) tw_1_40 rfl dX9_after_12 ?_
  obtain ⟨t1, e1, hf⟩ := q_ob hf
  refine x_cSn (pc := 15) (st1 := [.int t1]) X E hI (c_X9_lowestBits l G e1) ks_X9_106 hd_X9_lowestBits ⟨rfl, rfl⟩ (by decide) rfl hl.1 rfl (Nat.le_of_ble_eq_true rfl) dX9_after_15 ⟨Nat.le_of_ble_eq_true rfl, Nat.le_of_ble_eq_true rfl⟩ rfl (fun H locs hI => ?_)
  refine lv_istore_n (pc := 18) (lv' := [(2, .int t1), (1, .int f_kinds), (0, .ref (h 0))]) hx hb dX9_after_18 rfl hl (by decide) rfl (fun ls hl => ?_)
  refine lv_iconst (pc := 19) (v := 0) hx hb dX9_after_19 (by decide) ?_
  refine lv_istore_n (pc := 20) (lv' := [(3, .int 0), (2, .int t1), (1, .int f_kinds), (0, .ref (h 0))]) hx hb dX9_after_20 rfl hl (by decide) rfl (fun ls hl => ?_)
  refine k_X9_after_L21 X E (fun l1_2 l2_2 l3_2 H locs ls hI hl hf => ?_) hI (lv_sub hl [3, 2, 1, 0] rfl) hf
  refine lv_aload_n (pc := 92) hx hb dX9_after_92 rfl (lv_at hl 0 rfl) ?_
  refine x_get (pc := 93) X E hI inX9 0 rfl rfl 4 (by decide) tw_2_11 rfl dX9_after_93 ?_
  refine lv_aload_n (pc := 96) hx hb dX9_after_96 rfl (lv_at hl 0 rfl) ?_
  refine x_get (pc := 97) X E hI inX9 0 rfl rfl 0 (by decide) tw_2_7 rfl dX9_after_97 ?_
  refine x_get (pc := 100) X E hI inX3 1 rfl rfl 4 (by decide) tw_1_43 rfl dX9_after_100 ?_
  refine lv_iload_n (pc := 103) hx hb dX9_after_103 rfl (lv_at hl 2 rfl) ?_
  refine lv_aload_n (pc := 104) hx hb dX9_after_104 rfl (lv_at hl 0 rfl) ?_
  refine x_get (pc := 105) X E hI inX9 0 rfl rfl 0 (by decide) tw_2_7 rfl dX9_after_105 ?_
  refine x_get (pc := 108) X E hI inX3 1 rfl rfl 0 (by decide) tw_1_35 rfl dX9_after_108 ?_
  obtain ⟨t3, e3, hf⟩ := q_ob hf
  refine x_cVt (pc := 111) (st1 := [.int t3.1]) (w2 := (xb G h x_hasImage f_places f_kinds f_weights f_howManyGenerators f_generators f_racks f_howManySeen f_seenFirst f_seenSecond f_seenIs f_seenPlaces f_howManyEvents f_eventWhat f_eventNumber g_places g_kinds g_weights g_howManyGenerators g_generators g_racks g_howManySeen g_seenFirst g_seenSecond g_seenIs g_seenPlaces g_howManyEvents g_eventWhat g_eventNumber n_m0 n_m1 n_m2 n_s0 n_s1 n_s2 v_keys v_asFound v_found v_turns v_places t3.2.1 t3.2.2.1 t3.2.2.2.1 t3.2.2.2.2.1 t3.2.2.2.2.2 i_sort i_howOften i_sorts i_moves n_uq n_u u_leasts u_howMany u_known n_wq n_w w_leasts w_howMany w_known t_signs t_length t_whole t_begins t_ends r_sorts r_numbers r_length)) X E hI (c_X5_grow l G n_s0 n_s1 n_s2 (h 3) e3) kv_X9_110 hd_X5_grow ⟨rfl, rfl⟩ (by decide) pt_xb_vgw_1 pt_xb_vgw_1q 0 rfl rfl rfl rfl hl.1 rfl (Nat.le_of_ble_eq_true rfl) dX9_after_111 ⟨Nat.le_of_ble_eq_true rfl, Nat.le_of_ble_eq_true rfl⟩ rfl (fun H locs hI => ?_)
  refine lv_pop (pc := 114) hx hb dX9_after_114 rfl ?_
  refine lv_aload_n (pc := 115) hx hb dX9_after_115 rfl (lv_at hl 0 rfl) ?_
  refine x_get (pc := 116) X E hI inX9 0 rfl rfl 5 (by decide) tw_2_12 rfl dX9_after_116 ?_
  refine lv_aload_n (pc := 119) hx hb dX9_after_119 rfl (lv_at hl 0 rfl) ?_
  refine x_get (pc := 120) X E hI inX9 0 rfl rfl 4 (by decide) tw_2_11 rfl dX9_after_120 ?_
  refine lv_iconst (pc := 123) (v := 1) hx hb dX9_after_123 (by decide) ?_
  obtain ⟨t4, e4, hf⟩ := q_ob hf
  refine x_cVt (pc := 124) (st1 := []) (w2 := (xb G h x_hasImage f_places f_kinds f_weights f_howManyGenerators f_generators f_racks f_howManySeen f_seenFirst f_seenSecond f_seenIs f_seenPlaces f_howManyEvents f_eventWhat f_eventNumber g_places g_kinds g_weights g_howManyGenerators g_generators g_racks g_howManySeen g_seenFirst g_seenSecond g_seenIs g_seenPlaces g_howManyEvents g_eventWhat g_eventNumber n_m0 n_m1 n_m2 n_s0 n_s1 n_s2 v_keys v_asFound v_found v_turns v_places t3.2.1 t3.2.2.1 t3.2.2.2.1 t3.2.2.2.2.1 t3.2.2.2.2.2 t4.1 t4.2.1 t4.2.2.1 t4.2.2.2 n_uq n_u u_leasts u_howMany u_known n_wq n_w w_leasts w_howMany w_known t_signs t_length t_whole t_begins t_ends r_sorts r_numbers r_length)) X E hI (c_X4_fill l G (h 21) (h 22) (h 23) n_s0 n_s1 n_s2 e4) kv_X9_158 hd_X4_fill ⟨rfl, rfl⟩ (by decide) pt_xb_ivw_1 pt_xb_ivw_1q 0 rfl rfl rfl rfl hl.1 rfl (Nat.le_of_ble_eq_true rfl) dX9_after_124 ⟨Nat.le_of_ble_eq_true rfl, Nat.le_of_ble_eq_true rfl⟩ rfl (fun H locs hI => ?_)
  refine lv_aload_n (pc := 127) hx hb dX9_after_127 rfl (lv_at hl 0 rfl) ?_
  refine x_get (pc := 128) X E hI inX9 0 rfl rfl 5 (by decide) tw_2_12 rfl dX9_after_128 ?_
  refine lv_iload_n (pc := 131) hx hb dX9_after_131 rfl (lv_at hl 1 rfl) ?_
  obtain ⟨t5, e5, hf⟩ := q_ob hf
  refine x_cVt (pc := 132) (st1 := [.long t5]) (w2 := (xb G h x_hasImage f_places f_kinds f_weights f_howManyGenerators f_generators f_racks f_howManySeen f_seenFirst f_seenSecond f_seenIs f_seenPlaces f_howManyEvents f_eventWhat f_eventNumber g_places g_kinds g_weights g_howManyGenerators g_generators g_racks g_howManySeen g_seenFirst g_seenSecond g_seenIs g_seenPlaces g_howManyEvents g_eventWhat g_eventNumber n_m0 n_m1 n_m2 n_s0 n_s1 n_s2 v_keys v_asFound v_found v_turns v_places t3.2.1 t3.2.2.1 t3.2.2.2.1 t3.2.2.2.2.1 t3.2.2.2.2.2 t4.1 t4.2.1 t4.2.2.1 t4.2.2.2 n_uq n_u u_leasts u_howMany u_known n_wq n_w w_leasts w_howMany w_known t_signs t_length t_whole t_begins t_ends r_sorts r_numbers r_length)) X E hI (c_X4_classesFor l G (h 21) (h 22) (h 23) e5) kv_X9_178 hd_X4_classesFor ⟨rfl, rfl⟩ (by decide) pt_xb_iw_0 pt_xb_iw_0q 0 rfl rfl rfl rfl hl.1 rfl (Nat.le_of_ble_eq_true rfl) dX9_after_132 ⟨Nat.le_of_ble_eq_true rfl, Nat.le_of_ble_eq_true rfl⟩ rfl (fun H locs hI => ?_)
  refine lv_l2i (pc := 135) (v := (t5 : Int64).toInt32) hx hb dX9_after_135 rfl ?_
  obtain rfl := Option.some.inj hf
  exact x_iret X hI dX9_after_136

abbrev rm_X9_image : Room := { frames := 2, cells := 0, slots := 0, locals := 61 }
set_option maxHeartbeats 4000000 in
set_option maxRecDepth 100000 in
theorem c_X9_image (l : Launch) (G : GX) (h : Nat → Nat) {x_hasImage : Int32} {f_places : Int32} {f_kinds : Int32} {f_weights : Nat → Int32} {f_howManyGenerators : Int32} {f_generators : Nat → Int32} {f_racks : Nat → Int32} {f_howManySeen : Int32} {f_seenFirst : Nat → Int32} {f_seenSecond : Nat → Int32} {f_seenIs : Nat → Int32} {f_seenPlaces : Nat → Int32} {f_howManyEvents : Int32} {f_eventWhat : Nat → Int32} {f_eventNumber : Nat → Int32} {g_places : Int32} {g_kinds : Int32} {g_weights : Nat → Int32} {g_howManyGenerators : Int32} {g_generators : Nat → Int32} {g_racks : Nat → Int32} {g_howManySeen : Int32} {g_seenFirst : Nat → Int32} {g_seenSecond : Nat → Int32} {g_seenIs : Nat → Int32} {g_seenPlaces : Nat → Int32} {g_howManyEvents : Int32} {g_eventWhat : Nat → Int32} {g_eventNumber : Nat → Int32} {v_found : Int32} {n_m0 : Nat} {n_m1 : Nat} {n_m2 : Nat} {n_s0 : Nat} {n_s1 : Nat} {n_s2 : Nat} {v_keys : Nat → Int32} {v_asFound : Nat → Int32} {v_turns : Int32} {v_places : Int32} {p_keys : Nat → Int32} {p_asFound : Nat → Int32} {p_found : Int32} {p_turns : Int32} {p_places : Int32} {i_sort : Nat → Int32} {i_howOften : Nat → Int32} {i_sorts : Int32} {i_moves : Int32} {n_uq : Nat} {n_u : Nat} {u_leasts : Nat → Int32} {u_howMany : Int32} {u_known : Int32} {n_wq : Nat} {n_w : Nat} {w_leasts : Nat → Int32} {w_howMany : Int32} {w_known : Int32} {t_signs : Nat → Int32} {t_length : Int32} {t_whole : Int32} {t_begins : Nat → Int32} {t_ends : Nat → Int32} {r_sorts : Nat → Int32} {r_numbers : Nat → Int32} {r_length : Int32} {wo : va_W} {res : Int32 × Int32 × Int32 × Int32 × (Nat → Int32) × Int32 × (Nat → Int32) × (Nat → Int32) × Int32 × (Nat → Int32) × (Nat → Int32) × (Nat → Int32) × (Nat → Int32) × Int32 × (Nat → Int32) × (Nat → Int32)} (hf : f_X9_image x_hasImage f_places f_kinds f_weights f_howManyGenerators f_generators f_racks f_howManySeen f_seenFirst f_seenSecond f_seenIs f_seenPlaces f_howManyEvents f_eventWhat f_eventNumber g_places g_kinds g_weights g_howManyGenerators g_generators g_racks g_howManySeen g_seenFirst g_seenSecond g_seenIs g_seenPlaces g_howManyEvents g_eventWhat g_eventNumber v_found = some res) : MX l yX9_image cX9_image 1 (some .int) rm_X9_image G ((xb G h x_hasImage f_places f_kinds f_weights f_howManyGenerators f_generators f_racks f_howManySeen f_seenFirst f_seenSecond f_seenIs f_seenPlaces f_howManyEvents f_eventWhat f_eventNumber g_places g_kinds g_weights g_howManyGenerators g_generators g_racks g_howManySeen g_seenFirst g_seenSecond g_seenIs g_seenPlaces g_howManyEvents g_eventWhat g_eventNumber n_m0 n_m1 n_m2 n_s0 n_s1 n_s2 v_keys v_asFound v_found v_turns v_places p_keys p_asFound p_found p_turns p_places i_sort i_howOften i_sorts i_moves n_uq n_u u_leasts u_howMany u_known n_wq n_w w_leasts w_howMany w_known t_signs t_length t_whole t_begins t_ends r_sorts r_numbers r_length) ++ wo) [.ref (h 0)] ((xb G h res.2.1 f_places f_kinds f_weights f_howManyGenerators f_generators f_racks f_howManySeen f_seenFirst f_seenSecond f_seenIs f_seenPlaces f_howManyEvents f_eventWhat f_eventNumber res.2.2.1 res.2.2.2.1 res.2.2.2.2.1 res.2.2.2.2.2.1 res.2.2.2.2.2.2.1 res.2.2.2.2.2.2.2.1 res.2.2.2.2.2.2.2.2.1 res.2.2.2.2.2.2.2.2.2.1 res.2.2.2.2.2.2.2.2.2.2.1 res.2.2.2.2.2.2.2.2.2.2.2.1 res.2.2.2.2.2.2.2.2.2.2.2.2.1 res.2.2.2.2.2.2.2.2.2.2.2.2.2.1 res.2.2.2.2.2.2.2.2.2.2.2.2.2.2.1 res.2.2.2.2.2.2.2.2.2.2.2.2.2.2.2 n_m0 n_m1 n_m2 n_s0 n_s1 n_s2 v_keys v_asFound v_found v_turns v_places p_keys p_asFound p_found p_turns p_places i_sort i_howOften i_sorts i_moves n_uq n_u u_leasts u_howMany u_known n_wq n_w w_leasts w_howMany w_known t_signs t_length t_whole t_begins t_ends r_sorts r_numbers r_length) ++ wo) (some (.int res.1)) 0 0 := by
  refine MX.of (plainFor_of_name (by decide)) (Nat.le_of_ble_eq_true rfl) ?_
  intro p e s m below meth c A X E hI ls hl
  obtain ⟨hx, hb, hml, hown, hts, hr, hlk⟩ := id X
  have hl : lv_has ls 1 [(0, .ref (h 0))] := hl
  unfold f_X9_image at hf
  refine lv_aload_n (pc := 0) hx hb dX9_image_0 rfl (lv_at hl 0 rfl) ?_
  refine x_get (pc := 1) X E hI inX9 0 rfl rfl 1 (by decide) tw_2_8 rfl dX9_image_1 ?_
  refine lv_aload_n (pc := 4) hx hb dX9_image_4 rfl (lv_at hl 0 rfl) ?_
  refine x_get (pc := 5) X E hI inX9 0 rfl rfl 0 (by decide) tw_2_7 rfl dX9_image_5 ?_
  obtain ⟨t1, e1, hf⟩ := q_ob hf
  refine x_cVt (pc := 8) (st1 := []) (w2 := (xb G h x_hasImage f_places f_kinds f_weights f_howManyGenerators f_generators f_racks f_howManySeen f_seenFirst f_seenSecond f_seenIs f_seenPlaces f_howManyEvents f_eventWhat f_eventNumber t1.1 t1.2.1 t1.2.2.1 t1.2.2.2.1 t1.2.2.2.2.1 t1.2.2.2.2.2.1 t1.2.2.2.2.2.2.1 t1.2.2.2.2.2.2.2.1 t1.2.2.2.2.2.2.2.2.1 t1.2.2.2.2.2.2.2.2.2.1 t1.2.2.2.2.2.2.2.2.2.2.1 t1.2.2.2.2.2.2.2.2.2.2.2.1 t1.2.2.2.2.2.2.2.2.2.2.2.2.1 t1.2.2.2.2.2.2.2.2.2.2.2.2.2 n_m0 n_m1 n_m2 n_s0 n_s1 n_s2 v_keys v_asFound v_found v_turns v_places p_keys p_asFound p_found p_turns p_places i_sort i_howOften i_sorts i_moves n_uq n_u u_leasts u_howMany u_known n_wq n_w w_leasts w_howMany w_known t_signs t_length t_whole t_begins t_ends r_sorts r_numbers r_length)) X E hI (c_X3_become l G (h 11) (h 12) (h 13) (h 14) (h 15) (h 16) (h 17) (h 18) (h 19) (h 20) (h 1) (h 2) (h 3) (h 4) (h 5) (h 6) (h 7) (h 8) (h 9) (h 10) e1) kv_X9_298 hd_X3_become ⟨rfl, rfl⟩ (by decide) pt_xb_ffw_0 pt_xb_ffw_0q 0 rfl rfl rfl rfl hl.1 rfl (Nat.le_of_ble_eq_true rfl) dX9_image_8 ⟨Nat.le_of_ble_eq_true rfl, Nat.le_of_ble_eq_true rfl⟩ rfl (fun H locs hI => ?_)
  refine lv_aload_n (pc := 11) hx hb dX9_image_11 rfl (lv_at hl 0 rfl) ?_
  refine lv_iconst (pc := 12) (v := 1) hx hb dX9_image_12 (by decide) ?_
  refine x_put (pc := 13) (w' := ((xb G h 1 f_places f_kinds f_weights f_howManyGenerators f_generators f_racks f_howManySeen f_seenFirst f_seenSecond f_seenIs f_seenPlaces f_howManyEvents f_eventWhat f_eventNumber t1.1 t1.2.1 t1.2.2.1 t1.2.2.2.1 t1.2.2.2.2.1 t1.2.2.2.2.2.1 t1.2.2.2.2.2.2.1 t1.2.2.2.2.2.2.2.1 t1.2.2.2.2.2.2.2.2.1 t1.2.2.2.2.2.2.2.2.2.1 t1.2.2.2.2.2.2.2.2.2.2.1 t1.2.2.2.2.2.2.2.2.2.2.2.1 t1.2.2.2.2.2.2.2.2.2.2.2.2.1 t1.2.2.2.2.2.2.2.2.2.2.2.2.2 n_m0 n_m1 n_m2 n_s0 n_s1 n_s2 v_keys v_asFound v_found v_turns v_places p_keys p_asFound p_found p_turns p_places i_sort i_howOften i_sorts i_moves n_uq n_u u_leasts u_howMany u_known n_wq n_w w_leasts w_howMany w_known t_signs t_length t_whole t_begins t_ends r_sorts r_numbers r_length) ++ wo)) X E hI inX9 tyX9 tyX9_ok nmX9 0 rfl rfl 2 (by decide) tw_2_9 rfl rfl rfl (Nat.le_of_ble_eq_true rfl) rfl dX9_image_13 (fun H locs hI => ?_)
  refine lv_aload_n (pc := 16) hx hb dX9_image_16 rfl (lv_at hl 0 rfl) ?_
  refine x_get (pc := 17) X E hI inX9 0 rfl rfl 3 (by decide) tw_2_10 rfl dX9_image_17 ?_
  refine x_get (pc := 20) X E hI inX5 21 rfl rfl 2 (by decide) tw_1_103 rfl dX9_image_20 ?_
  obtain rfl := Option.some.inj hf
  exact x_iret X hI dX9_image_23

abbrev rm_X9_undo : Room := { frames := 5, cells := 0, slots := 0, locals := 128 }
set_option maxHeartbeats 4000000 in
set_option maxRecDepth 100000 in
theorem c_X9_undo (l : Launch) (G : GX) (h : Nat → Nat) {x_hasImage : Int32} {f_places : Int32} {f_kinds : Int32} {f_weights : Nat → Int32} {f_howManyGenerators : Int32} {f_generators : Nat → Int32} {f_racks : Nat → Int32} {f_howManySeen : Int32} {f_seenFirst : Nat → Int32} {f_seenSecond : Nat → Int32} {f_seenIs : Nat → Int32} {f_seenPlaces : Nat → Int32} {f_howManyEvents : Int32} {f_eventWhat : Nat → Int32} {f_eventNumber : Nat → Int32} {g_places : Int32} {g_kinds : Int32} {g_weights : Nat → Int32} {g_howManyGenerators : Int32} {g_generators : Nat → Int32} {g_racks : Nat → Int32} {g_howManySeen : Int32} {g_seenFirst : Nat → Int32} {g_seenSecond : Nat → Int32} {g_seenIs : Nat → Int32} {g_seenPlaces : Nat → Int32} {g_howManyEvents : Int32} {g_eventWhat : Nat → Int32} {g_eventNumber : Nat → Int32} {v_keys : Nat → Int32} {v_asFound : Nat → Int32} {v_found : Int32} {v_turns : Int32} {v_places : Int32} {u_known : Int32} {w_known : Int32} {n_m0 : Nat} {n_m1 : Nat} {n_m2 : Nat} {n_s0 : Nat} {n_s1 : Nat} {n_s2 : Nat} {p_keys : Nat → Int32} {p_asFound : Nat → Int32} {p_found : Int32} {p_turns : Int32} {p_places : Int32} {i_sort : Nat → Int32} {i_howOften : Nat → Int32} {i_sorts : Int32} {i_moves : Int32} {n_uq : Nat} {n_u : Nat} {u_leasts : Nat → Int32} {u_howMany : Int32} {n_wq : Nat} {n_w : Nat} {w_leasts : Nat → Int32} {w_howMany : Int32} {t_signs : Nat → Int32} {t_length : Int32} {t_whole : Int32} {t_begins : Nat → Int32} {t_ends : Nat → Int32} {r_sorts : Nat → Int32} {r_numbers : Nat → Int32} {r_length : Int32} {wo : va_W} {res : Int32 × Int32 × Int32 × (Nat → Int32) × Int32 × (Nat → Int32) × (Nat → Int32) × Int32 × (Nat → Int32) × (Nat → Int32) × (Nat → Int32) × (Nat → Int32) × Int32 × (Nat → Int32) × (Nat → Int32) × (Nat → Int32) × (Nat → Int32) × Int32 × Int32 × Int32 × Int32 × Int32} (hf : f_X9_undo x_hasImage f_places f_kinds f_weights f_howManyGenerators f_generators f_racks f_howManySeen f_seenFirst f_seenSecond f_seenIs f_seenPlaces f_howManyEvents f_eventWhat f_eventNumber g_places g_kinds g_weights g_howManyGenerators g_generators g_racks g_howManySeen g_seenFirst g_seenSecond g_seenIs g_seenPlaces g_howManyEvents g_eventWhat g_eventNumber v_keys v_asFound v_found v_turns v_places u_known w_known = some res) : MX l yX9_undo cX9_undo 1 (some .int) rm_X9_undo G ((xb G h x_hasImage f_places f_kinds f_weights f_howManyGenerators f_generators f_racks f_howManySeen f_seenFirst f_seenSecond f_seenIs f_seenPlaces f_howManyEvents f_eventWhat f_eventNumber g_places g_kinds g_weights g_howManyGenerators g_generators g_racks g_howManySeen g_seenFirst g_seenSecond g_seenIs g_seenPlaces g_howManyEvents g_eventWhat g_eventNumber n_m0 n_m1 n_m2 n_s0 n_s1 n_s2 v_keys v_asFound v_found v_turns v_places p_keys p_asFound p_found p_turns p_places i_sort i_howOften i_sorts i_moves n_uq n_u u_leasts u_howMany u_known n_wq n_w w_leasts w_howMany w_known t_signs t_length t_whole t_begins t_ends r_sorts r_numbers r_length) ++ wo) [.ref (h 0)] ((xb G h x_hasImage res.2.1 res.2.2.1 res.2.2.2.1 res.2.2.2.2.1 res.2.2.2.2.2.1 res.2.2.2.2.2.2.1 res.2.2.2.2.2.2.2.1 res.2.2.2.2.2.2.2.2.1 res.2.2.2.2.2.2.2.2.2.1 res.2.2.2.2.2.2.2.2.2.2.1 res.2.2.2.2.2.2.2.2.2.2.2.1 res.2.2.2.2.2.2.2.2.2.2.2.2.1 res.2.2.2.2.2.2.2.2.2.2.2.2.2.1 res.2.2.2.2.2.2.2.2.2.2.2.2.2.2.1 g_places g_kinds g_weights g_howManyGenerators g_generators g_racks g_howManySeen g_seenFirst g_seenSecond g_seenIs g_seenPlaces g_howManyEvents g_eventWhat g_eventNumber n_m0 n_m1 n_m2 n_s0 n_s1 n_s2 res.2.2.2.2.2.2.2.2.2.2.2.2.2.2.2.1 res.2.2.2.2.2.2.2.2.2.2.2.2.2.2.2.2.1 res.2.2.2.2.2.2.2.2.2.2.2.2.2.2.2.2.2.1 res.2.2.2.2.2.2.2.2.2.2.2.2.2.2.2.2.2.2.1 res.2.2.2.2.2.2.2.2.2.2.2.2.2.2.2.2.2.2.2.1 p_keys p_asFound p_found p_turns p_places i_sort i_howOften i_sorts i_moves n_uq n_u u_leasts u_howMany res.2.2.2.2.2.2.2.2.2.2.2.2.2.2.2.2.2.2.2.2.1 n_wq n_w w_leasts w_howMany res.2.2.2.2.2.2.2.2.2.2.2.2.2.2.2.2.2.2.2.2.2 t_signs t_length t_whole t_begins t_ends r_sorts r_numbers r_length) ++ wo) (some (.int res.1)) 0 0 := by
  refine MX.of (plainFor_of_name (by decide)) (Nat.le_of_ble_eq_true rfl) ?_
  intro p e s m below meth c A X E hI ls hl
  obtain ⟨hx, hb, hml, hown, hts, hr, hlk⟩ := id X
  have hl : lv_has ls 1 [(0, .ref (h 0))] := hl
  unfold f_X9_undo at hf
  refine lv_aload_n (pc := 0) hx hb dX9_undo_0 rfl (lv_at hl 0 rfl) ?_
  refine x_get (pc := 1) X E hI inX9 0 rfl rfl 2 (by decide) tw_2_9 rfl dX9_undo_1 ?_
  refine lv_if_ne (pc := 4) (tgt := 10) hx hb dX9_undo_4 (by decide) (fun c1 => ?_) (fun c1 => ?_)
  · have hf := q_in c1 hf
    refine lv_aload_n (pc := 10) hx hb dX9_undo_10 rfl (lv_at hl 0 rfl) ?_
    refine x_get (pc := 11) X E hI inX9 0 rfl rfl 0 (by decide) tw_2_7 rfl dX9_undo_11 ?_
    refine lv_aload_n (pc := 14) hx hb dX9_undo_14 rfl (lv_at hl 0 rfl) ?_
    refine x_get (pc := 15) X E hI inX9 0 rfl rfl 1 (by decide) tw_2_8 rfl dX9_undo_15 ?_
    obtain ⟨t2, e2, hf⟩ := q_ob hf
    refine x_cVt (pc := 18) (st1 := []) (w2 := (xb G h x_hasImage t2.1 t2.2.1 t2.2.2.1 t2.2.2.2.1 t2.2.2.2.2.1 t2.2.2.2.2.2.1 t2.2.2.2.2.2.2.1 t2.2.2.2.2.2.2.2.1 t2.2.2.2.2.2.2.2.2.1 t2.2.2.2.2.2.2.2.2.2.1 t2.2.2.2.2.2.2.2.2.2.2.1 t2.2.2.2.2.2.2.2.2.2.2.2.1 t2.2.2.2.2.2.2.2.2.2.2.2.2.1 t2.2.2.2.2.2.2.2.2.2.2.2.2.2 g_places g_kinds g_weights g_howManyGenerators g_generators g_racks g_howManySeen g_seenFirst g_seenSecond g_seenIs g_seenPlaces g_howManyEvents g_eventWhat g_eventNumber n_m0 n_m1 n_m2 n_s0 n_s1 n_s2 v_keys v_asFound v_found v_turns v_places p_keys p_asFound p_found p_turns p_places i_sort i_howOften i_sorts i_moves n_uq n_u u_leasts u_howMany u_known n_wq n_w w_leasts w_howMany w_known t_signs t_length t_whole t_begins t_ends r_sorts r_numbers r_length)) X E hI (c_X3_become l G (h 1) (h 2) (h 3) (h 4) (h 5) (h 6) (h 7) (h 8) (h 9) (h 10) (h 11) (h 12) (h 13) (h 14) (h 15) (h 16) (h 17) (h 18) (h 19) (h 20) e2) kv_X9_298 hd_X3_become ⟨rfl, rfl⟩ (by decide) pt_xb_ffw_1 pt_xb_ffw_1q 0 rfl rfl rfl rfl hl.1 rfl (Nat.le_of_ble_eq_true rfl) dX9_undo_18 ⟨Nat.le_of_ble_eq_true rfl, Nat.le_of_ble_eq_true rfl⟩ rfl (fun H locs hI => ?_)
    refine lv_aload_n (pc := 21) hx hb dX9_undo_21 rfl (lv_at hl 0 rfl) ?_
    obtain ⟨t3, e3, hf⟩ := q_ob hf
    refine x_cVs (pc := 22) (st1 := []) (w1 := ((xb G h x_hasImage t2.1 t2.2.1 t2.2.2.1 t2.2.2.2.1 t2.2.2.2.2.1 t2.2.2.2.2.2.1 t2.2.2.2.2.2.2.1 t2.2.2.2.2.2.2.2.1 t2.2.2.2.2.2.2.2.2.1 t2.2.2.2.2.2.2.2.2.2.1 t2.2.2.2.2.2.2.2.2.2.2.1 t2.2.2.2.2.2.2.2.2.2.2.2.1 t2.2.2.2.2.2.2.2.2.2.2.2.2.1 t2.2.2.2.2.2.2.2.2.2.2.2.2.2 g_places g_kinds g_weights g_howManyGenerators g_generators g_racks g_howManySeen g_seenFirst g_seenSecond g_seenIs g_seenPlaces g_howManyEvents g_eventWhat g_eventNumber n_m0 n_m1 n_m2 n_s0 n_s1 n_s2 t3.1 t3.2.1 t3.2.2.1 t3.2.2.2.1 t3.2.2.2.2.1 p_keys p_asFound p_found p_turns p_places i_sort i_howOften i_sorts i_moves n_uq n_u u_leasts u_howMany t3.2.2.2.2.2.1 n_wq n_w w_leasts w_howMany t3.2.2.2.2.2.2 t_signs t_length t_whole t_begins t_ends r_sorts r_numbers r_length) ++ wo)) X E hI (c_X9_growMoves l G h e3) kv_X9_123 hd_X9_growMoves ⟨rfl, rfl⟩ (by decide) 0 rfl rfl rfl rfl hl.1 rfl (Nat.le_of_ble_eq_true rfl) dX9_undo_22 ⟨Nat.le_of_ble_eq_true rfl, Nat.le_of_ble_eq_true rfl⟩ rfl (fun H locs hI => ?_)
    refine lv_aload_n (pc := 25) hx hb dX9_undo_25 rfl (lv_at hl 0 rfl) ?_
    refine x_get (pc := 26) X E hI inX9 0 rfl rfl 3 (by decide) tw_2_10 rfl dX9_undo_26 ?_
    refine x_get (pc := 29) X E hI inX5 21 rfl rfl 2 (by decide) tw_1_103 rfl dX9_undo_29 ?_
    obtain rfl := Option.some.inj hf
    exact x_iret X hI dX9_undo_32
  · have hf := q_ip c1 hf
    refine lv_bipush (pc := 7) (v := (-3)) hx hb dX9_undo_7 (by decide) ?_
    obtain rfl := Option.some.inj hf
    exact x_iret X hI dX9_undo_9

abbrev rm_X9_count : Room := { frames := 0, cells := 0, slots := 0, locals := 0 }
set_option maxHeartbeats 4000000 in
set_option maxRecDepth 100000 in
theorem c_X9_count (l : Launch) (G : GX) (h : Nat → Nat) {l1 : Int32} {f_howManySeen : Int32} {f_howManyEvents : Int32} {t_length : Int32} {x_hasImage : Int32} {f_places : Int32} {f_kinds : Int32} {f_weights : Nat → Int32} {f_howManyGenerators : Int32} {f_generators : Nat → Int32} {f_racks : Nat → Int32} {f_seenFirst : Nat → Int32} {f_seenSecond : Nat → Int32} {f_seenIs : Nat → Int32} {f_seenPlaces : Nat → Int32} {f_eventWhat : Nat → Int32} {f_eventNumber : Nat → Int32} {g_places : Int32} {g_kinds : Int32} {g_weights : Nat → Int32} {g_howManyGenerators : Int32} {g_generators : Nat → Int32} {g_racks : Nat → Int32} {g_howManySeen : Int32} {g_seenFirst : Nat → Int32} {g_seenSecond : Nat → Int32} {g_seenIs : Nat → Int32} {g_seenPlaces : Nat → Int32} {g_howManyEvents : Int32} {g_eventWhat : Nat → Int32} {g_eventNumber : Nat → Int32} {n_m0 : Nat} {n_m1 : Nat} {n_m2 : Nat} {n_s0 : Nat} {n_s1 : Nat} {n_s2 : Nat} {v_keys : Nat → Int32} {v_asFound : Nat → Int32} {v_found : Int32} {v_turns : Int32} {v_places : Int32} {p_keys : Nat → Int32} {p_asFound : Nat → Int32} {p_found : Int32} {p_turns : Int32} {p_places : Int32} {i_sort : Nat → Int32} {i_howOften : Nat → Int32} {i_sorts : Int32} {i_moves : Int32} {n_uq : Nat} {n_u : Nat} {u_leasts : Nat → Int32} {u_howMany : Int32} {u_known : Int32} {n_wq : Nat} {n_w : Nat} {w_leasts : Nat → Int32} {w_howMany : Int32} {w_known : Int32} {t_signs : Nat → Int32} {t_whole : Int32} {t_begins : Nat → Int32} {t_ends : Nat → Int32} {r_sorts : Nat → Int32} {r_numbers : Nat → Int32} {r_length : Int32} {wo : va_W} {res : Int32} (hf : f_X9_count l1 f_howManySeen f_howManyEvents t_length = some res) : MX l yX9_count cX9_count 2 (some .int) rm_X9_count G ((xb G h x_hasImage f_places f_kinds f_weights f_howManyGenerators f_generators f_racks f_howManySeen f_seenFirst f_seenSecond f_seenIs f_seenPlaces f_howManyEvents f_eventWhat f_eventNumber g_places g_kinds g_weights g_howManyGenerators g_generators g_racks g_howManySeen g_seenFirst g_seenSecond g_seenIs g_seenPlaces g_howManyEvents g_eventWhat g_eventNumber n_m0 n_m1 n_m2 n_s0 n_s1 n_s2 v_keys v_asFound v_found v_turns v_places p_keys p_asFound p_found p_turns p_places i_sort i_howOften i_sorts i_moves n_uq n_u u_leasts u_howMany u_known n_wq n_w w_leasts w_howMany w_known t_signs t_length t_whole t_begins t_ends r_sorts r_numbers r_length) ++ wo) [.ref (h 0), .int l1] ((xb G h x_hasImage f_places f_kinds f_weights f_howManyGenerators f_generators f_racks f_howManySeen f_seenFirst f_seenSecond f_seenIs f_seenPlaces f_howManyEvents f_eventWhat f_eventNumber g_places g_kinds g_weights g_howManyGenerators g_generators g_racks g_howManySeen g_seenFirst g_seenSecond g_seenIs g_seenPlaces g_howManyEvents g_eventWhat g_eventNumber n_m0 n_m1 n_m2 n_s0 n_s1 n_s2 v_keys v_asFound v_found v_turns v_places p_keys p_asFound p_found p_turns p_places i_sort i_howOften i_sorts i_moves n_uq n_u u_leasts u_howMany u_known n_wq n_w w_leasts w_howMany w_known t_signs t_length t_whole t_begins t_ends r_sorts r_numbers r_length) ++ wo) (some (.int res)) 0 0 := by
  refine MX.of (plainFor_of_name (by decide)) (Nat.le_of_ble_eq_true rfl) ?_
  intro p e s m below meth c A X E hI ls hl
  obtain ⟨hx, hb, hml, hown, hts, hr, hlk⟩ := id X
  have hl : lv_has ls 2 [(0, .ref (h 0)), (1, .int l1)] := hl
  unfold f_X9_count at hf
  refine lv_iload_n (pc := 0) hx hb dX9_count_0 rfl (lv_at hl 1 rfl) ?_
  rcases Decidable.em (l1 = 0) with c1 | c1
  · refine lv_tableIn (pc := 1) (tgt := 28) hx hb dX9_count_1 (by rw [c1]; decide) (by rw [c1]; decide) (by rw [c1]; rfl) (by decide) ?_
    have hf := q_ip c1 hf
    refine lv_aload_n (pc := 28) hx hb dX9_count_28 rfl (lv_at hl 0 rfl) ?_
    refine x_get (pc := 29) X E hI inX9 0 rfl rfl 0 (by decide) tw_2_7 rfl dX9_count_29 ?_
    refine x_get (pc := 32) X E hI inX3 1 rfl rfl 6 (by decide) tw_1_47 rfl dX9_count_32 ?_
    obtain rfl := Option.some.inj hf
    exact x_iret X hI dX9_count_35
  · have hf := q_in c1 hf
    rcases Decidable.em (l1 = 1) with c2 | c2
    · refine lv_tableIn (pc := 1) (tgt := 36) hx hb dX9_count_1 (by rw [c2]; decide) (by rw [c2]; decide) (by rw [c2]; rfl) (by decide) ?_
      have hf := q_ip c2 hf
      refine lv_aload_n (pc := 36) hx hb dX9_count_36 rfl (lv_at hl 0 rfl) ?_
      refine x_get (pc := 37) X E hI inX9 0 rfl rfl 0 (by decide) tw_2_7 rfl dX9_count_37 ?_
      refine x_get (pc := 40) X E hI inX3 1 rfl rfl 11 (by decide) tw_1_56 rfl dX9_count_40 ?_
      obtain rfl := Option.some.inj hf
      exact x_iret X hI dX9_count_43
    · have hf := q_in c2 hf
      rcases Decidable.em (l1 = 2) with c3 | c3
      · refine lv_tableIn (pc := 1) (tgt := 44) hx hb dX9_count_1 (by rw [c3]; decide) (by rw [c3]; decide) (by rw [c3]; rfl) (by decide) ?_
        have hf := q_ip c3 hf
        refine lv_aload_n (pc := 44) hx hb dX9_count_44 rfl (lv_at hl 0 rfl) ?_
        refine x_get (pc := 45) X E hI inX9 0 rfl rfl 8 (by decide) tw_2_15 rfl dX9_count_45 ?_
        refine x_get (pc := 48) X E hI inX7 34 rfl rfl 1 (by decide) tw_1_170 rfl dX9_count_48 ?_
        obtain rfl := Option.some.inj hf
        exact x_iret X hI dX9_count_51
      · have hf := q_in c3 hf
        refine lv_tableOut (pc := 1) (tgt := 52) hx hb dX9_count_1 (q_out_0_2 c1 c2 c3) (by decide) ?_
        refine lv_bipush (pc := 52) (v := (-2)) hx hb dX9_count_52 (by decide) ?_
        obtain rfl := Option.some.inj hf
        exact x_iret X hI dX9_count_54

abbrev rm_X9_judge_0 : Room := { frames := 4, cells := 1, slots := 4096, locals := 96 }
set_option maxHeartbeats 4000000 in
set_option maxRecDepth 100000 in
theorem k_X9_judge_0_L69 {p : Program} {l : Launch} {e : Env} {s : State} {m : MethodId} {args : Array Value} {below : List Frame} {meth : Method} {c : Code} {A : Nat → Prop} {G : GX} {h : Nat → Nat} {l3 : Int32} {x_hasImage : Int32} {f_places : Int32} {f_kinds : Int32} {f_weights : Nat → Int32} {f_howManyGenerators : Int32} {f_generators : Nat → Int32} {f_racks : Nat → Int32} {f_howManySeen : Int32} {f_seenFirst : Nat → Int32} {f_seenSecond : Nat → Int32} {f_seenIs : Nat → Int32} {f_seenPlaces : Nat → Int32} {f_howManyEvents : Int32} {f_eventWhat : Nat → Int32} {f_eventNumber : Nat → Int32} {g_places : Int32} {g_kinds : Int32} {g_weights : Nat → Int32} {g_howManyGenerators : Int32} {g_generators : Nat → Int32} {g_racks : Nat → Int32} {g_howManySeen : Int32} {g_seenFirst : Nat → Int32} {g_seenSecond : Nat → Int32} {g_seenIs : Nat → Int32} {g_seenPlaces : Nat → Int32} {g_howManyEvents : Int32} {g_eventWhat : Nat → Int32} {g_eventNumber : Nat → Int32} {n_m0 : Nat} {n_m1 : Nat} {n_m2 : Nat} {n_s0 : Nat} {n_s1 : Nat} {n_s2 : Nat} {v_keys : Nat → Int32} {v_asFound : Nat → Int32} {v_found : Int32} {v_turns : Int32} {v_places : Int32} {p_keys : Nat → Int32} {p_asFound : Nat → Int32} {p_found : Int32} {p_turns : Int32} {p_places : Int32} {i_sort : Nat → Int32} {i_howOften : Nat → Int32} {i_sorts : Int32} {i_moves : Int32} {n_uq : Nat} {n_u : Nat} {u_leasts : Nat → Int32} {u_howMany : Int32} {u_known : Int32} {n_wq : Nat} {n_w : Nat} {w_leasts : Nat → Int32} {w_howMany : Int32} {w_known : Int32} {t_signs : Nat → Int32} {t_length : Int32} {t_whole : Int32} {t_begins : Nat → Int32} {t_ends : Nat → Int32} {r_sorts : Nat → Int32} {r_numbers : Nat → Int32} {r_length : Int32} {z_tp : Nat → Option Nat} {n_fa : Nat} {n_fi : Nat} {k_sort : Int32} {k_length : Int32} {k_items : Nat → Int64} {wo : va_W} {K : Int32 → Option (Int32 × Nat × (Nat → Int32) × Int32 × Int32)} {res : Int32 × Nat × (Nat → Int32) × Int32 × Int32} (X : CX RX9 cX9_judge 7 (some .int) p s m args meth c) (E : EX G A s)
    (hK : ∀ (l6 : Int32) (H : Heap) (locs : List Loc) (ls : Array Slot), IN A G ((xb G h x_hasImage f_places f_kinds f_weights f_howManyGenerators f_generators f_racks f_howManySeen f_seenFirst f_seenSecond f_seenIs f_seenPlaces f_howManyEvents f_eventWhat f_eventNumber g_places g_kinds g_weights g_howManyGenerators g_generators g_racks g_howManySeen g_seenFirst g_seenSecond g_seenIs g_seenPlaces g_howManyEvents g_eventWhat g_eventNumber n_m0 n_m1 n_m2 n_s0 n_s1 n_s2 v_keys v_asFound v_found v_turns v_places p_keys p_asFound p_found p_turns p_places i_sort i_howOften i_sorts i_moves n_uq n_u u_leasts u_howMany u_known n_wq n_w w_leasts w_howMany w_known t_signs t_length t_whole t_begins t_ends r_sorts r_numbers r_length) ++ ((tt G h z_tp n_fa n_fi k_sort k_length k_items) ++ wo)) s H locs → lv_has ls 7 [(0, .ref (h 0)), (3, .int l3), (4, .ref n_fa), (5, .ref (h 24)), (6, .int l6)] → K l6 = some res → W p l e rm_X9_judge_0 s m args below meth c H locs 1 4096 (MQ below (QE G A (fun q : Nat => ((xb G h x_hasImage f_places f_kinds f_weights f_howManyGenerators f_generators f_racks f_howManySeen f_seenFirst f_seenSecond f_seenIs f_seenPlaces f_howManyEvents f_eventWhat f_eventNumber g_places g_kinds g_weights g_howManyGenerators g_generators g_racks g_howManySeen g_seenFirst g_seenSecond g_seenIs g_seenPlaces g_howManyEvents g_eventWhat g_eventNumber n_m0 n_m1 n_m2 n_s0 n_s1 n_s2 v_keys v_asFound v_found v_turns v_places p_keys p_asFound p_found p_turns p_places i_sort i_howOften i_sorts i_moves q res.2.1 res.2.2.1 res.2.2.2.1 res.2.2.2.2 n_wq n_w w_leasts w_howMany w_known t_signs t_length t_whole t_begins t_ends r_sorts r_numbers r_length) ++ ((tt G h z_tp n_fa n_fi k_sort k_length k_items) ++ wo))) (some (.int res.1))) args s 1 4096 A) (F0 m 133 ls [])) :
    ∀ {k : Nat} {l6 : Int32} {H : Heap} {locs : List Loc} {ls : Array Slot}, IN A G ((xb G h x_hasImage f_places f_kinds f_weights f_howManyGenerators f_generators f_racks f_howManySeen f_seenFirst f_seenSecond f_seenIs f_seenPlaces f_howManyEvents f_eventWhat f_eventNumber g_places g_kinds g_weights g_howManyGenerators g_generators g_racks g_howManySeen g_seenFirst g_seenSecond g_seenIs g_seenPlaces g_howManyEvents g_eventWhat g_eventNumber n_m0 n_m1 n_m2 n_s0 n_s1 n_s2 v_keys v_asFound v_found v_turns v_places p_keys p_asFound p_found p_turns p_places i_sort i_howOften i_sorts i_moves n_uq n_u u_leasts u_howMany u_known n_wq n_w w_leasts w_howMany w_known t_signs t_length t_whole t_begins t_ends r_sorts r_numbers r_length) ++ ((tt G h z_tp n_fa n_fi k_sort k_length k_items) ++ wo)) s H locs → lv_has ls 7 [(0, .ref (h 0)), (3, .int l3), (4, .ref n_fa), (5, .ref (h 24)), (6, .int l6)] → f_X9_judge_0_L69 l3 f_places n_u u_leasts u_howMany u_known k_length k_items K k l6 = some res → W p l e rm_X9_judge_0 s m args below meth c H locs 1 4096 (MQ below (QE G A (fun q : Nat => ((xb G h x_hasImage f_places f_kinds f_weights f_howManyGenerators f_generators f_racks f_howManySeen f_seenFirst f_seenSecond f_seenIs f_seenPlaces f_howManyEvents f_eventWhat f_eventNumber g_places g_kinds g_weights g_howManyGenerators g_generators g_racks g_howManySeen g_seenFirst g_seenSecond g_seenIs g_seenPlaces g_howManyEvents g_eventWhat g_eventNumber n_m0 n_m1 n_m2 n_s0 n_s1 n_s2 v_keys v_asFound v_found v_turns v_places p_keys p_asFound p_found p_turns p_places i_sort i_howOften i_sorts i_moves q res.2.1 res.2.2.1 res.2.2.2.1 res.2.2.2.2 n_wq n_w w_leasts w_howMany w_known t_signs t_length t_whole t_begins t_ends r_sorts r_numbers r_length) ++ ((tt G h z_tp n_fa n_fi k_sort k_length k_items) ++ wo))) (some (.int res.1))) args s 1 4096 A) (F0 m 69 ls []) := by
  obtain ⟨hx, hb, hml, hown, hts, hr, hlk⟩ := id X
  intro k
  induction k with
  | zero => intro l6 H locs ls hI hl hf; exact nomatch (show none = some res from hf)
  | succ k ih =>
    intro l6 H locs ls hI hl hf
    rw [f_X9_judge_0_L69] at hf
    refine lv_iload (pc := 69) hx hb dX9_judge_69 (lv_at hl 4 rfl) ?_
    refine lv_aload (pc := 71) hx hb dX9_judge_71 (lv_at hl 3 rfl) ?_
    refine x_get (pc := 73) X E hI inX1 30 rfl rfl 1 (by decide) tw_1_152 rfl dX9_judge_73 ?_
    refine lv_icmp_ge (pc := 76) (tgt := 133) hx hb dX9_judge_76 (by decide) (fun c1 => ?_) (fun c1 => ?_)
    · have hf := q_ip c1 hf
      exact hK _ _ _ _ hI (lv_sub hl [0, 1, 2, 3, 4] rfl) hf
    · have hf := q_in c1 hf
      refine lv_iload_n (pc := 79) hx hb dX9_judge_79 rfl (lv_at hl 1 rfl) ?_
      refine lv_aload (pc := 80) hx hb dX9_judge_80 (lv_at hl 2 rfl) ?_
      refine x_get (pc := 82) X E hI inX6 42 rfl rfl 1 (by decide) tw_1_215 rfl dX9_judge_82 ?_
      refine lv_iload (pc := 85) hx hb dX9_judge_85 (lv_at hl 4 rfl) ?_
      refine lv_isub (pc := 87) hx hb dX9_judge_87 ?_
      refine lv_icmp_lt (pc := 88) (tgt := 97) hx hb dX9_judge_88 (by decide) (fun c2 => ?_) (fun c2 => ?_)
      · have hf := q_ip c2 hf
        refine lv_aload (pc := 97) hx hb dX9_judge_97 (lv_at hl 2 rfl) ?_
        refine x_get (pc := 99) X E hI inX6 42 rfl rfl 2 (by decide) tw_1_217 rfl dX9_judge_99 ?_
        refine lv_iload_n (pc := 102) hx hb dX9_judge_102 rfl (lv_at hl 1 rfl) ?_
        refine lv_iload (pc := 103) hx hb dX9_judge_103 (lv_at hl 4 rfl) ?_
        refine lv_iadd (pc := 105) hx hb dX9_judge_105 ?_
        obtain ⟨t3, e3, hf⟩ := q_ob hf
        refine x_lald (pc := 106) X E hI 43 rfl e3 dX9_judge_106 ?_
        refine lv_aload_n (pc := 107) hx hb dX9_judge_107 rfl (lv_at hl 0 rfl) ?_
        refine lv_aload (pc := 108) hx hb dX9_judge_108 (lv_at hl 3 rfl) ?_
        refine x_get (pc := 110) X E hI inX1 30 rfl rfl 0 (by decide) tw_1_150 rfl dX9_judge_110 ?_
        refine lv_iload (pc := 113) hx hb dX9_judge_113 (lv_at hl 4 rfl) ?_
        obtain ⟨t4, e4, hf⟩ := q_ob hf
        refine x_iald (pc := 115) X E hI 31 rfl e4 dX9_judge_115 ?_
        obtain ⟨t5, e5, hf⟩ := q_ob hf
        refine x_cVs (pc := 116) (st1 := [.int t5, .long t3]) (w1 := ((xb G h x_hasImage f_places f_kinds f_weights f_howManyGenerators f_generators f_racks f_howManySeen f_seenFirst f_seenSecond f_seenIs f_seenPlaces f_howManyEvents f_eventWhat f_eventNumber g_places g_kinds g_weights g_howManyGenerators g_generators g_racks g_howManySeen g_seenFirst g_seenSecond g_seenIs g_seenPlaces g_howManyEvents g_eventWhat g_eventNumber n_m0 n_m1 n_m2 n_s0 n_s1 n_s2 v_keys v_asFound v_found v_turns v_places p_keys p_asFound p_found p_turns p_places i_sort i_howOften i_sorts i_moves n_uq n_u u_leasts u_howMany u_known n_wq n_w w_leasts w_howMany w_known t_signs t_length t_whole t_begins t_ends r_sorts r_numbers r_length) ++ ((tt G h z_tp n_fa n_fi k_sort k_length k_items) ++ wo))) X E hI (c_X9_paintingNumber l G h e5) kv_X9_189 hd_X9_paintingNumber ⟨rfl, rfl⟩ (by decide) 0 rfl rfl rfl rfl hl.1 rfl (Nat.le_of_ble_eq_true rfl) dX9_judge_116 ⟨Nat.le_of_ble_eq_true rfl, Nat.le_of_ble_eq_true rfl⟩ rfl (fun H locs hI => ?_)
        refine lv_i2l (pc := 119) (v := (t5 : Int32).toInt64) hx hb dX9_judge_119 rfl ?_
        refine W.lcmp (pc := 120) hx hb dX9_judge_120 ?_
        refine lv_if_eq (pc := 121) (tgt := 127) hx hb dX9_judge_121 (by decide) (fun c6 => ?_) (fun c6 => ?_)
        · have hf := q_ip c6 hf
          refine lv_iinc (pc := 127) (v := l6 + 1) (lv' := [(6, .int (l6 + 1)), (0, .ref (h 0)), (3, .int l3), (4, .ref n_fa), (5, .ref (h 24))]) hx hb dX9_judge_127 hl (k := 4) rfl rfl (by decide) rfl (fun ls hl => ?_)
          refine lv_goto (pc := 130) (tgt := 69) hx hb dX9_judge_130 (by decide) ?_
          exact ih hI (lv_sub hl [1, 2, 3, 4, 0] rfl) hf
        · have hf := q_in c6 hf
          refine lv_iload (pc := 124) hx hb dX9_judge_124 (lv_at hl 4 rfl) ?_
          obtain rfl := Option.some.inj hf
          exact x_iretE n_uq X hI dX9_judge_126
      · have hf := q_in c2 hf
        refine lv_bipush (pc := 91) (v := 100) hx hb dX9_judge_91 (by decide) ?_
        refine lv_iload (pc := 93) hx hb dX9_judge_93 (lv_at hl 4 rfl) ?_
        refine lv_iadd (pc := 95) hx hb dX9_judge_95 ?_
        obtain rfl := Option.some.inj hf
        exact x_iretE n_uq X hI dX9_judge_96

set_option maxHeartbeats 4000000 in
set_option maxRecDepth 100000 in
theorem c_X9_judge_0 (l : Launch) (G : GX) (h : Nat → Nat) {l2 : Int32} {l3 : Int32} {f_places : Int32} {f_kinds : Int32} {v_keys : Nat → Int32} {v_found : Int32} {v_places : Int32} {n_u : Nat} {u_leasts : Nat → Int32} {u_howMany : Int32} {u_known : Int32} {k_sort : Int32} {k_length : Int32} {k_items : Nat → Int64} {x_hasImage : Int32} {f_weights : Nat → Int32} {f_howManyGenerators : Int32} {f_generators : Nat → Int32} {f_racks : Nat → Int32} {f_howManySeen : Int32} {f_seenFirst : Nat → Int32} {f_seenSecond : Nat → Int32} {f_seenIs : Nat → Int32} {f_seenPlaces : Nat → Int32} {f_howManyEvents : Int32} {f_eventWhat : Nat → Int32} {f_eventNumber : Nat → Int32} {g_places : Int32} {g_kinds : Int32} {g_weights : Nat → Int32} {g_howManyGenerators : Int32} {g_generators : Nat → Int32} {g_racks : Nat → Int32} {g_howManySeen : Int32} {g_seenFirst : Nat → Int32} {g_seenSecond : Nat → Int32} {g_seenIs : Nat → Int32} {g_seenPlaces : Nat → Int32} {g_howManyEvents : Int32} {g_eventWhat : Nat → Int32} {g_eventNumber : Nat → Int32} {n_m0 : Nat} {n_m1 : Nat} {n_m2 : Nat} {n_s0 : Nat} {n_s1 : Nat} {n_s2 : Nat} {v_asFound : Nat → Int32} {v_turns : Int32} {p_keys : Nat → Int32} {p_asFound : Nat → Int32} {p_found : Int32} {p_turns : Int32} {p_places : Int32} {i_sort : Nat → Int32} {i_howOften : Nat → Int32} {i_sorts : Int32} {i_moves : Int32} {n_uq : Nat} {n_wq : Nat} {n_w : Nat} {w_leasts : Nat → Int32} {w_howMany : Int32} {w_known : Int32} {t_signs : Nat → Int32} {t_length : Int32} {t_whole : Int32} {t_begins : Nat → Int32} {t_ends : Nat → Int32} {r_sorts : Nat → Int32} {r_numbers : Nat → Int32} {r_length : Int32} {z_tp : Nat → Option Nat} {n_fa : Nat} {n_fi : Nat} {wo : va_W} {res : Int32 × Nat × (Nat → Int32) × Int32 × Int32} (hf : f_X9_judge_0 l2 l3 f_places f_kinds v_keys v_found v_places n_u u_leasts u_howMany u_known k_sort k_length k_items = some res) (htp : q_rd z_tp 6 l2 = some (some n_fa)) : ME l yX9_judge cX9_judge 7 (some .int) rm_X9_judge_0 G ((xb G h x_hasImage f_places f_kinds f_weights f_howManyGenerators f_generators f_racks f_howManySeen f_seenFirst f_seenSecond f_seenIs f_seenPlaces f_howManyEvents f_eventWhat f_eventNumber g_places g_kinds g_weights g_howManyGenerators g_generators g_racks g_howManySeen g_seenFirst g_seenSecond g_seenIs g_seenPlaces g_howManyEvents g_eventWhat g_eventNumber n_m0 n_m1 n_m2 n_s0 n_s1 n_s2 v_keys v_asFound v_found v_turns v_places p_keys p_asFound p_found p_turns p_places i_sort i_howOften i_sorts i_moves n_uq n_u u_leasts u_howMany u_known n_wq n_w w_leasts w_howMany w_known t_signs t_length t_whole t_begins t_ends r_sorts r_numbers r_length) ++ ((tt G h z_tp n_fa n_fi k_sort k_length k_items) ++ wo)) [.ref (h 0), .int 0, .int l2, .int l3] (fun q : Nat => ((xb G h x_hasImage f_places f_kinds f_weights f_howManyGenerators f_generators f_racks f_howManySeen f_seenFirst f_seenSecond f_seenIs f_seenPlaces f_howManyEvents f_eventWhat f_eventNumber g_places g_kinds g_weights g_howManyGenerators g_generators g_racks g_howManySeen g_seenFirst g_seenSecond g_seenIs g_seenPlaces g_howManyEvents g_eventWhat g_eventNumber n_m0 n_m1 n_m2 n_s0 n_s1 n_s2 v_keys v_asFound v_found v_turns v_places p_keys p_asFound p_found p_turns p_places i_sort i_howOften i_sorts i_moves q res.2.1 res.2.2.1 res.2.2.2.1 res.2.2.2.2 n_wq n_w w_leasts w_howMany w_known t_signs t_length t_whole t_begins t_ends r_sorts r_numbers r_length) ++ ((tt G h z_tp n_fa n_fi k_sort k_length k_items) ++ wo))) (some (.int res.1)) 1 4096 := by
  refine ME.of (plainFor_of_name (by decide)) (Nat.le_of_ble_eq_true rfl) ?_
  intro p e s m below meth c A X E hI ls hl
  obtain ⟨hx, hb, hml, hown, hts, hr, hlk⟩ := id X
  have hl : lv_has ls 7 [(0, .ref (h 0)), (1, .int 0), (2, .int l2), (3, .int l3)] := hl
  unfold f_X9_judge_0 at hf
  refine lv_iload_n (pc := 0) hx hb dX9_judge_0 rfl (lv_at hl 1 rfl) ?_
  obtain ⟨t1, e1, hf⟩ := q_ob hf
  refine x_cSn (pc := 1) (st1 := [.int t1]) X E hI (c_X9_isFlag l G e1) ks_X9_99 hd_X9_isFlag ⟨rfl, rfl⟩ (by decide) rfl hl.1 rfl (Nat.le_of_ble_eq_true rfl) dX9_judge_1 ⟨Nat.le_of_ble_eq_true rfl, Nat.le_of_ble_eq_true rfl⟩ rfl (fun H locs hI => ?_)
  refine lv_if_eq (pc := 4) (tgt := 14) hx hb dX9_judge_4 (by decide) (fun c2 => ?_) (fun c2 => ?_)
  · have hf := q_ip c2 hf
    refine lv_iconst (pc := 14) (v := (-1)) hx hb dX9_judge_14 (by decide) ?_
    obtain rfl := Option.some.inj hf
    refine W.widen (k := 1) (n := 4096) (by decide) (by decide) ?_
    exact x_iretE n_uq X hI dX9_judge_15
  · have hf := q_in c2 hf
    refine lv_iload_n (pc := 7) hx hb dX9_judge_7 rfl (lv_at hl 2 rfl) ?_
    obtain ⟨t3, e3, hf⟩ := q_ob hf
    refine x_cSn (pc := 8) (st1 := [.int t3]) X E hI (c_X9_isTape l G e3) ks_X9_285 hd_X9_isTape ⟨rfl, rfl⟩ (by decide) rfl hl.1 rfl (Nat.le_of_ble_eq_true rfl) dX9_judge_8 ⟨Nat.le_of_ble_eq_true rfl, Nat.le_of_ble_eq_true rfl⟩ rfl (fun H locs hI => ?_)
    refine lv_if_ne (pc := 11) (tgt := 16) hx hb dX9_judge_11 (by decide) (fun c4 => ?_) (fun c4 => ?_)
    · have hf := q_in c4 hf
      refine lv_aload_n (pc := 16) hx hb dX9_judge_16 rfl (lv_at hl 0 rfl) ?_
      refine x_get (pc := 17) X E hI inX9 0 rfl rfl 10 (by decide) tw_2_17 rfl dX9_judge_17 ?_
      refine lv_iload_n (pc := 20) hx hb dX9_judge_20 rfl (lv_at hl 2 rfl) ?_
      refine x_aald (pc := 21) X E hI 41 rfl htp dX9_judge_21 ?_
      refine lv_astore (pc := 22) (lv' := [(4, .ref n_fa), (0, .ref (h 0)), (1, .int 0), (2, .int l2), (3, .int l3)]) hx hb dX9_judge_22 hl (by decide) rfl (fun ls hl => ?_)
      refine lv_aload (pc := 24) hx hb dX9_judge_24 (lv_at hl 0 rfl) ?_
      obtain ⟨t5, e5, hf⟩ := q_ob hf
      have hI : IN A G (((xb G h x_hasImage f_places f_kinds f_weights f_howManyGenerators f_generators f_racks f_howManySeen f_seenFirst f_seenSecond f_seenIs f_seenPlaces f_howManyEvents f_eventWhat f_eventNumber g_places g_kinds g_weights g_howManyGenerators g_generators g_racks g_howManySeen g_seenFirst g_seenSecond g_seenIs g_seenPlaces g_howManyEvents g_eventWhat g_eventNumber n_m0 n_m1 n_m2 n_s0 n_s1 n_s2 v_keys v_asFound v_found v_turns v_places p_keys p_asFound p_found p_turns p_places i_sort i_howOften i_sorts i_moves n_uq n_u u_leasts u_howMany u_known n_wq n_w w_leasts w_howMany w_known t_signs t_length t_whole t_begins t_ends r_sorts r_numbers r_length) ++ (tt G h z_tp n_fa n_fi k_sort k_length k_items)) ++ wo) s H locs := hI
      refine x_cVt (pc := 26) (st1 := [.int t5]) (w2 := ((xb G h x_hasImage f_places f_kinds f_weights f_howManyGenerators f_generators f_racks f_howManySeen f_seenFirst f_seenSecond f_seenIs f_seenPlaces f_howManyEvents f_eventWhat f_eventNumber g_places g_kinds g_weights g_howManyGenerators g_generators g_racks g_howManySeen g_seenFirst g_seenSecond g_seenIs g_seenPlaces g_howManyEvents g_eventWhat g_eventNumber n_m0 n_m1 n_m2 n_s0 n_s1 n_s2 v_keys v_asFound v_found v_turns v_places p_keys p_asFound p_found p_turns p_places i_sort i_howOften i_sorts i_moves n_uq n_u u_leasts u_howMany u_known n_wq n_w w_leasts w_howMany w_known t_signs t_length t_whole t_begins t_ends r_sorts r_numbers r_length) ++ (tt G h z_tp n_fa n_fi k_sort k_length k_items))) X E hI (c_X6_holds l G n_fa n_fi e5) kv_X9_288 hd_X6_holds ⟨rfl, rfl⟩ (by decide) pt_xbtt_kw_0 pt_xbtt_kw_0q 0 rfl rfl rfl rfl hl.1 rfl (Nat.le_of_ble_eq_true rfl) dX9_judge_26 ⟨Nat.le_of_ble_eq_true rfl, Nat.le_of_ble_eq_true rfl⟩ rfl (fun H locs hI => ?_)
      have hI : IN A G ((xb G h x_hasImage f_places f_kinds f_weights f_howManyGenerators f_generators f_racks f_howManySeen f_seenFirst f_seenSecond f_seenIs f_seenPlaces f_howManyEvents f_eventWhat f_eventNumber g_places g_kinds g_weights g_howManyGenerators g_generators g_racks g_howManySeen g_seenFirst g_seenSecond g_seenIs g_seenPlaces g_howManyEvents g_eventWhat g_eventNumber n_m0 n_m1 n_m2 n_s0 n_s1 n_s2 v_keys v_asFound v_found v_turns v_places p_keys p_asFound p_found p_turns p_places i_sort i_howOften i_sorts i_moves n_uq n_u u_leasts u_howMany u_known n_wq n_w w_leasts w_howMany w_known t_signs t_length t_whole t_begins t_ends r_sorts r_numbers r_length) ++ ((tt G h z_tp n_fa n_fi k_sort k_length k_items) ++ wo)) s H locs := hI
      refine lv_if_eq (pc := 29) (tgt := 44) hx hb dX9_judge_29 (by decide) (fun c6 => ?_) (fun c6 => ?_)
      · have hf := q_ip c6 hf
        refine lv_aload (pc := 44) hx hb dX9_judge_44 (lv_at hl 0 rfl) ?_
        obtain ⟨t7, e7, hf⟩ := q_ob hf
        have hI : IN A G (((xb G h x_hasImage f_places f_kinds f_weights f_howManyGenerators f_generators f_racks f_howManySeen f_seenFirst f_seenSecond f_seenIs f_seenPlaces f_howManyEvents f_eventWhat f_eventNumber g_places g_kinds g_weights g_howManyGenerators g_generators g_racks g_howManySeen g_seenFirst g_seenSecond g_seenIs g_seenPlaces g_howManyEvents g_eventWhat g_eventNumber n_m0 n_m1 n_m2 n_s0 n_s1 n_s2 v_keys v_asFound v_found v_turns v_places p_keys p_asFound p_found p_turns p_places i_sort i_howOften i_sorts i_moves n_uq n_u u_leasts u_howMany u_known n_wq n_w w_leasts w_howMany w_known t_signs t_length t_whole t_begins t_ends r_sorts r_numbers r_length) ++ (tt G h z_tp n_fa n_fi k_sort k_length k_items)) ++ wo) s H locs := hI
        refine x_cVt (pc := 46) (st1 := [.int t7]) (w2 := ((xb G h x_hasImage f_places f_kinds f_weights f_howManyGenerators f_generators f_racks f_howManySeen f_seenFirst f_seenSecond f_seenIs f_seenPlaces f_howManyEvents f_eventWhat f_eventNumber g_places g_kinds g_weights g_howManyGenerators g_generators g_racks g_howManySeen g_seenFirst g_seenSecond g_seenIs g_seenPlaces g_howManyEvents g_eventWhat g_eventNumber n_m0 n_m1 n_m2 n_s0 n_s1 n_s2 v_keys v_asFound v_found v_turns v_places p_keys p_asFound p_found p_turns p_places i_sort i_howOften i_sorts i_moves n_uq n_u u_leasts u_howMany u_known n_wq n_w w_leasts w_howMany w_known t_signs t_length t_whole t_begins t_ends r_sorts r_numbers r_length) ++ (tt G h z_tp n_fa n_fi k_sort k_length k_items))) X E hI (c_X6_holds l G n_fa n_fi e7) kv_X9_288 hd_X6_holds ⟨rfl, rfl⟩ (by decide) pt_xbtt_kw_0 pt_xbtt_kw_0q 0 rfl rfl rfl rfl hl.1 rfl (Nat.le_of_ble_eq_true rfl) dX9_judge_46 ⟨Nat.le_of_ble_eq_true rfl, Nat.le_of_ble_eq_true rfl⟩ rfl (fun H locs hI => ?_)
        have hI : IN A G ((xb G h x_hasImage f_places f_kinds f_weights f_howManyGenerators f_generators f_racks f_howManySeen f_seenFirst f_seenSecond f_seenIs f_seenPlaces f_howManyEvents f_eventWhat f_eventNumber g_places g_kinds g_weights g_howManyGenerators g_generators g_racks g_howManySeen g_seenFirst g_seenSecond g_seenIs g_seenPlaces g_howManyEvents g_eventWhat g_eventNumber n_m0 n_m1 n_m2 n_s0 n_s1 n_s2 v_keys v_asFound v_found v_turns v_places p_keys p_asFound p_found p_turns p_places i_sort i_howOften i_sorts i_moves n_uq n_u u_leasts u_howMany u_known n_wq n_w w_leasts w_howMany w_known t_signs t_length t_whole t_begins t_ends r_sorts r_numbers r_length) ++ ((tt G h z_tp n_fa n_fi k_sort k_length k_items) ++ wo)) s H locs := hI
        refine lv_if_eq (pc := 49) (tgt := 56) hx hb dX9_judge_49 (by decide) (fun c8 => ?_) (fun c8 => ?_)
        · have hf := q_ip c8 hf
          refine lv_bipush (pc := 56) (v := 100) hx hb dX9_judge_56 (by decide) ?_
          obtain rfl := Option.some.inj hf
          refine W.widen (k := 1) (n := 4096) (by decide) (by decide) ?_
          exact x_iretE n_uq X hI dX9_judge_58
        · have hf := q_in c8 hf
          refine lv_iload_n (pc := 52) hx hb dX9_judge_52 rfl (lv_at hl 4 rfl) ?_
          refine lv_if_ge (pc := 53) (tgt := 59) hx hb dX9_judge_53 (by decide) (fun c9 => ?_) (fun c9 => ?_)
          · have hf := q_ip c9 hf
            refine lv_aload_n (pc := 59) hx hb dX9_judge_59 rfl (lv_at hl 1 rfl) ?_
            refine lv_iload_n (pc := 60) hx hb dX9_judge_60 rfl (lv_at hl 2 rfl) ?_
            obtain ⟨t10, e10, hf⟩ := q_ob hf
            refine x_cVsE (pc := 61) (st1 := [.ref (h 24)]) X E hI (c_X9_classesBy_0 l G h e10) kv_X9_195 hd_X9_classesBy ⟨rfl, rfl⟩ (by decide) 0 rfl rfl rfl rfl hl.1 rfl (Nat.le_of_ble_eq_true rfl) dX9_judge_61 ⟨Nat.le_of_ble_eq_true rfl, Nat.le_of_ble_eq_true rfl⟩ rfl (fun q10 H locs hI => ?_)
            have hI : IN A G ((xb G h x_hasImage f_places f_kinds f_weights f_howManyGenerators f_generators f_racks f_howManySeen f_seenFirst f_seenSecond f_seenIs f_seenPlaces f_howManyEvents f_eventWhat f_eventNumber g_places g_kinds g_weights g_howManyGenerators g_generators g_racks g_howManySeen g_seenFirst g_seenSecond g_seenIs g_seenPlaces g_howManyEvents g_eventWhat g_eventNumber n_m0 n_m1 n_m2 n_s0 n_s1 n_s2 v_keys v_asFound v_found v_turns v_places p_keys p_asFound p_found p_turns p_places i_sort i_howOften i_sorts i_moves q10 t10.1 t10.2.1 t10.2.2.1 t10.2.2.2 n_wq n_w w_leasts w_howMany w_known t_signs t_length t_whole t_begins t_ends r_sorts r_numbers r_length) ++ ((tt G h z_tp n_fa n_fi k_sort k_length k_items) ++ wo)) s H locs := hI
            refine lv_astore (pc := 64) (lv' := [(5, .ref (h 24)), (4, .ref n_fa), (0, .ref (h 0)), (1, .int 0), (2, .int l2), (3, .int l3)]) hx hb dX9_judge_64 hl (by decide) rfl (fun ls hl => ?_)
            refine lv_iconst (pc := 66) (v := 0) hx hb dX9_judge_66 (by decide) ?_
            refine lv_istore (pc := 67) (lv' := [(6, .int 0), (5, .ref (h 24)), (4, .ref n_fa), (0, .ref (h 0)), (1, .int 0), (2, .int l2), (3, .int l3)]) hx hb dX9_judge_67 hl (by decide) rfl (fun ls hl => ?_)
            refine k_X9_judge_0_L69 X E (fun l6_11 H locs ls hI hl hf => ?_) hI (lv_sub hl [3, 6, 2, 1, 0] rfl) hf
            refine lv_bipush (pc := 133) (v := (-5)) hx hb dX9_judge_133 (by decide) ?_
            obtain rfl := Option.some.inj hf
            exact x_iretE q10 X hI dX9_judge_135
          · have hf := q_in c9 hf
            refine lv_bipush (pc := 56) (v := 100) hx hb dX9_judge_56 (by decide) ?_
            obtain rfl := Option.some.inj hf
            refine W.widen (k := 1) (n := 4096) (by decide) (by decide) ?_
            exact x_iretE n_uq X hI dX9_judge_58
      · have hf := q_in c6 hf
        refine lv_aload (pc := 32) hx hb dX9_judge_32 (lv_at hl 0 rfl) ?_
        refine x_get (pc := 34) X E hI inX6 42 rfl rfl 0 (by decide) tw_1_213 rfl dX9_judge_34 ?_
        refine lv_iconst (pc := 37) (v := 2) hx hb dX9_judge_37 (by decide) ?_
        refine lv_icmp_eq (pc := 38) (tgt := 44) hx hb dX9_judge_38 (by decide) (fun c12 => ?_) (fun c12 => ?_)
        · have hf := q_ip c12 hf
          refine lv_aload (pc := 44) hx hb dX9_judge_44 (lv_at hl 0 rfl) ?_
          obtain ⟨t13, e13, hf⟩ := q_ob hf
          have hI : IN A G (((xb G h x_hasImage f_places f_kinds f_weights f_howManyGenerators f_generators f_racks f_howManySeen f_seenFirst f_seenSecond f_seenIs f_seenPlaces f_howManyEvents f_eventWhat f_eventNumber g_places g_kinds g_weights g_howManyGenerators g_generators g_racks g_howManySeen g_seenFirst g_seenSecond g_seenIs g_seenPlaces g_howManyEvents g_eventWhat g_eventNumber n_m0 n_m1 n_m2 n_s0 n_s1 n_s2 v_keys v_asFound v_found v_turns v_places p_keys p_asFound p_found p_turns p_places i_sort i_howOften i_sorts i_moves n_uq n_u u_leasts u_howMany u_known n_wq n_w w_leasts w_howMany w_known t_signs t_length t_whole t_begins t_ends r_sorts r_numbers r_length) ++ (tt G h z_tp n_fa n_fi k_sort k_length k_items)) ++ wo) s H locs := hI
          refine x_cVt (pc := 46) (st1 := [.int t13]) (w2 := ((xb G h x_hasImage f_places f_kinds f_weights f_howManyGenerators f_generators f_racks f_howManySeen f_seenFirst f_seenSecond f_seenIs f_seenPlaces f_howManyEvents f_eventWhat f_eventNumber g_places g_kinds g_weights g_howManyGenerators g_generators g_racks g_howManySeen g_seenFirst g_seenSecond g_seenIs g_seenPlaces g_howManyEvents g_eventWhat g_eventNumber n_m0 n_m1 n_m2 n_s0 n_s1 n_s2 v_keys v_asFound v_found v_turns v_places p_keys p_asFound p_found p_turns p_places i_sort i_howOften i_sorts i_moves n_uq n_u u_leasts u_howMany u_known n_wq n_w w_leasts w_howMany w_known t_signs t_length t_whole t_begins t_ends r_sorts r_numbers r_length) ++ (tt G h z_tp n_fa n_fi k_sort k_length k_items))) X E hI (c_X6_holds l G n_fa n_fi e13) kv_X9_288 hd_X6_holds ⟨rfl, rfl⟩ (by decide) pt_xbtt_kw_0 pt_xbtt_kw_0q 0 rfl rfl rfl rfl hl.1 rfl (Nat.le_of_ble_eq_true rfl) dX9_judge_46 ⟨Nat.le_of_ble_eq_true rfl, Nat.le_of_ble_eq_true rfl⟩ rfl (fun H locs hI => ?_)
          have hI : IN A G ((xb G h x_hasImage f_places f_kinds f_weights f_howManyGenerators f_generators f_racks f_howManySeen f_seenFirst f_seenSecond f_seenIs f_seenPlaces f_howManyEvents f_eventWhat f_eventNumber g_places g_kinds g_weights g_howManyGenerators g_generators g_racks g_howManySeen g_seenFirst g_seenSecond g_seenIs g_seenPlaces g_howManyEvents g_eventWhat g_eventNumber n_m0 n_m1 n_m2 n_s0 n_s1 n_s2 v_keys v_asFound v_found v_turns v_places p_keys p_asFound p_found p_turns p_places i_sort i_howOften i_sorts i_moves n_uq n_u u_leasts u_howMany u_known n_wq n_w w_leasts w_howMany w_known t_signs t_length t_whole t_begins t_ends r_sorts r_numbers r_length) ++ ((tt G h z_tp n_fa n_fi k_sort k_length k_items) ++ wo)) s H locs := hI
          refine lv_if_eq (pc := 49) (tgt := 56) hx hb dX9_judge_49 (by decide) (fun c14 => ?_) (fun c14 => ?_)
          · have hf := q_ip c14 hf
            refine lv_bipush (pc := 56) (v := 100) hx hb dX9_judge_56 (by decide) ?_
            obtain rfl := Option.some.inj hf
            refine W.widen (k := 1) (n := 4096) (by decide) (by decide) ?_
            exact x_iretE n_uq X hI dX9_judge_58
          · have hf := q_in c14 hf
            refine lv_iload_n (pc := 52) hx hb dX9_judge_52 rfl (lv_at hl 4 rfl) ?_
            refine lv_if_ge (pc := 53) (tgt := 59) hx hb dX9_judge_53 (by decide) (fun c15 => ?_) (fun c15 => ?_)
            · have hf := q_ip c15 hf
              refine lv_aload_n (pc := 59) hx hb dX9_judge_59 rfl (lv_at hl 1 rfl) ?_
              refine lv_iload_n (pc := 60) hx hb dX9_judge_60 rfl (lv_at hl 2 rfl) ?_
              obtain ⟨t16, e16, hf⟩ := q_ob hf
              refine x_cVsE (pc := 61) (st1 := [.ref (h 24)]) X E hI (c_X9_classesBy_0 l G h e16) kv_X9_195 hd_X9_classesBy ⟨rfl, rfl⟩ (by decide) 0 rfl rfl rfl rfl hl.1 rfl (Nat.le_of_ble_eq_true rfl) dX9_judge_61 ⟨Nat.le_of_ble_eq_true rfl, Nat.le_of_ble_eq_true rfl⟩ rfl (fun q16 H locs hI => ?_)
              have hI : IN A G ((xb G h x_hasImage f_places f_kinds f_weights f_howManyGenerators f_generators f_racks f_howManySeen f_seenFirst f_seenSecond f_seenIs f_seenPlaces f_howManyEvents f_eventWhat f_eventNumber g_places g_kinds g_weights g_howManyGenerators g_generators g_racks g_howManySeen g_seenFirst g_seenSecond g_seenIs g_seenPlaces g_howManyEvents g_eventWhat g_eventNumber n_m0 n_m1 n_m2 n_s0 n_s1 n_s2 v_keys v_asFound v_found v_turns v_places p_keys p_asFound p_found p_turns p_places i_sort i_howOften i_sorts i_moves q16 t16.1 t16.2.1 t16.2.2.1 t16.2.2.2 n_wq n_w w_leasts w_howMany w_known t_signs t_length t_whole t_begins t_ends r_sorts r_numbers r_length) ++ ((tt G h z_tp n_fa n_fi k_sort k_length k_items) ++ wo)) s H locs := hI
              refine lv_astore (pc := 64) (lv' := [(5, .ref (h 24)), (4, .ref n_fa), (0, .ref (h 0)), (1, .int 0), (2, .int l2), (3, .int l3)]) hx hb dX9_judge_64 hl (by decide) rfl (fun ls hl => ?_)
              refine lv_iconst (pc := 66) (v := 0) hx hb dX9_judge_66 (by decide) ?_
              refine lv_istore (pc := 67) (lv' := [(6, .int 0), (5, .ref (h 24)), (4, .ref n_fa), (0, .ref (h 0)), (1, .int 0), (2, .int l2), (3, .int l3)]) hx hb dX9_judge_67 hl (by decide) rfl (fun ls hl => ?_)
              refine k_X9_judge_0_L69 X E (fun l6_17 H locs ls hI hl hf => ?_) hI (lv_sub hl [3, 6, 2, 1, 0] rfl) hf
              refine lv_bipush (pc := 133) (v := (-5)) hx hb dX9_judge_133 (by decide) ?_
              obtain rfl := Option.some.inj hf
              exact x_iretE q16 X hI dX9_judge_135
            · have hf := q_in c15 hf
              refine lv_bipush (pc := 56) (v := 100) hx hb dX9_judge_56 (by decide) ?_
              obtain rfl := Option.some.inj hf
              refine W.widen (k := 1) (n := 4096) (by decide) (by decide) ?_
              exact x_iretE n_uq X hI dX9_judge_58
        · have hf := q_in c12 hf
          refine lv_bipush (pc := 41) (v := (-12)) hx hb dX9_judge_41 (by decide) ?_
          obtain rfl := Option.some.inj hf
          refine W.widen (k := 1) (n := 4096) (by decide) (by decide) ?_
          exact x_iretE n_uq X hI dX9_judge_43
    · have hf := q_ip c4 hf
      refine lv_iconst (pc := 14) (v := (-1)) hx hb dX9_judge_14 (by decide) ?_
      obtain rfl := Option.some.inj hf
      refine W.widen (k := 1) (n := 4096) (by decide) (by decide) ?_
      exact x_iretE n_uq X hI dX9_judge_15

abbrev rm_X9_judge_1 : Room := { frames := 4, cells := 1, slots := 4096, locals := 96 }
set_option maxHeartbeats 4000000 in
set_option maxRecDepth 100000 in
theorem k_X9_judge_1_L69 {p : Program} {l : Launch} {e : Env} {s : State} {m : MethodId} {args : Array Value} {below : List Frame} {meth : Method} {c : Code} {A : Nat → Prop} {G : GX} {h : Nat → Nat} {l3 : Int32} {x_hasImage : Int32} {f_places : Int32} {f_kinds : Int32} {f_weights : Nat → Int32} {f_howManyGenerators : Int32} {f_generators : Nat → Int32} {f_racks : Nat → Int32} {f_howManySeen : Int32} {f_seenFirst : Nat → Int32} {f_seenSecond : Nat → Int32} {f_seenIs : Nat → Int32} {f_seenPlaces : Nat → Int32} {f_howManyEvents : Int32} {f_eventWhat : Nat → Int32} {f_eventNumber : Nat → Int32} {g_places : Int32} {g_kinds : Int32} {g_weights : Nat → Int32} {g_howManyGenerators : Int32} {g_generators : Nat → Int32} {g_racks : Nat → Int32} {g_howManySeen : Int32} {g_seenFirst : Nat → Int32} {g_seenSecond : Nat → Int32} {g_seenIs : Nat → Int32} {g_seenPlaces : Nat → Int32} {g_howManyEvents : Int32} {g_eventWhat : Nat → Int32} {g_eventNumber : Nat → Int32} {n_m0 : Nat} {n_m1 : Nat} {n_m2 : Nat} {n_s0 : Nat} {n_s1 : Nat} {n_s2 : Nat} {v_keys : Nat → Int32} {v_asFound : Nat → Int32} {v_found : Int32} {v_turns : Int32} {v_places : Int32} {p_keys : Nat → Int32} {p_asFound : Nat → Int32} {p_found : Int32} {p_turns : Int32} {p_places : Int32} {i_sort : Nat → Int32} {i_howOften : Nat → Int32} {i_sorts : Int32} {i_moves : Int32} {n_uq : Nat} {n_u : Nat} {u_leasts : Nat → Int32} {u_howMany : Int32} {u_known : Int32} {n_wq : Nat} {n_w : Nat} {w_leasts : Nat → Int32} {w_howMany : Int32} {w_known : Int32} {t_signs : Nat → Int32} {t_length : Int32} {t_whole : Int32} {t_begins : Nat → Int32} {t_ends : Nat → Int32} {r_sorts : Nat → Int32} {r_numbers : Nat → Int32} {r_length : Int32} {z_tp : Nat → Option Nat} {n_fa : Nat} {n_fi : Nat} {k_sort : Int32} {k_length : Int32} {k_items : Nat → Int64} {wo : va_W} {K : Int32 → Option (Int32 × Nat × (Nat → Int32) × Int32 × Int32)} {res : Int32 × Nat × (Nat → Int32) × Int32 × Int32} (X : CX RX9 cX9_judge 7 (some .int) p s m args meth c) (E : EX G A s)
    (hK : ∀ (l6 : Int32) (H : Heap) (locs : List Loc) (ls : Array Slot), IN A G ((xb G h x_hasImage f_places f_kinds f_weights f_howManyGenerators f_generators f_racks f_howManySeen f_seenFirst f_seenSecond f_seenIs f_seenPlaces f_howManyEvents f_eventWhat f_eventNumber g_places g_kinds g_weights g_howManyGenerators g_generators g_racks g_howManySeen g_seenFirst g_seenSecond g_seenIs g_seenPlaces g_howManyEvents g_eventWhat g_eventNumber n_m0 n_m1 n_m2 n_s0 n_s1 n_s2 v_keys v_asFound v_found v_turns v_places p_keys p_asFound p_found p_turns p_places i_sort i_howOften i_sorts i_moves n_uq n_u u_leasts u_howMany u_known n_wq n_w w_leasts w_howMany w_known t_signs t_length t_whole t_begins t_ends r_sorts r_numbers r_length) ++ ((tt G h z_tp n_fa n_fi k_sort k_length k_items) ++ wo)) s H locs → lv_has ls 7 [(0, .ref (h 0)), (3, .int l3), (4, .ref n_fa), (5, .ref (h 25)), (6, .int l6)] → K l6 = some res → W p l e rm_X9_judge_1 s m args below meth c H locs 1 4096 (MQ below (QE G A (fun q : Nat => ((xb G h x_hasImage f_places f_kinds f_weights f_howManyGenerators f_generators f_racks f_howManySeen f_seenFirst f_seenSecond f_seenIs f_seenPlaces f_howManyEvents f_eventWhat f_eventNumber g_places g_kinds g_weights g_howManyGenerators g_generators g_racks g_howManySeen g_seenFirst g_seenSecond g_seenIs g_seenPlaces g_howManyEvents g_eventWhat g_eventNumber n_m0 n_m1 n_m2 n_s0 n_s1 n_s2 v_keys v_asFound v_found v_turns v_places p_keys p_asFound p_found p_turns p_places i_sort i_howOften i_sorts i_moves n_uq n_u u_leasts u_howMany u_known q res.2.1 res.2.2.1 res.2.2.2.1 res.2.2.2.2 t_signs t_length t_whole t_begins t_ends r_sorts r_numbers r_length) ++ ((tt G h z_tp n_fa n_fi k_sort k_length k_items) ++ wo))) (some (.int res.1))) args s 1 4096 A) (F0 m 133 ls [])) :
    ∀ {k : Nat} {l6 : Int32} {H : Heap} {locs : List Loc} {ls : Array Slot}, IN A G ((xb G h x_hasImage f_places f_kinds f_weights f_howManyGenerators f_generators f_racks f_howManySeen f_seenFirst f_seenSecond f_seenIs f_seenPlaces f_howManyEvents f_eventWhat f_eventNumber g_places g_kinds g_weights g_howManyGenerators g_generators g_racks g_howManySeen g_seenFirst g_seenSecond g_seenIs g_seenPlaces g_howManyEvents g_eventWhat g_eventNumber n_m0 n_m1 n_m2 n_s0 n_s1 n_s2 v_keys v_asFound v_found v_turns v_places p_keys p_asFound p_found p_turns p_places i_sort i_howOften i_sorts i_moves n_uq n_u u_leasts u_howMany u_known n_wq n_w w_leasts w_howMany w_known t_signs t_length t_whole t_begins t_ends r_sorts r_numbers r_length) ++ ((tt G h z_tp n_fa n_fi k_sort k_length k_items) ++ wo)) s H locs → lv_has ls 7 [(0, .ref (h 0)), (3, .int l3), (4, .ref n_fa), (5, .ref (h 25)), (6, .int l6)] → f_X9_judge_1_L69 l3 f_places n_w w_leasts w_howMany w_known k_length k_items K k l6 = some res → W p l e rm_X9_judge_1 s m args below meth c H locs 1 4096 (MQ below (QE G A (fun q : Nat => ((xb G h x_hasImage f_places f_kinds f_weights f_howManyGenerators f_generators f_racks f_howManySeen f_seenFirst f_seenSecond f_seenIs f_seenPlaces f_howManyEvents f_eventWhat f_eventNumber g_places g_kinds g_weights g_howManyGenerators g_generators g_racks g_howManySeen g_seenFirst g_seenSecond g_seenIs g_seenPlaces g_howManyEvents g_eventWhat g_eventNumber n_m0 n_m1 n_m2 n_s0 n_s1 n_s2 v_keys v_asFound v_found v_turns v_places p_keys p_asFound p_found p_turns p_places i_sort i_howOften i_sorts i_moves n_uq n_u u_leasts u_howMany u_known q res.2.1 res.2.2.1 res.2.2.2.1 res.2.2.2.2 t_signs t_length t_whole t_begins t_ends r_sorts r_numbers r_length) ++ ((tt G h z_tp n_fa n_fi k_sort k_length k_items) ++ wo))) (some (.int res.1))) args s 1 4096 A) (F0 m 69 ls []) := by
  obtain ⟨hx, hb, hml, hown, hts, hr, hlk⟩ := id X
  intro k
  induction k with
  | zero => intro l6 H locs ls hI hl hf; exact nomatch (show none = some res from hf)
  | succ k ih =>
    intro l6 H locs ls hI hl hf
    rw [f_X9_judge_1_L69] at hf
    refine lv_iload (pc := 69) hx hb dX9_judge_69 (lv_at hl 4 rfl) ?_
    refine lv_aload (pc := 71) hx hb dX9_judge_71 (lv_at hl 3 rfl) ?_
    refine x_get (pc := 73) X E hI inX1 32 rfl rfl 1 (by decide) tw_1_152 rfl dX9_judge_73 ?_
    refine lv_icmp_ge (pc := 76) (tgt := 133) hx hb dX9_judge_76 (by decide) (fun c1 => ?_) (fun c1 => ?_)
    · have hf := q_ip c1 hf
      exact hK _ _ _ _ hI (lv_sub hl [0, 1, 2, 3, 4] rfl) hf
    · have hf := q_in c1 hf
      refine lv_iload_n (pc := 79) hx hb dX9_judge_79 rfl (lv_at hl 1 rfl) ?_
      refine lv_aload (pc := 80) hx hb dX9_judge_80 (lv_at hl 2 rfl) ?_
      refine x_get (pc := 82) X E hI inX6 42 rfl rfl 1 (by decide) tw_1_215 rfl dX9_judge_82 ?_
      refine lv_iload (pc := 85) hx hb dX9_judge_85 (lv_at hl 4 rfl) ?_
      refine lv_isub (pc := 87) hx hb dX9_judge_87 ?_
      refine lv_icmp_lt (pc := 88) (tgt := 97) hx hb dX9_judge_88 (by decide) (fun c2 => ?_) (fun c2 => ?_)
      · have hf := q_ip c2 hf
        refine lv_aload (pc := 97) hx hb dX9_judge_97 (lv_at hl 2 rfl) ?_
        refine x_get (pc := 99) X E hI inX6 42 rfl rfl 2 (by decide) tw_1_217 rfl dX9_judge_99 ?_
        refine lv_iload_n (pc := 102) hx hb dX9_judge_102 rfl (lv_at hl 1 rfl) ?_
        refine lv_iload (pc := 103) hx hb dX9_judge_103 (lv_at hl 4 rfl) ?_
        refine lv_iadd (pc := 105) hx hb dX9_judge_105 ?_
        obtain ⟨t3, e3, hf⟩ := q_ob hf
        refine x_lald (pc := 106) X E hI 43 rfl e3 dX9_judge_106 ?_
        refine lv_aload_n (pc := 107) hx hb dX9_judge_107 rfl (lv_at hl 0 rfl) ?_
        refine lv_aload (pc := 108) hx hb dX9_judge_108 (lv_at hl 3 rfl) ?_
        refine x_get (pc := 110) X E hI inX1 32 rfl rfl 0 (by decide) tw_1_150 rfl dX9_judge_110 ?_
        refine lv_iload (pc := 113) hx hb dX9_judge_113 (lv_at hl 4 rfl) ?_
        obtain ⟨t4, e4, hf⟩ := q_ob hf
        refine x_iald (pc := 115) X E hI 33 rfl e4 dX9_judge_115 ?_
        obtain ⟨t5, e5, hf⟩ := q_ob hf
        refine x_cVs (pc := 116) (st1 := [.int t5, .long t3]) (w1 := ((xb G h x_hasImage f_places f_kinds f_weights f_howManyGenerators f_generators f_racks f_howManySeen f_seenFirst f_seenSecond f_seenIs f_seenPlaces f_howManyEvents f_eventWhat f_eventNumber g_places g_kinds g_weights g_howManyGenerators g_generators g_racks g_howManySeen g_seenFirst g_seenSecond g_seenIs g_seenPlaces g_howManyEvents g_eventWhat g_eventNumber n_m0 n_m1 n_m2 n_s0 n_s1 n_s2 v_keys v_asFound v_found v_turns v_places p_keys p_asFound p_found p_turns p_places i_sort i_howOften i_sorts i_moves n_uq n_u u_leasts u_howMany u_known n_wq n_w w_leasts w_howMany w_known t_signs t_length t_whole t_begins t_ends r_sorts r_numbers r_length) ++ ((tt G h z_tp n_fa n_fi k_sort k_length k_items) ++ wo))) X E hI (c_X9_paintingNumber l G h e5) kv_X9_189 hd_X9_paintingNumber ⟨rfl, rfl⟩ (by decide) 0 rfl rfl rfl rfl hl.1 rfl (Nat.le_of_ble_eq_true rfl) dX9_judge_116 ⟨Nat.le_of_ble_eq_true rfl, Nat.le_of_ble_eq_true rfl⟩ rfl (fun H locs hI => ?_)
        refine lv_i2l (pc := 119) (v := (t5 : Int32).toInt64) hx hb dX9_judge_119 rfl ?_
        refine W.lcmp (pc := 120) hx hb dX9_judge_120 ?_
        refine lv_if_eq (pc := 121) (tgt := 127) hx hb dX9_judge_121 (by decide) (fun c6 => ?_) (fun c6 => ?_)
        · have hf := q_ip c6 hf
          refine lv_iinc (pc := 127) (v := l6 + 1) (lv' := [(6, .int (l6 + 1)), (0, .ref (h 0)), (3, .int l3), (4, .ref n_fa), (5, .ref (h 25))]) hx hb dX9_judge_127 hl (k := 4) rfl rfl (by decide) rfl (fun ls hl => ?_)
          refine lv_goto (pc := 130) (tgt := 69) hx hb dX9_judge_130 (by decide) ?_
          exact ih hI (lv_sub hl [1, 2, 3, 4, 0] rfl) hf
        · have hf := q_in c6 hf
          refine lv_iload (pc := 124) hx hb dX9_judge_124 (lv_at hl 4 rfl) ?_
          obtain rfl := Option.some.inj hf
          exact x_iretE n_wq X hI dX9_judge_126
      · have hf := q_in c2 hf
        refine lv_bipush (pc := 91) (v := 100) hx hb dX9_judge_91 (by decide) ?_
        refine lv_iload (pc := 93) hx hb dX9_judge_93 (lv_at hl 4 rfl) ?_
        refine lv_iadd (pc := 95) hx hb dX9_judge_95 ?_
        obtain rfl := Option.some.inj hf
        exact x_iretE n_wq X hI dX9_judge_96

set_option maxHeartbeats 4000000 in
set_option maxRecDepth 100000 in
theorem c_X9_judge_1 (l : Launch) (G : GX) (h : Nat → Nat) {l2 : Int32} {l3 : Int32} {f_places : Int32} {f_kinds : Int32} {v_keys : Nat → Int32} {v_found : Int32} {v_places : Int32} {n_w : Nat} {w_leasts : Nat → Int32} {w_howMany : Int32} {w_known : Int32} {k_sort : Int32} {k_length : Int32} {k_items : Nat → Int64} {x_hasImage : Int32} {f_weights : Nat → Int32} {f_howManyGenerators : Int32} {f_generators : Nat → Int32} {f_racks : Nat → Int32} {f_howManySeen : Int32} {f_seenFirst : Nat → Int32} {f_seenSecond : Nat → Int32} {f_seenIs : Nat → Int32} {f_seenPlaces : Nat → Int32} {f_howManyEvents : Int32} {f_eventWhat : Nat → Int32} {f_eventNumber : Nat → Int32} {g_places : Int32} {g_kinds : Int32} {g_weights : Nat → Int32} {g_howManyGenerators : Int32} {g_generators : Nat → Int32} {g_racks : Nat → Int32} {g_howManySeen : Int32} {g_seenFirst : Nat → Int32} {g_seenSecond : Nat → Int32} {g_seenIs : Nat → Int32} {g_seenPlaces : Nat → Int32} {g_howManyEvents : Int32} {g_eventWhat : Nat → Int32} {g_eventNumber : Nat → Int32} {n_m0 : Nat} {n_m1 : Nat} {n_m2 : Nat} {n_s0 : Nat} {n_s1 : Nat} {n_s2 : Nat} {v_asFound : Nat → Int32} {v_turns : Int32} {p_keys : Nat → Int32} {p_asFound : Nat → Int32} {p_found : Int32} {p_turns : Int32} {p_places : Int32} {i_sort : Nat → Int32} {i_howOften : Nat → Int32} {i_sorts : Int32} {i_moves : Int32} {n_uq : Nat} {n_u : Nat} {u_leasts : Nat → Int32} {u_howMany : Int32} {u_known : Int32} {n_wq : Nat} {t_signs : Nat → Int32} {t_length : Int32} {t_whole : Int32} {t_begins : Nat → Int32} {t_ends : Nat → Int32} {r_sorts : Nat → Int32} {r_numbers : Nat → Int32} {r_length : Int32} {z_tp : Nat → Option Nat} {n_fa : Nat} {n_fi : Nat} {wo : va_W} {res : Int32 × Nat × (Nat → Int32) × Int32 × Int32} (hf : f_X9_judge_1 l2 l3 f_places f_kinds v_keys v_found v_places n_w w_leasts w_howMany w_known k_sort k_length k_items = some res) (htp : q_rd z_tp 6 l2 = some (some n_fa)) : ME l yX9_judge cX9_judge 7 (some .int) rm_X9_judge_1 G ((xb G h x_hasImage f_places f_kinds f_weights f_howManyGenerators f_generators f_racks f_howManySeen f_seenFirst f_seenSecond f_seenIs f_seenPlaces f_howManyEvents f_eventWhat f_eventNumber g_places g_kinds g_weights g_howManyGenerators g_generators g_racks g_howManySeen g_seenFirst g_seenSecond g_seenIs g_seenPlaces g_howManyEvents g_eventWhat g_eventNumber n_m0 n_m1 n_m2 n_s0 n_s1 n_s2 v_keys v_asFound v_found v_turns v_places p_keys p_asFound p_found p_turns p_places i_sort i_howOften i_sorts i_moves n_uq n_u u_leasts u_howMany u_known n_wq n_w w_leasts w_howMany w_known t_signs t_length t_whole t_begins t_ends r_sorts r_numbers r_length) ++ ((tt G h z_tp n_fa n_fi k_sort k_length k_items) ++ wo)) [.ref (h 0), .int 1, .int l2, .int l3] (fun q : Nat => ((xb G h x_hasImage f_places f_kinds f_weights f_howManyGenerators f_generators f_racks f_howManySeen f_seenFirst f_seenSecond f_seenIs f_seenPlaces f_howManyEvents f_eventWhat f_eventNumber g_places g_kinds g_weights g_howManyGenerators g_generators g_racks g_howManySeen g_seenFirst g_seenSecond g_seenIs g_seenPlaces g_howManyEvents g_eventWhat g_eventNumber n_m0 n_m1 n_m2 n_s0 n_s1 n_s2 v_keys v_asFound v_found v_turns v_places p_keys p_asFound p_found p_turns p_places i_sort i_howOften i_sorts i_moves n_uq n_u u_leasts u_howMany u_known q res.2.1 res.2.2.1 res.2.2.2.1 res.2.2.2.2 t_signs t_length t_whole t_begins t_ends r_sorts r_numbers r_length) ++ ((tt G h z_tp n_fa n_fi k_sort k_length k_items) ++ wo))) (some (.int res.1)) 1 4096 := by
  refine ME.of (plainFor_of_name (by decide)) (Nat.le_of_ble_eq_true rfl) ?_
  intro p e s m below meth c A X E hI ls hl
  obtain ⟨hx, hb, hml, hown, hts, hr, hlk⟩ := id X
  have hl : lv_has ls 7 [(0, .ref (h 0)), (1, .int 1), (2, .int l2), (3, .int l3)] := hl
  unfold f_X9_judge_1 at hf
  refine lv_iload_n (pc := 0) hx hb dX9_judge_0 rfl (lv_at hl 1 rfl) ?_
  obtain ⟨t1, e1, hf⟩ := q_ob hf
  refine x_cSn (pc := 1) (st1 := [.int t1]) X E hI (c_X9_isFlag l G e1) ks_X9_99 hd_X9_isFlag ⟨rfl, rfl⟩ (by decide) rfl hl.1 rfl (Nat.le_of_ble_eq_true rfl) dX9_judge_1 ⟨Nat.le_of_ble_eq_true rfl, Nat.le_of_ble_eq_true rfl⟩ rfl (fun H locs hI => ?_)
  refine lv_if_eq (pc := 4) (tgt := 14) hx hb dX9_judge_4 (by decide) (fun c2 => ?_) (fun c2 => ?_)
  · have hf := q_ip c2 hf
    refine lv_iconst (pc := 14) (v := (-1)) hx hb dX9_judge_14 (by decide) ?_
    obtain rfl := Option.some.inj hf
    refine W.widen (k := 1) (n := 4096) (by decide) (by decide) ?_
    exact x_iretE n_wq X hI dX9_judge_15
  · have hf := q_in c2 hf
    refine lv_iload_n (pc := 7) hx hb dX9_judge_7 rfl (lv_at hl 2 rfl) ?_
    obtain ⟨t3, e3, hf⟩ := q_ob hf
    refine x_cSn (pc := 8) (st1 := [.int t3]) X E hI (c_X9_isTape l G e3) ks_X9_285 hd_X9_isTape ⟨rfl, rfl⟩ (by decide) rfl hl.1 rfl (Nat.le_of_ble_eq_true rfl) dX9_judge_8 ⟨Nat.le_of_ble_eq_true rfl, Nat.le_of_ble_eq_true rfl⟩ rfl (fun H locs hI => ?_)
    refine lv_if_ne (pc := 11) (tgt := 16) hx hb dX9_judge_11 (by decide) (fun c4 => ?_) (fun c4 => ?_)
    · have hf := q_in c4 hf
      refine lv_aload_n (pc := 16) hx hb dX9_judge_16 rfl (lv_at hl 0 rfl) ?_
      refine x_get (pc := 17) X E hI inX9 0 rfl rfl 10 (by decide) tw_2_17 rfl dX9_judge_17 ?_
      refine lv_iload_n (pc := 20) hx hb dX9_judge_20 rfl (lv_at hl 2 rfl) ?_
      refine x_aald (pc := 21) X E hI 41 rfl htp dX9_judge_21 ?_
      refine lv_astore (pc := 22) (lv' := [(4, .ref n_fa), (0, .ref (h 0)), (1, .int 1), (2, .int l2), (3, .int l3)]) hx hb dX9_judge_22 hl (by decide) rfl (fun ls hl => ?_)
      refine lv_aload (pc := 24) hx hb dX9_judge_24 (lv_at hl 0 rfl) ?_
      obtain ⟨t5, e5, hf⟩ := q_ob hf
      have hI : IN A G (((xb G h x_hasImage f_places f_kinds f_weights f_howManyGenerators f_generators f_racks f_howManySeen f_seenFirst f_seenSecond f_seenIs f_seenPlaces f_howManyEvents f_eventWhat f_eventNumber g_places g_kinds g_weights g_howManyGenerators g_generators g_racks g_howManySeen g_seenFirst g_seenSecond g_seenIs g_seenPlaces g_howManyEvents g_eventWhat g_eventNumber n_m0 n_m1 n_m2 n_s0 n_s1 n_s2 v_keys v_asFound v_found v_turns v_places p_keys p_asFound p_found p_turns p_places i_sort i_howOften i_sorts i_moves n_uq n_u u_leasts u_howMany u_known n_wq n_w w_leasts w_howMany w_known t_signs t_length t_whole t_begins t_ends r_sorts r_numbers r_length) ++ (tt G h z_tp n_fa n_fi k_sort k_length k_items)) ++ wo) s H locs := hI
      refine x_cVt (pc := 26) (st1 := [.int t5]) (w2 := ((xb G h x_hasImage f_places f_kinds f_weights f_howManyGenerators f_generators f_racks f_howManySeen f_seenFirst f_seenSecond f_seenIs f_seenPlaces f_howManyEvents f_eventWhat f_eventNumber g_places g_kinds g_weights g_howManyGenerators g_generators g_racks g_howManySeen g_seenFirst g_seenSecond g_seenIs g_seenPlaces g_howManyEvents g_eventWhat g_eventNumber n_m0 n_m1 n_m2 n_s0 n_s1 n_s2 v_keys v_asFound v_found v_turns v_places p_keys p_asFound p_found p_turns p_places i_sort i_howOften i_sorts i_moves n_uq n_u u_leasts u_howMany u_known n_wq n_w w_leasts w_howMany w_known t_signs t_length t_whole t_begins t_ends r_sorts r_numbers r_length) ++ (tt G h z_tp n_fa n_fi k_sort k_length k_items))) X E hI (c_X6_holds l G n_fa n_fi e5) kv_X9_288 hd_X6_holds ⟨rfl, rfl⟩ (by decide) pt_xbtt_kw_0 pt_xbtt_kw_0q 0 rfl rfl rfl rfl hl.1 rfl (Nat.le_of_ble_eq_true rfl) dX9_judge_26 ⟨Nat.le_of_ble_eq_true rfl, Nat.le_of_ble_eq_true rfl⟩ rfl (fun H locs hI => ?_)
      have hI : IN A G ((xb G h x_hasImage f_places f_kinds f_weights f_howManyGenerators f_generators f_racks f_howManySeen f_seenFirst f_seenSecond f_seenIs f_seenPlaces f_howManyEvents f_eventWhat f_eventNumber g_places g_kinds g_weights g_howManyGenerators g_generators g_racks g_howManySeen g_seenFirst g_seenSecond g_seenIs g_seenPlaces g_howManyEvents g_eventWhat g_eventNumber n_m0 n_m1 n_m2 n_s0 n_s1 n_s2 v_keys v_asFound v_found v_turns v_places p_keys p_asFound p_found p_turns p_places i_sort i_howOften i_sorts i_moves n_uq n_u u_leasts u_howMany u_known n_wq n_w w_leasts w_howMany w_known t_signs t_length t_whole t_begins t_ends r_sorts r_numbers r_length) ++ ((tt G h z_tp n_fa n_fi k_sort k_length k_items) ++ wo)) s H locs := hI
      refine lv_if_eq (pc := 29) (tgt := 44) hx hb dX9_judge_29 (by decide) (fun c6 => ?_) (fun c6 => ?_)
      · have hf := q_ip c6 hf
        refine lv_aload (pc := 44) hx hb dX9_judge_44 (lv_at hl 0 rfl) ?_
        obtain ⟨t7, e7, hf⟩ := q_ob hf
        have hI : IN A G (((xb G h x_hasImage f_places f_kinds f_weights f_howManyGenerators f_generators f_racks f_howManySeen f_seenFirst f_seenSecond f_seenIs f_seenPlaces f_howManyEvents f_eventWhat f_eventNumber g_places g_kinds g_weights g_howManyGenerators g_generators g_racks g_howManySeen g_seenFirst g_seenSecond g_seenIs g_seenPlaces g_howManyEvents g_eventWhat g_eventNumber n_m0 n_m1 n_m2 n_s0 n_s1 n_s2 v_keys v_asFound v_found v_turns v_places p_keys p_asFound p_found p_turns p_places i_sort i_howOften i_sorts i_moves n_uq n_u u_leasts u_howMany u_known n_wq n_w w_leasts w_howMany w_known t_signs t_length t_whole t_begins t_ends r_sorts r_numbers r_length) ++ (tt G h z_tp n_fa n_fi k_sort k_length k_items)) ++ wo) s H locs := hI
        refine x_cVt (pc := 46) (st1 := [.int t7]) (w2 := ((xb G h x_hasImage f_places f_kinds f_weights f_howManyGenerators f_generators f_racks f_howManySeen f_seenFirst f_seenSecond f_seenIs f_seenPlaces f_howManyEvents f_eventWhat f_eventNumber g_places g_kinds g_weights g_howManyGenerators g_generators g_racks g_howManySeen g_seenFirst g_seenSecond g_seenIs g_seenPlaces g_howManyEvents g_eventWhat g_eventNumber n_m0 n_m1 n_m2 n_s0 n_s1 n_s2 v_keys v_asFound v_found v_turns v_places p_keys p_asFound p_found p_turns p_places i_sort i_howOften i_sorts i_moves n_uq n_u u_leasts u_howMany u_known n_wq n_w w_leasts w_howMany w_known t_signs t_length t_whole t_begins t_ends r_sorts r_numbers r_length) ++ (tt G h z_tp n_fa n_fi k_sort k_length k_items))) X E hI (c_X6_holds l G n_fa n_fi e7) kv_X9_288 hd_X6_holds ⟨rfl, rfl⟩ (by decide) pt_xbtt_kw_0 pt_xbtt_kw_0q 0 rfl rfl rfl rfl hl.1 rfl (Nat.le_of_ble_eq_true rfl) dX9_judge_46 ⟨Nat.le_of_ble_eq_true rfl, Nat.le_of_ble_eq_true rfl⟩ rfl (fun H locs hI => ?_)
        have hI : IN A G ((xb G h x_hasImage f_places f_kinds f_weights f_howManyGenerators f_generators f_racks f_howManySeen f_seenFirst f_seenSecond f_seenIs f_seenPlaces f_howManyEvents f_eventWhat f_eventNumber g_places g_kinds g_weights g_howManyGenerators g_generators g_racks g_howManySeen g_seenFirst g_seenSecond g_seenIs g_seenPlaces g_howManyEvents g_eventWhat g_eventNumber n_m0 n_m1 n_m2 n_s0 n_s1 n_s2 v_keys v_asFound v_found v_turns v_places p_keys p_asFound p_found p_turns p_places i_sort i_howOften i_sorts i_moves n_uq n_u u_leasts u_howMany u_known n_wq n_w w_leasts w_howMany w_known t_signs t_length t_whole t_begins t_ends r_sorts r_numbers r_length) ++ ((tt G h z_tp n_fa n_fi k_sort k_length k_items) ++ wo)) s H locs := hI
        refine lv_if_eq (pc := 49) (tgt := 56) hx hb dX9_judge_49 (by decide) (fun c8 => ?_) (fun c8 => ?_)
        · have hf := q_ip c8 hf
          refine lv_bipush (pc := 56) (v := 100) hx hb dX9_judge_56 (by decide) ?_
          obtain rfl := Option.some.inj hf
          refine W.widen (k := 1) (n := 4096) (by decide) (by decide) ?_
          exact x_iretE n_wq X hI dX9_judge_58
        · have hf := q_in c8 hf
          refine lv_iload_n (pc := 52) hx hb dX9_judge_52 rfl (lv_at hl 4 rfl) ?_
          refine lv_if_ge (pc := 53) (tgt := 59) hx hb dX9_judge_53 (by decide) (fun c9 => ?_) (fun c9 => ?_)
          · have hf := q_ip c9 hf
            refine lv_aload_n (pc := 59) hx hb dX9_judge_59 rfl (lv_at hl 1 rfl) ?_
            refine lv_iload_n (pc := 60) hx hb dX9_judge_60 rfl (lv_at hl 2 rfl) ?_
            obtain ⟨t10, e10, hf⟩ := q_ob hf
            refine x_cVsE (pc := 61) (st1 := [.ref (h 25)]) X E hI (c_X9_classesBy_1 l G h e10) kv_X9_195 hd_X9_classesBy ⟨rfl, rfl⟩ (by decide) 0 rfl rfl rfl rfl hl.1 rfl (Nat.le_of_ble_eq_true rfl) dX9_judge_61 ⟨Nat.le_of_ble_eq_true rfl, Nat.le_of_ble_eq_true rfl⟩ rfl (fun q10 H locs hI => ?_)
            have hI : IN A G ((xb G h x_hasImage f_places f_kinds f_weights f_howManyGenerators f_generators f_racks f_howManySeen f_seenFirst f_seenSecond f_seenIs f_seenPlaces f_howManyEvents f_eventWhat f_eventNumber g_places g_kinds g_weights g_howManyGenerators g_generators g_racks g_howManySeen g_seenFirst g_seenSecond g_seenIs g_seenPlaces g_howManyEvents g_eventWhat g_eventNumber n_m0 n_m1 n_m2 n_s0 n_s1 n_s2 v_keys v_asFound v_found v_turns v_places p_keys p_asFound p_found p_turns p_places i_sort i_howOften i_sorts i_moves n_uq n_u u_leasts u_howMany u_known q10 t10.1 t10.2.1 t10.2.2.1 t10.2.2.2 t_signs t_length t_whole t_begins t_ends r_sorts r_numbers r_length) ++ ((tt G h z_tp n_fa n_fi k_sort k_length k_items) ++ wo)) s H locs := hI
            refine lv_astore (pc := 64) (lv' := [(5, .ref (h 25)), (4, .ref n_fa), (0, .ref (h 0)), (1, .int 1), (2, .int l2), (3, .int l3)]) hx hb dX9_judge_64 hl (by decide) rfl (fun ls hl => ?_)
            refine lv_iconst (pc := 66) (v := 0) hx hb dX9_judge_66 (by decide) ?_
            refine lv_istore (pc := 67) (lv' := [(6, .int 0), (5, .ref (h 25)), (4, .ref n_fa), (0, .ref (h 0)), (1, .int 1), (2, .int l2), (3, .int l3)]) hx hb dX9_judge_67 hl (by decide) rfl (fun ls hl => ?_)
            refine k_X9_judge_1_L69 X E (fun l6_11 H locs ls hI hl hf => ?_) hI (lv_sub hl [3, 6, 2, 1, 0] rfl) hf
            refine lv_bipush (pc := 133) (v := (-5)) hx hb dX9_judge_133 (by decide) ?_
            obtain rfl := Option.some.inj hf
            exact x_iretE q10 X hI dX9_judge_135
          · have hf := q_in c9 hf
            refine lv_bipush (pc := 56) (v := 100) hx hb dX9_judge_56 (by decide) ?_
            obtain rfl := Option.some.inj hf
            refine W.widen (k := 1) (n := 4096) (by decide) (by decide) ?_
            exact x_iretE n_wq X hI dX9_judge_58
      · have hf := q_in c6 hf
        refine lv_aload (pc := 32) hx hb dX9_judge_32 (lv_at hl 0 rfl) ?_
        refine x_get (pc := 34) X E hI inX6 42 rfl rfl 0 (by decide) tw_1_213 rfl dX9_judge_34 ?_
        refine lv_iconst (pc := 37) (v := 2) hx hb dX9_judge_37 (by decide) ?_
        refine lv_icmp_eq (pc := 38) (tgt := 44) hx hb dX9_judge_38 (by decide) (fun c12 => ?_) (fun c12 => ?_)
        · have hf := q_ip c12 hf
          refine lv_aload (pc := 44) hx hb dX9_judge_44 (lv_at hl 0 rfl) ?_
          obtain ⟨t13, e13, hf⟩ := q_ob hf
          have hI : IN A G (((xb G h x_hasImage f_places f_kinds f_weights f_howManyGenerators f_generators f_racks f_howManySeen f_seenFirst f_seenSecond f_seenIs f_seenPlaces f_howManyEvents f_eventWhat f_eventNumber g_places g_kinds g_weights g_howManyGenerators g_generators g_racks g_howManySeen g_seenFirst g_seenSecond g_seenIs g_seenPlaces g_howManyEvents g_eventWhat g_eventNumber n_m0 n_m1 n_m2 n_s0 n_s1 n_s2 v_keys v_asFound v_found v_turns v_places p_keys p_asFound p_found p_turns p_places i_sort i_howOften i_sorts i_moves n_uq n_u u_leasts u_howMany u_known n_wq n_w w_leasts w_howMany w_known t_signs t_length t_whole t_begins t_ends r_sorts r_numbers r_length) ++ (tt G h z_tp n_fa n_fi k_sort k_length k_items)) ++ wo) s H locs := hI
          refine x_cVt (pc := 46) (st1 := [.int t13]) (w2 := ((xb G h x_hasImage f_places f_kinds f_weights f_howManyGenerators f_generators f_racks f_howManySeen f_seenFirst f_seenSecond f_seenIs f_seenPlaces f_howManyEvents f_eventWhat f_eventNumber g_places g_kinds g_weights g_howManyGenerators g_generators g_racks g_howManySeen g_seenFirst g_seenSecond g_seenIs g_seenPlaces g_howManyEvents g_eventWhat g_eventNumber n_m0 n_m1 n_m2 n_s0 n_s1 n_s2 v_keys v_asFound v_found v_turns v_places p_keys p_asFound p_found p_turns p_places i_sort i_howOften i_sorts i_moves n_uq n_u u_leasts u_howMany u_known n_wq n_w w_leasts w_howMany w_known t_signs t_length t_whole t_begins t_ends r_sorts r_numbers r_length) ++ (tt G h z_tp n_fa n_fi k_sort k_length k_items))) X E hI (c_X6_holds l G n_fa n_fi e13) kv_X9_288 hd_X6_holds ⟨rfl, rfl⟩ (by decide) pt_xbtt_kw_0 pt_xbtt_kw_0q 0 rfl rfl rfl rfl hl.1 rfl (Nat.le_of_ble_eq_true rfl) dX9_judge_46 ⟨Nat.le_of_ble_eq_true rfl, Nat.le_of_ble_eq_true rfl⟩ rfl (fun H locs hI => ?_)
          have hI : IN A G ((xb G h x_hasImage f_places f_kinds f_weights f_howManyGenerators f_generators f_racks f_howManySeen f_seenFirst f_seenSecond f_seenIs f_seenPlaces f_howManyEvents f_eventWhat f_eventNumber g_places g_kinds g_weights g_howManyGenerators g_generators g_racks g_howManySeen g_seenFirst g_seenSecond g_seenIs g_seenPlaces g_howManyEvents g_eventWhat g_eventNumber n_m0 n_m1 n_m2 n_s0 n_s1 n_s2 v_keys v_asFound v_found v_turns v_places p_keys p_asFound p_found p_turns p_places i_sort i_howOften i_sorts i_moves n_uq n_u u_leasts u_howMany u_known n_wq n_w w_leasts w_howMany w_known t_signs t_length t_whole t_begins t_ends r_sorts r_numbers r_length) ++ ((tt G h z_tp n_fa n_fi k_sort k_length k_items) ++ wo)) s H locs := hI
          refine lv_if_eq (pc := 49) (tgt := 56) hx hb dX9_judge_49 (by decide) (fun c14 => ?_) (fun c14 => ?_)
          · have hf := q_ip c14 hf
            refine lv_bipush (pc := 56) (v := 100) hx hb dX9_judge_56 (by decide) ?_
            obtain rfl := Option.some.inj hf
            refine W.widen (k := 1) (n := 4096) (by decide) (by decide) ?_
            exact x_iretE n_wq X hI dX9_judge_58
          · have hf := q_in c14 hf
            refine lv_iload_n (pc := 52) hx hb dX9_judge_52 rfl (lv_at hl 4 rfl) ?_
            refine lv_if_ge (pc := 53) (tgt := 59) hx hb dX9_judge_53 (by decide) (fun c15 => ?_) (fun c15 => ?_)
            · have hf := q_ip c15 hf
              refine lv_aload_n (pc := 59) hx hb dX9_judge_59 rfl (lv_at hl 1 rfl) ?_
              refine lv_iload_n (pc := 60) hx hb dX9_judge_60 rfl (lv_at hl 2 rfl) ?_
              obtain ⟨t16, e16, hf⟩ := q_ob hf
              refine x_cVsE (pc := 61) (st1 := [.ref (h 25)]) X E hI (c_X9_classesBy_1 l G h e16) kv_X9_195 hd_X9_classesBy ⟨rfl, rfl⟩ (by decide) 0 rfl rfl rfl rfl hl.1 rfl (Nat.le_of_ble_eq_true rfl) dX9_judge_61 ⟨Nat.le_of_ble_eq_true rfl, Nat.le_of_ble_eq_true rfl⟩ rfl (fun q16 H locs hI => ?_)
              have hI : IN A G ((xb G h x_hasImage f_places f_kinds f_weights f_howManyGenerators f_generators f_racks f_howManySeen f_seenFirst f_seenSecond f_seenIs f_seenPlaces f_howManyEvents f_eventWhat f_eventNumber g_places g_kinds g_weights g_howManyGenerators g_generators g_racks g_howManySeen g_seenFirst g_seenSecond g_seenIs g_seenPlaces g_howManyEvents g_eventWhat g_eventNumber n_m0 n_m1 n_m2 n_s0 n_s1 n_s2 v_keys v_asFound v_found v_turns v_places p_keys p_asFound p_found p_turns p_places i_sort i_howOften i_sorts i_moves n_uq n_u u_leasts u_howMany u_known q16 t16.1 t16.2.1 t16.2.2.1 t16.2.2.2 t_signs t_length t_whole t_begins t_ends r_sorts r_numbers r_length) ++ ((tt G h z_tp n_fa n_fi k_sort k_length k_items) ++ wo)) s H locs := hI
              refine lv_astore (pc := 64) (lv' := [(5, .ref (h 25)), (4, .ref n_fa), (0, .ref (h 0)), (1, .int 1), (2, .int l2), (3, .int l3)]) hx hb dX9_judge_64 hl (by decide) rfl (fun ls hl => ?_)
              refine lv_iconst (pc := 66) (v := 0) hx hb dX9_judge_66 (by decide) ?_
              refine lv_istore (pc := 67) (lv' := [(6, .int 0), (5, .ref (h 25)), (4, .ref n_fa), (0, .ref (h 0)), (1, .int 1), (2, .int l2), (3, .int l3)]) hx hb dX9_judge_67 hl (by decide) rfl (fun ls hl => ?_)
              refine k_X9_judge_1_L69 X E (fun l6_17 H locs ls hI hl hf => ?_) hI (lv_sub hl [3, 6, 2, 1, 0] rfl) hf
              refine lv_bipush (pc := 133) (v := (-5)) hx hb dX9_judge_133 (by decide) ?_
              obtain rfl := Option.some.inj hf
              exact x_iretE q16 X hI dX9_judge_135
            · have hf := q_in c15 hf
              refine lv_bipush (pc := 56) (v := 100) hx hb dX9_judge_56 (by decide) ?_
              obtain rfl := Option.some.inj hf
              refine W.widen (k := 1) (n := 4096) (by decide) (by decide) ?_
              exact x_iretE n_wq X hI dX9_judge_58
        · have hf := q_in c12 hf
          refine lv_bipush (pc := 41) (v := (-12)) hx hb dX9_judge_41 (by decide) ?_
          obtain rfl := Option.some.inj hf
          refine W.widen (k := 1) (n := 4096) (by decide) (by decide) ?_
          exact x_iretE n_wq X hI dX9_judge_43
    · have hf := q_ip c4 hf
      refine lv_iconst (pc := 14) (v := (-1)) hx hb dX9_judge_14 (by decide) ?_
      obtain rfl := Option.some.inj hf
      refine W.widen (k := 1) (n := 4096) (by decide) (by decide) ?_
      exact x_iretE n_wq X hI dX9_judge_15

