abbrev rm_X9_judge_n : Room := { frames := 1, cells := 0, slots := 0, locals := 20 }
set_option maxHeartbeats 4000000 in
set_option maxRecDepth 100000 in
theorem c_X9_judge_n (l : Launch) (G : GX) (h : Nat → Nat) {l1 : Int32} {l2 : Int32} {l3 : Int32} {x_hasImage : Int32} {f_places : Int32} {f_kinds : Int32} {f_weights : Nat → Int32} {f_howManyGenerators : Int32} {f_generators : Nat → Int32} {f_racks : Nat → Int32} {f_howManySeen : Int32} {f_seenFirst : Nat → Int32} {f_seenSecond : Nat → Int32} {f_seenIs : Nat → Int32} {f_seenPlaces : Nat → Int32} {f_howManyEvents : Int32} {f_eventWhat : Nat → Int32} {f_eventNumber : Nat → Int32} {g_places : Int32} {g_kinds : Int32} {g_weights : Nat → Int32} {g_howManyGenerators : Int32} {g_generators : Nat → Int32} {g_racks : Nat → Int32} {g_howManySeen : Int32} {g_seenFirst : Nat → Int32} {g_seenSecond : Nat → Int32} {g_seenIs : Nat → Int32} {g_seenPlaces : Nat → Int32} {g_howManyEvents : Int32} {g_eventWhat : Nat → Int32} {g_eventNumber : Nat → Int32} {n_m0 : Nat} {n_m1 : Nat} {n_m2 : Nat} {n_s0 : Nat} {n_s1 : Nat} {n_s2 : Nat} {v_keys : Nat → Int32} {v_asFound : Nat → Int32} {v_found : Int32} {v_turns : Int32} {v_places : Int32} {p_keys : Nat → Int32} {p_asFound : Nat → Int32} {p_found : Int32} {p_turns : Int32} {p_places : Int32} {i_sort : Nat → Int32} {i_howOften : Nat → Int32} {i_sorts : Int32} {i_moves : Int32} {n_uq : Nat} {n_u : Nat} {u_leasts : Nat → Int32} {u_howMany : Int32} {u_known : Int32} {n_wq : Nat} {n_w : Nat} {w_leasts : Nat → Int32} {w_howMany : Int32} {w_known : Int32} {t_signs : Nat → Int32} {t_length : Int32} {t_whole : Int32} {t_begins : Nat → Int32} {t_ends : Nat → Int32} {r_sorts : Nat → Int32} {r_numbers : Nat → Int32} {r_length : Int32} {wo : va_W} {res : Int32} (hf : f_X9_judge_n l1 l2 l3 = some res) : MX l yX9_judge cX9_judge 7 (some .int) rm_X9_judge_n G ((xb G h x_hasImage f_places f_kinds f_weights f_howManyGenerators f_generators f_racks f_howManySeen f_seenFirst f_seenSecond f_seenIs f_seenPlaces f_howManyEvents f_eventWhat f_eventNumber g_places g_kinds g_weights g_howManyGenerators g_generators g_racks g_howManySeen g_seenFirst g_seenSecond g_seenIs g_seenPlaces g_howManyEvents g_eventWhat g_eventNumber n_m0 n_m1 n_m2 n_s0 n_s1 n_s2 v_keys v_asFound v_found v_turns v_places p_keys p_asFound p_found p_turns p_places i_sort i_howOften i_sorts i_moves n_uq n_u u_leasts u_howMany u_known n_wq n_w w_leasts w_howMany w_known t_signs t_length t_whole t_begins t_ends r_sorts r_numbers r_length) ++ wo) [.ref (h 0), .int l1, .int l2, .int l3] ((xb G h x_hasImage f_places f_kinds f_weights f_howManyGenerators f_generators f_racks f_howManySeen f_seenFirst f_seenSecond f_seenIs f_seenPlaces f_howManyEvents f_eventWhat f_eventNumber g_places g_kinds g_weights g_howManyGenerators g_generators g_racks g_howManySeen g_seenFirst g_seenSecond g_seenIs g_seenPlaces g_howManyEvents g_eventWhat g_eventNumber n_m0 n_m1 n_m2 n_s0 n_s1 n_s2 v_keys v_asFound v_found v_turns v_places p_keys p_asFound p_found p_turns p_places i_sort i_howOften i_sorts i_moves n_uq n_u u_leasts u_howMany u_known n_wq n_w w_leasts w_howMany w_known t_signs t_length t_whole t_begins t_ends r_sorts r_numbers r_length) ++ wo) (some (.int res)) 0 0 := by
  refine MX.of (plainFor_of_name (by decide)) (Nat.le_of_ble_eq_true rfl) ?_
  intro p e s m below meth c A X E hI ls hl
  obtain ⟨hx, hb, hml, hown, hts, hr, hlk⟩ := id X
  have hl : lv_has ls 7 [(0, .ref (h 0)), (1, .int l1), (2, .int l2), (3, .int l3)] := hl
  unfold f_X9_judge_n at hf
  refine lv_iload_n (pc := 0) hx hb dX9_judge_0 rfl (lv_at hl 1 rfl) ?_
  obtain ⟨t1, e1, hf⟩ := q_ob hf
  refine x_cSn (pc := 1) (st1 := [.int t1]) X E hI (c_X9_isFlag l G e1) ks_X9_99 hd_X9_isFlag ⟨rfl, rfl⟩ (by decide) rfl hl.1 rfl (Nat.le_of_ble_eq_true rfl) dX9_judge_1 ⟨Nat.le_of_ble_eq_true rfl, Nat.le_of_ble_eq_true rfl⟩ rfl (fun H locs hI => ?_)
  refine lv_if_eq (pc := 4) (tgt := 14) hx hb dX9_judge_4 (by decide) (fun c2 => ?_) (fun c2 => ?_)
  · have hf := q_ip c2 hf
    refine lv_iconst (pc := 14) (v := (-1)) hx hb dX9_judge_14 (by decide) ?_
    obtain rfl := Option.some.inj hf
    exact x_iret X hI dX9_judge_15
  · have hf := q_in c2 hf
    refine lv_iload_n (pc := 7) hx hb dX9_judge_7 rfl (lv_at hl 2 rfl) ?_
    obtain ⟨t3, e3, hf⟩ := q_ob hf
    refine x_cSn (pc := 8) (st1 := [.int t3]) X E hI (c_X9_isTape l G e3) ks_X9_285 hd_X9_isTape ⟨rfl, rfl⟩ (by decide) rfl hl.1 rfl (Nat.le_of_ble_eq_true rfl) dX9_judge_8 ⟨Nat.le_of_ble_eq_true rfl, Nat.le_of_ble_eq_true rfl⟩ rfl (fun H locs hI => ?_)
    refine lv_if_ne (pc := 11) (tgt := 16) hx hb dX9_judge_11 (by decide) (fun c4 => ?_) (fun c4 => ?_)
    · have hf := q_in c4 hf
      refine lv_aload_n (pc := 16) hx hb dX9_judge_16 rfl (lv_at hl 0 rfl) ?_
      refine x_get (pc := 17) X E hI inX9 0 rfl rfl 10 (by decide) tw_2_17 rfl dX9_judge_17 ?_
      refine lv_iload_n (pc := 20) hx hb dX9_judge_20 rfl (lv_at hl 2 rfl) ?_
      exact nomatch hf
    · have hf := q_ip c4 hf
      refine lv_iconst (pc := 14) (v := (-1)) hx hb dX9_judge_14 (by decide) ?_
      obtain rfl := Option.some.inj hf
      exact x_iret X hI dX9_judge_15

abbrev rm_X9_tape_t : Room := { frames := 1, cells := 0, slots := 0, locals := 23 }
set_option maxHeartbeats 4000000 in
set_option maxRecDepth 100000 in
theorem c_X9_tape_t (l : Launch) (G : GX) (h : Nat → Nat) {l1 : Int32} {l2 : Int32} {l3 : Int32} {k_sort : Int32} {k_length : Int32} {k_items : Nat → Int64} {x_hasImage : Int32} {f_places : Int32} {f_kinds : Int32} {f_weights : Nat → Int32} {f_howManyGenerators : Int32} {f_generators : Nat → Int32} {f_racks : Nat → Int32} {f_howManySeen : Int32} {f_seenFirst : Nat → Int32} {f_seenSecond : Nat → Int32} {f_seenIs : Nat → Int32} {f_seenPlaces : Nat → Int32} {f_howManyEvents : Int32} {f_eventWhat : Nat → Int32} {f_eventNumber : Nat → Int32} {g_places : Int32} {g_kinds : Int32} {g_weights : Nat → Int32} {g_howManyGenerators : Int32} {g_generators : Nat → Int32} {g_racks : Nat → Int32} {g_howManySeen : Int32} {g_seenFirst : Nat → Int32} {g_seenSecond : Nat → Int32} {g_seenIs : Nat → Int32} {g_seenPlaces : Nat → Int32} {g_howManyEvents : Int32} {g_eventWhat : Nat → Int32} {g_eventNumber : Nat → Int32} {n_m0 : Nat} {n_m1 : Nat} {n_m2 : Nat} {n_s0 : Nat} {n_s1 : Nat} {n_s2 : Nat} {v_keys : Nat → Int32} {v_asFound : Nat → Int32} {v_found : Int32} {v_turns : Int32} {v_places : Int32} {p_keys : Nat → Int32} {p_asFound : Nat → Int32} {p_found : Int32} {p_turns : Int32} {p_places : Int32} {i_sort : Nat → Int32} {i_howOften : Nat → Int32} {i_sorts : Int32} {i_moves : Int32} {n_uq : Nat} {n_u : Nat} {u_leasts : Nat → Int32} {u_howMany : Int32} {u_known : Int32} {n_wq : Nat} {n_w : Nat} {w_leasts : Nat → Int32} {w_howMany : Int32} {w_known : Int32} {t_signs : Nat → Int32} {t_length : Int32} {t_whole : Int32} {t_begins : Nat → Int32} {t_ends : Nat → Int32} {r_sorts : Nat → Int32} {r_numbers : Nat → Int32} {r_length : Int32} {z_tp : Nat → Option Nat} {n_fa : Nat} {n_fi : Nat} {wo : va_W} {res : Int32 × Int32 × Int32 × (Nat → Int64)} (hf : f_X9_tape_t l1 l2 l3 k_sort k_length k_items = some res) (htp : q_rd z_tp 6 l1 = some (some n_fa)) : MX l yX9_tape cX9_tape 4 (some .int) rm_X9_tape_t G ((xb G h x_hasImage f_places f_kinds f_weights f_howManyGenerators f_generators f_racks f_howManySeen f_seenFirst f_seenSecond f_seenIs f_seenPlaces f_howManyEvents f_eventWhat f_eventNumber g_places g_kinds g_weights g_howManyGenerators g_generators g_racks g_howManySeen g_seenFirst g_seenSecond g_seenIs g_seenPlaces g_howManyEvents g_eventWhat g_eventNumber n_m0 n_m1 n_m2 n_s0 n_s1 n_s2 v_keys v_asFound v_found v_turns v_places p_keys p_asFound p_found p_turns p_places i_sort i_howOften i_sorts i_moves n_uq n_u u_leasts u_howMany u_known n_wq n_w w_leasts w_howMany w_known t_signs t_length t_whole t_begins t_ends r_sorts r_numbers r_length) ++ ((tt G h z_tp n_fa n_fi k_sort k_length k_items) ++ wo)) [.ref (h 0), .int l1, .int l2, .int l3] ((xb G h x_hasImage f_places f_kinds f_weights f_howManyGenerators f_generators f_racks f_howManySeen f_seenFirst f_seenSecond f_seenIs f_seenPlaces f_howManyEvents f_eventWhat f_eventNumber g_places g_kinds g_weights g_howManyGenerators g_generators g_racks g_howManySeen g_seenFirst g_seenSecond g_seenIs g_seenPlaces g_howManyEvents g_eventWhat g_eventNumber n_m0 n_m1 n_m2 n_s0 n_s1 n_s2 v_keys v_asFound v_found v_turns v_places p_keys p_asFound p_found p_turns p_places i_sort i_howOften i_sorts i_moves n_uq n_u u_leasts u_howMany u_known n_wq n_w w_leasts w_howMany w_known t_signs t_length t_whole t_begins t_ends r_sorts r_numbers r_length) ++ ((tt G h z_tp n_fa n_fi res.2.1 res.2.2.1 res.2.2.2) ++ wo)) (some (.int res.1)) 0 0 := by
  refine MX.of (plainFor_of_name (by decide)) (Nat.le_of_ble_eq_true rfl) ?_
  intro p e s m below meth c A X E hI ls hl
  obtain ⟨hx, hb, hml, hown, hts, hr, hlk⟩ := id X
  have hl : lv_has ls 4 [(0, .ref (h 0)), (1, .int l1), (2, .int l2), (3, .int l3)] := hl
  unfold f_X9_tape_t at hf
  refine lv_iload_n (pc := 0) hx hb dX9_tape_0 rfl (lv_at hl 1 rfl) ?_
  obtain ⟨t1, e1, hf⟩ := q_ob hf
  refine x_cSn (pc := 1) (st1 := [.int t1]) X E hI (c_X9_isTape l G e1) ks_X9_285 hd_X9_isTape ⟨rfl, rfl⟩ (by decide) rfl hl.1 rfl (Nat.le_of_ble_eq_true rfl) dX9_tape_1 ⟨Nat.le_of_ble_eq_true rfl, Nat.le_of_ble_eq_true rfl⟩ rfl (fun H locs hI => ?_)
  refine lv_if_ne (pc := 4) (tgt := 9) hx hb dX9_tape_4 (by decide) (fun c2 => ?_) (fun c2 => ?_)
  · have hf := q_in c2 hf
    refine lv_iload_n (pc := 9) hx hb dX9_tape_9 rfl (lv_at hl 2 rfl) ?_
    refine lv_iconst (pc := 10) (v := (-1)) hx hb dX9_tape_10 (by decide) ?_
    refine lv_icmp_ne (pc := 11) (tgt := 27) hx hb dX9_tape_11 (by decide) (fun c3 => ?_) (fun c3 => ?_)
    · have hf := q_in c3 hf
      refine lv_iload_n (pc := 27) hx hb dX9_tape_27 rfl (lv_at hl 2 rfl) ?_
      refine lv_if_lt (pc := 28) (tgt := 42) hx hb dX9_tape_28 (by decide) (fun c4 => ?_) (fun c4 => ?_)
      · have hf := q_ip c4 hf
        refine lv_bipush (pc := 42) (v := (-2)) hx hb dX9_tape_42 (by decide) ?_
        obtain rfl := Option.some.inj hf
        exact x_iret X hI dX9_tape_44
      · have hf := q_in c4 hf
        refine lv_iload_n (pc := 31) hx hb dX9_tape_31 rfl (lv_at hl 2 rfl) ?_
        refine lv_iconst (pc := 32) (v := 4) hx hb dX9_tape_32 (by decide) ?_
        refine lv_icmp_gt (pc := 33) (tgt := 42) hx hb dX9_tape_33 (by decide) (fun c5 => ?_) (fun c5 => ?_)
        · have hf := q_ip c5 hf
          refine lv_bipush (pc := 42) (v := (-2)) hx hb dX9_tape_42 (by decide) ?_
          obtain rfl := Option.some.inj hf
          exact x_iret X hI dX9_tape_44
        · have hf := q_in c5 hf
          refine lv_iload_n (pc := 36) hx hb dX9_tape_36 rfl (lv_at hl 3 rfl) ?_
          refine lv_bipush (pc := 37) (v := 60) hx hb dX9_tape_37 (by decide) ?_
          refine lv_icmp_le (pc := 39) (tgt := 45) hx hb dX9_tape_39 (by decide) (fun c6 => ?_) (fun c6 => ?_)
          · have hf := q_ip c6 hf
            refine lv_iload_n (pc := 45) hx hb dX9_tape_45 rfl (lv_at hl 3 rfl) ?_
            refine lv_if_ge (pc := 46) (tgt := 52) hx hb dX9_tape_46 (by decide) (fun c7 => ?_) (fun c7 => ?_)
            · have hf := q_ip c7 hf
              refine lv_aload_n (pc := 52) hx hb dX9_tape_52 rfl (lv_at hl 0 rfl) ?_
              refine x_get (pc := 53) X E hI inX9 0 rfl rfl 10 (by decide) tw_2_17 rfl dX9_tape_53 ?_
              refine lv_iload_n (pc := 56) hx hb dX9_tape_56 rfl (lv_at hl 1 rfl) ?_
              refine x_aald (pc := 57) X E hI 41 rfl htp dX9_tape_57 ?_
              refine lv_iload_n (pc := 58) hx hb dX9_tape_58 rfl (lv_at hl 2 rfl) ?_
              refine lv_iload_n (pc := 59) hx hb dX9_tape_59 rfl (lv_at hl 3 rfl) ?_
              obtain ⟨t8, e8, hf⟩ := q_ob hf
              have hI : IN A G (((xb G h x_hasImage f_places f_kinds f_weights f_howManyGenerators f_generators f_racks f_howManySeen f_seenFirst f_seenSecond f_seenIs f_seenPlaces f_howManyEvents f_eventWhat f_eventNumber g_places g_kinds g_weights g_howManyGenerators g_generators g_racks g_howManySeen g_seenFirst g_seenSecond g_seenIs g_seenPlaces g_howManyEvents g_eventWhat g_eventNumber n_m0 n_m1 n_m2 n_s0 n_s1 n_s2 v_keys v_asFound v_found v_turns v_places p_keys p_asFound p_found p_turns p_places i_sort i_howOften i_sorts i_moves n_uq n_u u_leasts u_howMany u_known n_wq n_w w_leasts w_howMany w_known t_signs t_length t_whole t_begins t_ends r_sorts r_numbers r_length) ++ (tt G h z_tp n_fa n_fi k_sort k_length k_items)) ++ wo) s H locs := hI
              refine x_cVt (pc := 60) (st1 := []) (w2 := ((xb G h x_hasImage f_places f_kinds f_weights f_howManyGenerators f_generators f_racks f_howManySeen f_seenFirst f_seenSecond f_seenIs f_seenPlaces f_howManyEvents f_eventWhat f_eventNumber g_places g_kinds g_weights g_howManyGenerators g_generators g_racks g_howManySeen g_seenFirst g_seenSecond g_seenIs g_seenPlaces g_howManyEvents g_eventWhat g_eventNumber n_m0 n_m1 n_m2 n_s0 n_s1 n_s2 v_keys v_asFound v_found v_turns v_places p_keys p_asFound p_found p_turns p_places i_sort i_howOften i_sorts i_moves n_uq n_u u_leasts u_howMany u_known n_wq n_w w_leasts w_howMany w_known t_signs t_length t_whole t_begins t_ends r_sorts r_numbers r_length) ++ (tt G h z_tp n_fa n_fi t8.1 t8.2.1 t8.2.2))) X E hI (c_X6_hold l G n_fa n_fi e8) kv_X9_306 hd_X6_hold ⟨rfl, rfl⟩ (by decide) pt_xbtt_kw_0 pt_xbtt_kw_0q 0 rfl rfl rfl rfl hl.1 rfl (Nat.le_of_ble_eq_true rfl) dX9_tape_60 ⟨Nat.le_of_ble_eq_true rfl, Nat.le_of_ble_eq_true rfl⟩ rfl (fun H locs hI => ?_)
              have hI : IN A G ((xb G h x_hasImage f_places f_kinds f_weights f_howManyGenerators f_generators f_racks f_howManySeen f_seenFirst f_seenSecond f_seenIs f_seenPlaces f_howManyEvents f_eventWhat f_eventNumber g_places g_kinds g_weights g_howManyGenerators g_generators g_racks g_howManySeen g_seenFirst g_seenSecond g_seenIs g_seenPlaces g_howManyEvents g_eventWhat g_eventNumber n_m0 n_m1 n_m2 n_s0 n_s1 n_s2 v_keys v_asFound v_found v_turns v_places p_keys p_asFound p_found p_turns p_places i_sort i_howOften i_sorts i_moves n_uq n_u u_leasts u_howMany u_known n_wq n_w w_leasts w_howMany w_known t_signs t_length t_whole t_begins t_ends r_sorts r_numbers r_length) ++ ((tt G h z_tp n_fa n_fi t8.1 t8.2.1 t8.2.2) ++ wo)) s H locs := hI
              refine lv_iconst (pc := 63) (v := 1) hx hb dX9_tape_63 (by decide) ?_
              obtain rfl := Option.some.inj hf
              exact x_iret X hI dX9_tape_64
            · have hf := q_in c7 hf
              refine lv_bipush (pc := 49) (v := (-14)) hx hb dX9_tape_49 (by decide) ?_
              obtain rfl := Option.some.inj hf
              exact x_iret X hI dX9_tape_51
          · have hf := q_in c6 hf
            refine lv_bipush (pc := 42) (v := (-2)) hx hb dX9_tape_42 (by decide) ?_
            obtain rfl := Option.some.inj hf
            exact x_iret X hI dX9_tape_44
    · have hf := q_ip c3 hf
      refine lv_aload_n (pc := 14) hx hb dX9_tape_14 rfl (lv_at hl 0 rfl) ?_
      refine x_get (pc := 15) X E hI inX9 0 rfl rfl 10 (by decide) tw_2_17 rfl dX9_tape_15 ?_
      refine lv_iload_n (pc := 18) hx hb dX9_tape_18 rfl (lv_at hl 1 rfl) ?_
      refine x_aald (pc := 19) X E hI 41 rfl htp dX9_tape_19 ?_
      refine lv_iload_n (pc := 20) hx hb dX9_tape_20 rfl (lv_at hl 2 rfl) ?_
      refine lv_iconst (pc := 21) (v := 0) hx hb dX9_tape_21 (by decide) ?_
      obtain ⟨t9, e9, hf⟩ := q_ob hf
      have hI : IN A G (((xb G h x_hasImage f_places f_kinds f_weights f_howManyGenerators f_generators f_racks f_howManySeen f_seenFirst f_seenSecond f_seenIs f_seenPlaces f_howManyEvents f_eventWhat f_eventNumber g_places g_kinds g_weights g_howManyGenerators g_generators g_racks g_howManySeen g_seenFirst g_seenSecond g_seenIs g_seenPlaces g_howManyEvents g_eventWhat g_eventNumber n_m0 n_m1 n_m2 n_s0 n_s1 n_s2 v_keys v_asFound v_found v_turns v_places p_keys p_asFound p_found p_turns p_places i_sort i_howOften i_sorts i_moves n_uq n_u u_leasts u_howMany u_known n_wq n_w w_leasts w_howMany w_known t_signs t_length t_whole t_begins t_ends r_sorts r_numbers r_length) ++ (tt G h z_tp n_fa n_fi k_sort k_length k_items)) ++ wo) s H locs := hI
      refine x_cVt (pc := 22) (st1 := []) (w2 := ((xb G h x_hasImage f_places f_kinds f_weights f_howManyGenerators f_generators f_racks f_howManySeen f_seenFirst f_seenSecond f_seenIs f_seenPlaces f_howManyEvents f_eventWhat f_eventNumber g_places g_kinds g_weights g_howManyGenerators g_generators g_racks g_howManySeen g_seenFirst g_seenSecond g_seenIs g_seenPlaces g_howManyEvents g_eventWhat g_eventNumber n_m0 n_m1 n_m2 n_s0 n_s1 n_s2 v_keys v_asFound v_found v_turns v_places p_keys p_asFound p_found p_turns p_places i_sort i_howOften i_sorts i_moves n_uq n_u u_leasts u_howMany u_known n_wq n_w w_leasts w_howMany w_known t_signs t_length t_whole t_begins t_ends r_sorts r_numbers r_length) ++ (tt G h z_tp n_fa n_fi t9.1 t9.2.1 t9.2.2))) X E hI (c_X6_hold l G n_fa n_fi e9) kv_X9_306 hd_X6_hold ⟨rfl, rfl⟩ (by decide) pt_xbtt_kw_0 pt_xbtt_kw_0q 0 rfl rfl rfl rfl hl.1 rfl (Nat.le_of_ble_eq_true rfl) dX9_tape_22 ⟨Nat.le_of_ble_eq_true rfl, Nat.le_of_ble_eq_true rfl⟩ rfl (fun H locs hI => ?_)
      have hI : IN A G ((xb G h x_hasImage f_places f_kinds f_weights f_howManyGenerators f_generators f_racks f_howManySeen f_seenFirst f_seenSecond f_seenIs f_seenPlaces f_howManyEvents f_eventWhat f_eventNumber g_places g_kinds g_weights g_howManyGenerators g_generators g_racks g_howManySeen g_seenFirst g_seenSecond g_seenIs g_seenPlaces g_howManyEvents g_eventWhat g_eventNumber n_m0 n_m1 n_m2 n_s0 n_s1 n_s2 v_keys v_asFound v_found v_turns v_places p_keys p_asFound p_found p_turns p_places i_sort i_howOften i_sorts i_moves n_uq n_u u_leasts u_howMany u_known n_wq n_w w_leasts w_howMany w_known t_signs t_length t_whole t_begins t_ends r_sorts r_numbers r_length) ++ ((tt G h z_tp n_fa n_fi t9.1 t9.2.1 t9.2.2) ++ wo)) s H locs := hI
      refine lv_iconst (pc := 25) (v := 1) hx hb dX9_tape_25 (by decide) ?_
      obtain rfl := Option.some.inj hf
      exact x_iret X hI dX9_tape_26
  · have hf := q_ip c2 hf
    refine lv_iconst (pc := 7) (v := (-1)) hx hb dX9_tape_7 (by decide) ?_
    obtain rfl := Option.some.inj hf
    exact x_iret X hI dX9_tape_8

abbrev rm_X9_tape_n : Room := { frames := 1, cells := 0, slots := 0, locals := 20 }
set_option maxHeartbeats 4000000 in
set_option maxRecDepth 100000 in
theorem c_X9_tape_n (l : Launch) (G : GX) (h : Nat → Nat) {l1 : Int32} {l2 : Int32} {l3 : Int32} {x_hasImage : Int32} {f_places : Int32} {f_kinds : Int32} {f_weights : Nat → Int32} {f_howManyGenerators : Int32} {f_generators : Nat → Int32} {f_racks : Nat → Int32} {f_howManySeen : Int32} {f_seenFirst : Nat → Int32} {f_seenSecond : Nat → Int32} {f_seenIs : Nat → Int32} {f_seenPlaces : Nat → Int32} {f_howManyEvents : Int32} {f_eventWhat : Nat → Int32} {f_eventNumber : Nat → Int32} {g_places : Int32} {g_kinds : Int32} {g_weights : Nat → Int32} {g_howManyGenerators : Int32} {g_generators : Nat → Int32} {g_racks : Nat → Int32} {g_howManySeen : Int32} {g_seenFirst : Nat → Int32} {g_seenSecond : Nat → Int32} {g_seenIs : Nat → Int32} {g_seenPlaces : Nat → Int32} {g_howManyEvents : Int32} {g_eventWhat : Nat → Int32} {g_eventNumber : Nat → Int32} {n_m0 : Nat} {n_m1 : Nat} {n_m2 : Nat} {n_s0 : Nat} {n_s1 : Nat} {n_s2 : Nat} {v_keys : Nat → Int32} {v_asFound : Nat → Int32} {v_found : Int32} {v_turns : Int32} {v_places : Int32} {p_keys : Nat → Int32} {p_asFound : Nat → Int32} {p_found : Int32} {p_turns : Int32} {p_places : Int32} {i_sort : Nat → Int32} {i_howOften : Nat → Int32} {i_sorts : Int32} {i_moves : Int32} {n_uq : Nat} {n_u : Nat} {u_leasts : Nat → Int32} {u_howMany : Int32} {u_known : Int32} {n_wq : Nat} {n_w : Nat} {w_leasts : Nat → Int32} {w_howMany : Int32} {w_known : Int32} {t_signs : Nat → Int32} {t_length : Int32} {t_whole : Int32} {t_begins : Nat → Int32} {t_ends : Nat → Int32} {r_sorts : Nat → Int32} {r_numbers : Nat → Int32} {r_length : Int32} {wo : va_W} {res : Int32} (hf : f_X9_tape_n l1 l2 l3 = some res) : MX l yX9_tape cX9_tape 4 (some .int) rm_X9_tape_n G ((xb G h x_hasImage f_places f_kinds f_weights f_howManyGenerators f_generators f_racks f_howManySeen f_seenFirst f_seenSecond f_seenIs f_seenPlaces f_howManyEvents f_eventWhat f_eventNumber g_places g_kinds g_weights g_howManyGenerators g_generators g_racks g_howManySeen g_seenFirst g_seenSecond g_seenIs g_seenPlaces g_howManyEvents g_eventWhat g_eventNumber n_m0 n_m1 n_m2 n_s0 n_s1 n_s2 v_keys v_asFound v_found v_turns v_places p_keys p_asFound p_found p_turns p_places i_sort i_howOften i_sorts i_moves n_uq n_u u_leasts u_howMany u_known n_wq n_w w_leasts w_howMany w_known t_signs t_length t_whole t_begins t_ends r_sorts r_numbers r_length) ++ wo) [.ref (h 0), .int l1, .int l2, .int l3] ((xb G h x_hasImage f_places f_kinds f_weights f_howManyGenerators f_generators f_racks f_howManySeen f_seenFirst f_seenSecond f_seenIs f_seenPlaces f_howManyEvents f_eventWhat f_eventNumber g_places g_kinds g_weights g_howManyGenerators g_generators g_racks g_howManySeen g_seenFirst g_seenSecond g_seenIs g_seenPlaces g_howManyEvents g_eventWhat g_eventNumber n_m0 n_m1 n_m2 n_s0 n_s1 n_s2 v_keys v_asFound v_found v_turns v_places p_keys p_asFound p_found p_turns p_places i_sort i_howOften i_sorts i_moves n_uq n_u u_leasts u_howMany u_known n_wq n_w w_leasts w_howMany w_known t_signs t_length t_whole t_begins t_ends r_sorts r_numbers r_length) ++ wo) (some (.int res)) 0 0 := by
  refine MX.of (plainFor_of_name (by decide)) (Nat.le_of_ble_eq_true rfl) ?_
  intro p e s m below meth c A X E hI ls hl
  obtain ⟨hx, hb, hml, hown, hts, hr, hlk⟩ := id X
  have hl : lv_has ls 4 [(0, .ref (h 0)), (1, .int l1), (2, .int l2), (3, .int l3)] := hl
  unfold f_X9_tape_n at hf
  refine lv_iload_n (pc := 0) hx hb dX9_tape_0 rfl (lv_at hl 1 rfl) ?_
  obtain ⟨t1, e1, hf⟩ := q_ob hf
  refine x_cSn (pc := 1) (st1 := [.int t1]) X E hI (c_X9_isTape l G e1) ks_X9_285 hd_X9_isTape ⟨rfl, rfl⟩ (by decide) rfl hl.1 rfl (Nat.le_of_ble_eq_true rfl) dX9_tape_1 ⟨Nat.le_of_ble_eq_true rfl, Nat.le_of_ble_eq_true rfl⟩ rfl (fun H locs hI => ?_)
  refine lv_if_ne (pc := 4) (tgt := 9) hx hb dX9_tape_4 (by decide) (fun c2 => ?_) (fun c2 => ?_)
  · have hf := q_in c2 hf
    refine lv_iload_n (pc := 9) hx hb dX9_tape_9 rfl (lv_at hl 2 rfl) ?_
    refine lv_iconst (pc := 10) (v := (-1)) hx hb dX9_tape_10 (by decide) ?_
    refine lv_icmp_ne (pc := 11) (tgt := 27) hx hb dX9_tape_11 (by decide) (fun c3 => ?_) (fun c3 => ?_)
    · have hf := q_in c3 hf
      refine lv_iload_n (pc := 27) hx hb dX9_tape_27 rfl (lv_at hl 2 rfl) ?_
      refine lv_if_lt (pc := 28) (tgt := 42) hx hb dX9_tape_28 (by decide) (fun c4 => ?_) (fun c4 => ?_)
      · have hf := q_ip c4 hf
        refine lv_bipush (pc := 42) (v := (-2)) hx hb dX9_tape_42 (by decide) ?_
        obtain rfl := Option.some.inj hf
        exact x_iret X hI dX9_tape_44
      · have hf := q_in c4 hf
        refine lv_iload_n (pc := 31) hx hb dX9_tape_31 rfl (lv_at hl 2 rfl) ?_
        refine lv_iconst (pc := 32) (v := 4) hx hb dX9_tape_32 (by decide) ?_
        refine lv_icmp_gt (pc := 33) (tgt := 42) hx hb dX9_tape_33 (by decide) (fun c5 => ?_) (fun c5 => ?_)
        · have hf := q_ip c5 hf
          refine lv_bipush (pc := 42) (v := (-2)) hx hb dX9_tape_42 (by decide) ?_
          obtain rfl := Option.some.inj hf
          exact x_iret X hI dX9_tape_44
        · have hf := q_in c5 hf
          refine lv_iload_n (pc := 36) hx hb dX9_tape_36 rfl (lv_at hl 3 rfl) ?_
          refine lv_bipush (pc := 37) (v := 60) hx hb dX9_tape_37 (by decide) ?_
          refine lv_icmp_le (pc := 39) (tgt := 45) hx hb dX9_tape_39 (by decide) (fun c6 => ?_) (fun c6 => ?_)
          · have hf := q_ip c6 hf
            refine lv_iload_n (pc := 45) hx hb dX9_tape_45 rfl (lv_at hl 3 rfl) ?_
            refine lv_if_ge (pc := 46) (tgt := 52) hx hb dX9_tape_46 (by decide) (fun c7 => ?_) (fun c7 => ?_)
            · have hf := q_ip c7 hf
              refine lv_aload_n (pc := 52) hx hb dX9_tape_52 rfl (lv_at hl 0 rfl) ?_
              refine x_get (pc := 53) X E hI inX9 0 rfl rfl 10 (by decide) tw_2_17 rfl dX9_tape_53 ?_
              refine lv_iload_n (pc := 56) hx hb dX9_tape_56 rfl (lv_at hl 1 rfl) ?_
              exact nomatch hf
            · have hf := q_in c7 hf
              refine lv_bipush (pc := 49) (v := (-14)) hx hb dX9_tape_49 (by decide) ?_
              obtain rfl := Option.some.inj hf
              exact x_iret X hI dX9_tape_51
          · have hf := q_in c6 hf
            refine lv_bipush (pc := 42) (v := (-2)) hx hb dX9_tape_42 (by decide) ?_
            obtain rfl := Option.some.inj hf
            exact x_iret X hI dX9_tape_44
    · have hf := q_ip c3 hf
      refine lv_aload_n (pc := 14) hx hb dX9_tape_14 rfl (lv_at hl 0 rfl) ?_
      refine x_get (pc := 15) X E hI inX9 0 rfl rfl 10 (by decide) tw_2_17 rfl dX9_tape_15 ?_
      refine lv_iload_n (pc := 18) hx hb dX9_tape_18 rfl (lv_at hl 1 rfl) ?_
      exact nomatch hf
  · have hf := q_ip c2 hf
    refine lv_iconst (pc := 7) (v := (-1)) hx hb dX9_tape_7 (by decide) ?_
    obtain rfl := Option.some.inj hf
    exact x_iret X hI dX9_tape_8

abbrev rm_X9_item_t : Room := { frames := 1, cells := 0, slots := 0, locals := 22 }
set_option maxHeartbeats 4000000 in
set_option maxRecDepth 100000 in
theorem c_X9_item_t (l : Launch) (G : GX) (h : Nat → Nat) {l1 : Int32} {l2 : Int32} {l3 : Int64} {k_sort : Int32} {k_length : Int32} {k_items : Nat → Int64} {x_hasImage : Int32} {f_places : Int32} {f_kinds : Int32} {f_weights : Nat → Int32} {f_howManyGenerators : Int32} {f_generators : Nat → Int32} {f_racks : Nat → Int32} {f_howManySeen : Int32} {f_seenFirst : Nat → Int32} {f_seenSecond : Nat → Int32} {f_seenIs : Nat → Int32} {f_seenPlaces : Nat → Int32} {f_howManyEvents : Int32} {f_eventWhat : Nat → Int32} {f_eventNumber : Nat → Int32} {g_places : Int32} {g_kinds : Int32} {g_weights : Nat → Int32} {g_howManyGenerators : Int32} {g_generators : Nat → Int32} {g_racks : Nat → Int32} {g_howManySeen : Int32} {g_seenFirst : Nat → Int32} {g_seenSecond : Nat → Int32} {g_seenIs : Nat → Int32} {g_seenPlaces : Nat → Int32} {g_howManyEvents : Int32} {g_eventWhat : Nat → Int32} {g_eventNumber : Nat → Int32} {n_m0 : Nat} {n_m1 : Nat} {n_m2 : Nat} {n_s0 : Nat} {n_s1 : Nat} {n_s2 : Nat} {v_keys : Nat → Int32} {v_asFound : Nat → Int32} {v_found : Int32} {v_turns : Int32} {v_places : Int32} {p_keys : Nat → Int32} {p_asFound : Nat → Int32} {p_found : Int32} {p_turns : Int32} {p_places : Int32} {i_sort : Nat → Int32} {i_howOften : Nat → Int32} {i_sorts : Int32} {i_moves : Int32} {n_uq : Nat} {n_u : Nat} {u_leasts : Nat → Int32} {u_howMany : Int32} {u_known : Int32} {n_wq : Nat} {n_w : Nat} {w_leasts : Nat → Int32} {w_howMany : Int32} {w_known : Int32} {t_signs : Nat → Int32} {t_length : Int32} {t_whole : Int32} {t_begins : Nat → Int32} {t_ends : Nat → Int32} {r_sorts : Nat → Int32} {r_numbers : Nat → Int32} {r_length : Int32} {z_tp : Nat → Option Nat} {n_fa : Nat} {n_fi : Nat} {wo : va_W} {res : Int32 × (Nat → Int64)} (hf : f_X9_item_t l1 l2 l3 k_sort k_length k_items = some res) (htp : q_rd z_tp 6 l1 = some (some n_fa)) : MX l yX9_item cX9_item 6 (some .int) rm_X9_item_t G ((xb G h x_hasImage f_places f_kinds f_weights f_howManyGenerators f_generators f_racks f_howManySeen f_seenFirst f_seenSecond f_seenIs f_seenPlaces f_howManyEvents f_eventWhat f_eventNumber g_places g_kinds g_weights g_howManyGenerators g_generators g_racks g_howManySeen g_seenFirst g_seenSecond g_seenIs g_seenPlaces g_howManyEvents g_eventWhat g_eventNumber n_m0 n_m1 n_m2 n_s0 n_s1 n_s2 v_keys v_asFound v_found v_turns v_places p_keys p_asFound p_found p_turns p_places i_sort i_howOften i_sorts i_moves n_uq n_u u_leasts u_howMany u_known n_wq n_w w_leasts w_howMany w_known t_signs t_length t_whole t_begins t_ends r_sorts r_numbers r_length) ++ ((tt G h z_tp n_fa n_fi k_sort k_length k_items) ++ wo)) [.ref (h 0), .int l1, .int l2, .long l3] ((xb G h x_hasImage f_places f_kinds f_weights f_howManyGenerators f_generators f_racks f_howManySeen f_seenFirst f_seenSecond f_seenIs f_seenPlaces f_howManyEvents f_eventWhat f_eventNumber g_places g_kinds g_weights g_howManyGenerators g_generators g_racks g_howManySeen g_seenFirst g_seenSecond g_seenIs g_seenPlaces g_howManyEvents g_eventWhat g_eventNumber n_m0 n_m1 n_m2 n_s0 n_s1 n_s2 v_keys v_asFound v_found v_turns v_places p_keys p_asFound p_found p_turns p_places i_sort i_howOften i_sorts i_moves n_uq n_u u_leasts u_howMany u_known n_wq n_w w_leasts w_howMany w_known t_signs t_length t_whole t_begins t_ends r_sorts r_numbers r_length) ++ ((tt G h z_tp n_fa n_fi k_sort k_length res.2) ++ wo)) (some (.int res.1)) 0 0 := by
  refine MX.of (plainFor_of_name (by decide)) (Nat.le_of_ble_eq_true rfl) ?_
  intro p e s m below meth c A X E hI ls hl
  obtain ⟨hx, hb, hml, hown, hts, hr, hlk⟩ := id X
  have hl : lv_has ls 6 [(0, .ref (h 0)), (1, .int l1), (2, .int l2), (3, .long l3)] := hl
  unfold f_X9_item_t at hf
  refine lv_iload_n (pc := 0) hx hb dX9_item_0 rfl (lv_at hl 1 rfl) ?_
  obtain ⟨t1, e1, hf⟩ := q_ob hf
  refine x_cSn (pc := 1) (st1 := [.int t1]) X E hI (c_X9_isTape l G e1) ks_X9_285 hd_X9_isTape ⟨rfl, rfl⟩ (by decide) rfl hl.1 rfl (Nat.le_of_ble_eq_true rfl) dX9_item_1 ⟨Nat.le_of_ble_eq_true rfl, Nat.le_of_ble_eq_true rfl⟩ rfl (fun H locs hI => ?_)
  refine lv_if_ne (pc := 4) (tgt := 9) hx hb dX9_item_4 (by decide) (fun c2 => ?_) (fun c2 => ?_)
  · have hf := q_in c2 hf
    refine lv_aload_n (pc := 9) hx hb dX9_item_9 rfl (lv_at hl 0 rfl) ?_
    refine x_get (pc := 10) X E hI inX9 0 rfl rfl 10 (by decide) tw_2_17 rfl dX9_item_10 ?_
    refine lv_iload_n (pc := 13) hx hb dX9_item_13 rfl (lv_at hl 1 rfl) ?_
    refine x_aald (pc := 14) X E hI 41 rfl htp dX9_item_14 ?_
    refine lv_astore (pc := 15) (lv' := [(5, .ref n_fa), (0, .ref (h 0)), (1, .int l1), (2, .int l2), (3, .long l3)]) hx hb dX9_item_15 hl (by decide) rfl (fun ls hl => ?_)
    refine lv_aload (pc := 17) hx hb dX9_item_17 (lv_at hl 0 rfl) ?_
    obtain ⟨t3, e3, hf⟩ := q_ob hf
    have hI : IN A G (((xb G h x_hasImage f_places f_kinds f_weights f_howManyGenerators f_generators f_racks f_howManySeen f_seenFirst f_seenSecond f_seenIs f_seenPlaces f_howManyEvents f_eventWhat f_eventNumber g_places g_kinds g_weights g_howManyGenerators g_generators g_racks g_howManySeen g_seenFirst g_seenSecond g_seenIs g_seenPlaces g_howManyEvents g_eventWhat g_eventNumber n_m0 n_m1 n_m2 n_s0 n_s1 n_s2 v_keys v_asFound v_found v_turns v_places p_keys p_asFound p_found p_turns p_places i_sort i_howOften i_sorts i_moves n_uq n_u u_leasts u_howMany u_known n_wq n_w w_leasts w_howMany w_known t_signs t_length t_whole t_begins t_ends r_sorts r_numbers r_length) ++ (tt G h z_tp n_fa n_fi k_sort k_length k_items)) ++ wo) s H locs := hI
    refine x_cVt (pc := 19) (st1 := [.int t3]) (w2 := ((xb G h x_hasImage f_places f_kinds f_weights f_howManyGenerators f_generators f_racks f_howManySeen f_seenFirst f_seenSecond f_seenIs f_seenPlaces f_howManyEvents f_eventWhat f_eventNumber g_places g_kinds g_weights g_howManyGenerators g_generators g_racks g_howManySeen g_seenFirst g_seenSecond g_seenIs g_seenPlaces g_howManyEvents g_eventWhat g_eventNumber n_m0 n_m1 n_m2 n_s0 n_s1 n_s2 v_keys v_asFound v_found v_turns v_places p_keys p_asFound p_found p_turns p_places i_sort i_howOften i_sorts i_moves n_uq n_u u_leasts u_howMany u_known n_wq n_w w_leasts w_howMany w_known t_signs t_length t_whole t_begins t_ends r_sorts r_numbers r_length) ++ (tt G h z_tp n_fa n_fi k_sort k_length k_items))) X E hI (c_X6_holds l G n_fa n_fi e3) kv_X9_288 hd_X6_holds ⟨rfl, rfl⟩ (by decide) pt_xbtt_kw_0 pt_xbtt_kw_0q 0 rfl rfl rfl rfl hl.1 rfl (Nat.le_of_ble_eq_true rfl) dX9_item_19 ⟨Nat.le_of_ble_eq_true rfl, Nat.le_of_ble_eq_true rfl⟩ rfl (fun H locs hI => ?_)
    have hI : IN A G ((xb G h x_hasImage f_places f_kinds f_weights f_howManyGenerators f_generators f_racks f_howManySeen f_seenFirst f_seenSecond f_seenIs f_seenPlaces f_howManyEvents f_eventWhat f_eventNumber g_places g_kinds g_weights g_howManyGenerators g_generators g_racks g_howManySeen g_seenFirst g_seenSecond g_seenIs g_seenPlaces g_howManyEvents g_eventWhat g_eventNumber n_m0 n_m1 n_m2 n_s0 n_s1 n_s2 v_keys v_asFound v_found v_turns v_places p_keys p_asFound p_found p_turns p_places i_sort i_howOften i_sorts i_moves n_uq n_u u_leasts u_howMany u_known n_wq n_w w_leasts w_howMany w_known t_signs t_length t_whole t_begins t_ends r_sorts r_numbers r_length) ++ ((tt G h z_tp n_fa n_fi k_sort k_length k_items) ++ wo)) s H locs := hI
    refine lv_if_ne (pc := 22) (tgt := 28) hx hb dX9_item_22 (by decide) (fun c4 => ?_) (fun c4 => ?_)
    · have hf := q_in c4 hf
      refine lv_iload_n (pc := 28) hx hb dX9_item_28 rfl (lv_at hl 3 rfl) ?_
      refine lv_if_lt (pc := 29) (tgt := 41) hx hb dX9_item_29 (by decide) (fun c5 => ?_) (fun c5 => ?_)
      · have hf := q_ip c5 hf
        refine lv_bipush (pc := 41) (v := (-13)) hx hb dX9_item_41 (by decide) ?_
        obtain rfl := Option.some.inj hf
        exact x_iret X hI dX9_item_43
      · have hf := q_in c5 hf
        refine lv_iload_n (pc := 32) hx hb dX9_item_32 rfl (lv_at hl 3 rfl) ?_
        refine lv_aload (pc := 33) hx hb dX9_item_33 (lv_at hl 0 rfl) ?_
        refine x_get (pc := 35) X E hI inX6 42 rfl rfl 1 (by decide) tw_1_215 rfl dX9_item_35 ?_
        refine lv_icmp_lt (pc := 38) (tgt := 44) hx hb dX9_item_38 (by decide) (fun c6 => ?_) (fun c6 => ?_)
        · have hf := q_ip c6 hf
          refine lv_aload (pc := 44) hx hb dX9_item_44 (lv_at hl 0 rfl) ?_
          refine x_get (pc := 46) X E hI inX6 42 rfl rfl 2 (by decide) tw_1_217 rfl dX9_item_46 ?_
          refine lv_iload_n (pc := 49) hx hb dX9_item_49 rfl (lv_at hl 3 rfl) ?_
          refine lv_aload (pc := 50) hx hb dX9_item_50 (lv_at hl 0 rfl) ?_
          refine lv_lload_n (pc := 52) hx hb dX9_item_52 rfl (lv_at hl 4 rfl) ?_
          obtain ⟨t7, e7, hf⟩ := q_ob hf
          have hI : IN A G (((xb G h x_hasImage f_places f_kinds f_weights f_howManyGenerators f_generators f_racks f_howManySeen f_seenFirst f_seenSecond f_seenIs f_seenPlaces f_howManyEvents f_eventWhat f_eventNumber g_places g_kinds g_weights g_howManyGenerators g_generators g_racks g_howManySeen g_seenFirst g_seenSecond g_seenIs g_seenPlaces g_howManyEvents g_eventWhat g_eventNumber n_m0 n_m1 n_m2 n_s0 n_s1 n_s2 v_keys v_asFound v_found v_turns v_places p_keys p_asFound p_found p_turns p_places i_sort i_howOften i_sorts i_moves n_uq n_u u_leasts u_howMany u_known n_wq n_w w_leasts w_howMany w_known t_signs t_length t_whole t_begins t_ends r_sorts r_numbers r_length) ++ (tt G h z_tp n_fa n_fi k_sort k_length k_items)) ++ wo) s H locs := hI
          refine x_cVt (pc := 53) (st1 := [.long t7, .int l2, .ref n_fi]) (w2 := ((xb G h x_hasImage f_places f_kinds f_weights f_howManyGenerators f_generators f_racks f_howManySeen f_seenFirst f_seenSecond f_seenIs f_seenPlaces f_howManyEvents f_eventWhat f_eventNumber g_places g_kinds g_weights g_howManyGenerators g_generators g_racks g_howManySeen g_seenFirst g_seenSecond g_seenIs g_seenPlaces g_howManyEvents g_eventWhat g_eventNumber n_m0 n_m1 n_m2 n_s0 n_s1 n_s2 v_keys v_asFound v_found v_turns v_places p_keys p_asFound p_found p_turns p_places i_sort i_howOften i_sorts i_moves n_uq n_u u_leasts u_howMany u_known n_wq n_w w_leasts w_howMany w_known t_signs t_length t_whole t_begins t_ends r_sorts r_numbers r_length) ++ (tt G h z_tp n_fa n_fi k_sort k_length k_items))) X E hI (c_X6_cut l G n_fa n_fi e7) kv_X9_309 hd_X6_cut ⟨rfl, rfl⟩ (by decide) pt_xbtt_kw_0 pt_xbtt_kw_0q 0 rfl rfl rfl rfl hl.1 rfl (Nat.le_of_ble_eq_true rfl) dX9_item_53 ⟨Nat.le_of_ble_eq_true rfl, Nat.le_of_ble_eq_true rfl⟩ rfl (fun H locs hI => ?_)
          have hI : IN A G ((xb G h x_hasImage f_places f_kinds f_weights f_howManyGenerators f_generators f_racks f_howManySeen f_seenFirst f_seenSecond f_seenIs f_seenPlaces f_howManyEvents f_eventWhat f_eventNumber g_places g_kinds g_weights g_howManyGenerators g_generators g_racks g_howManySeen g_seenFirst g_seenSecond g_seenIs g_seenPlaces g_howManyEvents g_eventWhat g_eventNumber n_m0 n_m1 n_m2 n_s0 n_s1 n_s2 v_keys v_asFound v_found v_turns v_places p_keys p_asFound p_found p_turns p_places i_sort i_howOften i_sorts i_moves n_uq n_u u_leasts u_howMany u_known n_wq n_w w_leasts w_howMany w_known t_signs t_length t_whole t_begins t_ends r_sorts r_numbers r_length) ++ ((tt G h z_tp n_fa n_fi k_sort k_length k_items) ++ wo)) s H locs := hI
          obtain ⟨t8, e8, hf⟩ := q_ob hf
          refine x_last (pc := 56) (w' := ((xb G h x_hasImage f_places f_kinds f_weights f_howManyGenerators f_generators f_racks f_howManySeen f_seenFirst f_seenSecond f_seenIs f_seenPlaces f_howManyEvents f_eventWhat f_eventNumber g_places g_kinds g_weights g_howManyGenerators g_generators g_racks g_howManySeen g_seenFirst g_seenSecond g_seenIs g_seenPlaces g_howManyEvents g_eventWhat g_eventNumber n_m0 n_m1 n_m2 n_s0 n_s1 n_s2 v_keys v_asFound v_found v_turns v_places p_keys p_asFound p_found p_turns p_places i_sort i_howOften i_sorts i_moves n_uq n_u u_leasts u_howMany u_known n_wq n_w w_leasts w_howMany w_known t_signs t_length t_whole t_begins t_ends r_sorts r_numbers r_length) ++ ((tt G h z_tp n_fa n_fi k_sort k_length t8) ++ wo))) X E hI 43 rfl e8 rfl dX9_item_56 (fun H locs hI => ?_)
          refine lv_iconst (pc := 57) (v := 1) hx hb dX9_item_57 (by decide) ?_
          obtain rfl := Option.some.inj hf
          exact x_iret X hI dX9_item_58
        · have hf := q_in c6 hf
          refine lv_bipush (pc := 41) (v := (-13)) hx hb dX9_item_41 (by decide) ?_
          obtain rfl := Option.some.inj hf
          exact x_iret X hI dX9_item_43
    · have hf := q_ip c4 hf
      refine lv_bipush (pc := 25) (v := (-11)) hx hb dX9_item_25 (by decide) ?_
      obtain rfl := Option.some.inj hf
      exact x_iret X hI dX9_item_27
  · have hf := q_ip c2 hf
    refine lv_iconst (pc := 7) (v := (-1)) hx hb dX9_item_7 (by decide) ?_
    obtain rfl := Option.some.inj hf
    exact x_iret X hI dX9_item_8

abbrev rm_X9_item_n : Room := { frames := 1, cells := 0, slots := 0, locals := 20 }
set_option maxHeartbeats 4000000 in
set_option maxRecDepth 100000 in
theorem c_X9_item_n (l : Launch) (G : GX) (h : Nat → Nat) {l1 : Int32} {l2 : Int32} {l3 : Int64} {x_hasImage : Int32} {f_places : Int32} {f_kinds : Int32} {f_weights : Nat → Int32} {f_howManyGenerators : Int32} {f_generators : Nat → Int32} {f_racks : Nat → Int32} {f_howManySeen : Int32} {f_seenFirst : Nat → Int32} {f_seenSecond : Nat → Int32} {f_seenIs : Nat → Int32} {f_seenPlaces : Nat → Int32} {f_howManyEvents : Int32} {f_eventWhat : Nat → Int32} {f_eventNumber : Nat → Int32} {g_places : Int32} {g_kinds : Int32} {g_weights : Nat → Int32} {g_howManyGenerators : Int32} {g_generators : Nat → Int32} {g_racks : Nat → Int32} {g_howManySeen : Int32} {g_seenFirst : Nat → Int32} {g_seenSecond : Nat → Int32} {g_seenIs : Nat → Int32} {g_seenPlaces : Nat → Int32} {g_howManyEvents : Int32} {g_eventWhat : Nat → Int32} {g_eventNumber : Nat → Int32} {n_m0 : Nat} {n_m1 : Nat} {n_m2 : Nat} {n_s0 : Nat} {n_s1 : Nat} {n_s2 : Nat} {v_keys : Nat → Int32} {v_asFound : Nat → Int32} {v_found : Int32} {v_turns : Int32} {v_places : Int32} {p_keys : Nat → Int32} {p_asFound : Nat → Int32} {p_found : Int32} {p_turns : Int32} {p_places : Int32} {i_sort : Nat → Int32} {i_howOften : Nat → Int32} {i_sorts : Int32} {i_moves : Int32} {n_uq : Nat} {n_u : Nat} {u_leasts : Nat → Int32} {u_howMany : Int32} {u_known : Int32} {n_wq : Nat} {n_w : Nat} {w_leasts : Nat → Int32} {w_howMany : Int32} {w_known : Int32} {t_signs : Nat → Int32} {t_length : Int32} {t_whole : Int32} {t_begins : Nat → Int32} {t_ends : Nat → Int32} {r_sorts : Nat → Int32} {r_numbers : Nat → Int32} {r_length : Int32} {wo : va_W} {res : Int32} (hf : f_X9_item_n l1 l2 l3 = some res) : MX l yX9_item cX9_item 6 (some .int) rm_X9_item_n G ((xb G h x_hasImage f_places f_kinds f_weights f_howManyGenerators f_generators f_racks f_howManySeen f_seenFirst f_seenSecond f_seenIs f_seenPlaces f_howManyEvents f_eventWhat f_eventNumber g_places g_kinds g_weights g_howManyGenerators g_generators g_racks g_howManySeen g_seenFirst g_seenSecond g_seenIs g_seenPlaces g_howManyEvents g_eventWhat g_eventNumber n_m0 n_m1 n_m2 n_s0 n_s1 n_s2 v_keys v_asFound v_found v_turns v_places p_keys p_asFound p_found p_turns p_places i_sort i_howOften i_sorts i_moves n_uq n_u u_leasts u_howMany u_known n_wq n_w w_leasts w_howMany w_known t_signs t_length t_whole t_begins t_ends r_sorts r_numbers r_length) ++ wo) [.ref (h 0), .int l1, .int l2, .long l3] ((xb G h x_hasImage f_places f_kinds f_weights f_howManyGenerators f_generators f_racks f_howManySeen f_seenFirst f_seenSecond f_seenIs f_seenPlaces f_howManyEvents f_eventWhat f_eventNumber g_places g_kinds g_weights g_howManyGenerators g_generators g_racks g_howManySeen g_seenFirst g_seenSecond g_seenIs g_seenPlaces g_howManyEvents g_eventWhat g_eventNumber n_m0 n_m1 n_m2 n_s0 n_s1 n_s2 v_keys v_asFound v_found v_turns v_places p_keys p_asFound p_found p_turns p_places i_sort i_howOften i_sorts i_moves n_uq n_u u_leasts u_howMany u_known n_wq n_w w_leasts w_howMany w_known t_signs t_length t_whole t_begins t_ends r_sorts r_numbers r_length) ++ wo) (some (.int res)) 0 0 := by
  refine MX.of (plainFor_of_name (by decide)) (Nat.le_of_ble_eq_true rfl) ?_
  intro p e s m below meth c A X E hI ls hl
  obtain ⟨hx, hb, hml, hown, hts, hr, hlk⟩ := id X
  have hl : lv_has ls 6 [(0, .ref (h 0)), (1, .int l1), (2, .int l2), (3, .long l3)] := hl
  unfold f_X9_item_n at hf
  refine lv_iload_n (pc := 0) hx hb dX9_item_0 rfl (lv_at hl 1 rfl) ?_
  obtain ⟨t1, e1, hf⟩ := q_ob hf
  refine x_cSn (pc := 1) (st1 := [.int t1]) X E hI (c_X9_isTape l G e1) ks_X9_285 hd_X9_isTape ⟨rfl, rfl⟩ (by decide) rfl hl.1 rfl (Nat.le_of_ble_eq_true rfl) dX9_item_1 ⟨Nat.le_of_ble_eq_true rfl, Nat.le_of_ble_eq_true rfl⟩ rfl (fun H locs hI => ?_)
  refine lv_if_ne (pc := 4) (tgt := 9) hx hb dX9_item_4 (by decide) (fun c2 => ?_) (fun c2 => ?_)
  · have hf := q_in c2 hf
    refine lv_aload_n (pc := 9) hx hb dX9_item_9 rfl (lv_at hl 0 rfl) ?_
    refine x_get (pc := 10) X E hI inX9 0 rfl rfl 10 (by decide) tw_2_17 rfl dX9_item_10 ?_
    refine lv_iload_n (pc := 13) hx hb dX9_item_13 rfl (lv_at hl 1 rfl) ?_
    exact nomatch hf
  · have hf := q_ip c2 hf
    refine lv_iconst (pc := 7) (v := (-1)) hx hb dX9_item_7 (by decide) ?_
    obtain rfl := Option.some.inj hf
    exact x_iret X hI dX9_item_8

abbrev rm_X9_peek_t : Room := { frames := 1, cells := 0, slots := 0, locals := 20 }
set_option maxHeartbeats 4000000 in
set_option maxRecDepth 100000 in
theorem c_X9_peek_t (l : Launch) (G : GX) (h : Nat → Nat) {l1 : Int32} {l2 : Int32} {k_sort : Int32} {k_length : Int32} {k_items : Nat → Int64} {x_hasImage : Int32} {f_places : Int32} {f_kinds : Int32} {f_weights : Nat → Int32} {f_howManyGenerators : Int32} {f_generators : Nat → Int32} {f_racks : Nat → Int32} {f_howManySeen : Int32} {f_seenFirst : Nat → Int32} {f_seenSecond : Nat → Int32} {f_seenIs : Nat → Int32} {f_seenPlaces : Nat → Int32} {f_howManyEvents : Int32} {f_eventWhat : Nat → Int32} {f_eventNumber : Nat → Int32} {g_places : Int32} {g_kinds : Int32} {g_weights : Nat → Int32} {g_howManyGenerators : Int32} {g_generators : Nat → Int32} {g_racks : Nat → Int32} {g_howManySeen : Int32} {g_seenFirst : Nat → Int32} {g_seenSecond : Nat → Int32} {g_seenIs : Nat → Int32} {g_seenPlaces : Nat → Int32} {g_howManyEvents : Int32} {g_eventWhat : Nat → Int32} {g_eventNumber : Nat → Int32} {n_m0 : Nat} {n_m1 : Nat} {n_m2 : Nat} {n_s0 : Nat} {n_s1 : Nat} {n_s2 : Nat} {v_keys : Nat → Int32} {v_asFound : Nat → Int32} {v_found : Int32} {v_turns : Int32} {v_places : Int32} {p_keys : Nat → Int32} {p_asFound : Nat → Int32} {p_found : Int32} {p_turns : Int32} {p_places : Int32} {i_sort : Nat → Int32} {i_howOften : Nat → Int32} {i_sorts : Int32} {i_moves : Int32} {n_uq : Nat} {n_u : Nat} {u_leasts : Nat → Int32} {u_howMany : Int32} {u_known : Int32} {n_wq : Nat} {n_w : Nat} {w_leasts : Nat → Int32} {w_howMany : Int32} {w_known : Int32} {t_signs : Nat → Int32} {t_length : Int32} {t_whole : Int32} {t_begins : Nat → Int32} {t_ends : Nat → Int32} {r_sorts : Nat → Int32} {r_numbers : Nat → Int32} {r_length : Int32} {z_tp : Nat → Option Nat} {n_fa : Nat} {n_fi : Nat} {wo : va_W} {res : Int64} (hf : f_X9_peek_t l1 l2 k_sort k_length k_items = some res) (htp : q_rd z_tp 6 l1 = some (some n_fa)) : MX l yX9_peek cX9_peek 4 (some .long) rm_X9_peek_t G ((xb G h x_hasImage f_places f_kinds f_weights f_howManyGenerators f_generators f_racks f_howManySeen f_seenFirst f_seenSecond f_seenIs f_seenPlaces f_howManyEvents f_eventWhat f_eventNumber g_places g_kinds g_weights g_howManyGenerators g_generators g_racks g_howManySeen g_seenFirst g_seenSecond g_seenIs g_seenPlaces g_howManyEvents g_eventWhat g_eventNumber n_m0 n_m1 n_m2 n_s0 n_s1 n_s2 v_keys v_asFound v_found v_turns v_places p_keys p_asFound p_found p_turns p_places i_sort i_howOften i_sorts i_moves n_uq n_u u_leasts u_howMany u_known n_wq n_w w_leasts w_howMany w_known t_signs t_length t_whole t_begins t_ends r_sorts r_numbers r_length) ++ ((tt G h z_tp n_fa n_fi k_sort k_length k_items) ++ wo)) [.ref (h 0), .int l1, .int l2] ((xb G h x_hasImage f_places f_kinds f_weights f_howManyGenerators f_generators f_racks f_howManySeen f_seenFirst f_seenSecond f_seenIs f_seenPlaces f_howManyEvents f_eventWhat f_eventNumber g_places g_kinds g_weights g_howManyGenerators g_generators g_racks g_howManySeen g_seenFirst g_seenSecond g_seenIs g_seenPlaces g_howManyEvents g_eventWhat g_eventNumber n_m0 n_m1 n_m2 n_s0 n_s1 n_s2 v_keys v_asFound v_found v_turns v_places p_keys p_asFound p_found p_turns p_places i_sort i_howOften i_sorts i_moves n_uq n_u u_leasts u_howMany u_known n_wq n_w w_leasts w_howMany w_known t_signs t_length t_whole t_begins t_ends r_sorts r_numbers r_length) ++ ((tt G h z_tp n_fa n_fi k_sort k_length k_items) ++ wo)) (some (.long res)) 0 0 := by
  refine MX.of (plainFor_of_name (by decide)) (Nat.le_of_ble_eq_true rfl) ?_
  intro p e s m below meth c A X E hI ls hl
  obtain ⟨hx, hb, hml, hown, hts, hr, hlk⟩ := id X
  have hl : lv_has ls 4 [(0, .ref (h 0)), (1, .int l1), (2, .int l2)] := hl
  unfold f_X9_peek_t at hf
  refine lv_iload_n (pc := 0) hx hb dX9_peek_0 rfl (lv_at hl 1 rfl) ?_
  obtain ⟨t1, e1, hf⟩ := q_ob hf
  refine x_cSn (pc := 1) (st1 := [.int t1]) X E hI (c_X9_isTape l G e1) ks_X9_285 hd_X9_isTape ⟨rfl, rfl⟩ (by decide) rfl hl.1 rfl (Nat.le_of_ble_eq_true rfl) dX9_peek_1 ⟨Nat.le_of_ble_eq_true rfl, Nat.le_of_ble_eq_true rfl⟩ rfl (fun H locs hI => ?_)
  refine lv_if_ne (pc := 4) (tgt := 11) hx hb dX9_peek_4 (by decide) (fun c2 => ?_) (fun c2 => ?_)
  · have hf := q_in c2 hf
    refine lv_aload_n (pc := 11) hx hb dX9_peek_11 rfl (lv_at hl 0 rfl) ?_
    refine x_get (pc := 12) X E hI inX9 0 rfl rfl 10 (by decide) tw_2_17 rfl dX9_peek_12 ?_
    refine lv_iload_n (pc := 15) hx hb dX9_peek_15 rfl (lv_at hl 1 rfl) ?_
    refine x_aald (pc := 16) X E hI 41 rfl htp dX9_peek_16 ?_
    refine lv_astore_n (pc := 17) (lv' := [(3, .ref n_fa), (0, .ref (h 0)), (1, .int l1), (2, .int l2)]) hx hb dX9_peek_17 rfl hl (by decide) rfl (fun ls hl => ?_)
    refine lv_aload_n (pc := 18) hx hb dX9_peek_18 rfl (lv_at hl 0 rfl) ?_
    obtain ⟨t3, e3, hf⟩ := q_ob hf
    have hI : IN A G (((xb G h x_hasImage f_places f_kinds f_weights f_howManyGenerators f_generators f_racks f_howManySeen f_seenFirst f_seenSecond f_seenIs f_seenPlaces f_howManyEvents f_eventWhat f_eventNumber g_places g_kinds g_weights g_howManyGenerators g_generators g_racks g_howManySeen g_seenFirst g_seenSecond g_seenIs g_seenPlaces g_howManyEvents g_eventWhat g_eventNumber n_m0 n_m1 n_m2 n_s0 n_s1 n_s2 v_keys v_asFound v_found v_turns v_places p_keys p_asFound p_found p_turns p_places i_sort i_howOften i_sorts i_moves n_uq n_u u_leasts u_howMany u_known n_wq n_w w_leasts w_howMany w_known t_signs t_length t_whole t_begins t_ends r_sorts r_numbers r_length) ++ (tt G h z_tp n_fa n_fi k_sort k_length k_items)) ++ wo) s H locs := hI
    refine x_cVt (pc := 19) (st1 := [.int t3]) (w2 := ((xb G h x_hasImage f_places f_kinds f_weights f_howManyGenerators f_generators f_racks f_howManySeen f_seenFirst f_seenSecond f_seenIs f_seenPlaces f_howManyEvents f_eventWhat f_eventNumber g_places g_kinds g_weights g_howManyGenerators g_generators g_racks g_howManySeen g_seenFirst g_seenSecond g_seenIs g_seenPlaces g_howManyEvents g_eventWhat g_eventNumber n_m0 n_m1 n_m2 n_s0 n_s1 n_s2 v_keys v_asFound v_found v_turns v_places p_keys p_asFound p_found p_turns p_places i_sort i_howOften i_sorts i_moves n_uq n_u u_leasts u_howMany u_known n_wq n_w w_leasts w_howMany w_known t_signs t_length t_whole t_begins t_ends r_sorts r_numbers r_length) ++ (tt G h z_tp n_fa n_fi k_sort k_length k_items))) X E hI (c_X6_holds l G n_fa n_fi e3) kv_X9_288 hd_X6_holds ⟨rfl, rfl⟩ (by decide) pt_xbtt_kw_0 pt_xbtt_kw_0q 0 rfl rfl rfl rfl hl.1 rfl (Nat.le_of_ble_eq_true rfl) dX9_peek_19 ⟨Nat.le_of_ble_eq_true rfl, Nat.le_of_ble_eq_true rfl⟩ rfl (fun H locs hI => ?_)
    have hI : IN A G ((xb G h x_hasImage f_places f_kinds f_weights f_howManyGenerators f_generators f_racks f_howManySeen f_seenFirst f_seenSecond f_seenIs f_seenPlaces f_howManyEvents f_eventWhat f_eventNumber g_places g_kinds g_weights g_howManyGenerators g_generators g_racks g_howManySeen g_seenFirst g_seenSecond g_seenIs g_seenPlaces g_howManyEvents g_eventWhat g_eventNumber n_m0 n_m1 n_m2 n_s0 n_s1 n_s2 v_keys v_asFound v_found v_turns v_places p_keys p_asFound p_found p_turns p_places i_sort i_howOften i_sorts i_moves n_uq n_u u_leasts u_howMany u_known n_wq n_w w_leasts w_howMany w_known t_signs t_length t_whole t_begins t_ends r_sorts r_numbers r_length) ++ ((tt G h z_tp n_fa n_fi k_sort k_length k_items) ++ wo)) s H locs := hI
    refine lv_if_eq (pc := 22) (tgt := 46) hx hb dX9_peek_22 (by decide) (fun c4 => ?_) (fun c4 => ?_)
    · have hf := q_ip c4 hf
      refine lv_ldc2 (pc := 46) (v := (-9223372036854775808)) hx hb hown (hts _ tw_2_191) dX9_peek_46 ?_
      obtain rfl := Option.some.inj hf
      exact x_lret X hI dX9_peek_49
    · have hf := q_in c4 hf
      refine lv_iload_n (pc := 25) hx hb dX9_peek_25 rfl (lv_at hl 3 rfl) ?_
      refine lv_if_lt (pc := 26) (tgt := 46) hx hb dX9_peek_26 (by decide) (fun c5 => ?_) (fun c5 => ?_)
      · have hf := q_ip c5 hf
        refine lv_ldc2 (pc := 46) (v := (-9223372036854775808)) hx hb hown (hts _ tw_2_191) dX9_peek_46 ?_
        obtain rfl := Option.some.inj hf
        exact x_lret X hI dX9_peek_49
      · have hf := q_in c5 hf
        refine lv_iload_n (pc := 29) hx hb dX9_peek_29 rfl (lv_at hl 3 rfl) ?_
        refine lv_aload_n (pc := 30) hx hb dX9_peek_30 rfl (lv_at hl 0 rfl) ?_
        refine x_get (pc := 31) X E hI inX6 42 rfl rfl 1 (by decide) tw_1_215 rfl dX9_peek_31 ?_
        refine lv_icmp_ge (pc := 34) (tgt := 46) hx hb dX9_peek_34 (by decide) (fun c6 => ?_) (fun c6 => ?_)
        · have hf := q_ip c6 hf
          refine lv_ldc2 (pc := 46) (v := (-9223372036854775808)) hx hb hown (hts _ tw_2_191) dX9_peek_46 ?_
          obtain rfl := Option.some.inj hf
          exact x_lret X hI dX9_peek_49
        · have hf := q_in c6 hf
          refine lv_aload_n (pc := 37) hx hb dX9_peek_37 rfl (lv_at hl 0 rfl) ?_
          refine x_get (pc := 38) X E hI inX6 42 rfl rfl 2 (by decide) tw_1_217 rfl dX9_peek_38 ?_
          refine lv_iload_n (pc := 41) hx hb dX9_peek_41 rfl (lv_at hl 3 rfl) ?_
          obtain ⟨t7, e7, hf⟩ := q_ob hf
          refine x_lald (pc := 42) X E hI 43 rfl e7 dX9_peek_42 ?_
          refine lv_goto (pc := 43) (tgt := 49) hx hb dX9_peek_43 (by decide) ?_
          obtain rfl := Option.some.inj hf
          exact x_lret X hI dX9_peek_49
  · have hf := q_ip c2 hf
    refine lv_ldc2 (pc := 7) (v := (-9223372036854775808)) hx hb hown (hts _ tw_2_191) dX9_peek_7 ?_
    obtain rfl := Option.some.inj hf
    exact x_lret X hI dX9_peek_10

abbrev rm_X9_peek_n : Room := { frames := 1, cells := 0, slots := 0, locals := 20 }
set_option maxHeartbeats 4000000 in
set_option maxRecDepth 100000 in
theorem c_X9_peek_n (l : Launch) (G : GX) (h : Nat → Nat) {l1 : Int32} {l2 : Int32} {x_hasImage : Int32} {f_places : Int32} {f_kinds : Int32} {f_weights : Nat → Int32} {f_howManyGenerators : Int32} {f_generators : Nat → Int32} {f_racks : Nat → Int32} {f_howManySeen : Int32} {f_seenFirst : Nat → Int32} {f_seenSecond : Nat → Int32} {f_seenIs : Nat → Int32} {f_seenPlaces : Nat → Int32} {f_howManyEvents : Int32} {f_eventWhat : Nat → Int32} {f_eventNumber : Nat → Int32} {g_places : Int32} {g_kinds : Int32} {g_weights : Nat → Int32} {g_howManyGenerators : Int32} {g_generators : Nat → Int32} {g_racks : Nat → Int32} {g_howManySeen : Int32} {g_seenFirst : Nat → Int32} {g_seenSecond : Nat → Int32} {g_seenIs : Nat → Int32} {g_seenPlaces : Nat → Int32} {g_howManyEvents : Int32} {g_eventWhat : Nat → Int32} {g_eventNumber : Nat → Int32} {n_m0 : Nat} {n_m1 : Nat} {n_m2 : Nat} {n_s0 : Nat} {n_s1 : Nat} {n_s2 : Nat} {v_keys : Nat → Int32} {v_asFound : Nat → Int32} {v_found : Int32} {v_turns : Int32} {v_places : Int32} {p_keys : Nat → Int32} {p_asFound : Nat → Int32} {p_found : Int32} {p_turns : Int32} {p_places : Int32} {i_sort : Nat → Int32} {i_howOften : Nat → Int32} {i_sorts : Int32} {i_moves : Int32} {n_uq : Nat} {n_u : Nat} {u_leasts : Nat → Int32} {u_howMany : Int32} {u_known : Int32} {n_wq : Nat} {n_w : Nat} {w_leasts : Nat → Int32} {w_howMany : Int32} {w_known : Int32} {t_signs : Nat → Int32} {t_length : Int32} {t_whole : Int32} {t_begins : Nat → Int32} {t_ends : Nat → Int32} {r_sorts : Nat → Int32} {r_numbers : Nat → Int32} {r_length : Int32} {wo : va_W} {res : Int64} (hf : f_X9_peek_n l1 l2 = some res) : MX l yX9_peek cX9_peek 4 (some .long) rm_X9_peek_n G ((xb G h x_hasImage f_places f_kinds f_weights f_howManyGenerators f_generators f_racks f_howManySeen f_seenFirst f_seenSecond f_seenIs f_seenPlaces f_howManyEvents f_eventWhat f_eventNumber g_places g_kinds g_weights g_howManyGenerators g_generators g_racks g_howManySeen g_seenFirst g_seenSecond g_seenIs g_seenPlaces g_howManyEvents g_eventWhat g_eventNumber n_m0 n_m1 n_m2 n_s0 n_s1 n_s2 v_keys v_asFound v_found v_turns v_places p_keys p_asFound p_found p_turns p_places i_sort i_howOften i_sorts i_moves n_uq n_u u_leasts u_howMany u_known n_wq n_w w_leasts w_howMany w_known t_signs t_length t_whole t_begins t_ends r_sorts r_numbers r_length) ++ wo) [.ref (h 0), .int l1, .int l2] ((xb G h x_hasImage f_places f_kinds f_weights f_howManyGenerators f_generators f_racks f_howManySeen f_seenFirst f_seenSecond f_seenIs f_seenPlaces f_howManyEvents f_eventWhat f_eventNumber g_places g_kinds g_weights g_howManyGenerators g_generators g_racks g_howManySeen g_seenFirst g_seenSecond g_seenIs g_seenPlaces g_howManyEvents g_eventWhat g_eventNumber n_m0 n_m1 n_m2 n_s0 n_s1 n_s2 v_keys v_asFound v_found v_turns v_places p_keys p_asFound p_found p_turns p_places i_sort i_howOften i_sorts i_moves n_uq n_u u_leasts u_howMany u_known n_wq n_w w_leasts w_howMany w_known t_signs t_length t_whole t_begins t_ends r_sorts r_numbers r_length) ++ wo) (some (.long res)) 0 0 := by
  refine MX.of (plainFor_of_name (by decide)) (Nat.le_of_ble_eq_true rfl) ?_
  intro p e s m below meth c A X E hI ls hl
  obtain ⟨hx, hb, hml, hown, hts, hr, hlk⟩ := id X
  have hl : lv_has ls 4 [(0, .ref (h 0)), (1, .int l1), (2, .int l2)] := hl
  unfold f_X9_peek_n at hf
  refine lv_iload_n (pc := 0) hx hb dX9_peek_0 rfl (lv_at hl 1 rfl) ?_
  obtain ⟨t1, e1, hf⟩ := q_ob hf
  refine x_cSn (pc := 1) (st1 := [.int t1]) X E hI (c_X9_isTape l G e1) ks_X9_285 hd_X9_isTape ⟨rfl, rfl⟩ (by decide) rfl hl.1 rfl (Nat.le_of_ble_eq_true rfl) dX9_peek_1 ⟨Nat.le_of_ble_eq_true rfl, Nat.le_of_ble_eq_true rfl⟩ rfl (fun H locs hI => ?_)
  refine lv_if_ne (pc := 4) (tgt := 11) hx hb dX9_peek_4 (by decide) (fun c2 => ?_) (fun c2 => ?_)
  · have hf := q_in c2 hf
    refine lv_aload_n (pc := 11) hx hb dX9_peek_11 rfl (lv_at hl 0 rfl) ?_
    refine x_get (pc := 12) X E hI inX9 0 rfl rfl 10 (by decide) tw_2_17 rfl dX9_peek_12 ?_
    refine lv_iload_n (pc := 15) hx hb dX9_peek_15 rfl (lv_at hl 1 rfl) ?_
    exact nomatch hf
  · have hf := q_ip c2 hf
    refine lv_ldc2 (pc := 7) (v := (-9223372036854775808)) hx hb hown (hts _ tw_2_191) dX9_peek_7 ?_
    obtain rfl := Option.some.inj hf
    exact x_lret X hI dX9_peek_10

abbrev rm_X9_shift_t : Room := { frames := 1, cells := 0, slots := 0, locals := 40 }
set_option maxHeartbeats 4000000 in
set_option maxRecDepth 100000 in
theorem c_X9_shift_t (l : Launch) (G : GX) (h : Nat → Nat) {l1 : Int32} {l2 : Int32} {l3 : Int32} {l4 : Int32} {l5 : Int32} {k_sort : Int32} {k_length : Int32} {k_items : Nat → Int64} {x_hasImage : Int32} {f_places : Int32} {f_kinds : Int32} {f_weights : Nat → Int32} {f_howManyGenerators : Int32} {f_generators : Nat → Int32} {f_racks : Nat → Int32} {f_howManySeen : Int32} {f_seenFirst : Nat → Int32} {f_seenSecond : Nat → Int32} {f_seenIs : Nat → Int32} {f_seenPlaces : Nat → Int32} {f_howManyEvents : Int32} {f_eventWhat : Nat → Int32} {f_eventNumber : Nat → Int32} {g_places : Int32} {g_kinds : Int32} {g_weights : Nat → Int32} {g_howManyGenerators : Int32} {g_generators : Nat → Int32} {g_racks : Nat → Int32} {g_howManySeen : Int32} {g_seenFirst : Nat → Int32} {g_seenSecond : Nat → Int32} {g_seenIs : Nat → Int32} {g_seenPlaces : Nat → Int32} {g_howManyEvents : Int32} {g_eventWhat : Nat → Int32} {g_eventNumber : Nat → Int32} {n_m0 : Nat} {n_m1 : Nat} {n_m2 : Nat} {n_s0 : Nat} {n_s1 : Nat} {n_s2 : Nat} {v_keys : Nat → Int32} {v_asFound : Nat → Int32} {v_found : Int32} {v_turns : Int32} {v_places : Int32} {p_keys : Nat → Int32} {p_asFound : Nat → Int32} {p_found : Int32} {p_turns : Int32} {p_places : Int32} {i_sort : Nat → Int32} {i_howOften : Nat → Int32} {i_sorts : Int32} {i_moves : Int32} {n_uq : Nat} {n_u : Nat} {u_leasts : Nat → Int32} {u_howMany : Int32} {u_known : Int32} {n_wq : Nat} {n_w : Nat} {w_leasts : Nat → Int32} {w_howMany : Int32} {w_known : Int32} {t_signs : Nat → Int32} {t_length : Int32} {t_whole : Int32} {t_begins : Nat → Int32} {t_ends : Nat → Int32} {r_sorts : Nat → Int32} {r_numbers : Nat → Int32} {r_length : Int32} {z_tp : Nat → Option Nat} {n_fa : Nat} {n_fi : Nat} {wo : va_W} {res : Int32 × (Nat → Int64)} (hf : f_X9_shift_t l1 l2 l3 l4 l5 k_sort k_length k_items = some res) (htp : q_rd z_tp 6 l1 = some (some n_fa)) (htq : q_rd z_tp 6 l3 = some (some n_fa)) : MX l yX9_shift cX9_shift 8 (some .int) rm_X9_shift_t G ((xb G h x_hasImage f_places f_kinds f_weights f_howManyGenerators f_generators f_racks f_howManySeen f_seenFirst f_seenSecond f_seenIs f_seenPlaces f_howManyEvents f_eventWhat f_eventNumber g_places g_kinds g_weights g_howManyGenerators g_generators g_racks g_howManySeen g_seenFirst g_seenSecond g_seenIs g_seenPlaces g_howManyEvents g_eventWhat g_eventNumber n_m0 n_m1 n_m2 n_s0 n_s1 n_s2 v_keys v_asFound v_found v_turns v_places p_keys p_asFound p_found p_turns p_places i_sort i_howOften i_sorts i_moves n_uq n_u u_leasts u_howMany u_known n_wq n_w w_leasts w_howMany w_known t_signs t_length t_whole t_begins t_ends r_sorts r_numbers r_length) ++ ((tt G h z_tp n_fa n_fi k_sort k_length k_items) ++ wo)) [.ref (h 0), .int l1, .int l2, .int l3, .int l4, .int l5] ((xb G h x_hasImage f_places f_kinds f_weights f_howManyGenerators f_generators f_racks f_howManySeen f_seenFirst f_seenSecond f_seenIs f_seenPlaces f_howManyEvents f_eventWhat f_eventNumber g_places g_kinds g_weights g_howManyGenerators g_generators g_racks g_howManySeen g_seenFirst g_seenSecond g_seenIs g_seenPlaces g_howManyEvents g_eventWhat g_eventNumber n_m0 n_m1 n_m2 n_s0 n_s1 n_s2 v_keys v_asFound v_found v_turns v_places p_keys p_asFound p_found p_turns p_places i_sort i_howOften i_sorts i_moves n_uq n_u u_leasts u_howMany u_known n_wq n_w w_leasts w_howMany w_known t_signs t_length t_whole t_begins t_ends r_sorts r_numbers r_length) ++ ((tt G h z_tp n_fa n_fi k_sort k_length res.2) ++ wo)) (some (.int res.1)) 0 0 := by
  refine MX.of (plainFor_of_name (by decide)) (Nat.le_of_ble_eq_true rfl) ?_
  intro p e s m below meth c A X E hI ls hl
  obtain ⟨hx, hb, hml, hown, hts, hr, hlk⟩ := id X
  have hl : lv_has ls 8 [(0, .ref (h 0)), (1, .int l1), (2, .int l2), (3, .int l3), (4, .int l4), (5, .int l5)] := hl
  unfold f_X9_shift_t at hf
  refine lv_iload_n (pc := 0) hx hb dX9_shift_0 rfl (lv_at hl 1 rfl) ?_
  obtain ⟨t1, e1, hf⟩ := q_ob hf
  refine x_cSn (pc := 1) (st1 := [.int t1]) X E hI (c_X9_isTape l G e1) ks_X9_285 hd_X9_isTape ⟨rfl, rfl⟩ (by decide) rfl hl.1 rfl (Nat.le_of_ble_eq_true rfl) dX9_shift_1 ⟨Nat.le_of_ble_eq_true rfl, Nat.le_of_ble_eq_true rfl⟩ rfl (fun H locs hI => ?_)
  refine lv_if_eq (pc := 4) (tgt := 14) hx hb dX9_shift_4 (by decide) (fun c2 => ?_) (fun c2 => ?_)
  · have hf := q_ip c2 hf
    refine lv_iconst (pc := 14) (v := (-1)) hx hb dX9_shift_14 (by decide) ?_
    obtain rfl := Option.some.inj hf
    exact x_iret X hI dX9_shift_15
  · have hf := q_in c2 hf
    refine lv_iload_n (pc := 7) hx hb dX9_shift_7 rfl (lv_at hl 3 rfl) ?_
    obtain ⟨t3, e3, hf⟩ := q_ob hf
    refine x_cSn (pc := 8) (st1 := [.int t3]) X E hI (c_X9_isTape l G e3) ks_X9_285 hd_X9_isTape ⟨rfl, rfl⟩ (by decide) rfl hl.1 rfl (Nat.le_of_ble_eq_true rfl) dX9_shift_8 ⟨Nat.le_of_ble_eq_true rfl, Nat.le_of_ble_eq_true rfl⟩ rfl (fun H locs hI => ?_)
    refine lv_if_ne (pc := 11) (tgt := 16) hx hb dX9_shift_11 (by decide) (fun c4 => ?_) (fun c4 => ?_)
    · have hf := q_in c4 hf
      refine lv_aload_n (pc := 16) hx hb dX9_shift_16 rfl (lv_at hl 0 rfl) ?_
      refine x_get (pc := 17) X E hI inX9 0 rfl rfl 10 (by decide) tw_2_17 rfl dX9_shift_17 ?_
      refine lv_iload_n (pc := 20) hx hb dX9_shift_20 rfl (lv_at hl 1 rfl) ?_
      refine x_aald (pc := 21) X E hI 41 rfl htp dX9_shift_21 ?_
      refine lv_astore (pc := 22) (lv' := [(6, .ref n_fa), (0, .ref (h 0)), (1, .int l1), (2, .int l2), (3, .int l3), (4, .int l4), (5, .int l5)]) hx hb dX9_shift_22 hl (by decide) rfl (fun ls hl => ?_)
      refine lv_aload_n (pc := 24) hx hb dX9_shift_24 rfl (lv_at hl 1 rfl) ?_
      refine x_get (pc := 25) X E hI inX9 0 rfl rfl 10 (by decide) tw_2_17 rfl dX9_shift_25 ?_
      refine lv_iload_n (pc := 28) hx hb dX9_shift_28 rfl (lv_at hl 4 rfl) ?_
      refine x_aald (pc := 29) X E hI 41 rfl htq dX9_shift_29 ?_
      refine lv_astore (pc := 30) (lv' := [(7, .ref n_fa), (6, .ref n_fa), (0, .ref (h 0)), (1, .int l1), (2, .int l2), (3, .int l3), (4, .int l4), (5, .int l5)]) hx hb dX9_shift_30 hl (by decide) rfl (fun ls hl => ?_)
      refine lv_aload (pc := 32) hx hb dX9_shift_32 (lv_at hl 1 rfl) ?_
      obtain ⟨t5, e5, hf⟩ := q_ob hf
      have hI : IN A G (((xb G h x_hasImage f_places f_kinds f_weights f_howManyGenerators f_generators f_racks f_howManySeen f_seenFirst f_seenSecond f_seenIs f_seenPlaces f_howManyEvents f_eventWhat f_eventNumber g_places g_kinds g_weights g_howManyGenerators g_generators g_racks g_howManySeen g_seenFirst g_seenSecond g_seenIs g_seenPlaces g_howManyEvents g_eventWhat g_eventNumber n_m0 n_m1 n_m2 n_s0 n_s1 n_s2 v_keys v_asFound v_found v_turns v_places p_keys p_asFound p_found p_turns p_places i_sort i_howOften i_sorts i_moves n_uq n_u u_leasts u_howMany u_known n_wq n_w w_leasts w_howMany w_known t_signs t_length t_whole t_begins t_ends r_sorts r_numbers r_length) ++ (tt G h z_tp n_fa n_fi k_sort k_length k_items)) ++ wo) s H locs := hI
      refine x_cVt (pc := 34) (st1 := [.int t5]) (w2 := ((xb G h x_hasImage f_places f_kinds f_weights f_howManyGenerators f_generators f_racks f_howManySeen f_seenFirst f_seenSecond f_seenIs f_seenPlaces f_howManyEvents f_eventWhat f_eventNumber g_places g_kinds g_weights g_howManyGenerators g_generators g_racks g_howManySeen g_seenFirst g_seenSecond g_seenIs g_seenPlaces g_howManyEvents g_eventWhat g_eventNumber n_m0 n_m1 n_m2 n_s0 n_s1 n_s2 v_keys v_asFound v_found v_turns v_places p_keys p_asFound p_found p_turns p_places i_sort i_howOften i_sorts i_moves n_uq n_u u_leasts u_howMany u_known n_wq n_w w_leasts w_howMany w_known t_signs t_length t_whole t_begins t_ends r_sorts r_numbers r_length) ++ (tt G h z_tp n_fa n_fi k_sort k_length k_items))) X E hI (c_X6_holds l G n_fa n_fi e5) kv_X9_288 hd_X6_holds ⟨rfl, rfl⟩ (by decide) pt_xbtt_kw_0 pt_xbtt_kw_0q 0 rfl rfl rfl rfl hl.1 rfl (Nat.le_of_ble_eq_true rfl) dX9_shift_34 ⟨Nat.le_of_ble_eq_true rfl, Nat.le_of_ble_eq_true rfl⟩ rfl (fun H locs hI => ?_)
      have hI : IN A G ((xb G h x_hasImage f_places f_kinds f_weights f_howManyGenerators f_generators f_racks f_howManySeen f_seenFirst f_seenSecond f_seenIs f_seenPlaces f_howManyEvents f_eventWhat f_eventNumber g_places g_kinds g_weights g_howManyGenerators g_generators g_racks g_howManySeen g_seenFirst g_seenSecond g_seenIs g_seenPlaces g_howManyEvents g_eventWhat g_eventNumber n_m0 n_m1 n_m2 n_s0 n_s1 n_s2 v_keys v_asFound v_found v_turns v_places p_keys p_asFound p_found p_turns p_places i_sort i_howOften i_sorts i_moves n_uq n_u u_leasts u_howMany u_known n_wq n_w w_leasts w_howMany w_known t_signs t_length t_whole t_begins t_ends r_sorts r_numbers r_length) ++ ((tt G h z_tp n_fa n_fi k_sort k_length k_items) ++ wo)) s H locs := hI
      refine lv_if_eq (pc := 37) (tgt := 48) hx hb dX9_shift_37 (by decide) (fun c6 => ?_) (fun c6 => ?_)
      · have hf := q_ip c6 hf
        refine lv_bipush (pc := 48) (v := (-11)) hx hb dX9_shift_48 (by decide) ?_
        obtain rfl := Option.some.inj hf
        exact x_iret X hI dX9_shift_50
      · have hf := q_in c6 hf
        refine lv_aload (pc := 40) hx hb dX9_shift_40 (lv_at hl 0 rfl) ?_
        obtain ⟨t7, e7, hf⟩ := q_ob hf
        have hI : IN A G (((xb G h x_hasImage f_places f_kinds f_weights f_howManyGenerators f_generators f_racks f_howManySeen f_seenFirst f_seenSecond f_seenIs f_seenPlaces f_howManyEvents f_eventWhat f_eventNumber g_places g_kinds g_weights g_howManyGenerators g_generators g_racks g_howManySeen g_seenFirst g_seenSecond g_seenIs g_seenPlaces g_howManyEvents g_eventWhat g_eventNumber n_m0 n_m1 n_m2 n_s0 n_s1 n_s2 v_keys v_asFound v_found v_turns v_places p_keys p_asFound p_found p_turns p_places i_sort i_howOften i_sorts i_moves n_uq n_u u_leasts u_howMany u_known n_wq n_w w_leasts w_howMany w_known t_signs t_length t_whole t_begins t_ends r_sorts r_numbers r_length) ++ (tt G h z_tp n_fa n_fi k_sort k_length k_items)) ++ wo) s H locs := hI
        refine x_cVt (pc := 42) (st1 := [.int t7]) (w2 := ((xb G h x_hasImage f_places f_kinds f_weights f_howManyGenerators f_generators f_racks f_howManySeen f_seenFirst f_seenSecond f_seenIs f_seenPlaces f_howManyEvents f_eventWhat f_eventNumber g_places g_kinds g_weights g_howManyGenerators g_generators g_racks g_howManySeen g_seenFirst g_seenSecond g_seenIs g_seenPlaces g_howManyEvents g_eventWhat g_eventNumber n_m0 n_m1 n_m2 n_s0 n_s1 n_s2 v_keys v_asFound v_found v_turns v_places p_keys p_asFound p_found p_turns p_places i_sort i_howOften i_sorts i_moves n_uq n_u u_leasts u_howMany u_known n_wq n_w w_leasts w_howMany w_known t_signs t_length t_whole t_begins t_ends r_sorts r_numbers r_length) ++ (tt G h z_tp n_fa n_fi k_sort k_length k_items))) X E hI (c_X6_holds l G n_fa n_fi e7) kv_X9_288 hd_X6_holds ⟨rfl, rfl⟩ (by decide) pt_xbtt_kw_0 pt_xbtt_kw_0q 0 rfl rfl rfl rfl hl.1 rfl (Nat.le_of_ble_eq_true rfl) dX9_shift_42 ⟨Nat.le_of_ble_eq_true rfl, Nat.le_of_ble_eq_true rfl⟩ rfl (fun H locs hI => ?_)
        have hI : IN A G ((xb G h x_hasImage f_places f_kinds f_weights f_howManyGenerators f_generators f_racks f_howManySeen f_seenFirst f_seenSecond f_seenIs f_seenPlaces f_howManyEvents f_eventWhat f_eventNumber g_places g_kinds g_weights g_howManyGenerators g_generators g_racks g_howManySeen g_seenFirst g_seenSecond g_seenIs g_seenPlaces g_howManyEvents g_eventWhat g_eventNumber n_m0 n_m1 n_m2 n_s0 n_s1 n_s2 v_keys v_asFound v_found v_turns v_places p_keys p_asFound p_found p_turns p_places i_sort i_howOften i_sorts i_moves n_uq n_u u_leasts u_howMany u_known n_wq n_w w_leasts w_howMany w_known t_signs t_length t_whole t_begins t_ends r_sorts r_numbers r_length) ++ ((tt G h z_tp n_fa n_fi k_sort k_length k_items) ++ wo)) s H locs := hI
        refine lv_if_ne (pc := 45) (tgt := 51) hx hb dX9_shift_45 (by decide) (fun c8 => ?_) (fun c8 => ?_)
        · have hf := q_in c8 hf
          refine lv_aload (pc := 51) hx hb dX9_shift_51 (lv_at hl 1 rfl) ?_
          refine x_get (pc := 53) X E hI inX6 42 rfl rfl 0 (by decide) tw_1_213 rfl dX9_shift_53 ?_
          refine lv_aload (pc := 56) hx hb dX9_shift_56 (lv_at hl 0 rfl) ?_
          refine x_get (pc := 58) X E hI inX6 42 rfl rfl 0 (by decide) tw_1_213 rfl dX9_shift_58 ?_
          refine lv_icmp_eq (pc := 61) (tgt := 67) hx hb dX9_shift_61 (by decide) (fun c9 => ?_) (fun c9 => ?_)
          · have hf := q_ip c9 hf
            refine lv_iload (pc := 67) hx hb dX9_shift_67 (lv_at hl 7 rfl) ?_
            refine lv_if_lt (pc := 69) (tgt := 95) hx hb dX9_shift_69 (by decide) (fun c10 => ?_) (fun c10 => ?_)
            · have hf := q_ip c10 hf
              refine lv_bipush (pc := 95) (v := (-13)) hx hb dX9_shift_95 (by decide) ?_
              obtain rfl := Option.some.inj hf
              exact x_iret X hI dX9_shift_97
            · have hf := q_in c10 hf
              refine lv_aload (pc := 72) hx hb dX9_shift_72 (lv_at hl 1 rfl) ?_
              refine lv_iload_n (pc := 74) hx hb dX9_shift_74 rfl (lv_at hl 4 rfl) ?_
              refine lv_iload (pc := 75) hx hb dX9_shift_75 (lv_at hl 7 rfl) ?_
              obtain ⟨t11, e11, hf⟩ := q_ob hf
              have hI : IN A G (((xb G h x_hasImage f_places f_kinds f_weights f_howManyGenerators f_generators f_racks f_howManySeen f_seenFirst f_seenSecond f_seenIs f_seenPlaces f_howManyEvents f_eventWhat f_eventNumber g_places g_kinds g_weights g_howManyGenerators g_generators g_racks g_howManySeen g_seenFirst g_seenSecond g_seenIs g_seenPlaces g_howManyEvents g_eventWhat g_eventNumber n_m0 n_m1 n_m2 n_s0 n_s1 n_s2 v_keys v_asFound v_found v_turns v_places p_keys p_asFound p_found p_turns p_places i_sort i_howOften i_sorts i_moves n_uq n_u u_leasts u_howMany u_known n_wq n_w w_leasts w_howMany w_known t_signs t_length t_whole t_begins t_ends r_sorts r_numbers r_length) ++ (tt G h z_tp n_fa n_fi k_sort k_length k_items)) ++ wo) s H locs := hI
              refine x_cVt (pc := 77) (st1 := [.int t11]) (w2 := ((xb G h x_hasImage f_places f_kinds f_weights f_howManyGenerators f_generators f_racks f_howManySeen f_seenFirst f_seenSecond f_seenIs f_seenPlaces f_howManyEvents f_eventWhat f_eventNumber g_places g_kinds g_weights g_howManyGenerators g_generators g_racks g_howManySeen g_seenFirst g_seenSecond g_seenIs g_seenPlaces g_howManyEvents g_eventWhat g_eventNumber n_m0 n_m1 n_m2 n_s0 n_s1 n_s2 v_keys v_asFound v_found v_turns v_places p_keys p_asFound p_found p_turns p_places i_sort i_howOften i_sorts i_moves n_uq n_u u_leasts u_howMany u_known n_wq n_w w_leasts w_howMany w_known t_signs t_length t_whole t_begins t_ends r_sorts r_numbers r_length) ++ (tt G h z_tp n_fa n_fi k_sort k_length k_items))) X E hI (c_X6_hasRoom l G n_fa n_fi e11) kv_X9_313 hd_X6_hasRoom ⟨rfl, rfl⟩ (by decide) pt_xbtt_kw_0 pt_xbtt_kw_0q 0 rfl rfl rfl rfl hl.1 rfl (Nat.le_of_ble_eq_true rfl) dX9_shift_77 ⟨Nat.le_of_ble_eq_true rfl, Nat.le_of_ble_eq_true rfl⟩ rfl (fun H locs hI => ?_)
              have hI : IN A G ((xb G h x_hasImage f_places f_kinds f_weights f_howManyGenerators f_generators f_racks f_howManySeen f_seenFirst f_seenSecond f_seenIs f_seenPlaces f_howManyEvents f_eventWhat f_eventNumber g_places g_kinds g_weights g_howManyGenerators g_generators g_racks g_howManySeen g_seenFirst g_seenSecond g_seenIs g_seenPlaces g_howManyEvents g_eventWhat g_eventNumber n_m0 n_m1 n_m2 n_s0 n_s1 n_s2 v_keys v_asFound v_found v_turns v_places p_keys p_asFound p_found p_turns p_places i_sort i_howOften i_sorts i_moves n_uq n_u u_leasts u_howMany u_known n_wq n_w w_leasts w_howMany w_known t_signs t_length t_whole t_begins t_ends r_sorts r_numbers r_length) ++ ((tt G h z_tp n_fa n_fi k_sort k_length k_items) ++ wo)) s H locs := hI
              refine lv_if_eq (pc := 80) (tgt := 95) hx hb dX9_shift_80 (by decide) (fun c12 => ?_) (fun c12 => ?_)
              · have hf := q_ip c12 hf
                refine lv_bipush (pc := 95) (v := (-13)) hx hb dX9_shift_95 (by decide) ?_
                obtain rfl := Option.some.inj hf
                exact x_iret X hI dX9_shift_97
              · have hf := q_in c12 hf
                refine lv_aload (pc := 83) hx hb dX9_shift_83 (lv_at hl 0 rfl) ?_
                refine lv_iload (pc := 85) hx hb dX9_shift_85 (lv_at hl 6 rfl) ?_
                refine lv_iload (pc := 87) hx hb dX9_shift_87 (lv_at hl 7 rfl) ?_
                obtain ⟨t13, e13, hf⟩ := q_ob hf
                have hI : IN A G (((xb G h x_hasImage f_places f_kinds f_weights f_howManyGenerators f_generators f_racks f_howManySeen f_seenFirst f_seenSecond f_seenIs f_seenPlaces f_howManyEvents f_eventWhat f_eventNumber g_places g_kinds g_weights g_howManyGenerators g_generators g_racks g_howManySeen g_seenFirst g_seenSecond g_seenIs g_seenPlaces g_howManyEvents g_eventWhat g_eventNumber n_m0 n_m1 n_m2 n_s0 n_s1 n_s2 v_keys v_asFound v_found v_turns v_places p_keys p_asFound p_found p_turns p_places i_sort i_howOften i_sorts i_moves n_uq n_u u_leasts u_howMany u_known n_wq n_w w_leasts w_howMany w_known t_signs t_length t_whole t_begins t_ends r_sorts r_numbers r_length) ++ (tt G h z_tp n_fa n_fi k_sort k_length k_items)) ++ wo) s H locs := hI
                refine x_cVt (pc := 89) (st1 := [.int t13]) (w2 := ((xb G h x_hasImage f_places f_kinds f_weights f_howManyGenerators f_generators f_racks f_howManySeen f_seenFirst f_seenSecond f_seenIs f_seenPlaces f_howManyEvents f_eventWhat f_eventNumber g_places g_kinds g_weights g_howManyGenerators g_generators g_racks g_howManySeen g_seenFirst g_seenSecond g_seenIs g_seenPlaces g_howManyEvents g_eventWhat g_eventNumber n_m0 n_m1 n_m2 n_s0 n_s1 n_s2 v_keys v_asFound v_found v_turns v_places p_keys p_asFound p_found p_turns p_places i_sort i_howOften i_sorts i_moves n_uq n_u u_leasts u_howMany u_known n_wq n_w w_leasts w_howMany w_known t_signs t_length t_whole t_begins t_ends r_sorts r_numbers r_length) ++ (tt G h z_tp n_fa n_fi k_sort k_length k_items))) X E hI (c_X6_hasRoom l G n_fa n_fi e13) kv_X9_313 hd_X6_hasRoom ⟨rfl, rfl⟩ (by decide) pt_xbtt_kw_0 pt_xbtt_kw_0q 0 rfl rfl rfl rfl hl.1 rfl (Nat.le_of_ble_eq_true rfl) dX9_shift_89 ⟨Nat.le_of_ble_eq_true rfl, Nat.le_of_ble_eq_true rfl⟩ rfl (fun H locs hI => ?_)
                have hI : IN A G ((xb G h x_hasImage f_places f_kinds f_weights f_howManyGenerators f_generators f_racks f_howManySeen f_seenFirst f_seenSecond f_seenIs f_seenPlaces f_howManyEvents f_eventWhat f_eventNumber g_places g_kinds g_weights g_howManyGenerators g_generators g_racks g_howManySeen g_seenFirst g_seenSecond g_seenIs g_seenPlaces g_howManyEvents g_eventWhat g_eventNumber n_m0 n_m1 n_m2 n_s0 n_s1 n_s2 v_keys v_asFound v_found v_turns v_places p_keys p_asFound p_found p_turns p_places i_sort i_howOften i_sorts i_moves n_uq n_u u_leasts u_howMany u_known n_wq n_w w_leasts w_howMany w_known t_signs t_length t_whole t_begins t_ends r_sorts r_numbers r_length) ++ ((tt G h z_tp n_fa n_fi k_sort k_length k_items) ++ wo)) s H locs := hI
                refine lv_if_ne (pc := 92) (tgt := 98) hx hb dX9_shift_92 (by decide) (fun c14 => ?_) (fun c14 => ?_)
                · have hf := q_in c14 hf
                  refine lv_aload (pc := 98) hx hb dX9_shift_98 (lv_at hl 1 rfl) ?_
                  refine x_get (pc := 100) X E hI inX6 42 rfl rfl 2 (by decide) tw_1_217 rfl dX9_shift_100 ?_
                  refine lv_iload_n (pc := 103) hx hb dX9_shift_103 rfl (lv_at hl 4 rfl) ?_
                  refine lv_aload (pc := 104) hx hb dX9_shift_104 (lv_at hl 0 rfl) ?_
                  refine x_get (pc := 106) X E hI inX6 42 rfl rfl 2 (by decide) tw_1_217 rfl dX9_shift_106 ?_
                  refine lv_iload (pc := 109) hx hb dX9_shift_109 (lv_at hl 6 rfl) ?_
                  refine lv_iload (pc := 111) hx hb dX9_shift_111 (lv_at hl 7 rfl) ?_
                  obtain ⟨t15, e15, hf⟩ := q_ob hf
                  refine x_copyl (pc := 113) (w' := ((xb G h x_hasImage f_places f_kinds f_weights f_howManyGenerators f_generators f_racks f_howManySeen f_seenFirst f_seenSecond f_seenIs f_seenPlaces f_howManyEvents f_eventWhat f_eventNumber g_places g_kinds g_weights g_howManyGenerators g_generators g_racks g_howManySeen g_seenFirst g_seenSecond g_seenIs g_seenPlaces g_howManyEvents g_eventWhat g_eventNumber n_m0 n_m1 n_m2 n_s0 n_s1 n_s2 v_keys v_asFound v_found v_turns v_places p_keys p_asFound p_found p_turns p_places i_sort i_howOften i_sorts i_moves n_uq n_u u_leasts u_howMany u_known n_wq n_w w_leasts w_howMany w_known t_signs t_length t_whole t_begins t_ends r_sorts r_numbers r_length) ++ ((tt G h z_tp n_fa n_fi k_sort k_length t15) ++ wo))) X E hI tw_3_219 43 43 rfl rfl e15 rfl (by decide) (Nat.le_of_ble_eq_true rfl) hl.1 dX9_shift_113 (fun H locs hI => ?_)
                  refine lv_iload (pc := 116) hx hb dX9_shift_116 (lv_at hl 7 rfl) ?_
                  obtain rfl := Option.some.inj hf
                  exact x_iret X hI dX9_shift_118
                · have hf := q_ip c14 hf
                  refine lv_bipush (pc := 95) (v := (-13)) hx hb dX9_shift_95 (by decide) ?_
                  obtain rfl := Option.some.inj hf
                  exact x_iret X hI dX9_shift_97
          · have hf := q_in c9 hf
            refine lv_bipush (pc := 64) (v := (-12)) hx hb dX9_shift_64 (by decide) ?_
            obtain rfl := Option.some.inj hf
            exact x_iret X hI dX9_shift_66
        · have hf := q_ip c8 hf
          refine lv_bipush (pc := 48) (v := (-11)) hx hb dX9_shift_48 (by decide) ?_
          obtain rfl := Option.some.inj hf
          exact x_iret X hI dX9_shift_50
    · have hf := q_ip c4 hf
      refine lv_iconst (pc := 14) (v := (-1)) hx hb dX9_shift_14 (by decide) ?_
      obtain rfl := Option.some.inj hf
      exact x_iret X hI dX9_shift_15

abbrev rm_X9_shift_u : Room := { frames := 1, cells := 0, slots := 0, locals := 40 }
set_option maxHeartbeats 4000000 in
set_option maxRecDepth 100000 in
theorem c_X9_shift_u (l : Launch) (G : GX) (h : Nat → Nat) {l1 : Int32} {l2 : Int32} {l3 : Int32} {l4 : Int32} {l5 : Int32} {k_sort : Int32} {k_length : Int32} {k_items : Nat → Int64} {j_sort : Int32} {j_length : Int32} {j_items : Nat → Int64} {x_hasImage : Int32} {f_places : Int32} {f_kinds : Int32} {f_weights : Nat → Int32} {f_howManyGenerators : Int32} {f_generators : Nat → Int32} {f_racks : Nat → Int32} {f_howManySeen : Int32} {f_seenFirst : Nat → Int32} {f_seenSecond : Nat → Int32} {f_seenIs : Nat → Int32} {f_seenPlaces : Nat → Int32} {f_howManyEvents : Int32} {f_eventWhat : Nat → Int32} {f_eventNumber : Nat → Int32} {g_places : Int32} {g_kinds : Int32} {g_weights : Nat → Int32} {g_howManyGenerators : Int32} {g_generators : Nat → Int32} {g_racks : Nat → Int32} {g_howManySeen : Int32} {g_seenFirst : Nat → Int32} {g_seenSecond : Nat → Int32} {g_seenIs : Nat → Int32} {g_seenPlaces : Nat → Int32} {g_howManyEvents : Int32} {g_eventWhat : Nat → Int32} {g_eventNumber : Nat → Int32} {n_m0 : Nat} {n_m1 : Nat} {n_m2 : Nat} {n_s0 : Nat} {n_s1 : Nat} {n_s2 : Nat} {v_keys : Nat → Int32} {v_asFound : Nat → Int32} {v_found : Int32} {v_turns : Int32} {v_places : Int32} {p_keys : Nat → Int32} {p_asFound : Nat → Int32} {p_found : Int32} {p_turns : Int32} {p_places : Int32} {i_sort : Nat → Int32} {i_howOften : Nat → Int32} {i_sorts : Int32} {i_moves : Int32} {n_uq : Nat} {n_u : Nat} {u_leasts : Nat → Int32} {u_howMany : Int32} {u_known : Int32} {n_wq : Nat} {n_w : Nat} {w_leasts : Nat → Int32} {w_howMany : Int32} {w_known : Int32} {t_signs : Nat → Int32} {t_length : Int32} {t_whole : Int32} {t_begins : Nat → Int32} {t_ends : Nat → Int32} {r_sorts : Nat → Int32} {r_numbers : Nat → Int32} {r_length : Int32} {z_tp : Nat → Option Nat} {n_fa : Nat} {n_fi : Nat} {n_ga : Nat} {n_gi : Nat} {wo : va_W} {res : Int32 × (Nat → Int64)} (hf : f_X9_shift_u l1 l2 l3 l4 l5 k_sort k_length k_items j_sort j_length j_items = some res) (htp : q_rd z_tp 6 l1 = some (some n_fa)) (htq : q_rd z_tp 6 l3 = some (some n_ga)) : MX l yX9_shift cX9_shift 8 (some .int) rm_X9_shift_u G ((xb G h x_hasImage f_places f_kinds f_weights f_howManyGenerators f_generators f_racks f_howManySeen f_seenFirst f_seenSecond f_seenIs f_seenPlaces f_howManyEvents f_eventWhat f_eventNumber g_places g_kinds g_weights g_howManyGenerators g_generators g_racks g_howManySeen g_seenFirst g_seenSecond g_seenIs g_seenPlaces g_howManyEvents g_eventWhat g_eventNumber n_m0 n_m1 n_m2 n_s0 n_s1 n_s2 v_keys v_asFound v_found v_turns v_places p_keys p_asFound p_found p_turns p_places i_sort i_howOften i_sorts i_moves n_uq n_u u_leasts u_howMany u_known n_wq n_w w_leasts w_howMany w_known t_signs t_length t_whole t_begins t_ends r_sorts r_numbers r_length) ++ ((tu G h z_tp n_fa n_fi k_sort k_length k_items n_ga n_gi j_sort j_length j_items) ++ wo)) [.ref (h 0), .int l1, .int l2, .int l3, .int l4, .int l5] ((xb G h x_hasImage f_places f_kinds f_weights f_howManyGenerators f_generators f_racks f_howManySeen f_seenFirst f_seenSecond f_seenIs f_seenPlaces f_howManyEvents f_eventWhat f_eventNumber g_places g_kinds g_weights g_howManyGenerators g_generators g_racks g_howManySeen g_seenFirst g_seenSecond g_seenIs g_seenPlaces g_howManyEvents g_eventWhat g_eventNumber n_m0 n_m1 n_m2 n_s0 n_s1 n_s2 v_keys v_asFound v_found v_turns v_places p_keys p_asFound p_found p_turns p_places i_sort i_howOften i_sorts i_moves n_uq n_u u_leasts u_howMany u_known n_wq n_w w_leasts w_howMany w_known t_signs t_length t_whole t_begins t_ends r_sorts r_numbers r_length) ++ ((tu G h z_tp n_fa n_fi k_sort k_length k_items n_ga n_gi j_sort j_length res.2) ++ wo)) (some (.int res.1)) 0 0 := by
  refine MX.of (plainFor_of_name (by decide)) (Nat.le_of_ble_eq_true rfl) ?_
  intro p e s m below meth c A X E hI ls hl
  obtain ⟨hx, hb, hml, hown, hts, hr, hlk⟩ := id X
  have hl : lv_has ls 8 [(0, .ref (h 0)), (1, .int l1), (2, .int l2), (3, .int l3), (4, .int l4), (5, .int l5)] := hl
  unfold f_X9_shift_u at hf
  refine lv_iload_n (pc := 0) hx hb dX9_shift_0 rfl (lv_at hl 1 rfl) ?_
  obtain ⟨t1, e1, hf⟩ := q_ob hf
  refine x_cSn (pc := 1) (st1 := [.int t1]) X E hI (c_X9_isTape l G e1) ks_X9_285 hd_X9_isTape ⟨rfl, rfl⟩ (by decide) rfl hl.1 rfl (Nat.le_of_ble_eq_true rfl) dX9_shift_1 ⟨Nat.le_of_ble_eq_true rfl, Nat.le_of_ble_eq_true rfl⟩ rfl (fun H locs hI => ?_)
  refine lv_if_eq (pc := 4) (tgt := 14) hx hb dX9_shift_4 (by decide) (fun c2 => ?_) (fun c2 => ?_)
  · have hf := q_ip c2 hf
    refine lv_iconst (pc := 14) (v := (-1)) hx hb dX9_shift_14 (by decide) ?_
    obtain rfl := Option.some.inj hf
    exact x_iret X hI dX9_shift_15
  · have hf := q_in c2 hf
    refine lv_iload_n (pc := 7) hx hb dX9_shift_7 rfl (lv_at hl 3 rfl) ?_
    obtain ⟨t3, e3, hf⟩ := q_ob hf
    refine x_cSn (pc := 8) (st1 := [.int t3]) X E hI (c_X9_isTape l G e3) ks_X9_285 hd_X9_isTape ⟨rfl, rfl⟩ (by decide) rfl hl.1 rfl (Nat.le_of_ble_eq_true rfl) dX9_shift_8 ⟨Nat.le_of_ble_eq_true rfl, Nat.le_of_ble_eq_true rfl⟩ rfl (fun H locs hI => ?_)
    refine lv_if_ne (pc := 11) (tgt := 16) hx hb dX9_shift_11 (by decide) (fun c4 => ?_) (fun c4 => ?_)
    · have hf := q_in c4 hf
      refine lv_aload_n (pc := 16) hx hb dX9_shift_16 rfl (lv_at hl 0 rfl) ?_
      refine x_get (pc := 17) X E hI inX9 0 rfl rfl 10 (by decide) tw_2_17 rfl dX9_shift_17 ?_
      refine lv_iload_n (pc := 20) hx hb dX9_shift_20 rfl (lv_at hl 1 rfl) ?_
      refine x_aald (pc := 21) X E hI 41 rfl htp dX9_shift_21 ?_
      refine lv_astore (pc := 22) (lv' := [(6, .ref n_fa), (0, .ref (h 0)), (1, .int l1), (2, .int l2), (3, .int l3), (4, .int l4), (5, .int l5)]) hx hb dX9_shift_22 hl (by decide) rfl (fun ls hl => ?_)
      refine lv_aload_n (pc := 24) hx hb dX9_shift_24 rfl (lv_at hl 1 rfl) ?_
      refine x_get (pc := 25) X E hI inX9 0 rfl rfl 10 (by decide) tw_2_17 rfl dX9_shift_25 ?_
      refine lv_iload_n (pc := 28) hx hb dX9_shift_28 rfl (lv_at hl 4 rfl) ?_
      refine x_aald (pc := 29) X E hI 41 rfl htq dX9_shift_29 ?_
      refine lv_astore (pc := 30) (lv' := [(7, .ref n_ga), (6, .ref n_fa), (0, .ref (h 0)), (1, .int l1), (2, .int l2), (3, .int l3), (4, .int l4), (5, .int l5)]) hx hb dX9_shift_30 hl (by decide) rfl (fun ls hl => ?_)
      refine lv_aload (pc := 32) hx hb dX9_shift_32 (lv_at hl 1 rfl) ?_
      obtain ⟨t5, e5, hf⟩ := q_ob hf
      have hI : IN A G (((xb G h x_hasImage f_places f_kinds f_weights f_howManyGenerators f_generators f_racks f_howManySeen f_seenFirst f_seenSecond f_seenIs f_seenPlaces f_howManyEvents f_eventWhat f_eventNumber g_places g_kinds g_weights g_howManyGenerators g_generators g_racks g_howManySeen g_seenFirst g_seenSecond g_seenIs g_seenPlaces g_howManyEvents g_eventWhat g_eventNumber n_m0 n_m1 n_m2 n_s0 n_s1 n_s2 v_keys v_asFound v_found v_turns v_places p_keys p_asFound p_found p_turns p_places i_sort i_howOften i_sorts i_moves n_uq n_u u_leasts u_howMany u_known n_wq n_w w_leasts w_howMany w_known t_signs t_length t_whole t_begins t_ends r_sorts r_numbers r_length) ++ (tu G h z_tp n_fa n_fi k_sort k_length k_items n_ga n_gi j_sort j_length j_items)) ++ wo) s H locs := hI
      refine x_cVt (pc := 34) (st1 := [.int t5]) (w2 := ((xb G h x_hasImage f_places f_kinds f_weights f_howManyGenerators f_generators f_racks f_howManySeen f_seenFirst f_seenSecond f_seenIs f_seenPlaces f_howManyEvents f_eventWhat f_eventNumber g_places g_kinds g_weights g_howManyGenerators g_generators g_racks g_howManySeen g_seenFirst g_seenSecond g_seenIs g_seenPlaces g_howManyEvents g_eventWhat g_eventNumber n_m0 n_m1 n_m2 n_s0 n_s1 n_s2 v_keys v_asFound v_found v_turns v_places p_keys p_asFound p_found p_turns p_places i_sort i_howOften i_sorts i_moves n_uq n_u u_leasts u_howMany u_known n_wq n_w w_leasts w_howMany w_known t_signs t_length t_whole t_begins t_ends r_sorts r_numbers r_length) ++ (tu G h z_tp n_fa n_fi k_sort k_length k_items n_ga n_gi j_sort j_length j_items))) X E hI (c_X6_holds l G n_fa n_fi e5) kv_X9_288 hd_X6_holds ⟨rfl, rfl⟩ (by decide) pt_xbtu_kw_0 pt_xbtu_kw_0q 0 rfl rfl rfl rfl hl.1 rfl (Nat.le_of_ble_eq_true rfl) dX9_shift_34 ⟨Nat.le_of_ble_eq_true rfl, Nat.le_of_ble_eq_true rfl⟩ rfl (fun H locs hI => ?_)
      have hI : IN A G ((xb G h x_hasImage f_places f_kinds f_weights f_howManyGenerators f_generators f_racks f_howManySeen f_seenFirst f_seenSecond f_seenIs f_seenPlaces f_howManyEvents f_eventWhat f_eventNumber g_places g_kinds g_weights g_howManyGenerators g_generators g_racks g_howManySeen g_seenFirst g_seenSecond g_seenIs g_seenPlaces g_howManyEvents g_eventWhat g_eventNumber n_m0 n_m1 n_m2 n_s0 n_s1 n_s2 v_keys v_asFound v_found v_turns v_places p_keys p_asFound p_found p_turns p_places i_sort i_howOften i_sorts i_moves n_uq n_u u_leasts u_howMany u_known n_wq n_w w_leasts w_howMany w_known t_signs t_length t_whole t_begins t_ends r_sorts r_numbers r_length) ++ ((tu G h z_tp n_fa n_fi k_sort k_length k_items n_ga n_gi j_sort j_length j_items) ++ wo)) s H locs := hI
      refine lv_if_eq (pc := 37) (tgt := 48) hx hb dX9_shift_37 (by decide) (fun c6 => ?_) (fun c6 => ?_)
      · have hf := q_ip c6 hf
        refine lv_bipush (pc := 48) (v := (-11)) hx hb dX9_shift_48 (by decide) ?_
        obtain rfl := Option.some.inj hf
        exact x_iret X hI dX9_shift_50
      · have hf := q_in c6 hf
        refine lv_aload (pc := 40) hx hb dX9_shift_40 (lv_at hl 0 rfl) ?_
        obtain ⟨t7, e7, hf⟩ := q_ob hf
        have hI : IN A G (((xb G h x_hasImage f_places f_kinds f_weights f_howManyGenerators f_generators f_racks f_howManySeen f_seenFirst f_seenSecond f_seenIs f_seenPlaces f_howManyEvents f_eventWhat f_eventNumber g_places g_kinds g_weights g_howManyGenerators g_generators g_racks g_howManySeen g_seenFirst g_seenSecond g_seenIs g_seenPlaces g_howManyEvents g_eventWhat g_eventNumber n_m0 n_m1 n_m2 n_s0 n_s1 n_s2 v_keys v_asFound v_found v_turns v_places p_keys p_asFound p_found p_turns p_places i_sort i_howOften i_sorts i_moves n_uq n_u u_leasts u_howMany u_known n_wq n_w w_leasts w_howMany w_known t_signs t_length t_whole t_begins t_ends r_sorts r_numbers r_length) ++ (tu G h z_tp n_fa n_fi k_sort k_length k_items n_ga n_gi j_sort j_length j_items)) ++ wo) s H locs := hI
        refine x_cVt (pc := 42) (st1 := [.int t7]) (w2 := ((xb G h x_hasImage f_places f_kinds f_weights f_howManyGenerators f_generators f_racks f_howManySeen f_seenFirst f_seenSecond f_seenIs f_seenPlaces f_howManyEvents f_eventWhat f_eventNumber g_places g_kinds g_weights g_howManyGenerators g_generators g_racks g_howManySeen g_seenFirst g_seenSecond g_seenIs g_seenPlaces g_howManyEvents g_eventWhat g_eventNumber n_m0 n_m1 n_m2 n_s0 n_s1 n_s2 v_keys v_asFound v_found v_turns v_places p_keys p_asFound p_found p_turns p_places i_sort i_howOften i_sorts i_moves n_uq n_u u_leasts u_howMany u_known n_wq n_w w_leasts w_howMany w_known t_signs t_length t_whole t_begins t_ends r_sorts r_numbers r_length) ++ (tu G h z_tp n_fa n_fi k_sort k_length k_items n_ga n_gi j_sort j_length j_items))) X E hI (c_X6_holds l G n_ga n_gi e7) kv_X9_288 hd_X6_holds ⟨rfl, rfl⟩ (by decide) pt_xbtu_kw_1 pt_xbtu_kw_1q 0 rfl rfl rfl rfl hl.1 rfl (Nat.le_of_ble_eq_true rfl) dX9_shift_42 ⟨Nat.le_of_ble_eq_true rfl, Nat.le_of_ble_eq_true rfl⟩ rfl (fun H locs hI => ?_)
        have hI : IN A G ((xb G h x_hasImage f_places f_kinds f_weights f_howManyGenerators f_generators f_racks f_howManySeen f_seenFirst f_seenSecond f_seenIs f_seenPlaces f_howManyEvents f_eventWhat f_eventNumber g_places g_kinds g_weights g_howManyGenerators g_generators g_racks g_howManySeen g_seenFirst g_seenSecond g_seenIs g_seenPlaces g_howManyEvents g_eventWhat g_eventNumber n_m0 n_m1 n_m2 n_s0 n_s1 n_s2 v_keys v_asFound v_found v_turns v_places p_keys p_asFound p_found p_turns p_places i_sort i_howOften i_sorts i_moves n_uq n_u u_leasts u_howMany u_known n_wq n_w w_leasts w_howMany w_known t_signs t_length t_whole t_begins t_ends r_sorts r_numbers r_length) ++ ((tu G h z_tp n_fa n_fi k_sort k_length k_items n_ga n_gi j_sort j_length j_items) ++ wo)) s H locs := hI
        refine lv_if_ne (pc := 45) (tgt := 51) hx hb dX9_shift_45 (by decide) (fun c8 => ?_) (fun c8 => ?_)
        · have hf := q_in c8 hf
          refine lv_aload (pc := 51) hx hb dX9_shift_51 (lv_at hl 1 rfl) ?_
          refine x_get (pc := 53) X E hI inX6 42 rfl rfl 0 (by decide) tw_1_213 rfl dX9_shift_53 ?_
          refine lv_aload (pc := 56) hx hb dX9_shift_56 (lv_at hl 0 rfl) ?_
          refine x_get (pc := 58) X E hI inX6 44 rfl rfl 0 (by decide) tw_1_213 rfl dX9_shift_58 ?_
          refine lv_icmp_eq (pc := 61) (tgt := 67) hx hb dX9_shift_61 (by decide) (fun c9 => ?_) (fun c9 => ?_)
          · have hf := q_ip c9 hf
            refine lv_iload (pc := 67) hx hb dX9_shift_67 (lv_at hl 7 rfl) ?_
            refine lv_if_lt (pc := 69) (tgt := 95) hx hb dX9_shift_69 (by decide) (fun c10 => ?_) (fun c10 => ?_)
            · have hf := q_ip c10 hf
              refine lv_bipush (pc := 95) (v := (-13)) hx hb dX9_shift_95 (by decide) ?_
              obtain rfl := Option.some.inj hf
              exact x_iret X hI dX9_shift_97
            · have hf := q_in c10 hf
              refine lv_aload (pc := 72) hx hb dX9_shift_72 (lv_at hl 1 rfl) ?_
              refine lv_iload_n (pc := 74) hx hb dX9_shift_74 rfl (lv_at hl 4 rfl) ?_
              refine lv_iload (pc := 75) hx hb dX9_shift_75 (lv_at hl 7 rfl) ?_
              obtain ⟨t11, e11, hf⟩ := q_ob hf
              have hI : IN A G (((xb G h x_hasImage f_places f_kinds f_weights f_howManyGenerators f_generators f_racks f_howManySeen f_seenFirst f_seenSecond f_seenIs f_seenPlaces f_howManyEvents f_eventWhat f_eventNumber g_places g_kinds g_weights g_howManyGenerators g_generators g_racks g_howManySeen g_seenFirst g_seenSecond g_seenIs g_seenPlaces g_howManyEvents g_eventWhat g_eventNumber n_m0 n_m1 n_m2 n_s0 n_s1 n_s2 v_keys v_asFound v_found v_turns v_places p_keys p_asFound p_found p_turns p_places i_sort i_howOften i_sorts i_moves n_uq n_u u_leasts u_howMany u_known n_wq n_w w_leasts w_howMany w_known t_signs t_length t_whole t_begins t_ends r_sorts r_numbers r_length) ++ (tu G h z_tp n_fa n_fi k_sort k_length k_items n_ga n_gi j_sort j_length j_items)) ++ wo) s H locs := hI
              refine x_cVt (pc := 77) (st1 := [.int t11]) (w2 := ((xb G h x_hasImage f_places f_kinds f_weights f_howManyGenerators f_generators f_racks f_howManySeen f_seenFirst f_seenSecond f_seenIs f_seenPlaces f_howManyEvents f_eventWhat f_eventNumber g_places g_kinds g_weights g_howManyGenerators g_generators g_racks g_howManySeen g_seenFirst g_seenSecond g_seenIs g_seenPlaces g_howManyEvents g_eventWhat g_eventNumber n_m0 n_m1 n_m2 n_s0 n_s1 n_s2 v_keys v_asFound v_found v_turns v_places p_keys p_asFound p_found p_turns p_places i_sort i_howOften i_sorts i_moves n_uq n_u u_leasts u_howMany u_known n_wq n_w w_leasts w_howMany w_known t_signs t_length t_whole t_begins t_ends r_sorts r_numbers r_length) ++ (tu G h z_tp n_fa n_fi k_sort k_length k_items n_ga n_gi j_sort j_length j_items))) X E hI (c_X6_hasRoom l G n_fa n_fi e11) kv_X9_313 hd_X6_hasRoom ⟨rfl, rfl⟩ (by decide) pt_xbtu_kw_0 pt_xbtu_kw_0q 0 rfl rfl rfl rfl hl.1 rfl (Nat.le_of_ble_eq_true rfl) dX9_shift_77 ⟨Nat.le_of_ble_eq_true rfl, Nat.le_of_ble_eq_true rfl⟩ rfl (fun H locs hI => ?_)
              have hI : IN A G ((xb G h x_hasImage f_places f_kinds f_weights f_howManyGenerators f_generators f_racks f_howManySeen f_seenFirst f_seenSecond f_seenIs f_seenPlaces f_howManyEvents f_eventWhat f_eventNumber g_places g_kinds g_weights g_howManyGenerators g_generators g_racks g_howManySeen g_seenFirst g_seenSecond g_seenIs g_seenPlaces g_howManyEvents g_eventWhat g_eventNumber n_m0 n_m1 n_m2 n_s0 n_s1 n_s2 v_keys v_asFound v_found v_turns v_places p_keys p_asFound p_found p_turns p_places i_sort i_howOften i_sorts i_moves n_uq n_u u_leasts u_howMany u_known n_wq n_w w_leasts w_howMany w_known t_signs t_length t_whole t_begins t_ends r_sorts r_numbers r_length) ++ ((tu G h z_tp n_fa n_fi k_sort k_length k_items n_ga n_gi j_sort j_length j_items) ++ wo)) s H locs := hI
              refine lv_if_eq (pc := 80) (tgt := 95) hx hb dX9_shift_80 (by decide) (fun c12 => ?_) (fun c12 => ?_)
              · have hf := q_ip c12 hf
                refine lv_bipush (pc := 95) (v := (-13)) hx hb dX9_shift_95 (by decide) ?_
                obtain rfl := Option.some.inj hf
                exact x_iret X hI dX9_shift_97
              · have hf := q_in c12 hf
                refine lv_aload (pc := 83) hx hb dX9_shift_83 (lv_at hl 0 rfl) ?_
                refine lv_iload (pc := 85) hx hb dX9_shift_85 (lv_at hl 6 rfl) ?_
                refine lv_iload (pc := 87) hx hb dX9_shift_87 (lv_at hl 7 rfl) ?_
                obtain ⟨t13, e13, hf⟩ := q_ob hf
                have hI : IN A G (((xb G h x_hasImage f_places f_kinds f_weights f_howManyGenerators f_generators f_racks f_howManySeen f_seenFirst f_seenSecond f_seenIs f_seenPlaces f_howManyEvents f_eventWhat f_eventNumber g_places g_kinds g_weights g_howManyGenerators g_generators g_racks g_howManySeen g_seenFirst g_seenSecond g_seenIs g_seenPlaces g_howManyEvents g_eventWhat g_eventNumber n_m0 n_m1 n_m2 n_s0 n_s1 n_s2 v_keys v_asFound v_found v_turns v_places p_keys p_asFound p_found p_turns p_places i_sort i_howOften i_sorts i_moves n_uq n_u u_leasts u_howMany u_known n_wq n_w w_leasts w_howMany w_known t_signs t_length t_whole t_begins t_ends r_sorts r_numbers r_length) ++ (tu G h z_tp n_fa n_fi k_sort k_length k_items n_ga n_gi j_sort j_length j_items)) ++ wo) s H locs := hI
                refine x_cVt (pc := 89) (st1 := [.int t13]) (w2 := ((xb G h x_hasImage f_places f_kinds f_weights f_howManyGenerators f_generators f_racks f_howManySeen f_seenFirst f_seenSecond f_seenIs f_seenPlaces f_howManyEvents f_eventWhat f_eventNumber g_places g_kinds g_weights g_howManyGenerators g_generators g_racks g_howManySeen g_seenFirst g_seenSecond g_seenIs g_seenPlaces g_howManyEvents g_eventWhat g_eventNumber n_m0 n_m1 n_m2 n_s0 n_s1 n_s2 v_keys v_asFound v_found v_turns v_places p_keys p_asFound p_found p_turns p_places i_sort i_howOften i_sorts i_moves n_uq n_u u_leasts u_howMany u_known n_wq n_w w_leasts w_howMany w_known t_signs t_length t_whole t_begins t_ends r_sorts r_numbers r_length) ++ (tu G h z_tp n_fa n_fi k_sort k_length k_items n_ga n_gi j_sort j_length j_items))) X E hI (c_X6_hasRoom l G n_ga n_gi e13) kv_X9_313 hd_X6_hasRoom ⟨rfl, rfl⟩ (by decide) pt_xbtu_kw_1 pt_xbtu_kw_1q 0 rfl rfl rfl rfl hl.1 rfl (Nat.le_of_ble_eq_true rfl) dX9_shift_89 ⟨Nat.le_of_ble_eq_true rfl, Nat.le_of_ble_eq_true rfl⟩ rfl (fun H locs hI => ?_)
                have hI : IN A G ((xb G h x_hasImage f_places f_kinds f_weights f_howManyGenerators f_generators f_racks f_howManySeen f_seenFirst f_seenSecond f_seenIs f_seenPlaces f_howManyEvents f_eventWhat f_eventNumber g_places g_kinds g_weights g_howManyGenerators g_generators g_racks g_howManySeen g_seenFirst g_seenSecond g_seenIs g_seenPlaces g_howManyEvents g_eventWhat g_eventNumber n_m0 n_m1 n_m2 n_s0 n_s1 n_s2 v_keys v_asFound v_found v_turns v_places p_keys p_asFound p_found p_turns p_places i_sort i_howOften i_sorts i_moves n_uq n_u u_leasts u_howMany u_known n_wq n_w w_leasts w_howMany w_known t_signs t_length t_whole t_begins t_ends r_sorts r_numbers r_length) ++ ((tu G h z_tp n_fa n_fi k_sort k_length k_items n_ga n_gi j_sort j_length j_items) ++ wo)) s H locs := hI
                refine lv_if_ne (pc := 92) (tgt := 98) hx hb dX9_shift_92 (by decide) (fun c14 => ?_) (fun c14 => ?_)
                · have hf := q_in c14 hf
                  refine lv_aload (pc := 98) hx hb dX9_shift_98 (lv_at hl 1 rfl) ?_
                  refine x_get (pc := 100) X E hI inX6 42 rfl rfl 2 (by decide) tw_1_217 rfl dX9_shift_100 ?_
                  refine lv_iload_n (pc := 103) hx hb dX9_shift_103 rfl (lv_at hl 4 rfl) ?_
                  refine lv_aload (pc := 104) hx hb dX9_shift_104 (lv_at hl 0 rfl) ?_
                  refine x_get (pc := 106) X E hI inX6 44 rfl rfl 2 (by decide) tw_1_217 rfl dX9_shift_106 ?_
                  refine lv_iload (pc := 109) hx hb dX9_shift_109 (lv_at hl 6 rfl) ?_
                  refine lv_iload (pc := 111) hx hb dX9_shift_111 (lv_at hl 7 rfl) ?_
                  obtain ⟨t15, e15, hf⟩ := q_ob hf
                  refine x_copyl (pc := 113) (w' := ((xb G h x_hasImage f_places f_kinds f_weights f_howManyGenerators f_generators f_racks f_howManySeen f_seenFirst f_seenSecond f_seenIs f_seenPlaces f_howManyEvents f_eventWhat f_eventNumber g_places g_kinds g_weights g_howManyGenerators g_generators g_racks g_howManySeen g_seenFirst g_seenSecond g_seenIs g_seenPlaces g_howManyEvents g_eventWhat g_eventNumber n_m0 n_m1 n_m2 n_s0 n_s1 n_s2 v_keys v_asFound v_found v_turns v_places p_keys p_asFound p_found p_turns p_places i_sort i_howOften i_sorts i_moves n_uq n_u u_leasts u_howMany u_known n_wq n_w w_leasts w_howMany w_known t_signs t_length t_whole t_begins t_ends r_sorts r_numbers r_length) ++ ((tu G h z_tp n_fa n_fi k_sort k_length k_items n_ga n_gi j_sort j_length t15) ++ wo))) X E hI tw_3_219 43 45 rfl rfl e15 rfl (by decide) (Nat.le_of_ble_eq_true rfl) hl.1 dX9_shift_113 (fun H locs hI => ?_)
                  refine lv_iload (pc := 116) hx hb dX9_shift_116 (lv_at hl 7 rfl) ?_
                  obtain rfl := Option.some.inj hf
                  exact x_iret X hI dX9_shift_118
                · have hf := q_ip c14 hf
                  refine lv_bipush (pc := 95) (v := (-13)) hx hb dX9_shift_95 (by decide) ?_
                  obtain rfl := Option.some.inj hf
                  exact x_iret X hI dX9_shift_97
          · have hf := q_in c9 hf
            refine lv_bipush (pc := 64) (v := (-12)) hx hb dX9_shift_64 (by decide) ?_
            obtain rfl := Option.some.inj hf
            exact x_iret X hI dX9_shift_66
        · have hf := q_ip c8 hf
          refine lv_bipush (pc := 48) (v := (-11)) hx hb dX9_shift_48 (by decide) ?_
          obtain rfl := Option.some.inj hf
          exact x_iret X hI dX9_shift_50
    · have hf := q_ip c4 hf
      refine lv_iconst (pc := 14) (v := (-1)) hx hb dX9_shift_14 (by decide) ?_
      obtain rfl := Option.some.inj hf
      exact x_iret X hI dX9_shift_15

abbrev rm_X9_shift_n : Room := { frames := 1, cells := 0, slots := 0, locals := 20 }
set_option maxHeartbeats 4000000 in
set_option maxRecDepth 100000 in
theorem c_X9_shift_n (l : Launch) (G : GX) (h : Nat → Nat) {l1 : Int32} {l2 : Int32} {l3 : Int32} {l4 : Int32} {l5 : Int32} {x_hasImage : Int32} {f_places : Int32} {f_kinds : Int32} {f_weights : Nat → Int32} {f_howManyGenerators : Int32} {f_generators : Nat → Int32} {f_racks : Nat → Int32} {f_howManySeen : Int32} {f_seenFirst : Nat → Int32} {f_seenSecond : Nat → Int32} {f_seenIs : Nat → Int32} {f_seenPlaces : Nat → Int32} {f_howManyEvents : Int32} {f_eventWhat : Nat → Int32} {f_eventNumber : Nat → Int32} {g_places : Int32} {g_kinds : Int32} {g_weights : Nat → Int32} {g_howManyGenerators : Int32} {g_generators : Nat → Int32} {g_racks : Nat → Int32} {g_howManySeen : Int32} {g_seenFirst : Nat → Int32} {g_seenSecond : Nat → Int32} {g_seenIs : Nat → Int32} {g_seenPlaces : Nat → Int32} {g_howManyEvents : Int32} {g_eventWhat : Nat → Int32} {g_eventNumber : Nat → Int32} {n_m0 : Nat} {n_m1 : Nat} {n_m2 : Nat} {n_s0 : Nat} {n_s1 : Nat} {n_s2 : Nat} {v_keys : Nat → Int32} {v_asFound : Nat → Int32} {v_found : Int32} {v_turns : Int32} {v_places : Int32} {p_keys : Nat → Int32} {p_asFound : Nat → Int32} {p_found : Int32} {p_turns : Int32} {p_places : Int32} {i_sort : Nat → Int32} {i_howOften : Nat → Int32} {i_sorts : Int32} {i_moves : Int32} {n_uq : Nat} {n_u : Nat} {u_leasts : Nat → Int32} {u_howMany : Int32} {u_known : Int32} {n_wq : Nat} {n_w : Nat} {w_leasts : Nat → Int32} {w_howMany : Int32} {w_known : Int32} {t_signs : Nat → Int32} {t_length : Int32} {t_whole : Int32} {t_begins : Nat → Int32} {t_ends : Nat → Int32} {r_sorts : Nat → Int32} {r_numbers : Nat → Int32} {r_length : Int32} {wo : va_W} {res : Int32} (hf : f_X9_shift_n l1 l2 l3 l4 l5 = some res) : MX l yX9_shift cX9_shift 8 (some .int) rm_X9_shift_n G ((xb G h x_hasImage f_places f_kinds f_weights f_howManyGenerators f_generators f_racks f_howManySeen f_seenFirst f_seenSecond f_seenIs f_seenPlaces f_howManyEvents f_eventWhat f_eventNumber g_places g_kinds g_weights g_howManyGenerators g_generators g_racks g_howManySeen g_seenFirst g_seenSecond g_seenIs g_seenPlaces g_howManyEvents g_eventWhat g_eventNumber n_m0 n_m1 n_m2 n_s0 n_s1 n_s2 v_keys v_asFound v_found v_turns v_places p_keys p_asFound p_found p_turns p_places i_sort i_howOften i_sorts i_moves n_uq n_u u_leasts u_howMany u_known n_wq n_w w_leasts w_howMany w_known t_signs t_length t_whole t_begins t_ends r_sorts r_numbers r_length) ++ wo) [.ref (h 0), .int l1, .int l2, .int l3, .int l4, .int l5] ((xb G h x_hasImage f_places f_kinds f_weights f_howManyGenerators f_generators f_racks f_howManySeen f_seenFirst f_seenSecond f_seenIs f_seenPlaces f_howManyEvents f_eventWhat f_eventNumber g_places g_kinds g_weights g_howManyGenerators g_generators g_racks g_howManySeen g_seenFirst g_seenSecond g_seenIs g_seenPlaces g_howManyEvents g_eventWhat g_eventNumber n_m0 n_m1 n_m2 n_s0 n_s1 n_s2 v_keys v_asFound v_found v_turns v_places p_keys p_asFound p_found p_turns p_places i_sort i_howOften i_sorts i_moves n_uq n_u u_leasts u_howMany u_known n_wq n_w w_leasts w_howMany w_known t_signs t_length t_whole t_begins t_ends r_sorts r_numbers r_length) ++ wo) (some (.int res)) 0 0 := by
  refine MX.of (plainFor_of_name (by decide)) (Nat.le_of_ble_eq_true rfl) ?_
  intro p e s m below meth c A X E hI ls hl
  obtain ⟨hx, hb, hml, hown, hts, hr, hlk⟩ := id X
  have hl : lv_has ls 8 [(0, .ref (h 0)), (1, .int l1), (2, .int l2), (3, .int l3), (4, .int l4), (5, .int l5)] := hl
  unfold f_X9_shift_n at hf
  refine lv_iload_n (pc := 0) hx hb dX9_shift_0 rfl (lv_at hl 1 rfl) ?_
  obtain ⟨t1, e1, hf⟩ := q_ob hf
  refine x_cSn (pc := 1) (st1 := [.int t1]) X E hI (c_X9_isTape l G e1) ks_X9_285 hd_X9_isTape ⟨rfl, rfl⟩ (by decide) rfl hl.1 rfl (Nat.le_of_ble_eq_true rfl) dX9_shift_1 ⟨Nat.le_of_ble_eq_true rfl, Nat.le_of_ble_eq_true rfl⟩ rfl (fun H locs hI => ?_)
  refine lv_if_eq (pc := 4) (tgt := 14) hx hb dX9_shift_4 (by decide) (fun c2 => ?_) (fun c2 => ?_)
  · have hf := q_ip c2 hf
    refine lv_iconst (pc := 14) (v := (-1)) hx hb dX9_shift_14 (by decide) ?_
    obtain rfl := Option.some.inj hf
    exact x_iret X hI dX9_shift_15
  · have hf := q_in c2 hf
    refine lv_iload_n (pc := 7) hx hb dX9_shift_7 rfl (lv_at hl 3 rfl) ?_
    obtain ⟨t3, e3, hf⟩ := q_ob hf
    refine x_cSn (pc := 8) (st1 := [.int t3]) X E hI (c_X9_isTape l G e3) ks_X9_285 hd_X9_isTape ⟨rfl, rfl⟩ (by decide) rfl hl.1 rfl (Nat.le_of_ble_eq_true rfl) dX9_shift_8 ⟨Nat.le_of_ble_eq_true rfl, Nat.le_of_ble_eq_true rfl⟩ rfl (fun H locs hI => ?_)
    refine lv_if_ne (pc := 11) (tgt := 16) hx hb dX9_shift_11 (by decide) (fun c4 => ?_) (fun c4 => ?_)
    · have hf := q_in c4 hf
      refine lv_aload_n (pc := 16) hx hb dX9_shift_16 rfl (lv_at hl 0 rfl) ?_
      refine x_get (pc := 17) X E hI inX9 0 rfl rfl 10 (by decide) tw_2_17 rfl dX9_shift_17 ?_
      refine lv_iload_n (pc := 20) hx hb dX9_shift_20 rfl (lv_at hl 1 rfl) ?_
      exact nomatch hf
    · have hf := q_ip c4 hf
      refine lv_iconst (pc := 14) (v := (-1)) hx hb dX9_shift_14 (by decide) ?_
      obtain rfl := Option.some.inj hf
      exact x_iret X hI dX9_shift_15

