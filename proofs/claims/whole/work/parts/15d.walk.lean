abbrev rm_X9_lay : Room := { frames := 1, cells := 0, slots := 0, locals := 21 }
set_option maxHeartbeats 4000000 in
set_option maxRecDepth 100000 in
theorem c_X9_lay (l : Launch) (G : GX) (h : Nat → Nat) {l1 : Int32} {l2 : Int32} {l3 : Int32} {f_howManyGenerators : Int32} {f_generators : Nat → Int32} {f_racks : Nat → Int32} {x_hasImage : Int32} {f_places : Int32} {f_kinds : Int32} {f_weights : Nat → Int32} {f_howManySeen : Int32} {f_seenFirst : Nat → Int32} {f_seenSecond : Nat → Int32} {f_seenIs : Nat → Int32} {f_seenPlaces : Nat → Int32} {f_howManyEvents : Int32} {f_eventWhat : Nat → Int32} {f_eventNumber : Nat → Int32} {g_places : Int32} {g_kinds : Int32} {g_weights : Nat → Int32} {g_howManyGenerators : Int32} {g_generators : Nat → Int32} {g_racks : Nat → Int32} {g_howManySeen : Int32} {g_seenFirst : Nat → Int32} {g_seenSecond : Nat → Int32} {g_seenIs : Nat → Int32} {g_seenPlaces : Nat → Int32} {g_howManyEvents : Int32} {g_eventWhat : Nat → Int32} {g_eventNumber : Nat → Int32} {n_m0 : Nat} {n_m1 : Nat} {n_m2 : Nat} {n_s0 : Nat} {n_s1 : Nat} {n_s2 : Nat} {v_keys : Nat → Int32} {v_asFound : Nat → Int32} {v_found : Int32} {v_turns : Int32} {v_places : Int32} {p_keys : Nat → Int32} {p_asFound : Nat → Int32} {p_found : Int32} {p_turns : Int32} {p_places : Int32} {i_sort : Nat → Int32} {i_howOften : Nat → Int32} {i_sorts : Int32} {i_moves : Int32} {n_uq : Nat} {n_u : Nat} {u_leasts : Nat → Int32} {u_howMany : Int32} {u_known : Int32} {n_wq : Nat} {n_w : Nat} {w_leasts : Nat → Int32} {w_howMany : Int32} {w_known : Int32} {t_signs : Nat → Int32} {t_length : Int32} {t_whole : Int32} {t_begins : Nat → Int32} {t_ends : Nat → Int32} {r_sorts : Nat → Int32} {r_numbers : Nat → Int32} {r_length : Int32} {wo : va_W} {res : Int32 × (Nat → Int32)} (hf : f_X9_lay l1 l2 l3 f_howManyGenerators f_generators f_racks = some res) : MX l yX9_lay cX9_lay 6 (some .int) rm_X9_lay G ((xb G h x_hasImage f_places f_kinds f_weights f_howManyGenerators f_generators f_racks f_howManySeen f_seenFirst f_seenSecond f_seenIs f_seenPlaces f_howManyEvents f_eventWhat f_eventNumber g_places g_kinds g_weights g_howManyGenerators g_generators g_racks g_howManySeen g_seenFirst g_seenSecond g_seenIs g_seenPlaces g_howManyEvents g_eventWhat g_eventNumber n_m0 n_m1 n_m2 n_s0 n_s1 n_s2 v_keys v_asFound v_found v_turns v_places p_keys p_asFound p_found p_turns p_places i_sort i_howOften i_sorts i_moves n_uq n_u u_leasts u_howMany u_known n_wq n_w w_leasts w_howMany w_known t_signs t_length t_whole t_begins t_ends r_sorts r_numbers r_length) ++ wo) [.ref (h 0), .int l1, .int l2, .int l3] ((xb G h x_hasImage f_places f_kinds f_weights f_howManyGenerators f_generators res.2 f_howManySeen f_seenFirst f_seenSecond f_seenIs f_seenPlaces f_howManyEvents f_eventWhat f_eventNumber g_places g_kinds g_weights g_howManyGenerators g_generators g_racks g_howManySeen g_seenFirst g_seenSecond g_seenIs g_seenPlaces g_howManyEvents g_eventWhat g_eventNumber n_m0 n_m1 n_m2 n_s0 n_s1 n_s2 v_keys v_asFound v_found v_turns v_places p_keys p_asFound p_found p_turns p_places i_sort i_howOften i_sorts i_moves n_uq n_u u_leasts u_howMany u_known n_wq n_w w_leasts w_howMany w_known t_signs t_length t_whole t_begins t_ends r_sorts r_numbers r_length) ++ wo) (some (.int res.1)) 0 0 := by
  refine MX.of (plainFor_of_name (by decide)) (Nat.le_of_ble_eq_true rfl) ?_
  intro p e s m below meth c A X E hI ls hl
  obtain ⟨hx, hb, hml, hown, hts, hr, hlk⟩ := id X
  have hl : lv_has ls 6 [(0, .ref (h 0)), (1, .int l1), (2, .int l2), (3, .int l3)] := hl
  unfold f_X9_lay at hf
  refine lv_iload_n (pc := 0) hx hb dX9_lay_0 rfl (lv_at hl 1 rfl) ?_
  refine lv_if_lt (pc := 1) (tgt := 22) hx hb dX9_lay_1 (by decide) (fun c1 => ?_) (fun c1 => ?_)
  · have hf := q_ip c1 hf
    refine lv_iconst (pc := 22) (v := (-1)) hx hb dX9_lay_22 (by decide) ?_
    obtain rfl := Option.some.inj hf
    exact x_iret X hI dX9_lay_23
  · have hf := q_in c1 hf
    refine lv_iload_n (pc := 4) hx hb dX9_lay_4 rfl (lv_at hl 1 rfl) ?_
    refine lv_iconst (pc := 5) (v := 3) hx hb dX9_lay_5 (by decide) ?_
    refine lv_icmp_ge (pc := 6) (tgt := 22) hx hb dX9_lay_6 (by decide) (fun c2 => ?_) (fun c2 => ?_)
    · have hf := q_ip c2 hf
      refine lv_iconst (pc := 22) (v := (-1)) hx hb dX9_lay_22 (by decide) ?_
      obtain rfl := Option.some.inj hf
      exact x_iret X hI dX9_lay_23
    · have hf := q_in c2 hf
      refine lv_iload_n (pc := 9) hx hb dX9_lay_9 rfl (lv_at hl 3 rfl) ?_
      refine lv_iconst (pc := 10) (v := (-1)) hx hb dX9_lay_10 (by decide) ?_
      refine lv_icmp_eq (pc := 11) (tgt := 24) hx hb dX9_lay_11 (by decide) (fun c3 => ?_) (fun c3 => ?_)
      · have hf := q_ip c3 hf
        refine lv_iload_n (pc := 24) hx hb dX9_lay_24 rfl (lv_at hl 2 rfl) ?_
        refine lv_if_lt (pc := 25) (tgt := 33) hx hb dX9_lay_25 (by decide) (fun c4 => ?_) (fun c4 => ?_)
        · have hf := q_ip c4 hf
          refine lv_bipush (pc := 33) (v := (-13)) hx hb dX9_lay_33 (by decide) ?_
          obtain rfl := Option.some.inj hf
          exact x_iret X hI dX9_lay_35
        · have hf := q_in c4 hf
          refine lv_iload_n (pc := 28) hx hb dX9_lay_28 rfl (lv_at hl 2 rfl) ?_
          refine lv_iconst (pc := 29) (v := 3) hx hb dX9_lay_29 (by decide) ?_
          refine lv_icmp_lt (pc := 30) (tgt := 36) hx hb dX9_lay_30 (by decide) (fun c5 => ?_) (fun c5 => ?_)
          · have hf := q_ip c5 hf
            refine lv_iload_n (pc := 36) hx hb dX9_lay_36 rfl (lv_at hl 3 rfl) ?_
            refine lv_iconst (pc := 37) (v := (-1)) hx hb dX9_lay_37 (by decide) ?_
            refine lv_icmp_eq (pc := 38) (tgt := 62) hx hb dX9_lay_38 (by decide) (fun c6 => ?_) (fun c6 => ?_)
            · have hf := q_ip c6 hf
              refine lv_iload_n (pc := 62) hx hb dX9_lay_62 rfl (lv_at hl 1 rfl) ?_
              refine lv_iconst (pc := 63) (v := 3) hx hb dX9_lay_63 (by decide) ?_
              refine lv_imul (pc := 64) hx hb dX9_lay_64 ?_
              refine lv_iload_n (pc := 65) hx hb dX9_lay_65 rfl (lv_at hl 2 rfl) ?_
              refine lv_iadd (pc := 66) hx hb dX9_lay_66 ?_
              refine lv_istore (pc := 67) (lv' := [(4, .int ((l1 * 3) + l2)), (0, .ref (h 0)), (1, .int l1), (2, .int l2), (3, .int l3)]) hx hb dX9_lay_67 hl (by decide) rfl (fun ls hl => ?_)
              refine lv_aload_n (pc := 69) hx hb dX9_lay_69 rfl (lv_at hl 1 rfl) ?_
              refine x_get (pc := 70) X E hI inX9 0 rfl rfl 0 (by decide) tw_2_7 rfl dX9_lay_70 ?_
              refine x_get (pc := 73) X E hI inX3 1 rfl rfl 5 (by decide) tw_1_45 rfl dX9_lay_73 ?_
              refine lv_iload (pc := 76) hx hb dX9_lay_76 (lv_at hl 0 rfl) ?_
              obtain ⟨t7, e7, hf⟩ := q_ob hf
              refine x_iald (pc := 78) X E hI 4 rfl e7 dX9_lay_78 ?_
              refine lv_istore (pc := 79) (lv' := [(5, .int t7), (4, .int ((l1 * 3) + l2)), (0, .ref (h 0)), (1, .int l1), (2, .int l2), (3, .int l3)]) hx hb dX9_lay_79 hl (by decide) rfl (fun ls hl => ?_)
              refine lv_aload_n (pc := 81) hx hb dX9_lay_81 rfl (lv_at hl 2 rfl) ?_
              refine x_get (pc := 82) X E hI inX9 0 rfl rfl 0 (by decide) tw_2_7 rfl dX9_lay_82 ?_
              refine x_get (pc := 85) X E hI inX3 1 rfl rfl 5 (by decide) tw_1_45 rfl dX9_lay_85 ?_
              refine lv_iload (pc := 88) hx hb dX9_lay_88 (lv_at hl 1 rfl) ?_
              refine lv_iload_n (pc := 90) hx hb dX9_lay_90 rfl (lv_at hl 5 rfl) ?_
              obtain ⟨t8, e8, hf⟩ := q_ob hf
              refine x_iast (pc := 91) (w' := ((xb G h x_hasImage f_places f_kinds f_weights f_howManyGenerators f_generators t8 f_howManySeen f_seenFirst f_seenSecond f_seenIs f_seenPlaces f_howManyEvents f_eventWhat f_eventNumber g_places g_kinds g_weights g_howManyGenerators g_generators g_racks g_howManySeen g_seenFirst g_seenSecond g_seenIs g_seenPlaces g_howManyEvents g_eventWhat g_eventNumber n_m0 n_m1 n_m2 n_s0 n_s1 n_s2 v_keys v_asFound v_found v_turns v_places p_keys p_asFound p_found p_turns p_places i_sort i_howOften i_sorts i_moves n_uq n_u u_leasts u_howMany u_known n_wq n_w w_leasts w_howMany w_known t_signs t_length t_whole t_begins t_ends r_sorts r_numbers r_length) ++ wo)) X E hI 4 rfl e8 rfl dX9_lay_91 (fun H locs hI => ?_)
              refine lv_iload (pc := 92) hx hb dX9_lay_92 (lv_at hl 0 rfl) ?_
              refine lv_iconst (pc := 94) (v := (-1)) hx hb dX9_lay_94 (by decide) ?_
              refine lv_icmp_ne (pc := 95) (tgt := 103) hx hb dX9_lay_95 (by decide) (fun c9 => ?_) (fun c9 => ?_)
              · have hf := q_in c9 hf
                refine lv_iload (pc := 103) hx hb dX9_lay_103 (lv_at hl 0 rfl) ?_
                obtain rfl := Option.some.inj hf
                exact x_iret X hI dX9_lay_105
              · have hf := q_ip c9 hf
                refine lv_bipush (pc := 98) (v := (-5)) hx hb dX9_lay_98 (by decide) ?_
                refine lv_goto (pc := 100) (tgt := 105) hx hb dX9_lay_100 (by decide) ?_
                obtain rfl := Option.some.inj hf
                exact x_iret X hI dX9_lay_105
            · have hf := q_in c6 hf
              refine lv_iload_n (pc := 41) hx hb dX9_lay_41 rfl (lv_at hl 1 rfl) ?_
              refine lv_aload_n (pc := 42) hx hb dX9_lay_42 rfl (lv_at hl 0 rfl) ?_
              refine x_get (pc := 43) X E hI inX9 0 rfl rfl 0 (by decide) tw_2_7 rfl dX9_lay_43 ?_
              refine x_get (pc := 46) X E hI inX3 1 rfl rfl 4 (by decide) tw_1_43 rfl dX9_lay_46 ?_
              refine lv_iload_n (pc := 49) hx hb dX9_lay_49 rfl (lv_at hl 3 rfl) ?_
              obtain ⟨t10, e10, hf⟩ := q_ob hf
              refine x_iald (pc := 50) X E hI 3 rfl e10 dX9_lay_50 ?_
              refine lv_iconst (pc := 51) (v := 1) hx hb dX9_lay_51 (by decide) ?_
              refine lv_iand (pc := 52) hx hb dX9_lay_52 ?_
              obtain ⟨t11, e11, hf⟩ := q_ob hf
              refine x_cSn (pc := 53) (st1 := [.int t11]) X E hI (c_X9_takes l G e11) ks_X9_132 hd_X9_takes ⟨rfl, rfl⟩ (by decide) rfl hl.1 rfl (Nat.le_of_ble_eq_true rfl) dX9_lay_53 ⟨Nat.le_of_ble_eq_true rfl, Nat.le_of_ble_eq_true rfl⟩ rfl (fun H locs hI => ?_)
              refine lv_if_ne (pc := 56) (tgt := 62) hx hb dX9_lay_56 (by decide) (fun c12 => ?_) (fun c12 => ?_)
              · have hf := q_in c12 hf
                refine lv_iload_n (pc := 62) hx hb dX9_lay_62 rfl (lv_at hl 1 rfl) ?_
                refine lv_iconst (pc := 63) (v := 3) hx hb dX9_lay_63 (by decide) ?_
                refine lv_imul (pc := 64) hx hb dX9_lay_64 ?_
                refine lv_iload_n (pc := 65) hx hb dX9_lay_65 rfl (lv_at hl 2 rfl) ?_
                refine lv_iadd (pc := 66) hx hb dX9_lay_66 ?_
                refine lv_istore (pc := 67) (lv' := [(4, .int ((l1 * 3) + l2)), (0, .ref (h 0)), (1, .int l1), (2, .int l2), (3, .int l3)]) hx hb dX9_lay_67 hl (by decide) rfl (fun ls hl => ?_)
                refine lv_aload_n (pc := 69) hx hb dX9_lay_69 rfl (lv_at hl 1 rfl) ?_
                refine x_get (pc := 70) X E hI inX9 0 rfl rfl 0 (by decide) tw_2_7 rfl dX9_lay_70 ?_
                refine x_get (pc := 73) X E hI inX3 1 rfl rfl 5 (by decide) tw_1_45 rfl dX9_lay_73 ?_
                refine lv_iload (pc := 76) hx hb dX9_lay_76 (lv_at hl 0 rfl) ?_
                obtain ⟨t13, e13, hf⟩ := q_ob hf
                refine x_iald (pc := 78) X E hI 4 rfl e13 dX9_lay_78 ?_
                refine lv_istore (pc := 79) (lv' := [(5, .int t13), (4, .int ((l1 * 3) + l2)), (0, .ref (h 0)), (1, .int l1), (2, .int l2), (3, .int l3)]) hx hb dX9_lay_79 hl (by decide) rfl (fun ls hl => ?_)
                refine lv_aload_n (pc := 81) hx hb dX9_lay_81 rfl (lv_at hl 2 rfl) ?_
                refine x_get (pc := 82) X E hI inX9 0 rfl rfl 0 (by decide) tw_2_7 rfl dX9_lay_82 ?_
                refine x_get (pc := 85) X E hI inX3 1 rfl rfl 5 (by decide) tw_1_45 rfl dX9_lay_85 ?_
                refine lv_iload (pc := 88) hx hb dX9_lay_88 (lv_at hl 1 rfl) ?_
                refine lv_iload_n (pc := 90) hx hb dX9_lay_90 rfl (lv_at hl 5 rfl) ?_
                obtain ⟨t14, e14, hf⟩ := q_ob hf
                refine x_iast (pc := 91) (w' := ((xb G h x_hasImage f_places f_kinds f_weights f_howManyGenerators f_generators t14 f_howManySeen f_seenFirst f_seenSecond f_seenIs f_seenPlaces f_howManyEvents f_eventWhat f_eventNumber g_places g_kinds g_weights g_howManyGenerators g_generators g_racks g_howManySeen g_seenFirst g_seenSecond g_seenIs g_seenPlaces g_howManyEvents g_eventWhat g_eventNumber n_m0 n_m1 n_m2 n_s0 n_s1 n_s2 v_keys v_asFound v_found v_turns v_places p_keys p_asFound p_found p_turns p_places i_sort i_howOften i_sorts i_moves n_uq n_u u_leasts u_howMany u_known n_wq n_w w_leasts w_howMany w_known t_signs t_length t_whole t_begins t_ends r_sorts r_numbers r_length) ++ wo)) X E hI 4 rfl e14 rfl dX9_lay_91 (fun H locs hI => ?_)
                refine lv_iload (pc := 92) hx hb dX9_lay_92 (lv_at hl 0 rfl) ?_
                refine lv_iconst (pc := 94) (v := (-1)) hx hb dX9_lay_94 (by decide) ?_
                refine lv_icmp_ne (pc := 95) (tgt := 103) hx hb dX9_lay_95 (by decide) (fun c15 => ?_) (fun c15 => ?_)
                · have hf := q_in c15 hf
                  refine lv_iload (pc := 103) hx hb dX9_lay_103 (lv_at hl 0 rfl) ?_
                  obtain rfl := Option.some.inj hf
                  exact x_iret X hI dX9_lay_105
                · have hf := q_ip c15 hf
                  refine lv_bipush (pc := 98) (v := (-5)) hx hb dX9_lay_98 (by decide) ?_
                  refine lv_goto (pc := 100) (tgt := 105) hx hb dX9_lay_100 (by decide) ?_
                  obtain rfl := Option.some.inj hf
                  exact x_iret X hI dX9_lay_105
              · have hf := q_ip c12 hf
                refine lv_bipush (pc := 59) (v := (-12)) hx hb dX9_lay_59 (by decide) ?_
                obtain rfl := Option.some.inj hf
                exact x_iret X hI dX9_lay_61
          · have hf := q_in c5 hf
            refine lv_bipush (pc := 33) (v := (-13)) hx hb dX9_lay_33 (by decide) ?_
            obtain rfl := Option.some.inj hf
            exact x_iret X hI dX9_lay_35
      · have hf := q_in c3 hf
        refine lv_aload_n (pc := 14) hx hb dX9_lay_14 rfl (lv_at hl 0 rfl) ?_
        refine lv_iload_n (pc := 15) hx hb dX9_lay_15 rfl (lv_at hl 3 rfl) ?_
        obtain ⟨t16, e16, hf⟩ := q_ob hf
        refine x_cVs (pc := 16) (st1 := [.int t16]) (w1 := ((xb G h x_hasImage f_places f_kinds f_weights f_howManyGenerators f_generators f_racks f_howManySeen f_seenFirst f_seenSecond f_seenIs f_seenPlaces f_howManyEvents f_eventWhat f_eventNumber g_places g_kinds g_weights g_howManyGenerators g_generators g_racks g_howManySeen g_seenFirst g_seenSecond g_seenIs g_seenPlaces g_howManyEvents g_eventWhat g_eventNumber n_m0 n_m1 n_m2 n_s0 n_s1 n_s2 v_keys v_asFound v_found v_turns v_places p_keys p_asFound p_found p_turns p_places i_sort i_howOften i_sorts i_moves n_uq n_u u_leasts u_howMany u_known n_wq n_w w_leasts w_howMany w_known t_signs t_length t_whole t_begins t_ends r_sorts r_numbers r_length) ++ wo)) X E hI (c_X9_isGenerator l G h e16) kv_X9_126 hd_X9_isGenerator ⟨rfl, rfl⟩ (by decide) 0 rfl rfl rfl rfl hl.1 rfl (Nat.le_of_ble_eq_true rfl) dX9_lay_16 ⟨Nat.le_of_ble_eq_true rfl, Nat.le_of_ble_eq_true rfl⟩ rfl (fun H locs hI => ?_)
        refine lv_if_ne (pc := 19) (tgt := 24) hx hb dX9_lay_19 (by decide) (fun c17 => ?_) (fun c17 => ?_)
        · have hf := q_in c17 hf
          refine lv_iload_n (pc := 24) hx hb dX9_lay_24 rfl (lv_at hl 2 rfl) ?_
          refine lv_if_lt (pc := 25) (tgt := 33) hx hb dX9_lay_25 (by decide) (fun c18 => ?_) (fun c18 => ?_)
          · have hf := q_ip c18 hf
            refine lv_bipush (pc := 33) (v := (-13)) hx hb dX9_lay_33 (by decide) ?_
            obtain rfl := Option.some.inj hf
            exact x_iret X hI dX9_lay_35
          · have hf := q_in c18 hf
            refine lv_iload_n (pc := 28) hx hb dX9_lay_28 rfl (lv_at hl 2 rfl) ?_
            refine lv_iconst (pc := 29) (v := 3) hx hb dX9_lay_29 (by decide) ?_
            refine lv_icmp_lt (pc := 30) (tgt := 36) hx hb dX9_lay_30 (by decide) (fun c19 => ?_) (fun c19 => ?_)
            · have hf := q_ip c19 hf
              refine lv_iload_n (pc := 36) hx hb dX9_lay_36 rfl (lv_at hl 3 rfl) ?_
              refine lv_iconst (pc := 37) (v := (-1)) hx hb dX9_lay_37 (by decide) ?_
              refine lv_icmp_eq (pc := 38) (tgt := 62) hx hb dX9_lay_38 (by decide) (fun c20 => ?_) (fun c20 => ?_)
              · have hf := q_ip c20 hf
                refine lv_iload_n (pc := 62) hx hb dX9_lay_62 rfl (lv_at hl 1 rfl) ?_
                refine lv_iconst (pc := 63) (v := 3) hx hb dX9_lay_63 (by decide) ?_
                refine lv_imul (pc := 64) hx hb dX9_lay_64 ?_
                refine lv_iload_n (pc := 65) hx hb dX9_lay_65 rfl (lv_at hl 2 rfl) ?_
                refine lv_iadd (pc := 66) hx hb dX9_lay_66 ?_
                refine lv_istore (pc := 67) (lv' := [(4, .int ((l1 * 3) + l2)), (0, .ref (h 0)), (1, .int l1), (2, .int l2), (3, .int l3)]) hx hb dX9_lay_67 hl (by decide) rfl (fun ls hl => ?_)
                refine lv_aload_n (pc := 69) hx hb dX9_lay_69 rfl (lv_at hl 1 rfl) ?_
                refine x_get (pc := 70) X E hI inX9 0 rfl rfl 0 (by decide) tw_2_7 rfl dX9_lay_70 ?_
                refine x_get (pc := 73) X E hI inX3 1 rfl rfl 5 (by decide) tw_1_45 rfl dX9_lay_73 ?_
                refine lv_iload (pc := 76) hx hb dX9_lay_76 (lv_at hl 0 rfl) ?_
                obtain ⟨t21, e21, hf⟩ := q_ob hf
                refine x_iald (pc := 78) X E hI 4 rfl e21 dX9_lay_78 ?_
                refine lv_istore (pc := 79) (lv' := [(5, .int t21), (4, .int ((l1 * 3) + l2)), (0, .ref (h 0)), (1, .int l1), (2, .int l2), (3, .int l3)]) hx hb dX9_lay_79 hl (by decide) rfl (fun ls hl => ?_)
                refine lv_aload_n (pc := 81) hx hb dX9_lay_81 rfl (lv_at hl 2 rfl) ?_
                refine x_get (pc := 82) X E hI inX9 0 rfl rfl 0 (by decide) tw_2_7 rfl dX9_lay_82 ?_
                refine x_get (pc := 85) X E hI inX3 1 rfl rfl 5 (by decide) tw_1_45 rfl dX9_lay_85 ?_
                refine lv_iload (pc := 88) hx hb dX9_lay_88 (lv_at hl 1 rfl) ?_
                refine lv_iload_n (pc := 90) hx hb dX9_lay_90 rfl (lv_at hl 5 rfl) ?_
                obtain ⟨t22, e22, hf⟩ := q_ob hf
                refine x_iast (pc := 91) (w' := ((xb G h x_hasImage f_places f_kinds f_weights f_howManyGenerators f_generators t22 f_howManySeen f_seenFirst f_seenSecond f_seenIs f_seenPlaces f_howManyEvents f_eventWhat f_eventNumber g_places g_kinds g_weights g_howManyGenerators g_generators g_racks g_howManySeen g_seenFirst g_seenSecond g_seenIs g_seenPlaces g_howManyEvents g_eventWhat g_eventNumber n_m0 n_m1 n_m2 n_s0 n_s1 n_s2 v_keys v_asFound v_found v_turns v_places p_keys p_asFound p_found p_turns p_places i_sort i_howOften i_sorts i_moves n_uq n_u u_leasts u_howMany u_known n_wq n_w w_leasts w_howMany w_known t_signs t_length t_whole t_begins t_ends r_sorts r_numbers r_length) ++ wo)) X E hI 4 rfl e22 rfl dX9_lay_91 (fun H locs hI => ?_)
                refine lv_iload (pc := 92) hx hb dX9_lay_92 (lv_at hl 0 rfl) ?_
                refine lv_iconst (pc := 94) (v := (-1)) hx hb dX9_lay_94 (by decide) ?_
                refine lv_icmp_ne (pc := 95) (tgt := 103) hx hb dX9_lay_95 (by decide) (fun c23 => ?_) (fun c23 => ?_)
                · have hf := q_in c23 hf
                  refine lv_iload (pc := 103) hx hb dX9_lay_103 (lv_at hl 0 rfl) ?_
                  obtain rfl := Option.some.inj hf
                  exact x_iret X hI dX9_lay_105
                · have hf := q_ip c23 hf
                  refine lv_bipush (pc := 98) (v := (-5)) hx hb dX9_lay_98 (by decide) ?_
                  refine lv_goto (pc := 100) (tgt := 105) hx hb dX9_lay_100 (by decide) ?_
                  obtain rfl := Option.some.inj hf
                  exact x_iret X hI dX9_lay_105
              · have hf := q_in c20 hf
                refine lv_iload_n (pc := 41) hx hb dX9_lay_41 rfl (lv_at hl 1 rfl) ?_
                refine lv_aload_n (pc := 42) hx hb dX9_lay_42 rfl (lv_at hl 0 rfl) ?_
                refine x_get (pc := 43) X E hI inX9 0 rfl rfl 0 (by decide) tw_2_7 rfl dX9_lay_43 ?_
                refine x_get (pc := 46) X E hI inX3 1 rfl rfl 4 (by decide) tw_1_43 rfl dX9_lay_46 ?_
                refine lv_iload_n (pc := 49) hx hb dX9_lay_49 rfl (lv_at hl 3 rfl) ?_
                obtain ⟨t24, e24, hf⟩ := q_ob hf
                refine x_iald (pc := 50) X E hI 3 rfl e24 dX9_lay_50 ?_
                refine lv_iconst (pc := 51) (v := 1) hx hb dX9_lay_51 (by decide) ?_
                refine lv_iand (pc := 52) hx hb dX9_lay_52 ?_
                obtain ⟨t25, e25, hf⟩ := q_ob hf
                refine x_cSn (pc := 53) (st1 := [.int t25]) X E hI (c_X9_takes l G e25) ks_X9_132 hd_X9_takes ⟨rfl, rfl⟩ (by decide) rfl hl.1 rfl (Nat.le_of_ble_eq_true rfl) dX9_lay_53 ⟨Nat.le_of_ble_eq_true rfl, Nat.le_of_ble_eq_true rfl⟩ rfl (fun H locs hI => ?_)
                refine lv_if_ne (pc := 56) (tgt := 62) hx hb dX9_lay_56 (by decide) (fun c26 => ?_) (fun c26 => ?_)
                · have hf := q_in c26 hf
                  refine lv_iload_n (pc := 62) hx hb dX9_lay_62 rfl (lv_at hl 1 rfl) ?_
                  refine lv_iconst (pc := 63) (v := 3) hx hb dX9_lay_63 (by decide) ?_
                  refine lv_imul (pc := 64) hx hb dX9_lay_64 ?_
                  refine lv_iload_n (pc := 65) hx hb dX9_lay_65 rfl (lv_at hl 2 rfl) ?_
                  refine lv_iadd (pc := 66) hx hb dX9_lay_66 ?_
                  refine lv_istore (pc := 67) (lv' := [(4, .int ((l1 * 3) + l2)), (0, .ref (h 0)), (1, .int l1), (2, .int l2), (3, .int l3)]) hx hb dX9_lay_67 hl (by decide) rfl (fun ls hl => ?_)
                  refine lv_aload_n (pc := 69) hx hb dX9_lay_69 rfl (lv_at hl 1 rfl) ?_
                  refine x_get (pc := 70) X E hI inX9 0 rfl rfl 0 (by decide) tw_2_7 rfl dX9_lay_70 ?_
                  refine x_get (pc := 73) X E hI inX3 1 rfl rfl 5 (by decide) tw_1_45 rfl dX9_lay_73 ?_
                  refine lv_iload (pc := 76) hx hb dX9_lay_76 (lv_at hl 0 rfl) ?_
                  obtain ⟨t27, e27, hf⟩ := q_ob hf
                  refine x_iald (pc := 78) X E hI 4 rfl e27 dX9_lay_78 ?_
                  refine lv_istore (pc := 79) (lv' := [(5, .int t27), (4, .int ((l1 * 3) + l2)), (0, .ref (h 0)), (1, .int l1), (2, .int l2), (3, .int l3)]) hx hb dX9_lay_79 hl (by decide) rfl (fun ls hl => ?_)
                  refine lv_aload_n (pc := 81) hx hb dX9_lay_81 rfl (lv_at hl 2 rfl) ?_
                  refine x_get (pc := 82) X E hI inX9 0 rfl rfl 0 (by decide) tw_2_7 rfl dX9_lay_82 ?_
                  refine x_get (pc := 85) X E hI inX3 1 rfl rfl 5 (by decide) tw_1_45 rfl dX9_lay_85 ?_
                  refine lv_iload (pc := 88) hx hb dX9_lay_88 (lv_at hl 1 rfl) ?_
                  refine lv_iload_n (pc := 90) hx hb dX9_lay_90 rfl (lv_at hl 5 rfl) ?_
                  obtain ⟨t28, e28, hf⟩ := q_ob hf
                  refine x_iast (pc := 91) (w' := ((xb G h x_hasImage f_places f_kinds f_weights f_howManyGenerators f_generators t28 f_howManySeen f_seenFirst f_seenSecond f_seenIs f_seenPlaces f_howManyEvents f_eventWhat f_eventNumber g_places g_kinds g_weights g_howManyGenerators g_generators g_racks g_howManySeen g_seenFirst g_seenSecond g_seenIs g_seenPlaces g_howManyEvents g_eventWhat g_eventNumber n_m0 n_m1 n_m2 n_s0 n_s1 n_s2 v_keys v_asFound v_found v_turns v_places p_keys p_asFound p_found p_turns p_places i_sort i_howOften i_sorts i_moves n_uq n_u u_leasts u_howMany u_known n_wq n_w w_leasts w_howMany w_known t_signs t_length t_whole t_begins t_ends r_sorts r_numbers r_length) ++ wo)) X E hI 4 rfl e28 rfl dX9_lay_91 (fun H locs hI => ?_)
                  refine lv_iload (pc := 92) hx hb dX9_lay_92 (lv_at hl 0 rfl) ?_
                  refine lv_iconst (pc := 94) (v := (-1)) hx hb dX9_lay_94 (by decide) ?_
                  refine lv_icmp_ne (pc := 95) (tgt := 103) hx hb dX9_lay_95 (by decide) (fun c29 => ?_) (fun c29 => ?_)
                  · have hf := q_in c29 hf
                    refine lv_iload (pc := 103) hx hb dX9_lay_103 (lv_at hl 0 rfl) ?_
                    obtain rfl := Option.some.inj hf
                    exact x_iret X hI dX9_lay_105
                  · have hf := q_ip c29 hf
                    refine lv_bipush (pc := 98) (v := (-5)) hx hb dX9_lay_98 (by decide) ?_
                    refine lv_goto (pc := 100) (tgt := 105) hx hb dX9_lay_100 (by decide) ?_
                    obtain rfl := Option.some.inj hf
                    exact x_iret X hI dX9_lay_105
                · have hf := q_ip c26 hf
                  refine lv_bipush (pc := 59) (v := (-12)) hx hb dX9_lay_59 (by decide) ?_
                  obtain rfl := Option.some.inj hf
                  exact x_iret X hI dX9_lay_61
            · have hf := q_in c19 hf
              refine lv_bipush (pc := 33) (v := (-13)) hx hb dX9_lay_33 (by decide) ?_
              obtain rfl := Option.some.inj hf
              exact x_iret X hI dX9_lay_35
        · have hf := q_ip c17 hf
          refine lv_iconst (pc := 22) (v := (-1)) hx hb dX9_lay_22 (by decide) ?_
          obtain rfl := Option.some.inj hf
          exact x_iret X hI dX9_lay_23

abbrev rm_X9_rack : Room := { frames := 4, cells := 0, slots := 0, locals := 91 }
set_option maxHeartbeats 4000000 in
set_option maxRecDepth 100000 in
theorem c_X9_rack (l : Launch) (G : GX) (h : Nat → Nat) {l1 : Int32} {l2 : Int32} {f_places : Int32} {f_howManyGenerators : Int32} {f_generators : Nat → Int32} {f_racks : Nat → Int32} {x_hasImage : Int32} {f_kinds : Int32} {f_weights : Nat → Int32} {f_howManySeen : Int32} {f_seenFirst : Nat → Int32} {f_seenSecond : Nat → Int32} {f_seenIs : Nat → Int32} {f_seenPlaces : Nat → Int32} {f_howManyEvents : Int32} {f_eventWhat : Nat → Int32} {f_eventNumber : Nat → Int32} {g_places : Int32} {g_kinds : Int32} {g_weights : Nat → Int32} {g_howManyGenerators : Int32} {g_generators : Nat → Int32} {g_racks : Nat → Int32} {g_howManySeen : Int32} {g_seenFirst : Nat → Int32} {g_seenSecond : Nat → Int32} {g_seenIs : Nat → Int32} {g_seenPlaces : Nat → Int32} {g_howManyEvents : Int32} {g_eventWhat : Nat → Int32} {g_eventNumber : Nat → Int32} {n_m0 : Nat} {n_m1 : Nat} {n_m2 : Nat} {n_s0 : Nat} {n_s1 : Nat} {n_s2 : Nat} {v_keys : Nat → Int32} {v_asFound : Nat → Int32} {v_found : Int32} {v_turns : Int32} {v_places : Int32} {p_keys : Nat → Int32} {p_asFound : Nat → Int32} {p_found : Int32} {p_turns : Int32} {p_places : Int32} {i_sort : Nat → Int32} {i_howOften : Nat → Int32} {i_sorts : Int32} {i_moves : Int32} {n_uq : Nat} {n_u : Nat} {u_leasts : Nat → Int32} {u_howMany : Int32} {u_known : Int32} {n_wq : Nat} {n_w : Nat} {w_leasts : Nat → Int32} {w_howMany : Int32} {w_known : Int32} {t_signs : Nat → Int32} {t_length : Int32} {t_whole : Int32} {t_begins : Nat → Int32} {t_ends : Nat → Int32} {r_sorts : Nat → Int32} {r_numbers : Nat → Int32} {r_length : Int32} {wo : va_W} {res : Int32} (hf : f_X9_rack l1 l2 f_places f_howManyGenerators f_generators f_racks = some res) : MX l yX9_rack cX9_rack 4 (some .int) rm_X9_rack G ((xb G h x_hasImage f_places f_kinds f_weights f_howManyGenerators f_generators f_racks f_howManySeen f_seenFirst f_seenSecond f_seenIs f_seenPlaces f_howManyEvents f_eventWhat f_eventNumber g_places g_kinds g_weights g_howManyGenerators g_generators g_racks g_howManySeen g_seenFirst g_seenSecond g_seenIs g_seenPlaces g_howManyEvents g_eventWhat g_eventNumber n_m0 n_m1 n_m2 n_s0 n_s1 n_s2 v_keys v_asFound v_found v_turns v_places p_keys p_asFound p_found p_turns p_places i_sort i_howOften i_sorts i_moves n_uq n_u u_leasts u_howMany u_known n_wq n_w w_leasts w_howMany w_known t_signs t_length t_whole t_begins t_ends r_sorts r_numbers r_length) ++ wo) [.ref (h 0), .int l1, .int l2] ((xb G h x_hasImage f_places f_kinds f_weights f_howManyGenerators f_generators f_racks f_howManySeen f_seenFirst f_seenSecond f_seenIs f_seenPlaces f_howManyEvents f_eventWhat f_eventNumber g_places g_kinds g_weights g_howManyGenerators g_generators g_racks g_howManySeen g_seenFirst g_seenSecond g_seenIs g_seenPlaces g_howManyEvents g_eventWhat g_eventNumber n_m0 n_m1 n_m2 n_s0 n_s1 n_s2 v_keys v_asFound v_found v_turns v_places p_keys p_asFound p_found p_turns p_places i_sort i_howOften i_sorts i_moves n_uq n_u u_leasts u_howMany u_known n_wq n_w w_leasts w_howMany w_known t_signs t_length t_whole t_begins t_ends r_sorts r_numbers r_length) ++ wo) (some (.int res)) 0 0 := by
  refine MX.of (plainFor_of_name (by decide)) (Nat.le_of_ble_eq_true rfl) ?_
  intro p e s m below meth c A X E hI ls hl
  obtain ⟨hx, hb, hml, hown, hts, hr, hlk⟩ := id X
  have hl : lv_has ls 4 [(0, .ref (h 0)), (1, .int l1), (2, .int l2)] := hl
  unfold f_X9_rack at hf
  refine lv_iload_n (pc := 0) hx hb dX9_rack_0 rfl (lv_at hl 1 rfl) ?_
  refine lv_if_lt (pc := 1) (tgt := 9) hx hb dX9_rack_1 (by decide) (fun c1 => ?_) (fun c1 => ?_)
  · have hf := q_ip c1 hf
    refine lv_iconst (pc := 9) (v := (-1)) hx hb dX9_rack_9 (by decide) ?_
    obtain rfl := Option.some.inj hf
    exact x_iret X hI dX9_rack_10
  · have hf := q_in c1 hf
    refine lv_iload_n (pc := 4) hx hb dX9_rack_4 rfl (lv_at hl 1 rfl) ?_
    refine lv_iconst (pc := 5) (v := 3) hx hb dX9_rack_5 (by decide) ?_
    refine lv_icmp_lt (pc := 6) (tgt := 11) hx hb dX9_rack_6 (by decide) (fun c2 => ?_) (fun c2 => ?_)
    · have hf := q_ip c2 hf
      refine lv_iload_n (pc := 11) hx hb dX9_rack_11 rfl (lv_at hl 2 rfl) ?_
      obtain ⟨t3, e3, hf⟩ := q_ob hf
      refine x_cSn (pc := 12) (st1 := [.int t3]) X E hI (c_X9_isFlag l G e3) ks_X9_99 hd_X9_isFlag ⟨rfl, rfl⟩ (by decide) rfl hl.1 rfl (Nat.le_of_ble_eq_true rfl) dX9_rack_12 ⟨Nat.le_of_ble_eq_true rfl, Nat.le_of_ble_eq_true rfl⟩ rfl (fun H locs hI => ?_)
      refine lv_if_eq (pc := 15) (tgt := 29) hx hb dX9_rack_15 (by decide) (fun c4 => ?_) (fun c4 => ?_)
      · have hf := q_ip c4 hf
        refine lv_iload_n (pc := 29) hx hb dX9_rack_29 rfl (lv_at hl 2 rfl) ?_
        refine lv_bipush (pc := 30) (v := 10) hx hb dX9_rack_30 (by decide) ?_
        refine lv_icmp_lt (pc := 32) (tgt := 41) hx hb dX9_rack_32 (by decide) (fun c5 => ?_) (fun c5 => ?_)
        · have hf := q_ip c5 hf
          refine lv_iconst (pc := 41) (v := (-1)) hx hb dX9_rack_41 (by decide) ?_
          obtain rfl := Option.some.inj hf
          exact x_iret X hI dX9_rack_42
        · have hf := q_in c5 hf
          refine lv_iload_n (pc := 35) hx hb dX9_rack_35 rfl (lv_at hl 2 rfl) ?_
          refine lv_bipush (pc := 36) (v := 13) hx hb dX9_rack_36 (by decide) ?_
          refine lv_icmp_lt (pc := 38) (tgt := 43) hx hb dX9_rack_38 (by decide) (fun c6 => ?_) (fun c6 => ?_)
          · have hf := q_ip c6 hf
            refine lv_aload_n (pc := 43) hx hb dX9_rack_43 rfl (lv_at hl 0 rfl) ?_
            refine x_get (pc := 44) X E hI inX9 0 rfl rfl 0 (by decide) tw_2_7 rfl dX9_rack_44 ?_
            refine x_get (pc := 47) X E hI inX3 1 rfl rfl 5 (by decide) tw_1_45 rfl dX9_rack_47 ?_
            refine lv_iload_n (pc := 50) hx hb dX9_rack_50 rfl (lv_at hl 1 rfl) ?_
            refine lv_iconst (pc := 51) (v := 3) hx hb dX9_rack_51 (by decide) ?_
            refine lv_imul (pc := 52) hx hb dX9_rack_52 ?_
            refine lv_iload_n (pc := 53) hx hb dX9_rack_53 rfl (lv_at hl 2 rfl) ?_
            refine lv_iadd (pc := 54) hx hb dX9_rack_54 ?_
            refine lv_bipush (pc := 55) (v := 10) hx hb dX9_rack_55 (by decide) ?_
            refine lv_isub (pc := 57) hx hb dX9_rack_57 ?_
            obtain ⟨t7, e7, hf⟩ := q_ob hf
            refine x_iald (pc := 58) X E hI 4 rfl e7 dX9_rack_58 ?_
            refine lv_istore_n (pc := 59) (lv' := [(3, .int t7), (0, .ref (h 0)), (1, .int l1), (2, .int l2)]) hx hb dX9_rack_59 rfl hl (by decide) rfl (fun ls hl => ?_)
            refine lv_iload_n (pc := 60) hx hb dX9_rack_60 rfl (lv_at hl 0 rfl) ?_
            refine lv_iconst (pc := 61) (v := (-1)) hx hb dX9_rack_61 (by decide) ?_
            refine lv_icmp_ne (pc := 62) (tgt := 70) hx hb dX9_rack_62 (by decide) (fun c8 => ?_) (fun c8 => ?_)
            · have hf := q_in c8 hf
              refine lv_iload_n (pc := 70) hx hb dX9_rack_70 rfl (lv_at hl 0 rfl) ?_
              obtain rfl := Option.some.inj hf
              exact x_iret X hI dX9_rack_71
            · have hf := q_ip c8 hf
              refine lv_bipush (pc := 65) (v := (-5)) hx hb dX9_rack_65 (by decide) ?_
              refine lv_goto (pc := 67) (tgt := 71) hx hb dX9_rack_67 (by decide) ?_
              obtain rfl := Option.some.inj hf
              exact x_iret X hI dX9_rack_71
          · have hf := q_in c6 hf
            refine lv_iconst (pc := 41) (v := (-1)) hx hb dX9_rack_41 (by decide) ?_
            obtain rfl := Option.some.inj hf
            exact x_iret X hI dX9_rack_42
      · have hf := q_in c4 hf
        refine lv_aload_n (pc := 18) hx hb dX9_rack_18 rfl (lv_at hl 0 rfl) ?_
        refine lv_aload_n (pc := 19) hx hb dX9_rack_19 rfl (lv_at hl 0 rfl) ?_
        refine lv_iload_n (pc := 20) hx hb dX9_rack_20 rfl (lv_at hl 1 rfl) ?_
        obtain ⟨t9, e9, hf⟩ := q_ob hf
        refine x_cVs (pc := 21) (st1 := [.int t9, .ref (h 0)]) (w1 := ((xb G h x_hasImage f_places f_kinds f_weights f_howManyGenerators f_generators f_racks f_howManySeen f_seenFirst f_seenSecond f_seenIs f_seenPlaces f_howManyEvents f_eventWhat f_eventNumber g_places g_kinds g_weights g_howManyGenerators g_generators g_racks g_howManySeen g_seenFirst g_seenSecond g_seenIs g_seenPlaces g_howManyEvents g_eventWhat g_eventNumber n_m0 n_m1 n_m2 n_s0 n_s1 n_s2 v_keys v_asFound v_found v_turns v_places p_keys p_asFound p_found p_turns p_places i_sort i_howOften i_sorts i_moves n_uq n_u u_leasts u_howMany u_known n_wq n_w w_leasts w_howMany w_known t_signs t_length t_whole t_begins t_ends r_sorts r_numbers r_length) ++ wo)) X E hI (c_X9_productOf l G h e9) kv_X9_139 hd_X9_productOf ⟨rfl, rfl⟩ (by decide) 0 rfl rfl rfl rfl hl.1 rfl (Nat.le_of_ble_eq_true rfl) dX9_rack_21 ⟨Nat.le_of_ble_eq_true rfl, Nat.le_of_ble_eq_true rfl⟩ rfl (fun H locs hI => ?_)
        refine lv_iload_n (pc := 24) hx hb dX9_rack_24 rfl (lv_at hl 2 rfl) ?_
        obtain ⟨t10, e10, hf⟩ := q_ob hf
        refine x_cVs (pc := 25) (st1 := [.int t10]) (w1 := ((xb G h x_hasImage f_places f_kinds f_weights f_howManyGenerators f_generators f_racks f_howManySeen f_seenFirst f_seenSecond f_seenIs f_seenPlaces f_howManyEvents f_eventWhat f_eventNumber g_places g_kinds g_weights g_howManyGenerators g_generators g_racks g_howManySeen g_seenFirst g_seenSecond g_seenIs g_seenPlaces g_howManyEvents g_eventWhat g_eventNumber n_m0 n_m1 n_m2 n_s0 n_s1 n_s2 v_keys v_asFound v_found v_turns v_places p_keys p_asFound p_found p_turns p_places i_sort i_howOften i_sorts i_moves n_uq n_u u_leasts u_howMany u_known n_wq n_w w_leasts w_howMany w_known t_signs t_length t_whole t_begins t_ends r_sorts r_numbers r_length) ++ wo)) X E hI (c_X9_tellMove l G h e10) kv_X9_129 hd_X9_tellMove ⟨rfl, rfl⟩ (by decide) 0 rfl rfl rfl rfl hl.1 rfl (Nat.le_of_ble_eq_true rfl) dX9_rack_25 ⟨Nat.le_of_ble_eq_true rfl, Nat.le_of_ble_eq_true rfl⟩ rfl (fun H locs hI => ?_)
        obtain rfl := Option.some.inj hf
        exact x_iret X hI dX9_rack_28
    · have hf := q_in c2 hf
      refine lv_iconst (pc := 9) (v := (-1)) hx hb dX9_rack_9 (by decide) ?_
      obtain rfl := Option.some.inj hf
      exact x_iret X hI dX9_rack_10

abbrev rm_X9_move : Room := { frames := 3, cells := 0, slots := 0, locals := 70 }
set_option maxHeartbeats 4000000 in
set_option maxRecDepth 100000 in
theorem c_X9_move (l : Launch) (G : GX) (h : Nat → Nat) {l1 : Int32} {l2 : Int32} {f_places : Int32} {v_keys : Nat → Int32} {v_found : Int32} {x_hasImage : Int32} {f_kinds : Int32} {f_weights : Nat → Int32} {f_howManyGenerators : Int32} {f_generators : Nat → Int32} {f_racks : Nat → Int32} {f_howManySeen : Int32} {f_seenFirst : Nat → Int32} {f_seenSecond : Nat → Int32} {f_seenIs : Nat → Int32} {f_seenPlaces : Nat → Int32} {f_howManyEvents : Int32} {f_eventWhat : Nat → Int32} {f_eventNumber : Nat → Int32} {g_places : Int32} {g_kinds : Int32} {g_weights : Nat → Int32} {g_howManyGenerators : Int32} {g_generators : Nat → Int32} {g_racks : Nat → Int32} {g_howManySeen : Int32} {g_seenFirst : Nat → Int32} {g_seenSecond : Nat → Int32} {g_seenIs : Nat → Int32} {g_seenPlaces : Nat → Int32} {g_howManyEvents : Int32} {g_eventWhat : Nat → Int32} {g_eventNumber : Nat → Int32} {n_m0 : Nat} {n_m1 : Nat} {n_m2 : Nat} {n_s0 : Nat} {n_s1 : Nat} {n_s2 : Nat} {v_asFound : Nat → Int32} {v_turns : Int32} {v_places : Int32} {p_keys : Nat → Int32} {p_asFound : Nat → Int32} {p_found : Int32} {p_turns : Int32} {p_places : Int32} {i_sort : Nat → Int32} {i_howOften : Nat → Int32} {i_sorts : Int32} {i_moves : Int32} {n_uq : Nat} {n_u : Nat} {u_leasts : Nat → Int32} {u_howMany : Int32} {u_known : Int32} {n_wq : Nat} {n_w : Nat} {w_leasts : Nat → Int32} {w_howMany : Int32} {w_known : Int32} {t_signs : Nat → Int32} {t_length : Int32} {t_whole : Int32} {t_begins : Nat → Int32} {t_ends : Nat → Int32} {r_sorts : Nat → Int32} {r_numbers : Nat → Int32} {r_length : Int32} {wo : va_W} {res : Int32} (hf : f_X9_move l1 l2 f_places v_keys v_found = some res) : MX l yX9_move cX9_move 3 (some .int) rm_X9_move G ((xb G h x_hasImage f_places f_kinds f_weights f_howManyGenerators f_generators f_racks f_howManySeen f_seenFirst f_seenSecond f_seenIs f_seenPlaces f_howManyEvents f_eventWhat f_eventNumber g_places g_kinds g_weights g_howManyGenerators g_generators g_racks g_howManySeen g_seenFirst g_seenSecond g_seenIs g_seenPlaces g_howManyEvents g_eventWhat g_eventNumber n_m0 n_m1 n_m2 n_s0 n_s1 n_s2 v_keys v_asFound v_found v_turns v_places p_keys p_asFound p_found p_turns p_places i_sort i_howOften i_sorts i_moves n_uq n_u u_leasts u_howMany u_known n_wq n_w w_leasts w_howMany w_known t_signs t_length t_whole t_begins t_ends r_sorts r_numbers r_length) ++ wo) [.ref (h 0), .int l1, .int l2] ((xb G h x_hasImage f_places f_kinds f_weights f_howManyGenerators f_generators f_racks f_howManySeen f_seenFirst f_seenSecond f_seenIs f_seenPlaces f_howManyEvents f_eventWhat f_eventNumber g_places g_kinds g_weights g_howManyGenerators g_generators g_racks g_howManySeen g_seenFirst g_seenSecond g_seenIs g_seenPlaces g_howManyEvents g_eventWhat g_eventNumber n_m0 n_m1 n_m2 n_s0 n_s1 n_s2 v_keys v_asFound v_found v_turns v_places p_keys p_asFound p_found p_turns p_places i_sort i_howOften i_sorts i_moves n_uq n_u u_leasts u_howMany u_known n_wq n_w w_leasts w_howMany w_known t_signs t_length t_whole t_begins t_ends r_sorts r_numbers r_length) ++ wo) (some (.int res)) 0 0 := by
  refine MX.of (plainFor_of_name (by decide)) (Nat.le_of_ble_eq_true rfl) ?_
  intro p e s m below meth c A X E hI ls hl
  obtain ⟨hx, hb, hml, hown, hts, hr, hlk⟩ := id X
  have hl : lv_has ls 3 [(0, .ref (h 0)), (1, .int l1), (2, .int l2)] := hl
  unfold f_X9_move at hf
  refine lv_iload_n (pc := 0) hx hb dX9_move_0 rfl (lv_at hl 1 rfl) ?_
  refine lv_if_lt (pc := 1) (tgt := 15) hx hb dX9_move_1 (by decide) (fun c1 => ?_) (fun c1 => ?_)
  · have hf := q_ip c1 hf
    refine lv_iconst (pc := 15) (v := (-1)) hx hb dX9_move_15 (by decide) ?_
    obtain rfl := Option.some.inj hf
    exact x_iret X hI dX9_move_16
  · have hf := q_in c1 hf
    refine lv_iload_n (pc := 4) hx hb dX9_move_4 rfl (lv_at hl 1 rfl) ?_
    refine lv_aload_n (pc := 5) hx hb dX9_move_5 rfl (lv_at hl 0 rfl) ?_
    refine x_get (pc := 6) X E hI inX9 0 rfl rfl 3 (by decide) tw_2_10 rfl dX9_move_6 ?_
    refine x_get (pc := 9) X E hI inX5 21 rfl rfl 2 (by decide) tw_1_103 rfl dX9_move_9 ?_
    refine lv_icmp_lt (pc := 12) (tgt := 17) hx hb dX9_move_12 (by decide) (fun c2 => ?_) (fun c2 => ?_)
    · have hf := q_ip c2 hf
      refine lv_aload_n (pc := 17) hx hb dX9_move_17 rfl (lv_at hl 0 rfl) ?_
      refine lv_aload_n (pc := 18) hx hb dX9_move_18 rfl (lv_at hl 0 rfl) ?_
      refine x_get (pc := 19) X E hI inX9 0 rfl rfl 3 (by decide) tw_2_10 rfl dX9_move_19 ?_
      refine x_get (pc := 22) X E hI inX5 21 rfl rfl 0 (by decide) tw_1_99 rfl dX9_move_22 ?_
      refine lv_iload_n (pc := 25) hx hb dX9_move_25 rfl (lv_at hl 1 rfl) ?_
      obtain ⟨t3, e3, hf⟩ := q_ob hf
      refine x_iald (pc := 26) X E hI 22 rfl e3 dX9_move_26 ?_
      refine lv_iload_n (pc := 27) hx hb dX9_move_27 rfl (lv_at hl 2 rfl) ?_
      obtain ⟨t4, e4, hf⟩ := q_ob hf
      refine x_cVs (pc := 28) (st1 := [.int t4]) (w1 := ((xb G h x_hasImage f_places f_kinds f_weights f_howManyGenerators f_generators f_racks f_howManySeen f_seenFirst f_seenSecond f_seenIs f_seenPlaces f_howManyEvents f_eventWhat f_eventNumber g_places g_kinds g_weights g_howManyGenerators g_generators g_racks g_howManySeen g_seenFirst g_seenSecond g_seenIs g_seenPlaces g_howManyEvents g_eventWhat g_eventNumber n_m0 n_m1 n_m2 n_s0 n_s1 n_s2 v_keys v_asFound v_found v_turns v_places p_keys p_asFound p_found p_turns p_places i_sort i_howOften i_sorts i_moves n_uq n_u u_leasts u_howMany u_known n_wq n_w w_leasts w_howMany w_known t_signs t_length t_whole t_begins t_ends r_sorts r_numbers r_length) ++ wo)) X E hI (c_X9_tellMove l G h e4) kv_X9_129 hd_X9_tellMove ⟨rfl, rfl⟩ (by decide) 0 rfl rfl rfl rfl hl.1 rfl (Nat.le_of_ble_eq_true rfl) dX9_move_28 ⟨Nat.le_of_ble_eq_true rfl, Nat.le_of_ble_eq_true rfl⟩ rfl (fun H locs hI => ?_)
      obtain rfl := Option.some.inj hf
      exact x_iret X hI dX9_move_31
    · have hf := q_in c2 hf
      refine lv_iconst (pc := 15) (v := (-1)) hx hb dX9_move_15 (by decide) ?_
      obtain rfl := Option.some.inj hf
      exact x_iret X hI dX9_move_16

abbrev rm_X9_told : Room := { frames := 4, cells := 0, slots := 0, locals := 106 }
set_option maxHeartbeats 4000000 in
set_option maxRecDepth 100000 in
theorem c_X9_told (l : Launch) (G : GX) (h : Nat → Nat) {l1 : Int32} {f_places : Int32} {f_kinds : Int32} {f_howManyGenerators : Int32} {v_keys : Nat → Int32} {v_found : Int32} {v_turns : Int32} {v_places : Int32} {i_sort : Nat → Int32} {i_howOften : Nat → Int32} {i_sorts : Int32} {i_moves : Int32} {x_hasImage : Int32} {f_weights : Nat → Int32} {f_generators : Nat → Int32} {f_racks : Nat → Int32} {f_howManySeen : Int32} {f_seenFirst : Nat → Int32} {f_seenSecond : Nat → Int32} {f_seenIs : Nat → Int32} {f_seenPlaces : Nat → Int32} {f_howManyEvents : Int32} {f_eventWhat : Nat → Int32} {f_eventNumber : Nat → Int32} {g_places : Int32} {g_kinds : Int32} {g_weights : Nat → Int32} {g_howManyGenerators : Int32} {g_generators : Nat → Int32} {g_racks : Nat → Int32} {g_howManySeen : Int32} {g_seenFirst : Nat → Int32} {g_seenSecond : Nat → Int32} {g_seenIs : Nat → Int32} {g_seenPlaces : Nat → Int32} {g_howManyEvents : Int32} {g_eventWhat : Nat → Int32} {g_eventNumber : Nat → Int32} {n_m0 : Nat} {n_m1 : Nat} {n_m2 : Nat} {n_s0 : Nat} {n_s1 : Nat} {n_s2 : Nat} {v_asFound : Nat → Int32} {p_keys : Nat → Int32} {p_asFound : Nat → Int32} {p_found : Int32} {p_turns : Int32} {p_places : Int32} {n_uq : Nat} {n_u : Nat} {u_leasts : Nat → Int32} {u_howMany : Int32} {u_known : Int32} {n_wq : Nat} {n_w : Nat} {w_leasts : Nat → Int32} {w_howMany : Int32} {w_known : Int32} {t_signs : Nat → Int32} {t_length : Int32} {t_whole : Int32} {t_begins : Nat → Int32} {t_ends : Nat → Int32} {r_sorts : Nat → Int32} {r_numbers : Nat → Int32} {r_length : Int32} {wo : va_W} {res : Int32 × (Nat → Int32) × (Nat → Int32) × Int32 × Int32} (hf : f_X9_told l1 f_places f_kinds f_howManyGenerators v_keys v_found v_turns v_places i_sort i_howOften i_sorts i_moves = some res) : MX l yX9_told cX9_told 2 (some .int) rm_X9_told G ((xb G h x_hasImage f_places f_kinds f_weights f_howManyGenerators f_generators f_racks f_howManySeen f_seenFirst f_seenSecond f_seenIs f_seenPlaces f_howManyEvents f_eventWhat f_eventNumber g_places g_kinds g_weights g_howManyGenerators g_generators g_racks g_howManySeen g_seenFirst g_seenSecond g_seenIs g_seenPlaces g_howManyEvents g_eventWhat g_eventNumber n_m0 n_m1 n_m2 n_s0 n_s1 n_s2 v_keys v_asFound v_found v_turns v_places p_keys p_asFound p_found p_turns p_places i_sort i_howOften i_sorts i_moves n_uq n_u u_leasts u_howMany u_known n_wq n_w w_leasts w_howMany w_known t_signs t_length t_whole t_begins t_ends r_sorts r_numbers r_length) ++ wo) [.ref (h 0), .int l1] ((xb G h x_hasImage f_places f_kinds f_weights f_howManyGenerators f_generators f_racks f_howManySeen f_seenFirst f_seenSecond f_seenIs f_seenPlaces f_howManyEvents f_eventWhat f_eventNumber g_places g_kinds g_weights g_howManyGenerators g_generators g_racks g_howManySeen g_seenFirst g_seenSecond g_seenIs g_seenPlaces g_howManyEvents g_eventWhat g_eventNumber n_m0 n_m1 n_m2 n_s0 n_s1 n_s2 v_keys v_asFound v_found v_turns v_places p_keys p_asFound p_found p_turns p_places res.2.1 res.2.2.1 res.2.2.2.1 res.2.2.2.2 n_uq n_u u_leasts u_howMany u_known n_wq n_w w_leasts w_howMany w_known t_signs t_length t_whole t_begins t_ends r_sorts r_numbers r_length) ++ wo) (some (.int res.1)) 0 0 := by
  refine MX.of (plainFor_of_name (by decide)) (Nat.le_of_ble_eq_true rfl) ?_
  intro p e s m below meth c A X E hI ls hl
  obtain ⟨hx, hb, hml, hown, hts, hr, hlk⟩ := id X
  have hl : lv_has ls 2 [(0, .ref (h 0)), (1, .int l1)] := hl
  unfold f_X9_told at hf
  refine lv_iload_n (pc := 0) hx hb dX9_told_0 rfl (lv_at hl 1 rfl) ?_
  rcases Decidable.em (l1 = 0) with c1 | c1
  · refine lv_tableIn (pc := 1) (tgt := 52) hx hb dX9_told_1 (by rw [c1]; decide) (by rw [c1]; decide) (by rw [c1]; rfl) (by decide) ?_
    have hf := q_ip c1 hf
    refine lv_aload_n (pc := 52) hx hb dX9_told_52 rfl (lv_at hl 0 rfl) ?_
    refine x_get (pc := 53) X E hI inX9 0 rfl rfl 0 (by decide) tw_2_7 rfl dX9_told_53 ?_
    refine x_get (pc := 56) X E hI inX3 1 rfl rfl 0 (by decide) tw_1_35 rfl dX9_told_56 ?_
    obtain rfl := Option.some.inj hf
    exact x_iret X hI dX9_told_59
  · have hf := q_in c1 hf
    rcases Decidable.em (l1 = 1) with c2 | c2
    · refine lv_tableIn (pc := 1) (tgt := 60) hx hb dX9_told_1 (by rw [c2]; decide) (by rw [c2]; decide) (by rw [c2]; rfl) (by decide) ?_
      have hf := q_ip c2 hf
      refine lv_aload_n (pc := 60) hx hb dX9_told_60 rfl (lv_at hl 0 rfl) ?_
      refine x_get (pc := 61) X E hI inX9 0 rfl rfl 0 (by decide) tw_2_7 rfl dX9_told_61 ?_
      refine x_get (pc := 64) X E hI inX3 1 rfl rfl 1 (by decide) tw_1_37 rfl dX9_told_64 ?_
      obtain rfl := Option.some.inj hf
      exact x_iret X hI dX9_told_67
    · have hf := q_in c2 hf
      rcases Decidable.em (l1 = 2) with c3 | c3
      · refine lv_tableIn (pc := 1) (tgt := 68) hx hb dX9_told_1 (by rw [c3]; decide) (by rw [c3]; decide) (by rw [c3]; rfl) (by decide) ?_
        have hf := q_ip c3 hf
        refine lv_aload_n (pc := 68) hx hb dX9_told_68 rfl (lv_at hl 0 rfl) ?_
        refine x_get (pc := 69) X E hI inX9 0 rfl rfl 0 (by decide) tw_2_7 rfl dX9_told_69 ?_
        refine x_get (pc := 72) X E hI inX3 1 rfl rfl 3 (by decide) tw_1_40 rfl dX9_told_72 ?_
        obtain rfl := Option.some.inj hf
        exact x_iret X hI dX9_told_75
      · have hf := q_in c3 hf
        rcases Decidable.em (l1 = 3) with c4 | c4
        · refine lv_tableIn (pc := 1) (tgt := 76) hx hb dX9_told_1 (by rw [c4]; decide) (by rw [c4]; decide) (by rw [c4]; rfl) (by decide) ?_
          have hf := q_ip c4 hf
          refine lv_aload_n (pc := 76) hx hb dX9_told_76 rfl (lv_at hl 0 rfl) ?_
          refine x_get (pc := 77) X E hI inX9 0 rfl rfl 3 (by decide) tw_2_10 rfl dX9_told_77 ?_
          refine x_get (pc := 80) X E hI inX5 21 rfl rfl 2 (by decide) tw_1_103 rfl dX9_told_80 ?_
          obtain rfl := Option.some.inj hf
          exact x_iret X hI dX9_told_83
        · have hf := q_in c4 hf
          rcases Decidable.em (l1 = 4) with c5 | c5
          · refine lv_tableIn (pc := 1) (tgt := 84) hx hb dX9_told_1 (by rw [c5]; decide) (by rw [c5]; decide) (by rw [c5]; rfl) (by decide) ?_
            have hf := q_ip c5 hf
            refine lv_aload_n (pc := 84) hx hb dX9_told_84 rfl (lv_at hl 0 rfl) ?_
            refine x_get (pc := 85) X E hI inX9 0 rfl rfl 3 (by decide) tw_2_10 rfl dX9_told_85 ?_
            refine x_get (pc := 88) X E hI inX5 21 rfl rfl 3 (by decide) tw_1_105 rfl dX9_told_88 ?_
            obtain rfl := Option.some.inj hf
            exact x_iret X hI dX9_told_91
          · have hf := q_in c5 hf
            rcases Decidable.em (l1 = 5) with c6 | c6
            · refine lv_tableIn (pc := 1) (tgt := 92) hx hb dX9_told_1 (by rw [c6]; decide) (by rw [c6]; decide) (by rw [c6]; rfl) (by decide) ?_
              have hf := q_ip c6 hf
              refine lv_aload_n (pc := 92) hx hb dX9_told_92 rfl (lv_at hl 0 rfl) ?_
              obtain ⟨t7, e7, hf⟩ := q_ob hf
              refine x_cVs (pc := 93) (st1 := [.int t7]) (w1 := ((xb G h x_hasImage f_places f_kinds f_weights f_howManyGenerators f_generators f_racks f_howManySeen f_seenFirst f_seenSecond f_seenIs f_seenPlaces f_howManyEvents f_eventWhat f_eventNumber g_places g_kinds g_weights g_howManyGenerators g_generators g_racks g_howManySeen g_seenFirst g_seenSecond g_seenIs g_seenPlaces g_howManyEvents g_eventWhat g_eventNumber n_m0 n_m1 n_m2 n_s0 n_s1 n_s2 v_keys v_asFound v_found v_turns v_places p_keys p_asFound p_found p_turns p_places i_sort i_howOften i_sorts i_moves n_uq n_u u_leasts u_howMany u_known n_wq n_w w_leasts w_howMany w_known t_signs t_length t_whole t_begins t_ends r_sorts r_numbers r_length) ++ wo)) X E hI (c_X9_paintings l G h e7) kv_X9_151 hd_X9_paintings ⟨rfl, rfl⟩ (by decide) 0 rfl rfl rfl rfl hl.1 rfl (Nat.le_of_ble_eq_true rfl) dX9_told_93 ⟨Nat.le_of_ble_eq_true rfl, Nat.le_of_ble_eq_true rfl⟩ rfl (fun H locs hI => ?_)
              obtain rfl := Option.some.inj hf
              exact x_iret X hI dX9_told_96
            · have hf := q_in c6 hf
              rcases Decidable.em (l1 = 6) with c8 | c8
              · refine lv_tableIn (pc := 1) (tgt := 97) hx hb dX9_told_1 (by rw [c8]; decide) (by rw [c8]; decide) (by rw [c8]; rfl) (by decide) ?_
                have hf := q_ip c8 hf
                refine lv_aload_n (pc := 97) hx hb dX9_told_97 rfl (lv_at hl 0 rfl) ?_
                refine lv_iconst (pc := 98) (v := 0) hx hb dX9_told_98 (by decide) ?_
                obtain ⟨t9, e9, hf⟩ := q_ob hf
                refine x_cVs (pc := 99) (st1 := [.int t9.1]) (w1 := ((xb G h x_hasImage f_places f_kinds f_weights f_howManyGenerators f_generators f_racks f_howManySeen f_seenFirst f_seenSecond f_seenIs f_seenPlaces f_howManyEvents f_eventWhat f_eventNumber g_places g_kinds g_weights g_howManyGenerators g_generators g_racks g_howManySeen g_seenFirst g_seenSecond g_seenIs g_seenPlaces g_howManyEvents g_eventWhat g_eventNumber n_m0 n_m1 n_m2 n_s0 n_s1 n_s2 v_keys v_asFound v_found v_turns v_places p_keys p_asFound p_found p_turns p_places t9.2.1 t9.2.2.1 t9.2.2.2.1 t9.2.2.2.2 n_uq n_u u_leasts u_howMany u_known n_wq n_w w_leasts w_howMany w_known t_signs t_length t_whole t_begins t_ends r_sorts r_numbers r_length) ++ wo)) X E hI (c_X9_howManyClasses l G h e9) kv_X9_155 hd_X9_howManyClasses ⟨rfl, rfl⟩ (by decide) 0 rfl rfl rfl rfl hl.1 rfl (Nat.le_of_ble_eq_true rfl) dX9_told_99 ⟨Nat.le_of_ble_eq_true rfl, Nat.le_of_ble_eq_true rfl⟩ rfl (fun H locs hI => ?_)
                obtain rfl := Option.some.inj hf
                exact x_iret X hI dX9_told_102
              · have hf := q_in c8 hf
                rcases Decidable.em (l1 = 7) with c10 | c10
                · refine lv_tableIn (pc := 1) (tgt := 103) hx hb dX9_told_1 (by rw [c10]; decide) (by rw [c10]; decide) (by rw [c10]; rfl) (by decide) ?_
                  have hf := q_ip c10 hf
                  refine lv_aload_n (pc := 103) hx hb dX9_told_103 rfl (lv_at hl 0 rfl) ?_
                  refine lv_iconst (pc := 104) (v := 1) hx hb dX9_told_104 (by decide) ?_
                  obtain ⟨t11, e11, hf⟩ := q_ob hf
                  refine x_cVs (pc := 105) (st1 := [.int t11.1]) (w1 := ((xb G h x_hasImage f_places f_kinds f_weights f_howManyGenerators f_generators f_racks f_howManySeen f_seenFirst f_seenSecond f_seenIs f_seenPlaces f_howManyEvents f_eventWhat f_eventNumber g_places g_kinds g_weights g_howManyGenerators g_generators g_racks g_howManySeen g_seenFirst g_seenSecond g_seenIs g_seenPlaces g_howManyEvents g_eventWhat g_eventNumber n_m0 n_m1 n_m2 n_s0 n_s1 n_s2 v_keys v_asFound v_found v_turns v_places p_keys p_asFound p_found p_turns p_places t11.2.1 t11.2.2.1 t11.2.2.2.1 t11.2.2.2.2 n_uq n_u u_leasts u_howMany u_known n_wq n_w w_leasts w_howMany w_known t_signs t_length t_whole t_begins t_ends r_sorts r_numbers r_length) ++ wo)) X E hI (c_X9_howManyClasses l G h e11) kv_X9_155 hd_X9_howManyClasses ⟨rfl, rfl⟩ (by decide) 0 rfl rfl rfl rfl hl.1 rfl (Nat.le_of_ble_eq_true rfl) dX9_told_105 ⟨Nat.le_of_ble_eq_true rfl, Nat.le_of_ble_eq_true rfl⟩ rfl (fun H locs hI => ?_)
                  obtain rfl := Option.some.inj hf
                  exact x_iret X hI dX9_told_108
                · have hf := q_in c10 hf
                  rcases Decidable.em (l1 = 8) with c12 | c12
                  · refine lv_tableIn (pc := 1) (tgt := 109) hx hb dX9_told_1 (by rw [c12]; decide) (by rw [c12]; decide) (by rw [c12]; rfl) (by decide) ?_
                    have hf := q_ip c12 hf
                    refine lv_aload_n (pc := 109) hx hb dX9_told_109 rfl (lv_at hl 0 rfl) ?_
                    refine lv_iconst (pc := 110) (v := 0) hx hb dX9_told_110 (by decide) ?_
                    obtain ⟨t13, e13, hf⟩ := q_ob hf
                    refine x_cVs (pc := 111) (st1 := [.int t13.1]) (w1 := ((xb G h x_hasImage f_places f_kinds f_weights f_howManyGenerators f_generators f_racks f_howManySeen f_seenFirst f_seenSecond f_seenIs f_seenPlaces f_howManyEvents f_eventWhat f_eventNumber g_places g_kinds g_weights g_howManyGenerators g_generators g_racks g_howManySeen g_seenFirst g_seenSecond g_seenIs g_seenPlaces g_howManyEvents g_eventWhat g_eventNumber n_m0 n_m1 n_m2 n_s0 n_s1 n_s2 v_keys v_asFound v_found v_turns v_places p_keys p_asFound p_found p_turns p_places t13.2.1 t13.2.2.1 t13.2.2.2.1 t13.2.2.2.2 n_uq n_u u_leasts u_howMany u_known n_wq n_w w_leasts w_howMany w_known t_signs t_length t_whole t_begins t_ends r_sorts r_numbers r_length) ++ wo)) X E hI (c_X9_howManyClasses l G h e13) kv_X9_155 hd_X9_howManyClasses ⟨rfl, rfl⟩ (by decide) 0 rfl rfl rfl rfl hl.1 rfl (Nat.le_of_ble_eq_true rfl) dX9_told_111 ⟨Nat.le_of_ble_eq_true rfl, Nat.le_of_ble_eq_true rfl⟩ rfl (fun H locs hI => ?_)
                    refine lv_aload_n (pc := 114) hx hb dX9_told_114 rfl (lv_at hl 0 rfl) ?_
                    refine lv_iconst (pc := 115) (v := 1) hx hb dX9_told_115 (by decide) ?_
                    obtain ⟨t14, e14, hf⟩ := q_ob hf
                    refine x_cVs (pc := 116) (st1 := [.int t14.1, .int t13.1]) (w1 := ((xb G h x_hasImage f_places f_kinds f_weights f_howManyGenerators f_generators f_racks f_howManySeen f_seenFirst f_seenSecond f_seenIs f_seenPlaces f_howManyEvents f_eventWhat f_eventNumber g_places g_kinds g_weights g_howManyGenerators g_generators g_racks g_howManySeen g_seenFirst g_seenSecond g_seenIs g_seenPlaces g_howManyEvents g_eventWhat g_eventNumber n_m0 n_m1 n_m2 n_s0 n_s1 n_s2 v_keys v_asFound v_found v_turns v_places p_keys p_asFound p_found p_turns p_places t14.2.1 t14.2.2.1 t14.2.2.2.1 t14.2.2.2.2 n_uq n_u u_leasts u_howMany u_known n_wq n_w w_leasts w_howMany w_known t_signs t_length t_whole t_begins t_ends r_sorts r_numbers r_length) ++ wo)) X E hI (c_X9_howManyClasses l G h e14) kv_X9_155 hd_X9_howManyClasses ⟨rfl, rfl⟩ (by decide) 0 rfl rfl rfl rfl hl.1 rfl (Nat.le_of_ble_eq_true rfl) dX9_told_116 ⟨Nat.le_of_ble_eq_true rfl, Nat.le_of_ble_eq_true rfl⟩ rfl (fun H locs hI => ?_)
                    refine lv_isub (pc := 119) hx hb dX9_told_119 ?_
                    obtain rfl := Option.some.inj hf
                    exact x_iret X hI dX9_told_120
                  · have hf := q_in c12 hf
                    refine lv_tableOut (pc := 1) (tgt := 121) hx hb dX9_told_1 (q_out_0_8 c1 c2 c3 c4 c5 c6 c8 c10 c12) (by decide) ?_
                    refine lv_iconst (pc := 121) (v := (-1)) hx hb dX9_told_121 (by decide) ?_
                    obtain rfl := Option.some.inj hf
                    exact x_iret X hI dX9_told_122

abbrev rm_X9_index : Room := { frames := 3, cells := 0, slots := 0, locals := 85 }
set_option maxHeartbeats 4000000 in
set_option maxRecDepth 100000 in
theorem c_X9_index (l : Launch) (G : GX) (h : Nat → Nat) {l1 : Int32} {l2 : Int32} {l3 : Int32} {v_keys : Nat → Int32} {v_found : Int32} {v_turns : Int32} {v_places : Int32} {i_sort : Nat → Int32} {i_howOften : Nat → Int32} {i_sorts : Int32} {i_moves : Int32} {x_hasImage : Int32} {f_places : Int32} {f_kinds : Int32} {f_weights : Nat → Int32} {f_howManyGenerators : Int32} {f_generators : Nat → Int32} {f_racks : Nat → Int32} {f_howManySeen : Int32} {f_seenFirst : Nat → Int32} {f_seenSecond : Nat → Int32} {f_seenIs : Nat → Int32} {f_seenPlaces : Nat → Int32} {f_howManyEvents : Int32} {f_eventWhat : Nat → Int32} {f_eventNumber : Nat → Int32} {g_places : Int32} {g_kinds : Int32} {g_weights : Nat → Int32} {g_howManyGenerators : Int32} {g_generators : Nat → Int32} {g_racks : Nat → Int32} {g_howManySeen : Int32} {g_seenFirst : Nat → Int32} {g_seenSecond : Nat → Int32} {g_seenIs : Nat → Int32} {g_seenPlaces : Nat → Int32} {g_howManyEvents : Int32} {g_eventWhat : Nat → Int32} {g_eventNumber : Nat → Int32} {n_m0 : Nat} {n_m1 : Nat} {n_m2 : Nat} {n_s0 : Nat} {n_s1 : Nat} {n_s2 : Nat} {v_asFound : Nat → Int32} {p_keys : Nat → Int32} {p_asFound : Nat → Int32} {p_found : Int32} {p_turns : Int32} {p_places : Int32} {n_uq : Nat} {n_u : Nat} {u_leasts : Nat → Int32} {u_howMany : Int32} {u_known : Int32} {n_wq : Nat} {n_w : Nat} {w_leasts : Nat → Int32} {w_howMany : Int32} {w_known : Int32} {t_signs : Nat → Int32} {t_length : Int32} {t_whole : Int32} {t_begins : Nat → Int32} {t_ends : Nat → Int32} {r_sorts : Nat → Int32} {r_numbers : Nat → Int32} {r_length : Int32} {wo : va_W} {res : Int32 × (Nat → Int32) × (Nat → Int32) × Int32 × Int32} (hf : f_X9_index l1 l2 l3 v_keys v_found v_turns v_places i_sort i_howOften i_sorts i_moves = some res) : MX l yX9_index cX9_index 4 (some .int) rm_X9_index G ((xb G h x_hasImage f_places f_kinds f_weights f_howManyGenerators f_generators f_racks f_howManySeen f_seenFirst f_seenSecond f_seenIs f_seenPlaces f_howManyEvents f_eventWhat f_eventNumber g_places g_kinds g_weights g_howManyGenerators g_generators g_racks g_howManySeen g_seenFirst g_seenSecond g_seenIs g_seenPlaces g_howManyEvents g_eventWhat g_eventNumber n_m0 n_m1 n_m2 n_s0 n_s1 n_s2 v_keys v_asFound v_found v_turns v_places p_keys p_asFound p_found p_turns p_places i_sort i_howOften i_sorts i_moves n_uq n_u u_leasts u_howMany u_known n_wq n_w w_leasts w_howMany w_known t_signs t_length t_whole t_begins t_ends r_sorts r_numbers r_length) ++ wo) [.ref (h 0), .int l1, .int l2, .int l3] ((xb G h x_hasImage f_places f_kinds f_weights f_howManyGenerators f_generators f_racks f_howManySeen f_seenFirst f_seenSecond f_seenIs f_seenPlaces f_howManyEvents f_eventWhat f_eventNumber g_places g_kinds g_weights g_howManyGenerators g_generators g_racks g_howManySeen g_seenFirst g_seenSecond g_seenIs g_seenPlaces g_howManyEvents g_eventWhat g_eventNumber n_m0 n_m1 n_m2 n_s0 n_s1 n_s2 v_keys v_asFound v_found v_turns v_places p_keys p_asFound p_found p_turns p_places res.2.1 res.2.2.1 res.2.2.2.1 res.2.2.2.2 n_uq n_u u_leasts u_howMany u_known n_wq n_w w_leasts w_howMany w_known t_signs t_length t_whole t_begins t_ends r_sorts r_numbers r_length) ++ wo) (some (.int res.1)) 0 0 := by
  refine MX.of (plainFor_of_name (by decide)) (Nat.le_of_ble_eq_true rfl) ?_
  intro p e s m below meth c A X E hI ls hl
  obtain ⟨hx, hb, hml, hown, hts, hr, hlk⟩ := id X
  have hl : lv_has ls 4 [(0, .ref (h 0)), (1, .int l1), (2, .int l2), (3, .int l3)] := hl
  unfold f_X9_index at hf
  refine lv_iload_n (pc := 0) hx hb dX9_index_0 rfl (lv_at hl 1 rfl) ?_
  obtain ⟨t1, e1, hf⟩ := q_ob hf
  refine x_cSn (pc := 1) (st1 := [.int t1]) X E hI (c_X9_isFlag l G e1) ks_X9_99 hd_X9_isFlag ⟨rfl, rfl⟩ (by decide) rfl hl.1 rfl (Nat.le_of_ble_eq_true rfl) dX9_index_1 ⟨Nat.le_of_ble_eq_true rfl, Nat.le_of_ble_eq_true rfl⟩ rfl (fun H locs hI => ?_)
  refine lv_if_ne (pc := 4) (tgt := 9) hx hb dX9_index_4 (by decide) (fun c2 => ?_) (fun c2 => ?_)
  · have hf := q_in c2 hf
    refine lv_aload_n (pc := 9) hx hb dX9_index_9 rfl (lv_at hl 0 rfl) ?_
    refine x_get (pc := 10) X E hI inX9 0 rfl rfl 5 (by decide) tw_2_12 rfl dX9_index_10 ?_
    refine lv_aload_n (pc := 13) hx hb dX9_index_13 rfl (lv_at hl 0 rfl) ?_
    refine x_get (pc := 14) X E hI inX9 0 rfl rfl 3 (by decide) tw_2_10 rfl dX9_index_14 ?_
    refine lv_iload_n (pc := 17) hx hb dX9_index_17 rfl (lv_at hl 1 rfl) ?_
    obtain ⟨t3, e3, hf⟩ := q_ob hf
    refine x_cVt (pc := 18) (st1 := []) (w2 := (xb G h x_hasImage f_places f_kinds f_weights f_howManyGenerators f_generators f_racks f_howManySeen f_seenFirst f_seenSecond f_seenIs f_seenPlaces f_howManyEvents f_eventWhat f_eventNumber g_places g_kinds g_weights g_howManyGenerators g_generators g_racks g_howManySeen g_seenFirst g_seenSecond g_seenIs g_seenPlaces g_howManyEvents g_eventWhat g_eventNumber n_m0 n_m1 n_m2 n_s0 n_s1 n_s2 v_keys v_asFound v_found v_turns v_places p_keys p_asFound p_found p_turns p_places t3.1 t3.2.1 t3.2.2.1 t3.2.2.2 n_uq n_u u_leasts u_howMany u_known n_wq n_w w_leasts w_howMany w_known t_signs t_length t_whole t_begins t_ends r_sorts r_numbers r_length)) X E hI (c_X4_fill l G (h 21) (h 22) (h 23) n_m0 n_m1 n_m2 e3) kv_X9_158 hd_X4_fill ⟨rfl, rfl⟩ (by decide) pt_xb_ivw_0 pt_xb_ivw_0q 0 rfl rfl rfl rfl hl.1 rfl (Nat.le_of_ble_eq_true rfl) dX9_index_18 ⟨Nat.le_of_ble_eq_true rfl, Nat.le_of_ble_eq_true rfl⟩ rfl (fun H locs hI => ?_)
    refine lv_iload_n (pc := 21) hx hb dX9_index_21 rfl (lv_at hl 2 rfl) ?_
    refine lv_iconst (pc := 22) (v := (-1)) hx hb dX9_index_22 (by decide) ?_
    refine lv_icmp_ne (pc := 23) (tgt := 34) hx hb dX9_index_23 (by decide) (fun c4 => ?_) (fun c4 => ?_)
    · have hf := q_in c4 hf
      refine lv_iload_n (pc := 34) hx hb dX9_index_34 rfl (lv_at hl 2 rfl) ?_
      refine lv_if_lt (pc := 35) (tgt := 56) hx hb dX9_index_35 (by decide) (fun c5 => ?_) (fun c5 => ?_)
      · have hf := q_ip c5 hf
        refine lv_iconst (pc := 56) (v := (-1)) hx hb dX9_index_56 (by decide) ?_
        obtain rfl := Option.some.inj hf
        exact x_iret X hI dX9_index_57
      · have hf := q_in c5 hf
        refine lv_iload_n (pc := 38) hx hb dX9_index_38 rfl (lv_at hl 2 rfl) ?_
        refine lv_aload_n (pc := 39) hx hb dX9_index_39 rfl (lv_at hl 0 rfl) ?_
        refine x_get (pc := 40) X E hI inX9 0 rfl rfl 5 (by decide) tw_2_12 rfl dX9_index_40 ?_
        refine x_get (pc := 43) X E hI inX4 27 rfl rfl 2 (by decide) tw_1_131 rfl dX9_index_43 ?_
        refine lv_icmp_ge (pc := 46) (tgt := 56) hx hb dX9_index_46 (by decide) (fun c6 => ?_) (fun c6 => ?_)
        · have hf := q_ip c6 hf
          refine lv_iconst (pc := 56) (v := (-1)) hx hb dX9_index_56 (by decide) ?_
          obtain rfl := Option.some.inj hf
          exact x_iret X hI dX9_index_57
        · have hf := q_in c6 hf
          refine lv_iload_n (pc := 49) hx hb dX9_index_49 rfl (lv_at hl 3 rfl) ?_
          obtain ⟨t7, e7, hf⟩ := q_ob hf
          refine x_cSn (pc := 50) (st1 := [.int t7]) X E hI (c_X9_isFlag l G e7) ks_X9_99 hd_X9_isFlag ⟨rfl, rfl⟩ (by decide) rfl hl.1 rfl (Nat.le_of_ble_eq_true rfl) dX9_index_50 ⟨Nat.le_of_ble_eq_true rfl, Nat.le_of_ble_eq_true rfl⟩ rfl (fun H locs hI => ?_)
          refine lv_if_ne (pc := 53) (tgt := 58) hx hb dX9_index_53 (by decide) (fun c8 => ?_) (fun c8 => ?_)
          · have hf := q_in c8 hf
            refine lv_iload_n (pc := 58) hx hb dX9_index_58 rfl (lv_at hl 3 rfl) ?_
            refine lv_if_ne (pc := 59) (tgt := 74) hx hb dX9_index_59 (by decide) (fun c9 => ?_) (fun c9 => ?_)
            · have hf := q_in c9 hf
              refine lv_aload_n (pc := 74) hx hb dX9_index_74 rfl (lv_at hl 0 rfl) ?_
              refine x_get (pc := 75) X E hI inX9 0 rfl rfl 5 (by decide) tw_2_12 rfl dX9_index_75 ?_
              refine x_get (pc := 78) X E hI inX4 27 rfl rfl 1 (by decide) tw_1_129 rfl dX9_index_78 ?_
              refine lv_iload_n (pc := 81) hx hb dX9_index_81 rfl (lv_at hl 2 rfl) ?_
              obtain ⟨t10, e10, hf⟩ := q_ob hf
              refine x_iald (pc := 82) X E hI 29 rfl e10 dX9_index_82 ?_
              obtain rfl := Option.some.inj hf
              exact x_iret X hI dX9_index_83
            · have hf := q_ip c9 hf
              refine lv_aload_n (pc := 62) hx hb dX9_index_62 rfl (lv_at hl 0 rfl) ?_
              refine x_get (pc := 63) X E hI inX9 0 rfl rfl 5 (by decide) tw_2_12 rfl dX9_index_63 ?_
              refine x_get (pc := 66) X E hI inX4 27 rfl rfl 0 (by decide) tw_1_127 rfl dX9_index_66 ?_
              refine lv_iload_n (pc := 69) hx hb dX9_index_69 rfl (lv_at hl 2 rfl) ?_
              obtain ⟨t11, e11, hf⟩ := q_ob hf
              refine x_iald (pc := 70) X E hI 28 rfl e11 dX9_index_70 ?_
              refine lv_goto (pc := 71) (tgt := 83) hx hb dX9_index_71 (by decide) ?_
              obtain rfl := Option.some.inj hf
              exact x_iret X hI dX9_index_83
          · have hf := q_ip c8 hf
            refine lv_iconst (pc := 56) (v := (-1)) hx hb dX9_index_56 (by decide) ?_
            obtain rfl := Option.some.inj hf
            exact x_iret X hI dX9_index_57
    · have hf := q_ip c4 hf
      refine lv_aload_n (pc := 26) hx hb dX9_index_26 rfl (lv_at hl 0 rfl) ?_
      refine x_get (pc := 27) X E hI inX9 0 rfl rfl 5 (by decide) tw_2_12 rfl dX9_index_27 ?_
      refine x_get (pc := 30) X E hI inX4 27 rfl rfl 2 (by decide) tw_1_131 rfl dX9_index_30 ?_
      obtain rfl := Option.some.inj hf
      exact x_iret X hI dX9_index_33
  · have hf := q_ip c2 hf
    refine lv_iconst (pc := 7) (v := (-1)) hx hb dX9_index_7 (by decide) ?_
    obtain rfl := Option.some.inj hf
    exact x_iret X hI dX9_index_8

abbrev rm_X9_part : Room := { frames := 3, cells := 0, slots := 0, locals := 85 }
set_option maxHeartbeats 4000000 in
set_option maxRecDepth 100000 in
theorem c_X9_part (l : Launch) (G : GX) (h : Nat → Nat) {l1 : Int32} {l2 : Int32} {l3 : Int32} {v_keys : Nat → Int32} {v_found : Int32} {v_turns : Int32} {v_places : Int32} {i_sort : Nat → Int32} {i_howOften : Nat → Int32} {i_sorts : Int32} {i_moves : Int32} {x_hasImage : Int32} {f_places : Int32} {f_kinds : Int32} {f_weights : Nat → Int32} {f_howManyGenerators : Int32} {f_generators : Nat → Int32} {f_racks : Nat → Int32} {f_howManySeen : Int32} {f_seenFirst : Nat → Int32} {f_seenSecond : Nat → Int32} {f_seenIs : Nat → Int32} {f_seenPlaces : Nat → Int32} {f_howManyEvents : Int32} {f_eventWhat : Nat → Int32} {f_eventNumber : Nat → Int32} {g_places : Int32} {g_kinds : Int32} {g_weights : Nat → Int32} {g_howManyGenerators : Int32} {g_generators : Nat → Int32} {g_racks : Nat → Int32} {g_howManySeen : Int32} {g_seenFirst : Nat → Int32} {g_seenSecond : Nat → Int32} {g_seenIs : Nat → Int32} {g_seenPlaces : Nat → Int32} {g_howManyEvents : Int32} {g_eventWhat : Nat → Int32} {g_eventNumber : Nat → Int32} {n_m0 : Nat} {n_m1 : Nat} {n_m2 : Nat} {n_s0 : Nat} {n_s1 : Nat} {n_s2 : Nat} {v_asFound : Nat → Int32} {p_keys : Nat → Int32} {p_asFound : Nat → Int32} {p_found : Int32} {p_turns : Int32} {p_places : Int32} {n_uq : Nat} {n_u : Nat} {u_leasts : Nat → Int32} {u_howMany : Int32} {u_known : Int32} {n_wq : Nat} {n_w : Nat} {w_leasts : Nat → Int32} {w_howMany : Int32} {w_known : Int32} {t_signs : Nat → Int32} {t_length : Int32} {t_whole : Int32} {t_begins : Nat → Int32} {t_ends : Nat → Int32} {r_sorts : Nat → Int32} {r_numbers : Nat → Int32} {r_length : Int32} {wo : va_W} {res : Int64 × (Nat → Int32) × (Nat → Int32) × Int32 × Int32} (hf : f_X9_part l1 l2 l3 v_keys v_found v_turns v_places i_sort i_howOften i_sorts i_moves = some res) : MX l yX9_part cX9_part 6 (some .long) rm_X9_part G ((xb G h x_hasImage f_places f_kinds f_weights f_howManyGenerators f_generators f_racks f_howManySeen f_seenFirst f_seenSecond f_seenIs f_seenPlaces f_howManyEvents f_eventWhat f_eventNumber g_places g_kinds g_weights g_howManyGenerators g_generators g_racks g_howManySeen g_seenFirst g_seenSecond g_seenIs g_seenPlaces g_howManyEvents g_eventWhat g_eventNumber n_m0 n_m1 n_m2 n_s0 n_s1 n_s2 v_keys v_asFound v_found v_turns v_places p_keys p_asFound p_found p_turns p_places i_sort i_howOften i_sorts i_moves n_uq n_u u_leasts u_howMany u_known n_wq n_w w_leasts w_howMany w_known t_signs t_length t_whole t_begins t_ends r_sorts r_numbers r_length) ++ wo) [.ref (h 0), .int l1, .int l2, .int l3] ((xb G h x_hasImage f_places f_kinds f_weights f_howManyGenerators f_generators f_racks f_howManySeen f_seenFirst f_seenSecond f_seenIs f_seenPlaces f_howManyEvents f_eventWhat f_eventNumber g_places g_kinds g_weights g_howManyGenerators g_generators g_racks g_howManySeen g_seenFirst g_seenSecond g_seenIs g_seenPlaces g_howManyEvents g_eventWhat g_eventNumber n_m0 n_m1 n_m2 n_s0 n_s1 n_s2 v_keys v_asFound v_found v_turns v_places p_keys p_asFound p_found p_turns p_places res.2.1 res.2.2.1 res.2.2.2.1 res.2.2.2.2 n_uq n_u u_leasts u_howMany u_known n_wq n_w w_leasts w_howMany w_known t_signs t_length t_whole t_begins t_ends r_sorts r_numbers r_length) ++ wo) (some (.long res.1)) 0 0 := by
  refine MX.of (plainFor_of_name (by decide)) (Nat.le_of_ble_eq_true rfl) ?_
  intro p e s m below meth c A X E hI ls hl
  obtain ⟨hx, hb, hml, hown, hts, hr, hlk⟩ := id X
  have hl : lv_has ls 6 [(0, .ref (h 0)), (1, .int l1), (2, .int l2), (3, .int l3)] := hl
  unfold f_X9_part at hf
  refine lv_iload_n (pc := 0) hx hb dX9_part_0 rfl (lv_at hl 1 rfl) ?_
  obtain ⟨t1, e1, hf⟩ := q_ob hf
  refine x_cSn (pc := 1) (st1 := [.int t1]) X E hI (c_X9_isFlag l G e1) ks_X9_99 hd_X9_isFlag ⟨rfl, rfl⟩ (by decide) rfl hl.1 rfl (Nat.le_of_ble_eq_true rfl) dX9_part_1 ⟨Nat.le_of_ble_eq_true rfl, Nat.le_of_ble_eq_true rfl⟩ rfl (fun H locs hI => ?_)
  refine lv_if_ne (pc := 4) (tgt := 11) hx hb dX9_part_4 (by decide) (fun c2 => ?_) (fun c2 => ?_)
  · have hf := q_in c2 hf
    refine lv_aload_n (pc := 11) hx hb dX9_part_11 rfl (lv_at hl 0 rfl) ?_
    refine x_get (pc := 12) X E hI inX9 0 rfl rfl 5 (by decide) tw_2_12 rfl dX9_part_12 ?_
    refine lv_aload_n (pc := 15) hx hb dX9_part_15 rfl (lv_at hl 0 rfl) ?_
    refine x_get (pc := 16) X E hI inX9 0 rfl rfl 3 (by decide) tw_2_10 rfl dX9_part_16 ?_
    refine lv_iload_n (pc := 19) hx hb dX9_part_19 rfl (lv_at hl 1 rfl) ?_
    obtain ⟨t3, e3, hf⟩ := q_ob hf
    refine x_cVt (pc := 20) (st1 := []) (w2 := (xb G h x_hasImage f_places f_kinds f_weights f_howManyGenerators f_generators f_racks f_howManySeen f_seenFirst f_seenSecond f_seenIs f_seenPlaces f_howManyEvents f_eventWhat f_eventNumber g_places g_kinds g_weights g_howManyGenerators g_generators g_racks g_howManySeen g_seenFirst g_seenSecond g_seenIs g_seenPlaces g_howManyEvents g_eventWhat g_eventNumber n_m0 n_m1 n_m2 n_s0 n_s1 n_s2 v_keys v_asFound v_found v_turns v_places p_keys p_asFound p_found p_turns p_places t3.1 t3.2.1 t3.2.2.1 t3.2.2.2 n_uq n_u u_leasts u_howMany u_known n_wq n_w w_leasts w_howMany w_known t_signs t_length t_whole t_begins t_ends r_sorts r_numbers r_length)) X E hI (c_X4_fill l G (h 21) (h 22) (h 23) n_m0 n_m1 n_m2 e3) kv_X9_158 hd_X4_fill ⟨rfl, rfl⟩ (by decide) pt_xb_ivw_0 pt_xb_ivw_0q 0 rfl rfl rfl rfl hl.1 rfl (Nat.le_of_ble_eq_true rfl) dX9_part_20 ⟨Nat.le_of_ble_eq_true rfl, Nat.le_of_ble_eq_true rfl⟩ rfl (fun H locs hI => ?_)
    refine lv_iload_n (pc := 23) hx hb dX9_part_23 rfl (lv_at hl 2 rfl) ?_
    refine lv_if_lt (pc := 24) (tgt := 45) hx hb dX9_part_24 (by decide) (fun c4 => ?_) (fun c4 => ?_)
    · have hf := q_ip c4 hf
      refine lv_ldc2 (pc := 45) (v := (-9223372036854775808)) hx hb hown (hts _ tw_2_191) dX9_part_45 ?_
      obtain rfl := Option.some.inj hf
      exact x_lret X hI dX9_part_48
    · have hf := q_in c4 hf
      refine lv_iload_n (pc := 27) hx hb dX9_part_27 rfl (lv_at hl 2 rfl) ?_
      refine lv_aload_n (pc := 28) hx hb dX9_part_28 rfl (lv_at hl 0 rfl) ?_
      refine x_get (pc := 29) X E hI inX9 0 rfl rfl 5 (by decide) tw_2_12 rfl dX9_part_29 ?_
      refine x_get (pc := 32) X E hI inX4 27 rfl rfl 2 (by decide) tw_1_131 rfl dX9_part_32 ?_
      refine lv_icmp_ge (pc := 35) (tgt := 45) hx hb dX9_part_35 (by decide) (fun c5 => ?_) (fun c5 => ?_)
      · have hf := q_ip c5 hf
        refine lv_ldc2 (pc := 45) (v := (-9223372036854775808)) hx hb hown (hts _ tw_2_191) dX9_part_45 ?_
        obtain rfl := Option.some.inj hf
        exact x_lret X hI dX9_part_48
      · have hf := q_in c5 hf
        refine lv_iload_n (pc := 38) hx hb dX9_part_38 rfl (lv_at hl 3 rfl) ?_
        obtain ⟨t6, e6, hf⟩ := q_ob hf
        refine x_cSn (pc := 39) (st1 := [.int t6]) X E hI (c_X9_isFlag l G e6) ks_X9_99 hd_X9_isFlag ⟨rfl, rfl⟩ (by decide) rfl hl.1 rfl (Nat.le_of_ble_eq_true rfl) dX9_part_39 ⟨Nat.le_of_ble_eq_true rfl, Nat.le_of_ble_eq_true rfl⟩ rfl (fun H locs hI => ?_)
        refine lv_if_ne (pc := 42) (tgt := 49) hx hb dX9_part_42 (by decide) (fun c7 => ?_) (fun c7 => ?_)
        · have hf := q_in c7 hf
          refine lv_aload_n (pc := 49) hx hb dX9_part_49 rfl (lv_at hl 0 rfl) ?_
          refine x_get (pc := 50) X E hI inX9 0 rfl rfl 5 (by decide) tw_2_12 rfl dX9_part_50 ?_
          refine x_get (pc := 53) X E hI inX4 27 rfl rfl 1 (by decide) tw_1_129 rfl dX9_part_53 ?_
          refine lv_iload_n (pc := 56) hx hb dX9_part_56 rfl (lv_at hl 2 rfl) ?_
          obtain ⟨t8, e8, hf⟩ := q_ob hf
          refine x_iald (pc := 57) X E hI 29 rfl e8 dX9_part_57 ?_
          refine lv_aload_n (pc := 58) hx hb dX9_part_58 rfl (lv_at hl 0 rfl) ?_
          refine x_get (pc := 59) X E hI inX9 0 rfl rfl 5 (by decide) tw_2_12 rfl dX9_part_59 ?_
          refine x_get (pc := 62) X E hI inX4 27 rfl rfl 3 (by decide) tw_1_133 rfl dX9_part_62 ?_
          obtain ⟨t9, e9, hf⟩ := q_ob hf
          refine x_cSn (pc := 65) (st1 := [.int t9]) X E hI (c_X9_commonDivisor l G e9) ks_X9_175 hd_X9_commonDivisor ⟨rfl, rfl⟩ (by decide) rfl hl.1 rfl (Nat.le_of_ble_eq_true rfl) dX9_part_65 ⟨Nat.le_of_ble_eq_true rfl, Nat.le_of_ble_eq_true rfl⟩ rfl (fun H locs hI => ?_)
          refine lv_istore (pc := 68) (lv' := [(4, .int t9), (0, .ref (h 0)), (1, .int l1), (2, .int l2), (3, .int l3)]) hx hb dX9_part_68 hl (by decide) rfl (fun ls hl => ?_)
          refine lv_iload_n (pc := 70) hx hb dX9_part_70 rfl (lv_at hl 4 rfl) ?_
          refine lv_if_ne (pc := 71) (tgt := 86) hx hb dX9_part_71 (by decide) (fun c10 => ?_) (fun c10 => ?_)
          · have hf := q_in c10 hf
            refine lv_aload_n (pc := 86) hx hb dX9_part_86 rfl (lv_at hl 1 rfl) ?_
            refine x_get (pc := 87) X E hI inX9 0 rfl rfl 5 (by decide) tw_2_12 rfl dX9_part_87 ?_
            refine x_get (pc := 90) X E hI inX4 27 rfl rfl 3 (by decide) tw_1_133 rfl dX9_part_90 ?_
            refine lv_istore (pc := 93) (lv' := [(5, .int t3.2.2.2), (4, .int t9), (0, .ref (h 0)), (1, .int l1), (2, .int l2), (3, .int l3)]) hx hb dX9_part_93 hl (by decide) rfl (fun ls hl => ?_)
            refine lv_iload (pc := 95) hx hb dX9_part_95 (lv_at hl 1 rfl) ?_
            refine lv_if_le (pc := 97) (tgt := 109) hx hb dX9_part_97 (by decide) (fun c11 => ?_) (fun c11 => ?_)
            · have hf := q_ip c11 hf
              refine lv_iload (pc := 109) hx hb dX9_part_109 (lv_at hl 0 rfl) ?_
              refine lv_i2l (pc := 111) (v := (t3.2.2.2 : Int32).toInt64) hx hb dX9_part_111 rfl ?_
              obtain rfl := Option.some.inj hf
              exact x_lret X hI dX9_part_112
            · have hf := q_in c11 hf
              refine lv_iload (pc := 100) hx hb dX9_part_100 (lv_at hl 0 rfl) ?_
              refine lv_iload (pc := 102) hx hb dX9_part_102 (lv_at hl 1 rfl) ?_
              obtain ⟨t12, e12, hf⟩ := q_ob hf
              refine x_idiv (pc := 104) X e12 dX9_part_104 ?_
              refine lv_i2l (pc := 105) (v := (t12 : Int32).toInt64) hx hb dX9_part_105 rfl ?_
              refine lv_goto (pc := 106) (tgt := 112) hx hb dX9_part_106 (by decide) ?_
              obtain rfl := Option.some.inj hf
              exact x_lret X hI dX9_part_112
          · have hf := q_ip c10 hf
            refine lv_aload_n (pc := 74) hx hb dX9_part_74 rfl (lv_at hl 1 rfl) ?_
            refine x_get (pc := 75) X E hI inX9 0 rfl rfl 5 (by decide) tw_2_12 rfl dX9_part_75 ?_
            refine x_get (pc := 78) X E hI inX4 27 rfl rfl 1 (by decide) tw_1_129 rfl dX9_part_78 ?_
            refine lv_iload_n (pc := 81) hx hb dX9_part_81 rfl (lv_at hl 3 rfl) ?_
            obtain ⟨t13, e13, hf⟩ := q_ob hf
            refine x_iald (pc := 82) X E hI 29 rfl e13 dX9_part_82 ?_
            refine lv_goto (pc := 83) (tgt := 93) hx hb dX9_part_83 (by decide) ?_
            refine lv_istore (pc := 93) (lv' := [(5, .int t13), (4, .int t9), (0, .ref (h 0)), (1, .int l1), (2, .int l2), (3, .int l3)]) hx hb dX9_part_93 hl (by decide) rfl (fun ls hl => ?_)
            refine lv_iload (pc := 95) hx hb dX9_part_95 (lv_at hl 1 rfl) ?_
            refine lv_if_le (pc := 97) (tgt := 109) hx hb dX9_part_97 (by decide) (fun c14 => ?_) (fun c14 => ?_)
            · have hf := q_ip c14 hf
              refine lv_iload (pc := 109) hx hb dX9_part_109 (lv_at hl 0 rfl) ?_
              refine lv_i2l (pc := 111) (v := (t13 : Int32).toInt64) hx hb dX9_part_111 rfl ?_
              obtain rfl := Option.some.inj hf
              exact x_lret X hI dX9_part_112
            · have hf := q_in c14 hf
              refine lv_iload (pc := 100) hx hb dX9_part_100 (lv_at hl 0 rfl) ?_
              refine lv_iload (pc := 102) hx hb dX9_part_102 (lv_at hl 1 rfl) ?_
              obtain ⟨t15, e15, hf⟩ := q_ob hf
              refine x_idiv (pc := 104) X e15 dX9_part_104 ?_
              refine lv_i2l (pc := 105) (v := (t15 : Int32).toInt64) hx hb dX9_part_105 rfl ?_
              refine lv_goto (pc := 106) (tgt := 112) hx hb dX9_part_106 (by decide) ?_
              obtain rfl := Option.some.inj hf
              exact x_lret X hI dX9_part_112
        · have hf := q_ip c7 hf
          refine lv_ldc2 (pc := 45) (v := (-9223372036854775808)) hx hb hown (hts _ tw_2_191) dX9_part_45 ?_
          obtain rfl := Option.some.inj hf
          exact x_lret X hI dX9_part_48
  · have hf := q_ip c2 hf
    refine lv_ldc2 (pc := 7) (v := (-9223372036854775808)) hx hb hown (hts _ tw_2_191) dX9_part_7 ?_
    obtain rfl := Option.some.inj hf
    exact x_lret X hI dX9_part_10

abbrev rm_X9_many : Room := { frames := 3, cells := 0, slots := 0, locals := 85 }
set_option maxHeartbeats 4000000 in
set_option maxRecDepth 100000 in
theorem c_X9_many (l : Launch) (G : GX) (h : Nat → Nat) {l1 : Int32} {l2 : Int32} {v_keys : Nat → Int32} {v_found : Int32} {v_turns : Int32} {v_places : Int32} {i_sort : Nat → Int32} {i_howOften : Nat → Int32} {i_sorts : Int32} {i_moves : Int32} {x_hasImage : Int32} {f_places : Int32} {f_kinds : Int32} {f_weights : Nat → Int32} {f_howManyGenerators : Int32} {f_generators : Nat → Int32} {f_racks : Nat → Int32} {f_howManySeen : Int32} {f_seenFirst : Nat → Int32} {f_seenSecond : Nat → Int32} {f_seenIs : Nat → Int32} {f_seenPlaces : Nat → Int32} {f_howManyEvents : Int32} {f_eventWhat : Nat → Int32} {f_eventNumber : Nat → Int32} {g_places : Int32} {g_kinds : Int32} {g_weights : Nat → Int32} {g_howManyGenerators : Int32} {g_generators : Nat → Int32} {g_racks : Nat → Int32} {g_howManySeen : Int32} {g_seenFirst : Nat → Int32} {g_seenSecond : Nat → Int32} {g_seenIs : Nat → Int32} {g_seenPlaces : Nat → Int32} {g_howManyEvents : Int32} {g_eventWhat : Nat → Int32} {g_eventNumber : Nat → Int32} {n_m0 : Nat} {n_m1 : Nat} {n_m2 : Nat} {n_s0 : Nat} {n_s1 : Nat} {n_s2 : Nat} {v_asFound : Nat → Int32} {p_keys : Nat → Int32} {p_asFound : Nat → Int32} {p_found : Int32} {p_turns : Int32} {p_places : Int32} {n_uq : Nat} {n_u : Nat} {u_leasts : Nat → Int32} {u_howMany : Int32} {u_known : Int32} {n_wq : Nat} {n_w : Nat} {w_leasts : Nat → Int32} {w_howMany : Int32} {w_known : Int32} {t_signs : Nat → Int32} {t_length : Int32} {t_whole : Int32} {t_begins : Nat → Int32} {t_ends : Nat → Int32} {r_sorts : Nat → Int32} {r_numbers : Nat → Int32} {r_length : Int32} {wo : va_W} {res : Int64 × (Nat → Int32) × (Nat → Int32) × Int32 × Int32} (hf : f_X9_many l1 l2 v_keys v_found v_turns v_places i_sort i_howOften i_sorts i_moves = some res) : MX l yX9_many cX9_many 3 (some .long) rm_X9_many G ((xb G h x_hasImage f_places f_kinds f_weights f_howManyGenerators f_generators f_racks f_howManySeen f_seenFirst f_seenSecond f_seenIs f_seenPlaces f_howManyEvents f_eventWhat f_eventNumber g_places g_kinds g_weights g_howManyGenerators g_generators g_racks g_howManySeen g_seenFirst g_seenSecond g_seenIs g_seenPlaces g_howManyEvents g_eventWhat g_eventNumber n_m0 n_m1 n_m2 n_s0 n_s1 n_s2 v_keys v_asFound v_found v_turns v_places p_keys p_asFound p_found p_turns p_places i_sort i_howOften i_sorts i_moves n_uq n_u u_leasts u_howMany u_known n_wq n_w w_leasts w_howMany w_known t_signs t_length t_whole t_begins t_ends r_sorts r_numbers r_length) ++ wo) [.ref (h 0), .int l1, .int l2] ((xb G h x_hasImage f_places f_kinds f_weights f_howManyGenerators f_generators f_racks f_howManySeen f_seenFirst f_seenSecond f_seenIs f_seenPlaces f_howManyEvents f_eventWhat f_eventNumber g_places g_kinds g_weights g_howManyGenerators g_generators g_racks g_howManySeen g_seenFirst g_seenSecond g_seenIs g_seenPlaces g_howManyEvents g_eventWhat g_eventNumber n_m0 n_m1 n_m2 n_s0 n_s1 n_s2 v_keys v_asFound v_found v_turns v_places p_keys p_asFound p_found p_turns p_places res.2.1 res.2.2.1 res.2.2.2.1 res.2.2.2.2 n_uq n_u u_leasts u_howMany u_known n_wq n_w w_leasts w_howMany w_known t_signs t_length t_whole t_begins t_ends r_sorts r_numbers r_length) ++ wo) (some (.long res.1)) 0 0 := by
  refine MX.of (plainFor_of_name (by decide)) (Nat.le_of_ble_eq_true rfl) ?_
  intro p e s m below meth c A X E hI ls hl
  obtain ⟨hx, hb, hml, hown, hts, hr, hlk⟩ := id X
  have hl : lv_has ls 3 [(0, .ref (h 0)), (1, .int l1), (2, .int l2)] := hl
  unfold f_X9_many at hf
  refine lv_iload_n (pc := 0) hx hb dX9_many_0 rfl (lv_at hl 1 rfl) ?_
  obtain ⟨t1, e1, hf⟩ := q_ob hf
  refine x_cSn (pc := 1) (st1 := [.int t1]) X E hI (c_X9_isFlag l G e1) ks_X9_99 hd_X9_isFlag ⟨rfl, rfl⟩ (by decide) rfl hl.1 rfl (Nat.le_of_ble_eq_true rfl) dX9_many_1 ⟨Nat.le_of_ble_eq_true rfl, Nat.le_of_ble_eq_true rfl⟩ rfl (fun H locs hI => ?_)
  refine lv_if_eq (pc := 4) (tgt := 17) hx hb dX9_many_4 (by decide) (fun c2 => ?_) (fun c2 => ?_)
  · have hf := q_ip c2 hf
    refine lv_ldc2 (pc := 17) (v := (-9223372036854775808)) hx hb hown (hts _ tw_2_191) dX9_many_17 ?_
    obtain rfl := Option.some.inj hf
    exact x_lret X hI dX9_many_20
  · have hf := q_in c2 hf
    refine lv_iload_n (pc := 7) hx hb dX9_many_7 rfl (lv_at hl 2 rfl) ?_
    refine lv_if_lt (pc := 8) (tgt := 17) hx hb dX9_many_8 (by decide) (fun c3 => ?_) (fun c3 => ?_)
    · have hf := q_ip c3 hf
      refine lv_ldc2 (pc := 17) (v := (-9223372036854775808)) hx hb hown (hts _ tw_2_191) dX9_many_17 ?_
      obtain rfl := Option.some.inj hf
      exact x_lret X hI dX9_many_20
    · have hf := q_in c3 hf
      refine lv_iload_n (pc := 11) hx hb dX9_many_11 rfl (lv_at hl 2 rfl) ?_
      refine lv_bipush (pc := 12) (v := 9) hx hb dX9_many_12 (by decide) ?_
      refine lv_icmp_le (pc := 14) (tgt := 21) hx hb dX9_many_14 (by decide) (fun c4 => ?_) (fun c4 => ?_)
      · have hf := q_ip c4 hf
        refine lv_aload_n (pc := 21) hx hb dX9_many_21 rfl (lv_at hl 0 rfl) ?_
        refine x_get (pc := 22) X E hI inX9 0 rfl rfl 5 (by decide) tw_2_12 rfl dX9_many_22 ?_
        refine lv_aload_n (pc := 25) hx hb dX9_many_25 rfl (lv_at hl 0 rfl) ?_
        refine x_get (pc := 26) X E hI inX9 0 rfl rfl 3 (by decide) tw_2_10 rfl dX9_many_26 ?_
        refine lv_iload_n (pc := 29) hx hb dX9_many_29 rfl (lv_at hl 1 rfl) ?_
        obtain ⟨t5, e5, hf⟩ := q_ob hf
        refine x_cVt (pc := 30) (st1 := []) (w2 := (xb G h x_hasImage f_places f_kinds f_weights f_howManyGenerators f_generators f_racks f_howManySeen f_seenFirst f_seenSecond f_seenIs f_seenPlaces f_howManyEvents f_eventWhat f_eventNumber g_places g_kinds g_weights g_howManyGenerators g_generators g_racks g_howManySeen g_seenFirst g_seenSecond g_seenIs g_seenPlaces g_howManyEvents g_eventWhat g_eventNumber n_m0 n_m1 n_m2 n_s0 n_s1 n_s2 v_keys v_asFound v_found v_turns v_places p_keys p_asFound p_found p_turns p_places t5.1 t5.2.1 t5.2.2.1 t5.2.2.2 n_uq n_u u_leasts u_howMany u_known n_wq n_w w_leasts w_howMany w_known t_signs t_length t_whole t_begins t_ends r_sorts r_numbers r_length)) X E hI (c_X4_fill l G (h 21) (h 22) (h 23) n_m0 n_m1 n_m2 e5) kv_X9_158 hd_X4_fill ⟨rfl, rfl⟩ (by decide) pt_xb_ivw_0 pt_xb_ivw_0q 0 rfl rfl rfl rfl hl.1 rfl (Nat.le_of_ble_eq_true rfl) dX9_many_30 ⟨Nat.le_of_ble_eq_true rfl, Nat.le_of_ble_eq_true rfl⟩ rfl (fun H locs hI => ?_)
        refine lv_aload_n (pc := 33) hx hb dX9_many_33 rfl (lv_at hl 0 rfl) ?_
        refine x_get (pc := 34) X E hI inX9 0 rfl rfl 5 (by decide) tw_2_12 rfl dX9_many_34 ?_
        refine lv_iload_n (pc := 37) hx hb dX9_many_37 rfl (lv_at hl 2 rfl) ?_
        obtain ⟨t6, e6, hf⟩ := q_ob hf
        refine x_cVt (pc := 38) (st1 := [.long t6]) (w2 := (xb G h x_hasImage f_places f_kinds f_weights f_howManyGenerators f_generators f_racks f_howManySeen f_seenFirst f_seenSecond f_seenIs f_seenPlaces f_howManyEvents f_eventWhat f_eventNumber g_places g_kinds g_weights g_howManyGenerators g_generators g_racks g_howManySeen g_seenFirst g_seenSecond g_seenIs g_seenPlaces g_howManyEvents g_eventWhat g_eventNumber n_m0 n_m1 n_m2 n_s0 n_s1 n_s2 v_keys v_asFound v_found v_turns v_places p_keys p_asFound p_found p_turns p_places t5.1 t5.2.1 t5.2.2.1 t5.2.2.2 n_uq n_u u_leasts u_howMany u_known n_wq n_w w_leasts w_howMany w_known t_signs t_length t_whole t_begins t_ends r_sorts r_numbers r_length)) X E hI (c_X4_classesFor l G (h 21) (h 22) (h 23) e6) kv_X9_178 hd_X4_classesFor ⟨rfl, rfl⟩ (by decide) pt_xb_iw_0 pt_xb_iw_0q 0 rfl rfl rfl rfl hl.1 rfl (Nat.le_of_ble_eq_true rfl) dX9_many_38 ⟨Nat.le_of_ble_eq_true rfl, Nat.le_of_ble_eq_true rfl⟩ rfl (fun H locs hI => ?_)
        obtain rfl := Option.some.inj hf
        exact x_lret X hI dX9_many_41
      · have hf := q_in c4 hf
        refine lv_ldc2 (pc := 17) (v := (-9223372036854775808)) hx hb hown (hts _ tw_2_191) dX9_many_17 ?_
        obtain rfl := Option.some.inj hf
        exact x_lret X hI dX9_many_20

abbrev rm_X9_least : Room := { frames := 3, cells := 0, slots := 0, locals := 72 }
set_option maxHeartbeats 4000000 in
set_option maxRecDepth 100000 in
theorem c_X9_least (l : Launch) (G : GX) (h : Nat → Nat) {l1 : Int32} {l2 : Int32} {f_places : Int32} {f_kinds : Int32} {v_keys : Nat → Int32} {v_found : Int32} {v_places : Int32} {x_hasImage : Int32} {f_weights : Nat → Int32} {f_howManyGenerators : Int32} {f_generators : Nat → Int32} {f_racks : Nat → Int32} {f_howManySeen : Int32} {f_seenFirst : Nat → Int32} {f_seenSecond : Nat → Int32} {f_seenIs : Nat → Int32} {f_seenPlaces : Nat → Int32} {f_howManyEvents : Int32} {f_eventWhat : Nat → Int32} {f_eventNumber : Nat → Int32} {g_places : Int32} {g_kinds : Int32} {g_weights : Nat → Int32} {g_howManyGenerators : Int32} {g_generators : Nat → Int32} {g_racks : Nat → Int32} {g_howManySeen : Int32} {g_seenFirst : Nat → Int32} {g_seenSecond : Nat → Int32} {g_seenIs : Nat → Int32} {g_seenPlaces : Nat → Int32} {g_howManyEvents : Int32} {g_eventWhat : Nat → Int32} {g_eventNumber : Nat → Int32} {n_m0 : Nat} {n_m1 : Nat} {n_m2 : Nat} {n_s0 : Nat} {n_s1 : Nat} {n_s2 : Nat} {v_asFound : Nat → Int32} {v_turns : Int32} {p_keys : Nat → Int32} {p_asFound : Nat → Int32} {p_found : Int32} {p_turns : Int32} {p_places : Int32} {i_sort : Nat → Int32} {i_howOften : Nat → Int32} {i_sorts : Int32} {i_moves : Int32} {n_uq : Nat} {n_u : Nat} {u_leasts : Nat → Int32} {u_howMany : Int32} {u_known : Int32} {n_wq : Nat} {n_w : Nat} {w_leasts : Nat → Int32} {w_howMany : Int32} {w_known : Int32} {t_signs : Nat → Int32} {t_length : Int32} {t_whole : Int32} {t_begins : Nat → Int32} {t_ends : Nat → Int32} {r_sorts : Nat → Int32} {r_numbers : Nat → Int32} {r_length : Int32} {wo : va_W} {res : Int32} (hf : f_X9_least l1 l2 f_places f_kinds v_keys v_found v_places = some res) : MX l yX9_least cX9_least 4 (some .int) rm_X9_least G ((xb G h x_hasImage f_places f_kinds f_weights f_howManyGenerators f_generators f_racks f_howManySeen f_seenFirst f_seenSecond f_seenIs f_seenPlaces f_howManyEvents f_eventWhat f_eventNumber g_places g_kinds g_weights g_howManyGenerators g_generators g_racks g_howManySeen g_seenFirst g_seenSecond g_seenIs g_seenPlaces g_howManyEvents g_eventWhat g_eventNumber n_m0 n_m1 n_m2 n_s0 n_s1 n_s2 v_keys v_asFound v_found v_turns v_places p_keys p_asFound p_found p_turns p_places i_sort i_howOften i_sorts i_moves n_uq n_u u_leasts u_howMany u_known n_wq n_w w_leasts w_howMany w_known t_signs t_length t_whole t_begins t_ends r_sorts r_numbers r_length) ++ wo) [.ref (h 0), .int l1, .int l2] ((xb G h x_hasImage f_places f_kinds f_weights f_howManyGenerators f_generators f_racks f_howManySeen f_seenFirst f_seenSecond f_seenIs f_seenPlaces f_howManyEvents f_eventWhat f_eventNumber g_places g_kinds g_weights g_howManyGenerators g_generators g_racks g_howManySeen g_seenFirst g_seenSecond g_seenIs g_seenPlaces g_howManyEvents g_eventWhat g_eventNumber n_m0 n_m1 n_m2 n_s0 n_s1 n_s2 v_keys v_asFound v_found v_turns v_places p_keys p_asFound p_found p_turns p_places i_sort i_howOften i_sorts i_moves n_uq n_u u_leasts u_howMany u_known n_wq n_w w_leasts w_howMany w_known t_signs t_length t_whole t_begins t_ends r_sorts r_numbers r_length) ++ wo) (some (.int res)) 0 0 := by
  refine MX.of (plainFor_of_name (by decide)) (Nat.le_of_ble_eq_true rfl) ?_
  intro p e s m below meth c A X E hI ls hl
  obtain ⟨hx, hb, hml, hown, hts, hr, hlk⟩ := id X
  have hl : lv_has ls 4 [(0, .ref (h 0)), (1, .int l1), (2, .int l2)] := hl
  unfold f_X9_least at hf
  refine lv_iload_n (pc := 0) hx hb dX9_least_0 rfl (lv_at hl 1 rfl) ?_
  obtain ⟨t1, e1, hf⟩ := q_ob hf
  refine x_cSn (pc := 1) (st1 := [.int t1]) X E hI (c_X9_isFlag l G e1) ks_X9_99 hd_X9_isFlag ⟨rfl, rfl⟩ (by decide) rfl hl.1 rfl (Nat.le_of_ble_eq_true rfl) dX9_least_1 ⟨Nat.le_of_ble_eq_true rfl, Nat.le_of_ble_eq_true rfl⟩ rfl (fun H locs hI => ?_)
  refine lv_if_ne (pc := 4) (tgt := 9) hx hb dX9_least_4 (by decide) (fun c2 => ?_) (fun c2 => ?_)
  · have hf := q_in c2 hf
    refine lv_aload_n (pc := 9) hx hb dX9_least_9 rfl (lv_at hl 0 rfl) ?_
    refine lv_iload_n (pc := 10) hx hb dX9_least_10 rfl (lv_at hl 2 rfl) ?_
    obtain ⟨t3, e3, hf⟩ := q_ob hf
    refine x_cVs (pc := 11) (st1 := [.int t3]) (w1 := ((xb G h x_hasImage f_places f_kinds f_weights f_howManyGenerators f_generators f_racks f_howManySeen f_seenFirst f_seenSecond f_seenIs f_seenPlaces f_howManyEvents f_eventWhat f_eventNumber g_places g_kinds g_weights g_howManyGenerators g_generators g_racks g_howManySeen g_seenFirst g_seenSecond g_seenIs g_seenPlaces g_howManyEvents g_eventWhat g_eventNumber n_m0 n_m1 n_m2 n_s0 n_s1 n_s2 v_keys v_asFound v_found v_turns v_places p_keys p_asFound p_found p_turns p_places i_sort i_howOften i_sorts i_moves n_uq n_u u_leasts u_howMany u_known n_wq n_w w_leasts w_howMany w_known t_signs t_length t_whole t_begins t_ends r_sorts r_numbers r_length) ++ wo)) X E hI (c_X9_packedPainting l G h e3) kv_X9_182 hd_X9_packedPainting ⟨rfl, rfl⟩ (by decide) 0 rfl rfl rfl rfl hl.1 rfl (Nat.le_of_ble_eq_true rfl) dX9_least_11 ⟨Nat.le_of_ble_eq_true rfl, Nat.le_of_ble_eq_true rfl⟩ rfl (fun H locs hI => ?_)
    refine lv_istore_n (pc := 14) (lv' := [(3, .int t3), (0, .ref (h 0)), (1, .int l1), (2, .int l2)]) hx hb dX9_least_14 rfl hl (by decide) rfl (fun ls hl => ?_)
    refine lv_iload_n (pc := 15) hx hb dX9_least_15 rfl (lv_at hl 0 rfl) ?_
    refine lv_if_ge (pc := 16) (tgt := 22) hx hb dX9_least_16 (by decide) (fun c4 => ?_) (fun c4 => ?_)
    · have hf := q_ip c4 hf
      refine lv_aload_n (pc := 22) hx hb dX9_least_22 rfl (lv_at hl 1 rfl) ?_
      refine lv_aload_n (pc := 23) hx hb dX9_least_23 rfl (lv_at hl 1 rfl) ?_
      refine x_get (pc := 24) X E hI inX9 0 rfl rfl 3 (by decide) tw_2_10 rfl dX9_least_24 ?_
      refine lv_iload_n (pc := 27) hx hb dX9_least_27 rfl (lv_at hl 0 rfl) ?_
      refine lv_iconst (pc := 28) (v := 0) hx hb dX9_least_28 (by decide) ?_
      refine lv_iload_n (pc := 29) hx hb dX9_least_29 rfl (lv_at hl 2 rfl) ?_
      obtain ⟨t5, e5, hf⟩ := q_ob hf
      refine x_cVt (pc := 30) (st1 := [.int t5, .ref (h 0)]) (w2 := (xb G h x_hasImage f_places f_kinds f_weights f_howManyGenerators f_generators f_racks f_howManySeen f_seenFirst f_seenSecond f_seenIs f_seenPlaces f_howManyEvents f_eventWhat f_eventNumber g_places g_kinds g_weights g_howManyGenerators g_generators g_racks g_howManySeen g_seenFirst g_seenSecond g_seenIs g_seenPlaces g_howManyEvents g_eventWhat g_eventNumber n_m0 n_m1 n_m2 n_s0 n_s1 n_s2 v_keys v_asFound v_found v_turns v_places p_keys p_asFound p_found p_turns p_places i_sort i_howOften i_sorts i_moves n_uq n_u u_leasts u_howMany u_known n_wq n_w w_leasts w_howMany w_known t_signs t_length t_whole t_begins t_ends r_sorts r_numbers r_length)) X E hI (c_X5_leastMade l G n_m0 n_m1 n_m2 e5) kv_X9_185 hd_X5_leastMade ⟨rfl, rfl⟩ (by decide) pt_xb_vw_0 pt_xb_vw_0q 0 rfl rfl rfl rfl hl.1 rfl (Nat.le_of_ble_eq_true rfl) dX9_least_30 ⟨Nat.le_of_ble_eq_true rfl, Nat.le_of_ble_eq_true rfl⟩ rfl (fun H locs hI => ?_)
      obtain ⟨t6, e6, hf⟩ := q_ob hf
      refine x_cVs (pc := 33) (st1 := [.int t6]) (w1 := ((xb G h x_hasImage f_places f_kinds f_weights f_howManyGenerators f_generators f_racks f_howManySeen f_seenFirst f_seenSecond f_seenIs f_seenPlaces f_howManyEvents f_eventWhat f_eventNumber g_places g_kinds g_weights g_howManyGenerators g_generators g_racks g_howManySeen g_seenFirst g_seenSecond g_seenIs g_seenPlaces g_howManyEvents g_eventWhat g_eventNumber n_m0 n_m1 n_m2 n_s0 n_s1 n_s2 v_keys v_asFound v_found v_turns v_places p_keys p_asFound p_found p_turns p_places i_sort i_howOften i_sorts i_moves n_uq n_u u_leasts u_howMany u_known n_wq n_w w_leasts w_howMany w_known t_signs t_length t_whole t_begins t_ends r_sorts r_numbers r_length) ++ wo)) X E hI (c_X9_paintingNumber l G h e6) kv_X9_189 hd_X9_paintingNumber ⟨rfl, rfl⟩ (by decide) 0 rfl rfl rfl rfl hl.1 rfl (Nat.le_of_ble_eq_true rfl) dX9_least_33 ⟨Nat.le_of_ble_eq_true rfl, Nat.le_of_ble_eq_true rfl⟩ rfl (fun H locs hI => ?_)
      obtain rfl := Option.some.inj hf
      exact x_iret X hI dX9_least_36
    · have hf := q_in c4 hf
      refine lv_bipush (pc := 19) (v := (-2)) hx hb dX9_least_19 (by decide) ?_
      obtain rfl := Option.some.inj hf
      exact x_iret X hI dX9_least_21
  · have hf := q_ip c2 hf
    refine lv_iconst (pc := 7) (v := (-1)) hx hb dX9_least_7 (by decide) ?_
    obtain rfl := Option.some.inj hf
    exact x_iret X hI dX9_least_8

abbrev rm_X9_size : Room := { frames := 3, cells := 0, slots := 0, locals := 69 }
set_option maxHeartbeats 4000000 in
set_option maxRecDepth 100000 in
theorem c_X9_size (l : Launch) (G : GX) (h : Nat → Nat) {l1 : Int32} {l2 : Int32} {f_places : Int32} {f_kinds : Int32} {v_keys : Nat → Int32} {v_found : Int32} {v_turns : Int32} {v_places : Int32} {x_hasImage : Int32} {f_weights : Nat → Int32} {f_howManyGenerators : Int32} {f_generators : Nat → Int32} {f_racks : Nat → Int32} {f_howManySeen : Int32} {f_seenFirst : Nat → Int32} {f_seenSecond : Nat → Int32} {f_seenIs : Nat → Int32} {f_seenPlaces : Nat → Int32} {f_howManyEvents : Int32} {f_eventWhat : Nat → Int32} {f_eventNumber : Nat → Int32} {g_places : Int32} {g_kinds : Int32} {g_weights : Nat → Int32} {g_howManyGenerators : Int32} {g_generators : Nat → Int32} {g_racks : Nat → Int32} {g_howManySeen : Int32} {g_seenFirst : Nat → Int32} {g_seenSecond : Nat → Int32} {g_seenIs : Nat → Int32} {g_seenPlaces : Nat → Int32} {g_howManyEvents : Int32} {g_eventWhat : Nat → Int32} {g_eventNumber : Nat → Int32} {n_m0 : Nat} {n_m1 : Nat} {n_m2 : Nat} {n_s0 : Nat} {n_s1 : Nat} {n_s2 : Nat} {v_asFound : Nat → Int32} {p_keys : Nat → Int32} {p_asFound : Nat → Int32} {p_found : Int32} {p_turns : Int32} {p_places : Int32} {i_sort : Nat → Int32} {i_howOften : Nat → Int32} {i_sorts : Int32} {i_moves : Int32} {n_uq : Nat} {n_u : Nat} {u_leasts : Nat → Int32} {u_howMany : Int32} {u_known : Int32} {n_wq : Nat} {n_w : Nat} {w_leasts : Nat → Int32} {w_howMany : Int32} {w_known : Int32} {t_signs : Nat → Int32} {t_length : Int32} {t_whole : Int32} {t_begins : Nat → Int32} {t_ends : Nat → Int32} {r_sorts : Nat → Int32} {r_numbers : Nat → Int32} {r_length : Int32} {wo : va_W} {res : Int32} (hf : f_X9_size l1 l2 f_places f_kinds v_keys v_found v_turns v_places = some res) : MX l yX9_size cX9_size 4 (some .int) rm_X9_size G ((xb G h x_hasImage f_places f_kinds f_weights f_howManyGenerators f_generators f_racks f_howManySeen f_seenFirst f_seenSecond f_seenIs f_seenPlaces f_howManyEvents f_eventWhat f_eventNumber g_places g_kinds g_weights g_howManyGenerators g_generators g_racks g_howManySeen g_seenFirst g_seenSecond g_seenIs g_seenPlaces g_howManyEvents g_eventWhat g_eventNumber n_m0 n_m1 n_m2 n_s0 n_s1 n_s2 v_keys v_asFound v_found v_turns v_places p_keys p_asFound p_found p_turns p_places i_sort i_howOften i_sorts i_moves n_uq n_u u_leasts u_howMany u_known n_wq n_w w_leasts w_howMany w_known t_signs t_length t_whole t_begins t_ends r_sorts r_numbers r_length) ++ wo) [.ref (h 0), .int l1, .int l2] ((xb G h x_hasImage f_places f_kinds f_weights f_howManyGenerators f_generators f_racks f_howManySeen f_seenFirst f_seenSecond f_seenIs f_seenPlaces f_howManyEvents f_eventWhat f_eventNumber g_places g_kinds g_weights g_howManyGenerators g_generators g_racks g_howManySeen g_seenFirst g_seenSecond g_seenIs g_seenPlaces g_howManyEvents g_eventWhat g_eventNumber n_m0 n_m1 n_m2 n_s0 n_s1 n_s2 v_keys v_asFound v_found v_turns v_places p_keys p_asFound p_found p_turns p_places i_sort i_howOften i_sorts i_moves n_uq n_u u_leasts u_howMany u_known n_wq n_w w_leasts w_howMany w_known t_signs t_length t_whole t_begins t_ends r_sorts r_numbers r_length) ++ wo) (some (.int res)) 0 0 := by
  refine MX.of (plainFor_of_name (by decide)) (Nat.le_of_ble_eq_true rfl) ?_
  intro p e s m below meth c A X E hI ls hl
  obtain ⟨hx, hb, hml, hown, hts, hr, hlk⟩ := id X
  have hl : lv_has ls 4 [(0, .ref (h 0)), (1, .int l1), (2, .int l2)] := hl
  unfold f_X9_size at hf
  refine lv_iload_n (pc := 0) hx hb dX9_size_0 rfl (lv_at hl 1 rfl) ?_
  obtain ⟨t1, e1, hf⟩ := q_ob hf
  refine x_cSn (pc := 1) (st1 := [.int t1]) X E hI (c_X9_isFlag l G e1) ks_X9_99 hd_X9_isFlag ⟨rfl, rfl⟩ (by decide) rfl hl.1 rfl (Nat.le_of_ble_eq_true rfl) dX9_size_1 ⟨Nat.le_of_ble_eq_true rfl, Nat.le_of_ble_eq_true rfl⟩ rfl (fun H locs hI => ?_)
  refine lv_if_ne (pc := 4) (tgt := 9) hx hb dX9_size_4 (by decide) (fun c2 => ?_) (fun c2 => ?_)
  · have hf := q_in c2 hf
    refine lv_aload_n (pc := 9) hx hb dX9_size_9 rfl (lv_at hl 0 rfl) ?_
    refine lv_iload_n (pc := 10) hx hb dX9_size_10 rfl (lv_at hl 2 rfl) ?_
    obtain ⟨t3, e3, hf⟩ := q_ob hf
    refine x_cVs (pc := 11) (st1 := [.int t3]) (w1 := ((xb G h x_hasImage f_places f_kinds f_weights f_howManyGenerators f_generators f_racks f_howManySeen f_seenFirst f_seenSecond f_seenIs f_seenPlaces f_howManyEvents f_eventWhat f_eventNumber g_places g_kinds g_weights g_howManyGenerators g_generators g_racks g_howManySeen g_seenFirst g_seenSecond g_seenIs g_seenPlaces g_howManyEvents g_eventWhat g_eventNumber n_m0 n_m1 n_m2 n_s0 n_s1 n_s2 v_keys v_asFound v_found v_turns v_places p_keys p_asFound p_found p_turns p_places i_sort i_howOften i_sorts i_moves n_uq n_u u_leasts u_howMany u_known n_wq n_w w_leasts w_howMany w_known t_signs t_length t_whole t_begins t_ends r_sorts r_numbers r_length) ++ wo)) X E hI (c_X9_packedPainting l G h e3) kv_X9_182 hd_X9_packedPainting ⟨rfl, rfl⟩ (by decide) 0 rfl rfl rfl rfl hl.1 rfl (Nat.le_of_ble_eq_true rfl) dX9_size_11 ⟨Nat.le_of_ble_eq_true rfl, Nat.le_of_ble_eq_true rfl⟩ rfl (fun H locs hI => ?_)
    refine lv_istore_n (pc := 14) (lv' := [(3, .int t3), (0, .ref (h 0)), (1, .int l1), (2, .int l2)]) hx hb dX9_size_14 rfl hl (by decide) rfl (fun ls hl => ?_)
    refine lv_iload_n (pc := 15) hx hb dX9_size_15 rfl (lv_at hl 0 rfl) ?_
    refine lv_if_ge (pc := 16) (tgt := 24) hx hb dX9_size_16 (by decide) (fun c4 => ?_) (fun c4 => ?_)
    · have hf := q_ip c4 hf
      refine lv_aload_n (pc := 24) hx hb dX9_size_24 rfl (lv_at hl 1 rfl) ?_
      refine x_get (pc := 25) X E hI inX9 0 rfl rfl 3 (by decide) tw_2_10 rfl dX9_size_25 ?_
      refine lv_iload_n (pc := 28) hx hb dX9_size_28 rfl (lv_at hl 0 rfl) ?_
      refine lv_iload_n (pc := 29) hx hb dX9_size_29 rfl (lv_at hl 2 rfl) ?_
      obtain ⟨t5, e5, hf⟩ := q_ob hf
      refine x_cVt (pc := 30) (st1 := [.int t5]) (w2 := (xb G h x_hasImage f_places f_kinds f_weights f_howManyGenerators f_generators f_racks f_howManySeen f_seenFirst f_seenSecond f_seenIs f_seenPlaces f_howManyEvents f_eventWhat f_eventNumber g_places g_kinds g_weights g_howManyGenerators g_generators g_racks g_howManySeen g_seenFirst g_seenSecond g_seenIs g_seenPlaces g_howManyEvents g_eventWhat g_eventNumber n_m0 n_m1 n_m2 n_s0 n_s1 n_s2 v_keys v_asFound v_found v_turns v_places p_keys p_asFound p_found p_turns p_places i_sort i_howOften i_sorts i_moves n_uq n_u u_leasts u_howMany u_known n_wq n_w w_leasts w_howMany w_known t_signs t_length t_whole t_begins t_ends r_sorts r_numbers r_length)) X E hI (c_X5_howManyMade l G n_m0 n_m1 n_m2 e5) kv_X9_192 hd_X5_howManyMade ⟨rfl, rfl⟩ (by decide) pt_xb_vw_0 pt_xb_vw_0q 0 rfl rfl rfl rfl hl.1 rfl (Nat.le_of_ble_eq_true rfl) dX9_size_30 ⟨Nat.le_of_ble_eq_true rfl, Nat.le_of_ble_eq_true rfl⟩ rfl (fun H locs hI => ?_)
      obtain rfl := Option.some.inj hf
      exact x_iret X hI dX9_size_33
    · have hf := q_in c4 hf
      refine lv_bipush (pc := 19) (v := (-2)) hx hb dX9_size_19 (by decide) ?_
      refine lv_goto (pc := 21) (tgt := 33) hx hb dX9_size_21 (by decide) ?_
      obtain rfl := Option.some.inj hf
      exact x_iret X hI dX9_size_33
  · have hf := q_ip c2 hf
    refine lv_iconst (pc := 7) (v := (-1)) hx hb dX9_size_7 (by decide) ?_
    obtain rfl := Option.some.inj hf
    exact x_iret X hI dX9_size_8

abbrev rm_X9_kindOf_0 : Room := { frames := 4, cells := 1, slots := 4096, locals := 96 }
set_option maxHeartbeats 4000000 in
set_option maxRecDepth 100000 in
theorem c_X9_kindOf_0 (l : Launch) (G : GX) (h : Nat → Nat) {l2 : Int32} {l3 : Int32} {f_places : Int32} {f_kinds : Int32} {f_weights : Nat → Int32} {v_keys : Nat → Int32} {v_found : Int32} {v_turns : Int32} {v_places : Int32} {n_u : Nat} {u_leasts : Nat → Int32} {u_howMany : Int32} {u_known : Int32} {x_hasImage : Int32} {f_howManyGenerators : Int32} {f_generators : Nat → Int32} {f_racks : Nat → Int32} {f_howManySeen : Int32} {f_seenFirst : Nat → Int32} {f_seenSecond : Nat → Int32} {f_seenIs : Nat → Int32} {f_seenPlaces : Nat → Int32} {f_howManyEvents : Int32} {f_eventWhat : Nat → Int32} {f_eventNumber : Nat → Int32} {g_places : Int32} {g_kinds : Int32} {g_weights : Nat → Int32} {g_howManyGenerators : Int32} {g_generators : Nat → Int32} {g_racks : Nat → Int32} {g_howManySeen : Int32} {g_seenFirst : Nat → Int32} {g_seenSecond : Nat → Int32} {g_seenIs : Nat → Int32} {g_seenPlaces : Nat → Int32} {g_howManyEvents : Int32} {g_eventWhat : Nat → Int32} {g_eventNumber : Nat → Int32} {n_m0 : Nat} {n_m1 : Nat} {n_m2 : Nat} {n_s0 : Nat} {n_s1 : Nat} {n_s2 : Nat} {v_asFound : Nat → Int32} {p_keys : Nat → Int32} {p_asFound : Nat → Int32} {p_found : Int32} {p_turns : Int32} {p_places : Int32} {i_sort : Nat → Int32} {i_howOften : Nat → Int32} {i_sorts : Int32} {i_moves : Int32} {n_uq : Nat} {n_wq : Nat} {n_w : Nat} {w_leasts : Nat → Int32} {w_howMany : Int32} {w_known : Int32} {t_signs : Nat → Int32} {t_length : Int32} {t_whole : Int32} {t_begins : Nat → Int32} {t_ends : Nat → Int32} {r_sorts : Nat → Int32} {r_numbers : Nat → Int32} {r_length : Int32} {wo : va_W} {res : Int32 × Nat × (Nat → Int32) × Int32 × Int32} (hf : f_X9_kindOf_0 l2 l3 f_places f_kinds f_weights v_keys v_found v_turns v_places n_u u_leasts u_howMany u_known = some res) : ME l yX9_kindOf cX9_kindOf 6 (some .int) rm_X9_kindOf_0 G ((xb G h x_hasImage f_places f_kinds f_weights f_howManyGenerators f_generators f_racks f_howManySeen f_seenFirst f_seenSecond f_seenIs f_seenPlaces f_howManyEvents f_eventWhat f_eventNumber g_places g_kinds g_weights g_howManyGenerators g_generators g_racks g_howManySeen g_seenFirst g_seenSecond g_seenIs g_seenPlaces g_howManyEvents g_eventWhat g_eventNumber n_m0 n_m1 n_m2 n_s0 n_s1 n_s2 v_keys v_asFound v_found v_turns v_places p_keys p_asFound p_found p_turns p_places i_sort i_howOften i_sorts i_moves n_uq n_u u_leasts u_howMany u_known n_wq n_w w_leasts w_howMany w_known t_signs t_length t_whole t_begins t_ends r_sorts r_numbers r_length) ++ wo) [.ref (h 0), .int 0, .int l2, .int l3] (fun q : Nat => ((xb G h x_hasImage f_places f_kinds f_weights f_howManyGenerators f_generators f_racks f_howManySeen f_seenFirst f_seenSecond f_seenIs f_seenPlaces f_howManyEvents f_eventWhat f_eventNumber g_places g_kinds g_weights g_howManyGenerators g_generators g_racks g_howManySeen g_seenFirst g_seenSecond g_seenIs g_seenPlaces g_howManyEvents g_eventWhat g_eventNumber n_m0 n_m1 n_m2 n_s0 n_s1 n_s2 v_keys v_asFound v_found v_turns v_places p_keys p_asFound p_found p_turns p_places i_sort i_howOften i_sorts i_moves q res.2.1 res.2.2.1 res.2.2.2.1 res.2.2.2.2 n_wq n_w w_leasts w_howMany w_known t_signs t_length t_whole t_begins t_ends r_sorts r_numbers r_length) ++ wo)) (some (.int res.1)) 1 4096 := by
  refine ME.of (plainFor_of_name (by decide)) (Nat.le_of_ble_eq_true rfl) ?_
  intro p e s m below meth c A X E hI ls hl
  obtain ⟨hx, hb, hml, hown, hts, hr, hlk⟩ := id X
  have hl : lv_has ls 6 [(0, .ref (h 0)), (1, .int 0), (2, .int l2), (3, .int l3)] := hl
  unfold f_X9_kindOf_0 at hf
  refine lv_iload_n (pc := 0) hx hb dX9_kindOf_0 rfl (lv_at hl 1 rfl) ?_
  obtain ⟨t1, e1, hf⟩ := q_ob hf
  refine x_cSn (pc := 1) (st1 := [.int t1]) X E hI (c_X9_isFlag l G e1) ks_X9_99 hd_X9_isFlag ⟨rfl, rfl⟩ (by decide) rfl hl.1 rfl (Nat.le_of_ble_eq_true rfl) dX9_kindOf_1 ⟨Nat.le_of_ble_eq_true rfl, Nat.le_of_ble_eq_true rfl⟩ rfl (fun H locs hI => ?_)
  refine lv_if_eq (pc := 4) (tgt := 11) hx hb dX9_kindOf_4 (by decide) (fun c2 => ?_) (fun c2 => ?_)
  · have hf := q_ip c2 hf
    refine lv_iconst (pc := 11) (v := (-1)) hx hb dX9_kindOf_11 (by decide) ?_
    obtain rfl := Option.some.inj hf
    refine W.widen (k := 1) (n := 4096) (by decide) (by decide) ?_
    exact x_iretE n_uq X hI dX9_kindOf_12
  · have hf := q_in c2 hf
    refine lv_iload_n (pc := 7) hx hb dX9_kindOf_7 rfl (lv_at hl 2 rfl) ?_
    refine lv_if_ge (pc := 8) (tgt := 13) hx hb dX9_kindOf_8 (by decide) (fun c3 => ?_) (fun c3 => ?_)
    · have hf := q_ip c3 hf
      refine lv_aload_n (pc := 13) hx hb dX9_kindOf_13 rfl (lv_at hl 0 rfl) ?_
      refine lv_iload_n (pc := 14) hx hb dX9_kindOf_14 rfl (lv_at hl 1 rfl) ?_
      obtain ⟨t4, e4, hf⟩ := q_ob hf
      refine x_cVsE (pc := 15) (st1 := [.ref (h 24)]) X E hI (c_X9_classesBy_0 l G h e4) kv_X9_195 hd_X9_classesBy ⟨rfl, rfl⟩ (by decide) 0 rfl rfl rfl rfl hl.1 rfl (Nat.le_of_ble_eq_true rfl) dX9_kindOf_15 ⟨Nat.le_of_ble_eq_true rfl, Nat.le_of_ble_eq_true rfl⟩ rfl (fun q4 H locs hI => ?_)
      have hI : IN A G ((xb G h x_hasImage f_places f_kinds f_weights f_howManyGenerators f_generators f_racks f_howManySeen f_seenFirst f_seenSecond f_seenIs f_seenPlaces f_howManyEvents f_eventWhat f_eventNumber g_places g_kinds g_weights g_howManyGenerators g_generators g_racks g_howManySeen g_seenFirst g_seenSecond g_seenIs g_seenPlaces g_howManyEvents g_eventWhat g_eventNumber n_m0 n_m1 n_m2 n_s0 n_s1 n_s2 v_keys v_asFound v_found v_turns v_places p_keys p_asFound p_found p_turns p_places i_sort i_howOften i_sorts i_moves q4 t4.1 t4.2.1 t4.2.2.1 t4.2.2.2 n_wq n_w w_leasts w_howMany w_known t_signs t_length t_whole t_begins t_ends r_sorts r_numbers r_length) ++ wo) s H locs := hI
      refine lv_astore (pc := 18) (lv' := [(4, .ref (h 24)), (0, .ref (h 0)), (1, .int 0), (2, .int l2), (3, .int l3)]) hx hb dX9_kindOf_18 hl (by decide) rfl (fun ls hl => ?_)
      refine lv_iload_n (pc := 20) hx hb dX9_kindOf_20 rfl (lv_at hl 3 rfl) ?_
      refine lv_aload (pc := 21) hx hb dX9_kindOf_21 (lv_at hl 0 rfl) ?_
      refine x_get (pc := 23) X E hI inX1 30 rfl rfl 1 (by decide) tw_1_152 rfl dX9_kindOf_23 ?_
      refine lv_icmp_lt (pc := 26) (tgt := 31) hx hb dX9_kindOf_26 (by decide) (fun c5 => ?_) (fun c5 => ?_)
      · have hf := q_ip c5 hf
        refine lv_aload (pc := 31) hx hb dX9_kindOf_31 (lv_at hl 0 rfl) ?_
        refine x_get (pc := 33) X E hI inX1 30 rfl rfl 0 (by decide) tw_1_150 rfl dX9_kindOf_33 ?_
        refine lv_iload_n (pc := 36) hx hb dX9_kindOf_36 rfl (lv_at hl 3 rfl) ?_
        obtain ⟨t6, e6, hf⟩ := q_ob hf
        refine x_iald (pc := 37) X E hI 31 rfl e6 dX9_kindOf_37 ?_
        refine lv_istore (pc := 38) (lv' := [(5, .int t6), (4, .ref (h 24)), (0, .ref (h 0)), (1, .int 0), (2, .int l2), (3, .int l3)]) hx hb dX9_kindOf_38 hl (by decide) rfl (fun ls hl => ?_)
        refine lv_iload_n (pc := 40) hx hb dX9_kindOf_40 rfl (lv_at hl 5 rfl) ?_
        rcases Decidable.em (l3 = 0) with c7 | c7
        · refine lv_tableIn (pc := 41) (tgt := 72) hx hb dX9_kindOf_41 (by rw [c7]; decide) (by rw [c7]; decide) (by rw [c7]; rfl) (by decide) ?_
          have hf := q_ip c7 hf
          refine lv_aload_n (pc := 72) hx hb dX9_kindOf_72 rfl (lv_at hl 2 rfl) ?_
          refine lv_iload (pc := 73) hx hb dX9_kindOf_73 (lv_at hl 0 rfl) ?_
          obtain ⟨t8, e8, hf⟩ := q_ob hf
          refine x_cVs (pc := 75) (st1 := [.int t8]) (w1 := ((xb G h x_hasImage f_places f_kinds f_weights f_howManyGenerators f_generators f_racks f_howManySeen f_seenFirst f_seenSecond f_seenIs f_seenPlaces f_howManyEvents f_eventWhat f_eventNumber g_places g_kinds g_weights g_howManyGenerators g_generators g_racks g_howManySeen g_seenFirst g_seenSecond g_seenIs g_seenPlaces g_howManyEvents g_eventWhat g_eventNumber n_m0 n_m1 n_m2 n_s0 n_s1 n_s2 v_keys v_asFound v_found v_turns v_places p_keys p_asFound p_found p_turns p_places i_sort i_howOften i_sorts i_moves q4 t4.1 t4.2.1 t4.2.2.1 t4.2.2.2 n_wq n_w w_leasts w_howMany w_known t_signs t_length t_whole t_begins t_ends r_sorts r_numbers r_length) ++ wo)) X E hI (c_X9_paintingNumber l G h e8) kv_X9_189 hd_X9_paintingNumber ⟨rfl, rfl⟩ (by decide) 0 rfl rfl rfl rfl hl.1 rfl (Nat.le_of_ble_eq_true rfl) dX9_kindOf_75 ⟨Nat.le_of_ble_eq_true rfl, Nat.le_of_ble_eq_true rfl⟩ rfl (fun H locs hI => ?_)
          obtain rfl := Option.some.inj hf
          exact x_iretE q4 X hI dX9_kindOf_78
        · have hf := q_in c7 hf
          rcases Decidable.em (l3 = 1) with c9 | c9
          · refine lv_tableIn (pc := 41) (tgt := 79) hx hb dX9_kindOf_41 (by rw [c9]; decide) (by rw [c9]; decide) (by rw [c9]; rfl) (by decide) ?_
            have hf := q_ip c9 hf
            refine lv_aload_n (pc := 79) hx hb dX9_kindOf_79 rfl (lv_at hl 2 rfl) ?_
            refine x_get (pc := 80) X E hI inX9 0 rfl rfl 3 (by decide) tw_2_10 rfl dX9_kindOf_80 ?_
            refine lv_iload (pc := 83) hx hb dX9_kindOf_83 (lv_at hl 0 rfl) ?_
            refine lv_iload_n (pc := 85) hx hb dX9_kindOf_85 rfl (lv_at hl 3 rfl) ?_
            obtain ⟨t10, e10, hf⟩ := q_ob hf
            refine x_cVt (pc := 86) (st1 := [.int t10]) (w2 := (xb G h x_hasImage f_places f_kinds f_weights f_howManyGenerators f_generators f_racks f_howManySeen f_seenFirst f_seenSecond f_seenIs f_seenPlaces f_howManyEvents f_eventWhat f_eventNumber g_places g_kinds g_weights g_howManyGenerators g_generators g_racks g_howManySeen g_seenFirst g_seenSecond g_seenIs g_seenPlaces g_howManyEvents g_eventWhat g_eventNumber n_m0 n_m1 n_m2 n_s0 n_s1 n_s2 v_keys v_asFound v_found v_turns v_places p_keys p_asFound p_found p_turns p_places i_sort i_howOften i_sorts i_moves q4 t4.1 t4.2.1 t4.2.2.1 t4.2.2.2 n_wq n_w w_leasts w_howMany w_known t_signs t_length t_whole t_begins t_ends r_sorts r_numbers r_length)) X E hI (c_X5_howManyMade l G n_m0 n_m1 n_m2 e10) kv_X9_192 hd_X5_howManyMade ⟨rfl, rfl⟩ (by decide) pt_xb_vw_0 pt_xb_vw_0q 0 rfl rfl rfl rfl hl.1 rfl (Nat.le_of_ble_eq_true rfl) dX9_kindOf_86 ⟨Nat.le_of_ble_eq_true rfl, Nat.le_of_ble_eq_true rfl⟩ rfl (fun H locs hI => ?_)
            obtain rfl := Option.some.inj hf
            exact x_iretE q4 X hI dX9_kindOf_89
          · have hf := q_in c9 hf
            rcases Decidable.em (l3 = 2) with c11 | c11
            · refine lv_tableIn (pc := 41) (tgt := 90) hx hb dX9_kindOf_41 (by rw [c11]; decide) (by rw [c11]; decide) (by rw [c11]; rfl) (by decide) ?_
              have hf := q_ip c11 hf
              refine lv_aload_n (pc := 90) hx hb dX9_kindOf_90 rfl (lv_at hl 2 rfl) ?_
              refine x_get (pc := 91) X E hI inX9 0 rfl rfl 0 (by decide) tw_2_7 rfl dX9_kindOf_91 ?_
              refine lv_iload (pc := 94) hx hb dX9_kindOf_94 (lv_at hl 0 rfl) ?_
              obtain ⟨t12, e12, hf⟩ := q_ob hf
              refine x_cVt (pc := 96) (st1 := [.int t12]) (w2 := (xb G h x_hasImage f_places f_kinds f_weights f_howManyGenerators f_generators f_racks f_howManySeen f_seenFirst f_seenSecond f_seenIs f_seenPlaces f_howManyEvents f_eventWhat f_eventNumber g_places g_kinds g_weights g_howManyGenerators g_generators g_racks g_howManySeen g_seenFirst g_seenSecond g_seenIs g_seenPlaces g_howManyEvents g_eventWhat g_eventNumber n_m0 n_m1 n_m2 n_s0 n_s1 n_s2 v_keys v_asFound v_found v_turns v_places p_keys p_asFound p_found p_turns p_places i_sort i_howOften i_sorts i_moves q4 t4.1 t4.2.1 t4.2.2.1 t4.2.2.2 n_wq n_w w_leasts w_howMany w_known t_signs t_length t_whole t_begins t_ends r_sorts r_numbers r_length)) X E hI (c_X3_weightOf l G (h 1) (h 2) (h 3) (h 4) (h 5) (h 6) (h 7) (h 8) (h 9) (h 10) e12) kv_X9_205 hd_X3_weightOf ⟨rfl, rfl⟩ (by decide) pt_xb_fw_0 pt_xb_fw_0q 0 rfl rfl rfl rfl hl.1 rfl (Nat.le_of_ble_eq_true rfl) dX9_kindOf_96 ⟨Nat.le_of_ble_eq_true rfl, Nat.le_of_ble_eq_true rfl⟩ rfl (fun H locs hI => ?_)
              obtain rfl := Option.some.inj hf
              exact x_iretE q4 X hI dX9_kindOf_99
            · have hf := q_in c11 hf
              rcases Decidable.em (l3 = 3) with c13 | c13
              · refine lv_tableIn (pc := 41) (tgt := 100) hx hb dX9_kindOf_41 (by rw [c13]; decide) (by rw [c13]; decide) (by rw [c13]; rfl) (by decide) ?_
                have hf := q_ip c13 hf
                refine lv_iload (pc := 100) hx hb dX9_kindOf_100 (lv_at hl 0 rfl) ?_
                refine lv_aload_n (pc := 102) hx hb dX9_kindOf_102 rfl (lv_at hl 2 rfl) ?_
                refine x_get (pc := 103) X E hI inX9 0 rfl rfl 0 (by decide) tw_2_7 rfl dX9_kindOf_103 ?_
                refine x_get (pc := 106) X E hI inX3 1 rfl rfl 0 (by decide) tw_1_35 rfl dX9_kindOf_106 ?_
                obtain ⟨t14, e14, hf⟩ := q_ob hf
                refine x_cSn (pc := 109) (st1 := [.int t14]) X E hI (c_X2_howOftenEach l G e14) ks_X9_208 hd_X2_howOftenEach ⟨rfl, rfl⟩ (by decide) rfl hl.1 rfl (Nat.le_of_ble_eq_true rfl) dX9_kindOf_109 ⟨Nat.le_of_ble_eq_true rfl, Nat.le_of_ble_eq_true rfl⟩ rfl (fun H locs hI => ?_)
                obtain rfl := Option.some.inj hf
                exact x_iretE q4 X hI dX9_kindOf_112
              · have hf := q_in c13 hf
                refine lv_tableOut (pc := 41) (tgt := 113) hx hb dX9_kindOf_41 (q_out_0_3 c7 c9 c11 c13) (by decide) ?_
                refine lv_iconst (pc := 113) (v := (-1)) hx hb dX9_kindOf_113 (by decide) ?_
                obtain rfl := Option.some.inj hf
                exact x_iretE q4 X hI dX9_kindOf_114
      · have hf := q_in c5 hf
        refine lv_iconst (pc := 29) (v := (-1)) hx hb dX9_kindOf_29 (by decide) ?_
        obtain rfl := Option.some.inj hf
        exact x_iretE q4 X hI dX9_kindOf_30
    · have hf := q_in c3 hf
      refine lv_iconst (pc := 11) (v := (-1)) hx hb dX9_kindOf_11 (by decide) ?_
      obtain rfl := Option.some.inj hf
      refine W.widen (k := 1) (n := 4096) (by decide) (by decide) ?_
      exact x_iretE n_uq X hI dX9_kindOf_12

abbrev rm_X9_kindOf_1 : Room := { frames := 4, cells := 1, slots := 4096, locals := 96 }
set_option maxHeartbeats 4000000 in
set_option maxRecDepth 100000 in
theorem c_X9_kindOf_1 (l : Launch) (G : GX) (h : Nat → Nat) {l2 : Int32} {l3 : Int32} {f_places : Int32} {f_kinds : Int32} {f_weights : Nat → Int32} {v_keys : Nat → Int32} {v_found : Int32} {v_turns : Int32} {v_places : Int32} {n_w : Nat} {w_leasts : Nat → Int32} {w_howMany : Int32} {w_known : Int32} {x_hasImage : Int32} {f_howManyGenerators : Int32} {f_generators : Nat → Int32} {f_racks : Nat → Int32} {f_howManySeen : Int32} {f_seenFirst : Nat → Int32} {f_seenSecond : Nat → Int32} {f_seenIs : Nat → Int32} {f_seenPlaces : Nat → Int32} {f_howManyEvents : Int32} {f_eventWhat : Nat → Int32} {f_eventNumber : Nat → Int32} {g_places : Int32} {g_kinds : Int32} {g_weights : Nat → Int32} {g_howManyGenerators : Int32} {g_generators : Nat → Int32} {g_racks : Nat → Int32} {g_howManySeen : Int32} {g_seenFirst : Nat → Int32} {g_seenSecond : Nat → Int32} {g_seenIs : Nat → Int32} {g_seenPlaces : Nat → Int32} {g_howManyEvents : Int32} {g_eventWhat : Nat → Int32} {g_eventNumber : Nat → Int32} {n_m0 : Nat} {n_m1 : Nat} {n_m2 : Nat} {n_s0 : Nat} {n_s1 : Nat} {n_s2 : Nat} {v_asFound : Nat → Int32} {p_keys : Nat → Int32} {p_asFound : Nat → Int32} {p_found : Int32} {p_turns : Int32} {p_places : Int32} {i_sort : Nat → Int32} {i_howOften : Nat → Int32} {i_sorts : Int32} {i_moves : Int32} {n_uq : Nat} {n_u : Nat} {u_leasts : Nat → Int32} {u_howMany : Int32} {u_known : Int32} {n_wq : Nat} {t_signs : Nat → Int32} {t_length : Int32} {t_whole : Int32} {t_begins : Nat → Int32} {t_ends : Nat → Int32} {r_sorts : Nat → Int32} {r_numbers : Nat → Int32} {r_length : Int32} {wo : va_W} {res : Int32 × Nat × (Nat → Int32) × Int32 × Int32} (hf : f_X9_kindOf_1 l2 l3 f_places f_kinds f_weights v_keys v_found v_turns v_places n_w w_leasts w_howMany w_known = some res) : ME l yX9_kindOf cX9_kindOf 6 (some .int) rm_X9_kindOf_1 G ((xb G h x_hasImage f_places f_kinds f_weights f_howManyGenerators f_generators f_racks f_howManySeen f_seenFirst f_seenSecond f_seenIs f_seenPlaces f_howManyEvents f_eventWhat f_eventNumber g_places g_kinds g_weights g_howManyGenerators g_generators g_racks g_howManySeen g_seenFirst g_seenSecond g_seenIs g_seenPlaces g_howManyEvents g_eventWhat g_eventNumber n_m0 n_m1 n_m2 n_s0 n_s1 n_s2 v_keys v_asFound v_found v_turns v_places p_keys p_asFound p_found p_turns p_places i_sort i_howOften i_sorts i_moves n_uq n_u u_leasts u_howMany u_known n_wq n_w w_leasts w_howMany w_known t_signs t_length t_whole t_begins t_ends r_sorts r_numbers r_length) ++ wo) [.ref (h 0), .int 1, .int l2, .int l3] (fun q : Nat => ((xb G h x_hasImage f_places f_kinds f_weights f_howManyGenerators f_generators f_racks f_howManySeen f_seenFirst f_seenSecond f_seenIs f_seenPlaces f_howManyEvents f_eventWhat f_eventNumber g_places g_kinds g_weights g_howManyGenerators g_generators g_racks g_howManySeen g_seenFirst g_seenSecond g_seenIs g_seenPlaces g_howManyEvents g_eventWhat g_eventNumber n_m0 n_m1 n_m2 n_s0 n_s1 n_s2 v_keys v_asFound v_found v_turns v_places p_keys p_asFound p_found p_turns p_places i_sort i_howOften i_sorts i_moves n_uq n_u u_leasts u_howMany u_known q res.2.1 res.2.2.1 res.2.2.2.1 res.2.2.2.2 t_signs t_length t_whole t_begins t_ends r_sorts r_numbers r_length) ++ wo)) (some (.int res.1)) 1 4096 := by
  refine ME.of (plainFor_of_name (by decide)) (Nat.le_of_ble_eq_true rfl) ?_
  intro p e s m below meth c A X E hI ls hl
  obtain ⟨hx, hb, hml, hown, hts, hr, hlk⟩ := id X
  have hl : lv_has ls 6 [(0, .ref (h 0)), (1, .int 1), (2, .int l2), (3, .int l3)] := hl
  unfold f_X9_kindOf_1 at hf
  refine lv_iload_n (pc := 0) hx hb dX9_kindOf_0 rfl (lv_at hl 1 rfl) ?_
  obtain ⟨t1, e1, hf⟩ := q_ob hf
  refine x_cSn (pc := 1) (st1 := [.int t1]) X E hI (c_X9_isFlag l G e1) ks_X9_99 hd_X9_isFlag ⟨rfl, rfl⟩ (by decide) rfl hl.1 rfl (Nat.le_of_ble_eq_true rfl) dX9_kindOf_1 ⟨Nat.le_of_ble_eq_true rfl, Nat.le_of_ble_eq_true rfl⟩ rfl (fun H locs hI => ?_)
  refine lv_if_eq (pc := 4) (tgt := 11) hx hb dX9_kindOf_4 (by decide) (fun c2 => ?_) (fun c2 => ?_)
  · have hf := q_ip c2 hf
    refine lv_iconst (pc := 11) (v := (-1)) hx hb dX9_kindOf_11 (by decide) ?_
    obtain rfl := Option.some.inj hf
    refine W.widen (k := 1) (n := 4096) (by decide) (by decide) ?_
    exact x_iretE n_wq X hI dX9_kindOf_12
  · have hf := q_in c2 hf
    refine lv_iload_n (pc := 7) hx hb dX9_kindOf_7 rfl (lv_at hl 2 rfl) ?_
    refine lv_if_ge (pc := 8) (tgt := 13) hx hb dX9_kindOf_8 (by decide) (fun c3 => ?_) (fun c3 => ?_)
    · have hf := q_ip c3 hf
      refine lv_aload_n (pc := 13) hx hb dX9_kindOf_13 rfl (lv_at hl 0 rfl) ?_
      refine lv_iload_n (pc := 14) hx hb dX9_kindOf_14 rfl (lv_at hl 1 rfl) ?_
      obtain ⟨t4, e4, hf⟩ := q_ob hf
      refine x_cVsE (pc := 15) (st1 := [.ref (h 25)]) X E hI (c_X9_classesBy_1 l G h e4) kv_X9_195 hd_X9_classesBy ⟨rfl, rfl⟩ (by decide) 0 rfl rfl rfl rfl hl.1 rfl (Nat.le_of_ble_eq_true rfl) dX9_kindOf_15 ⟨Nat.le_of_ble_eq_true rfl, Nat.le_of_ble_eq_true rfl⟩ rfl (fun q4 H locs hI => ?_)
      have hI : IN A G ((xb G h x_hasImage f_places f_kinds f_weights f_howManyGenerators f_generators f_racks f_howManySeen f_seenFirst f_seenSecond f_seenIs f_seenPlaces f_howManyEvents f_eventWhat f_eventNumber g_places g_kinds g_weights g_howManyGenerators g_generators g_racks g_howManySeen g_seenFirst g_seenSecond g_seenIs g_seenPlaces g_howManyEvents g_eventWhat g_eventNumber n_m0 n_m1 n_m2 n_s0 n_s1 n_s2 v_keys v_asFound v_found v_turns v_places p_keys p_asFound p_found p_turns p_places i_sort i_howOften i_sorts i_moves n_uq n_u u_leasts u_howMany u_known q4 t4.1 t4.2.1 t4.2.2.1 t4.2.2.2 t_signs t_length t_whole t_begins t_ends r_sorts r_numbers r_length) ++ wo) s H locs := hI
      refine lv_astore (pc := 18) (lv' := [(4, .ref (h 25)), (0, .ref (h 0)), (1, .int 1), (2, .int l2), (3, .int l3)]) hx hb dX9_kindOf_18 hl (by decide) rfl (fun ls hl => ?_)
      refine lv_iload_n (pc := 20) hx hb dX9_kindOf_20 rfl (lv_at hl 3 rfl) ?_
      refine lv_aload (pc := 21) hx hb dX9_kindOf_21 (lv_at hl 0 rfl) ?_
      refine x_get (pc := 23) X E hI inX1 32 rfl rfl 1 (by decide) tw_1_152 rfl dX9_kindOf_23 ?_
      refine lv_icmp_lt (pc := 26) (tgt := 31) hx hb dX9_kindOf_26 (by decide) (fun c5 => ?_) (fun c5 => ?_)
      · have hf := q_ip c5 hf
        refine lv_aload (pc := 31) hx hb dX9_kindOf_31 (lv_at hl 0 rfl) ?_
        refine x_get (pc := 33) X E hI inX1 32 rfl rfl 0 (by decide) tw_1_150 rfl dX9_kindOf_33 ?_
        refine lv_iload_n (pc := 36) hx hb dX9_kindOf_36 rfl (lv_at hl 3 rfl) ?_
        obtain ⟨t6, e6, hf⟩ := q_ob hf
        refine x_iald (pc := 37) X E hI 33 rfl e6 dX9_kindOf_37 ?_
        refine lv_istore (pc := 38) (lv' := [(5, .int t6), (4, .ref (h 25)), (0, .ref (h 0)), (1, .int 1), (2, .int l2), (3, .int l3)]) hx hb dX9_kindOf_38 hl (by decide) rfl (fun ls hl => ?_)
        refine lv_iload_n (pc := 40) hx hb dX9_kindOf_40 rfl (lv_at hl 5 rfl) ?_
        rcases Decidable.em (l3 = 0) with c7 | c7
        · refine lv_tableIn (pc := 41) (tgt := 72) hx hb dX9_kindOf_41 (by rw [c7]; decide) (by rw [c7]; decide) (by rw [c7]; rfl) (by decide) ?_
          have hf := q_ip c7 hf
          refine lv_aload_n (pc := 72) hx hb dX9_kindOf_72 rfl (lv_at hl 2 rfl) ?_
          refine lv_iload (pc := 73) hx hb dX9_kindOf_73 (lv_at hl 0 rfl) ?_
          obtain ⟨t8, e8, hf⟩ := q_ob hf
          refine x_cVs (pc := 75) (st1 := [.int t8]) (w1 := ((xb G h x_hasImage f_places f_kinds f_weights f_howManyGenerators f_generators f_racks f_howManySeen f_seenFirst f_seenSecond f_seenIs f_seenPlaces f_howManyEvents f_eventWhat f_eventNumber g_places g_kinds g_weights g_howManyGenerators g_generators g_racks g_howManySeen g_seenFirst g_seenSecond g_seenIs g_seenPlaces g_howManyEvents g_eventWhat g_eventNumber n_m0 n_m1 n_m2 n_s0 n_s1 n_s2 v_keys v_asFound v_found v_turns v_places p_keys p_asFound p_found p_turns p_places i_sort i_howOften i_sorts i_moves n_uq n_u u_leasts u_howMany u_known q4 t4.1 t4.2.1 t4.2.2.1 t4.2.2.2 t_signs t_length t_whole t_begins t_ends r_sorts r_numbers r_length) ++ wo)) X E hI (c_X9_paintingNumber l G h e8) kv_X9_189 hd_X9_paintingNumber ⟨rfl, rfl⟩ (by decide) 0 rfl rfl rfl rfl hl.1 rfl (Nat.le_of_ble_eq_true rfl) dX9_kindOf_75 ⟨Nat.le_of_ble_eq_true rfl, Nat.le_of_ble_eq_true rfl⟩ rfl (fun H locs hI => ?_)
          obtain rfl := Option.some.inj hf
          exact x_iretE q4 X hI dX9_kindOf_78
        · have hf := q_in c7 hf
          rcases Decidable.em (l3 = 1) with c9 | c9
          · refine lv_tableIn (pc := 41) (tgt := 79) hx hb dX9_kindOf_41 (by rw [c9]; decide) (by rw [c9]; decide) (by rw [c9]; rfl) (by decide) ?_
            have hf := q_ip c9 hf
            refine lv_aload_n (pc := 79) hx hb dX9_kindOf_79 rfl (lv_at hl 2 rfl) ?_
            refine x_get (pc := 80) X E hI inX9 0 rfl rfl 3 (by decide) tw_2_10 rfl dX9_kindOf_80 ?_
            refine lv_iload (pc := 83) hx hb dX9_kindOf_83 (lv_at hl 0 rfl) ?_
            refine lv_iload_n (pc := 85) hx hb dX9_kindOf_85 rfl (lv_at hl 3 rfl) ?_
            obtain ⟨t10, e10, hf⟩ := q_ob hf
            refine x_cVt (pc := 86) (st1 := [.int t10]) (w2 := (xb G h x_hasImage f_places f_kinds f_weights f_howManyGenerators f_generators f_racks f_howManySeen f_seenFirst f_seenSecond f_seenIs f_seenPlaces f_howManyEvents f_eventWhat f_eventNumber g_places g_kinds g_weights g_howManyGenerators g_generators g_racks g_howManySeen g_seenFirst g_seenSecond g_seenIs g_seenPlaces g_howManyEvents g_eventWhat g_eventNumber n_m0 n_m1 n_m2 n_s0 n_s1 n_s2 v_keys v_asFound v_found v_turns v_places p_keys p_asFound p_found p_turns p_places i_sort i_howOften i_sorts i_moves n_uq n_u u_leasts u_howMany u_known q4 t4.1 t4.2.1 t4.2.2.1 t4.2.2.2 t_signs t_length t_whole t_begins t_ends r_sorts r_numbers r_length)) X E hI (c_X5_howManyMade l G n_m0 n_m1 n_m2 e10) kv_X9_192 hd_X5_howManyMade ⟨rfl, rfl⟩ (by decide) pt_xb_vw_0 pt_xb_vw_0q 0 rfl rfl rfl rfl hl.1 rfl (Nat.le_of_ble_eq_true rfl) dX9_kindOf_86 ⟨Nat.le_of_ble_eq_true rfl, Nat.le_of_ble_eq_true rfl⟩ rfl (fun H locs hI => ?_)
            obtain rfl := Option.some.inj hf
            exact x_iretE q4 X hI dX9_kindOf_89
          · have hf := q_in c9 hf
            rcases Decidable.em (l3 = 2) with c11 | c11
            · refine lv_tableIn (pc := 41) (tgt := 90) hx hb dX9_kindOf_41 (by rw [c11]; decide) (by rw [c11]; decide) (by rw [c11]; rfl) (by decide) ?_
              have hf := q_ip c11 hf
              refine lv_aload_n (pc := 90) hx hb dX9_kindOf_90 rfl (lv_at hl 2 rfl) ?_
              refine x_get (pc := 91) X E hI inX9 0 rfl rfl 0 (by decide) tw_2_7 rfl dX9_kindOf_91 ?_
              refine lv_iload (pc := 94) hx hb dX9_kindOf_94 (lv_at hl 0 rfl) ?_
              obtain ⟨t12, e12, hf⟩ := q_ob hf
              refine x_cVt (pc := 96) (st1 := [.int t12]) (w2 := (xb G h x_hasImage f_places f_kinds f_weights f_howManyGenerators f_generators f_racks f_howManySeen f_seenFirst f_seenSecond f_seenIs f_seenPlaces f_howManyEvents f_eventWhat f_eventNumber g_places g_kinds g_weights g_howManyGenerators g_generators g_racks g_howManySeen g_seenFirst g_seenSecond g_seenIs g_seenPlaces g_howManyEvents g_eventWhat g_eventNumber n_m0 n_m1 n_m2 n_s0 n_s1 n_s2 v_keys v_asFound v_found v_turns v_places p_keys p_asFound p_found p_turns p_places i_sort i_howOften i_sorts i_moves n_uq n_u u_leasts u_howMany u_known q4 t4.1 t4.2.1 t4.2.2.1 t4.2.2.2 t_signs t_length t_whole t_begins t_ends r_sorts r_numbers r_length)) X E hI (c_X3_weightOf l G (h 1) (h 2) (h 3) (h 4) (h 5) (h 6) (h 7) (h 8) (h 9) (h 10) e12) kv_X9_205 hd_X3_weightOf ⟨rfl, rfl⟩ (by decide) pt_xb_fw_0 pt_xb_fw_0q 0 rfl rfl rfl rfl hl.1 rfl (Nat.le_of_ble_eq_true rfl) dX9_kindOf_96 ⟨Nat.le_of_ble_eq_true rfl, Nat.le_of_ble_eq_true rfl⟩ rfl (fun H locs hI => ?_)
              obtain rfl := Option.some.inj hf
              exact x_iretE q4 X hI dX9_kindOf_99
            · have hf := q_in c11 hf
              rcases Decidable.em (l3 = 3) with c13 | c13
              · refine lv_tableIn (pc := 41) (tgt := 100) hx hb dX9_kindOf_41 (by rw [c13]; decide) (by rw [c13]; decide) (by rw [c13]; rfl) (by decide) ?_
                have hf := q_ip c13 hf
                refine lv_iload (pc := 100) hx hb dX9_kindOf_100 (lv_at hl 0 rfl) ?_
                refine lv_aload_n (pc := 102) hx hb dX9_kindOf_102 rfl (lv_at hl 2 rfl) ?_
                refine x_get (pc := 103) X E hI inX9 0 rfl rfl 0 (by decide) tw_2_7 rfl dX9_kindOf_103 ?_
                refine x_get (pc := 106) X E hI inX3 1 rfl rfl 0 (by decide) tw_1_35 rfl dX9_kindOf_106 ?_
                obtain ⟨t14, e14, hf⟩ := q_ob hf
                refine x_cSn (pc := 109) (st1 := [.int t14]) X E hI (c_X2_howOftenEach l G e14) ks_X9_208 hd_X2_howOftenEach ⟨rfl, rfl⟩ (by decide) rfl hl.1 rfl (Nat.le_of_ble_eq_true rfl) dX9_kindOf_109 ⟨Nat.le_of_ble_eq_true rfl, Nat.le_of_ble_eq_true rfl⟩ rfl (fun H locs hI => ?_)
                obtain rfl := Option.some.inj hf
                exact x_iretE q4 X hI dX9_kindOf_112
              · have hf := q_in c13 hf
                refine lv_tableOut (pc := 41) (tgt := 113) hx hb dX9_kindOf_41 (q_out_0_3 c7 c9 c11 c13) (by decide) ?_
                refine lv_iconst (pc := 113) (v := (-1)) hx hb dX9_kindOf_113 (by decide) ?_
                obtain rfl := Option.some.inj hf
                exact x_iretE q4 X hI dX9_kindOf_114
      · have hf := q_in c5 hf
        refine lv_iconst (pc := 29) (v := (-1)) hx hb dX9_kindOf_29 (by decide) ?_
        obtain rfl := Option.some.inj hf
        exact x_iretE q4 X hI dX9_kindOf_30
    · have hf := q_in c3 hf
      refine lv_iconst (pc := 11) (v := (-1)) hx hb dX9_kindOf_11 (by decide) ?_
      obtain rfl := Option.some.inj hf
      refine W.widen (k := 1) (n := 4096) (by decide) (by decide) ?_
      exact x_iretE n_wq X hI dX9_kindOf_12

abbrev rm_X9_kindOf_n : Room := { frames := 1, cells := 0, slots := 0, locals := 20 }
set_option maxHeartbeats 4000000 in
set_option maxRecDepth 100000 in
theorem c_X9_kindOf_n (l : Launch) (G : GX) (h : Nat → Nat) {l1 : Int32} {l2 : Int32} {l3 : Int32} {x_hasImage : Int32} {f_places : Int32} {f_kinds : Int32} {f_weights : Nat → Int32} {f_howManyGenerators : Int32} {f_generators : Nat → Int32} {f_racks : Nat → Int32} {f_howManySeen : Int32} {f_seenFirst : Nat → Int32} {f_seenSecond : Nat → Int32} {f_seenIs : Nat → Int32} {f_seenPlaces : Nat → Int32} {f_howManyEvents : Int32} {f_eventWhat : Nat → Int32} {f_eventNumber : Nat → Int32} {g_places : Int32} {g_kinds : Int32} {g_weights : Nat → Int32} {g_howManyGenerators : Int32} {g_generators : Nat → Int32} {g_racks : Nat → Int32} {g_howManySeen : Int32} {g_seenFirst : Nat → Int32} {g_seenSecond : Nat → Int32} {g_seenIs : Nat → Int32} {g_seenPlaces : Nat → Int32} {g_howManyEvents : Int32} {g_eventWhat : Nat → Int32} {g_eventNumber : Nat → Int32} {n_m0 : Nat} {n_m1 : Nat} {n_m2 : Nat} {n_s0 : Nat} {n_s1 : Nat} {n_s2 : Nat} {v_keys : Nat → Int32} {v_asFound : Nat → Int32} {v_found : Int32} {v_turns : Int32} {v_places : Int32} {p_keys : Nat → Int32} {p_asFound : Nat → Int32} {p_found : Int32} {p_turns : Int32} {p_places : Int32} {i_sort : Nat → Int32} {i_howOften : Nat → Int32} {i_sorts : Int32} {i_moves : Int32} {n_uq : Nat} {n_u : Nat} {u_leasts : Nat → Int32} {u_howMany : Int32} {u_known : Int32} {n_wq : Nat} {n_w : Nat} {w_leasts : Nat → Int32} {w_howMany : Int32} {w_known : Int32} {t_signs : Nat → Int32} {t_length : Int32} {t_whole : Int32} {t_begins : Nat → Int32} {t_ends : Nat → Int32} {r_sorts : Nat → Int32} {r_numbers : Nat → Int32} {r_length : Int32} {wo : va_W} {res : Int32} (hf : f_X9_kindOf_n l1 l2 l3 = some res) : MX l yX9_kindOf cX9_kindOf 6 (some .int) rm_X9_kindOf_n G ((xb G h x_hasImage f_places f_kinds f_weights f_howManyGenerators f_generators f_racks f_howManySeen f_seenFirst f_seenSecond f_seenIs f_seenPlaces f_howManyEvents f_eventWhat f_eventNumber g_places g_kinds g_weights g_howManyGenerators g_generators g_racks g_howManySeen g_seenFirst g_seenSecond g_seenIs g_seenPlaces g_howManyEvents g_eventWhat g_eventNumber n_m0 n_m1 n_m2 n_s0 n_s1 n_s2 v_keys v_asFound v_found v_turns v_places p_keys p_asFound p_found p_turns p_places i_sort i_howOften i_sorts i_moves n_uq n_u u_leasts u_howMany u_known n_wq n_w w_leasts w_howMany w_known t_signs t_length t_whole t_begins t_ends r_sorts r_numbers r_length) ++ wo) [.ref (h 0), .int l1, .int l2, .int l3] ((xb G h x_hasImage f_places f_kinds f_weights f_howManyGenerators f_generators f_racks f_howManySeen f_seenFirst f_seenSecond f_seenIs f_seenPlaces f_howManyEvents f_eventWhat f_eventNumber g_places g_kinds g_weights g_howManyGenerators g_generators g_racks g_howManySeen g_seenFirst g_seenSecond g_seenIs g_seenPlaces g_howManyEvents g_eventWhat g_eventNumber n_m0 n_m1 n_m2 n_s0 n_s1 n_s2 v_keys v_asFound v_found v_turns v_places p_keys p_asFound p_found p_turns p_places i_sort i_howOften i_sorts i_moves n_uq n_u u_leasts u_howMany u_known n_wq n_w w_leasts w_howMany w_known t_signs t_length t_whole t_begins t_ends r_sorts r_numbers r_length) ++ wo) (some (.int res)) 0 0 := by
  refine MX.of (plainFor_of_name (by decide)) (Nat.le_of_ble_eq_true rfl) ?_
  intro p e s m below meth c A X E hI ls hl
  obtain ⟨hx, hb, hml, hown, hts, hr, hlk⟩ := id X
  have hl : lv_has ls 6 [(0, .ref (h 0)), (1, .int l1), (2, .int l2), (3, .int l3)] := hl
  unfold f_X9_kindOf_n at hf
  refine lv_iload_n (pc := 0) hx hb dX9_kindOf_0 rfl (lv_at hl 1 rfl) ?_
  obtain ⟨t1, e1, hf⟩ := q_ob hf
  refine x_cSn (pc := 1) (st1 := [.int t1]) X E hI (c_X9_isFlag l G e1) ks_X9_99 hd_X9_isFlag ⟨rfl, rfl⟩ (by decide) rfl hl.1 rfl (Nat.le_of_ble_eq_true rfl) dX9_kindOf_1 ⟨Nat.le_of_ble_eq_true rfl, Nat.le_of_ble_eq_true rfl⟩ rfl (fun H locs hI => ?_)
  refine lv_if_eq (pc := 4) (tgt := 11) hx hb dX9_kindOf_4 (by decide) (fun c2 => ?_) (fun c2 => ?_)
  · have hf := q_ip c2 hf
    refine lv_iconst (pc := 11) (v := (-1)) hx hb dX9_kindOf_11 (by decide) ?_
    obtain rfl := Option.some.inj hf
    exact x_iret X hI dX9_kindOf_12
  · have hf := q_in c2 hf
    refine lv_iload_n (pc := 7) hx hb dX9_kindOf_7 rfl (lv_at hl 2 rfl) ?_
    refine lv_if_ge (pc := 8) (tgt := 13) hx hb dX9_kindOf_8 (by decide) (fun c3 => ?_) (fun c3 => ?_)
    · have hf := q_ip c3 hf
      refine lv_aload_n (pc := 13) hx hb dX9_kindOf_13 rfl (lv_at hl 0 rfl) ?_
      refine lv_iload_n (pc := 14) hx hb dX9_kindOf_14 rfl (lv_at hl 1 rfl) ?_
      exact nomatch hf
    · have hf := q_in c3 hf
      refine lv_iconst (pc := 11) (v := (-1)) hx hb dX9_kindOf_11 (by decide) ?_
      obtain rfl := Option.some.inj hf
      exact x_iret X hI dX9_kindOf_12

abbrev rm_X9_heavy_0 : Room := { frames := 4, cells := 1, slots := 4096, locals := 96 }
set_option maxHeartbeats 4000000 in
set_option maxRecDepth 100000 in
theorem k_X9_heavy_0_L34 {p : Program} {l : Launch} {e : Env} {s : State} {m : MethodId} {args : Array Value} {below : List Frame} {meth : Method} {c : Code} {A : Nat → Prop} {G : GX} {h : Nat → Nat} {l2 : Int32} {x_hasImage : Int32} {f_places : Int32} {f_kinds : Int32} {f_weights : Nat → Int32} {f_howManyGenerators : Int32} {f_generators : Nat → Int32} {f_racks : Nat → Int32} {f_howManySeen : Int32} {f_seenFirst : Nat → Int32} {f_seenSecond : Nat → Int32} {f_seenIs : Nat → Int32} {f_seenPlaces : Nat → Int32} {f_howManyEvents : Int32} {f_eventWhat : Nat → Int32} {f_eventNumber : Nat → Int32} {g_places : Int32} {g_kinds : Int32} {g_weights : Nat → Int32} {g_howManyGenerators : Int32} {g_generators : Nat → Int32} {g_racks : Nat → Int32} {g_howManySeen : Int32} {g_seenFirst : Nat → Int32} {g_seenSecond : Nat → Int32} {g_seenIs : Nat → Int32} {g_seenPlaces : Nat → Int32} {g_howManyEvents : Int32} {g_eventWhat : Nat → Int32} {g_eventNumber : Nat → Int32} {n_m0 : Nat} {n_m1 : Nat} {n_m2 : Nat} {n_s0 : Nat} {n_s1 : Nat} {n_s2 : Nat} {v_keys : Nat → Int32} {v_asFound : Nat → Int32} {v_found : Int32} {v_turns : Int32} {v_places : Int32} {p_keys : Nat → Int32} {p_asFound : Nat → Int32} {p_found : Int32} {p_turns : Int32} {p_places : Int32} {i_sort : Nat → Int32} {i_howOften : Nat → Int32} {i_sorts : Int32} {i_moves : Int32} {n_uq : Nat} {n_u : Nat} {u_leasts : Nat → Int32} {u_howMany : Int32} {u_known : Int32} {n_wq : Nat} {n_w : Nat} {w_leasts : Nat → Int32} {w_howMany : Int32} {w_known : Int32} {t_signs : Nat → Int32} {t_length : Int32} {t_whole : Int32} {t_begins : Nat → Int32} {t_ends : Nat → Int32} {r_sorts : Nat → Int32} {r_numbers : Nat → Int32} {r_length : Int32} {wo : va_W} {K : Int32 → Int32 → Option (Int32 × Nat × (Nat → Int32) × Int32 × Int32)} {res : Int32 × Nat × (Nat → Int32) × Int32 × Int32} (X : CX RX9 cX9_heavy 6 (some .int) p s m args meth c) (E : EX G A s)
    (hK : ∀ (l4 : Int32) (l5 : Int32) (H : Heap) (locs : List Loc) (ls : Array Slot), IN A G ((xb G h x_hasImage f_places f_kinds f_weights f_howManyGenerators f_generators f_racks f_howManySeen f_seenFirst f_seenSecond f_seenIs f_seenPlaces f_howManyEvents f_eventWhat f_eventNumber g_places g_kinds g_weights g_howManyGenerators g_generators g_racks g_howManySeen g_seenFirst g_seenSecond g_seenIs g_seenPlaces g_howManyEvents g_eventWhat g_eventNumber n_m0 n_m1 n_m2 n_s0 n_s1 n_s2 v_keys v_asFound v_found v_turns v_places p_keys p_asFound p_found p_turns p_places i_sort i_howOften i_sorts i_moves n_uq n_u u_leasts u_howMany u_known n_wq n_w w_leasts w_howMany w_known t_signs t_length t_whole t_begins t_ends r_sorts r_numbers r_length) ++ wo) s H locs → lv_has ls 6 [(0, .ref (h 0)), (2, .int l2), (3, .ref (h 24)), (4, .int l4), (5, .int l5)] → K l4 l5 = some res → W p l e rm_X9_heavy_0 s m args below meth c H locs 1 4096 (MQ below (QE G A (fun q : Nat => ((xb G h x_hasImage f_places f_kinds f_weights f_howManyGenerators f_generators f_racks f_howManySeen f_seenFirst f_seenSecond f_seenIs f_seenPlaces f_howManyEvents f_eventWhat f_eventNumber g_places g_kinds g_weights g_howManyGenerators g_generators g_racks g_howManySeen g_seenFirst g_seenSecond g_seenIs g_seenPlaces g_howManyEvents g_eventWhat g_eventNumber n_m0 n_m1 n_m2 n_s0 n_s1 n_s2 v_keys v_asFound v_found v_turns v_places p_keys p_asFound p_found p_turns p_places i_sort i_howOften i_sorts i_moves q res.2.1 res.2.2.1 res.2.2.2.1 res.2.2.2.2 n_wq n_w w_leasts w_howMany w_known t_signs t_length t_whole t_begins t_ends r_sorts r_numbers r_length) ++ wo)) (some (.int res.1))) args s 1 4096 A) (F0 m 70 ls [])) :
    ∀ {k : Nat} {l4 : Int32} {l5 : Int32} {H : Heap} {locs : List Loc} {ls : Array Slot}, IN A G ((xb G h x_hasImage f_places f_kinds f_weights f_howManyGenerators f_generators f_racks f_howManySeen f_seenFirst f_seenSecond f_seenIs f_seenPlaces f_howManyEvents f_eventWhat f_eventNumber g_places g_kinds g_weights g_howManyGenerators g_generators g_racks g_howManySeen g_seenFirst g_seenSecond g_seenIs g_seenPlaces g_howManyEvents g_eventWhat g_eventNumber n_m0 n_m1 n_m2 n_s0 n_s1 n_s2 v_keys v_asFound v_found v_turns v_places p_keys p_asFound p_found p_turns p_places i_sort i_howOften i_sorts i_moves n_uq n_u u_leasts u_howMany u_known n_wq n_w w_leasts w_howMany w_known t_signs t_length t_whole t_begins t_ends r_sorts r_numbers r_length) ++ wo) s H locs → lv_has ls 6 [(0, .ref (h 0)), (2, .int l2), (3, .ref (h 24)), (4, .int l4), (5, .int l5)] → f_X9_heavy_0_L34 l2 f_places f_weights n_u u_leasts u_howMany K k l4 l5 = some res → W p l e rm_X9_heavy_0 s m args below meth c H locs 1 4096 (MQ below (QE G A (fun q : Nat => ((xb G h x_hasImage f_places f_kinds f_weights f_howManyGenerators f_generators f_racks f_howManySeen f_seenFirst f_seenSecond f_seenIs f_seenPlaces f_howManyEvents f_eventWhat f_eventNumber g_places g_kinds g_weights g_howManyGenerators g_generators g_racks g_howManySeen g_seenFirst g_seenSecond g_seenIs g_seenPlaces g_howManyEvents g_eventWhat g_eventNumber n_m0 n_m1 n_m2 n_s0 n_s1 n_s2 v_keys v_asFound v_found v_turns v_places p_keys p_asFound p_found p_turns p_places i_sort i_howOften i_sorts i_moves q res.2.1 res.2.2.1 res.2.2.2.1 res.2.2.2.2 n_wq n_w w_leasts w_howMany w_known t_signs t_length t_whole t_begins t_ends r_sorts r_numbers r_length) ++ wo)) (some (.int res.1))) args s 1 4096 A) (F0 m 34 ls []) := by
  obtain ⟨hx, hb, hml, hown, hts, hr, hlk⟩ := id X
  intro k
  induction k with
  | zero => intro l4 l5 H locs ls hI hl hf; exact nomatch (show none = some res from hf)
  | succ k ih =>
    intro l4 l5 H locs ls hI hl hf
    rw [f_X9_heavy_0_L34] at hf
    refine lv_iload (pc := 34) hx hb dX9_heavy_34 (lv_at hl 4 rfl) ?_
    refine lv_aload_n (pc := 36) hx hb dX9_heavy_36 rfl (lv_at hl 2 rfl) ?_
    refine x_get (pc := 37) X E hI inX1 30 rfl rfl 1 (by decide) tw_1_152 rfl dX9_heavy_37 ?_
    refine lv_icmp_ge (pc := 40) (tgt := 70) hx hb dX9_heavy_40 (by decide) (fun c1 => ?_) (fun c1 => ?_)
    · have hf := q_ip c1 hf
      exact hK _ _ _ _ _ hI (lv_sub hl [0, 1, 2, 3, 4] rfl) hf
    · have hf := q_in c1 hf
      refine lv_aload_n (pc := 43) hx hb dX9_heavy_43 rfl (lv_at hl 0 rfl) ?_
      refine x_get (pc := 44) X E hI inX9 0 rfl rfl 0 (by decide) tw_2_7 rfl dX9_heavy_44 ?_
      refine lv_aload_n (pc := 47) hx hb dX9_heavy_47 rfl (lv_at hl 2 rfl) ?_
      refine x_get (pc := 48) X E hI inX1 30 rfl rfl 0 (by decide) tw_1_150 rfl dX9_heavy_48 ?_
      refine lv_iload (pc := 51) hx hb dX9_heavy_51 (lv_at hl 4 rfl) ?_
      obtain ⟨t2, e2, hf⟩ := q_ob hf
      refine x_iald (pc := 53) X E hI 31 rfl e2 dX9_heavy_53 ?_
      obtain ⟨t3, e3, hf⟩ := q_ob hf
      refine x_cVt (pc := 54) (st1 := [.int t3]) (w2 := (xb G h x_hasImage f_places f_kinds f_weights f_howManyGenerators f_generators f_racks f_howManySeen f_seenFirst f_seenSecond f_seenIs f_seenPlaces f_howManyEvents f_eventWhat f_eventNumber g_places g_kinds g_weights g_howManyGenerators g_generators g_racks g_howManySeen g_seenFirst g_seenSecond g_seenIs g_seenPlaces g_howManyEvents g_eventWhat g_eventNumber n_m0 n_m1 n_m2 n_s0 n_s1 n_s2 v_keys v_asFound v_found v_turns v_places p_keys p_asFound p_found p_turns p_places i_sort i_howOften i_sorts i_moves n_uq n_u u_leasts u_howMany u_known n_wq n_w w_leasts w_howMany w_known t_signs t_length t_whole t_begins t_ends r_sorts r_numbers r_length)) X E hI (c_X3_weightOf l G (h 1) (h 2) (h 3) (h 4) (h 5) (h 6) (h 7) (h 8) (h 9) (h 10) e3) kv_X9_205 hd_X3_weightOf ⟨rfl, rfl⟩ (by decide) pt_xb_fw_0 pt_xb_fw_0q 0 rfl rfl rfl rfl hl.1 rfl (Nat.le_of_ble_eq_true rfl) dX9_heavy_54 ⟨Nat.le_of_ble_eq_true rfl, Nat.le_of_ble_eq_true rfl⟩ rfl (fun H locs hI => ?_)
      refine lv_iload_n (pc := 57) hx hb dX9_heavy_57 rfl (lv_at hl 1 rfl) ?_
      refine lv_icmp_ne (pc := 58) (tgt := 64) hx hb dX9_heavy_58 (by decide) (fun c4 => ?_) (fun c4 => ?_)
      · have hf := q_in c4 hf
        refine lv_iinc (pc := 64) (v := l5 + 1) (lv' := [(5, .int (l5 + 1)), (0, .ref (h 0)), (2, .int l2), (3, .ref (h 24)), (4, .int l4)]) hx hb dX9_heavy_64 hl (k := 4) rfl rfl (by decide) rfl (fun ls hl => ?_)
        refine lv_goto (pc := 67) (tgt := 34) hx hb dX9_heavy_67 (by decide) ?_
        exact ih hI (lv_sub hl [1, 2, 3, 4, 0] rfl) hf
      · have hf := q_ip c4 hf
        refine lv_iinc (pc := 61) (v := l4 + 1) (lv' := [(4, .int (l4 + 1)), (0, .ref (h 0)), (2, .int l2), (3, .ref (h 24)), (5, .int l5)]) hx hb dX9_heavy_61 hl (k := 3) rfl rfl (by decide) rfl (fun ls hl => ?_)
        refine lv_iinc (pc := 64) (v := l5 + 1) (lv' := [(5, .int (l5 + 1)), (4, .int (l4 + 1)), (0, .ref (h 0)), (2, .int l2), (3, .ref (h 24))]) hx hb dX9_heavy_64 hl (k := 4) rfl rfl (by decide) rfl (fun ls hl => ?_)
        refine lv_goto (pc := 67) (tgt := 34) hx hb dX9_heavy_67 (by decide) ?_
        exact ih hI (lv_sub hl [2, 3, 4, 1, 0] rfl) hf

set_option maxHeartbeats 4000000 in
set_option maxRecDepth 100000 in
theorem c_X9_heavy_0 (l : Launch) (G : GX) (h : Nat → Nat) {l2 : Int32} {f_places : Int32} {f_kinds : Int32} {f_weights : Nat → Int32} {v_keys : Nat → Int32} {v_found : Int32} {v_places : Int32} {n_u : Nat} {u_leasts : Nat → Int32} {u_howMany : Int32} {u_known : Int32} {x_hasImage : Int32} {f_howManyGenerators : Int32} {f_generators : Nat → Int32} {f_racks : Nat → Int32} {f_howManySeen : Int32} {f_seenFirst : Nat → Int32} {f_seenSecond : Nat → Int32} {f_seenIs : Nat → Int32} {f_seenPlaces : Nat → Int32} {f_howManyEvents : Int32} {f_eventWhat : Nat → Int32} {f_eventNumber : Nat → Int32} {g_places : Int32} {g_kinds : Int32} {g_weights : Nat → Int32} {g_howManyGenerators : Int32} {g_generators : Nat → Int32} {g_racks : Nat → Int32} {g_howManySeen : Int32} {g_seenFirst : Nat → Int32} {g_seenSecond : Nat → Int32} {g_seenIs : Nat → Int32} {g_seenPlaces : Nat → Int32} {g_howManyEvents : Int32} {g_eventWhat : Nat → Int32} {g_eventNumber : Nat → Int32} {n_m0 : Nat} {n_m1 : Nat} {n_m2 : Nat} {n_s0 : Nat} {n_s1 : Nat} {n_s2 : Nat} {v_asFound : Nat → Int32} {v_turns : Int32} {p_keys : Nat → Int32} {p_asFound : Nat → Int32} {p_found : Int32} {p_turns : Int32} {p_places : Int32} {i_sort : Nat → Int32} {i_howOften : Nat → Int32} {i_sorts : Int32} {i_moves : Int32} {n_uq : Nat} {n_wq : Nat} {n_w : Nat} {w_leasts : Nat → Int32} {w_howMany : Int32} {w_known : Int32} {t_signs : Nat → Int32} {t_length : Int32} {t_whole : Int32} {t_begins : Nat → Int32} {t_ends : Nat → Int32} {r_sorts : Nat → Int32} {r_numbers : Nat → Int32} {r_length : Int32} {wo : va_W} {res : Int32 × Nat × (Nat → Int32) × Int32 × Int32} (hf : f_X9_heavy_0 l2 f_places f_kinds f_weights v_keys v_found v_places n_u u_leasts u_howMany u_known = some res) : ME l yX9_heavy cX9_heavy 6 (some .int) rm_X9_heavy_0 G ((xb G h x_hasImage f_places f_kinds f_weights f_howManyGenerators f_generators f_racks f_howManySeen f_seenFirst f_seenSecond f_seenIs f_seenPlaces f_howManyEvents f_eventWhat f_eventNumber g_places g_kinds g_weights g_howManyGenerators g_generators g_racks g_howManySeen g_seenFirst g_seenSecond g_seenIs g_seenPlaces g_howManyEvents g_eventWhat g_eventNumber n_m0 n_m1 n_m2 n_s0 n_s1 n_s2 v_keys v_asFound v_found v_turns v_places p_keys p_asFound p_found p_turns p_places i_sort i_howOften i_sorts i_moves n_uq n_u u_leasts u_howMany u_known n_wq n_w w_leasts w_howMany w_known t_signs t_length t_whole t_begins t_ends r_sorts r_numbers r_length) ++ wo) [.ref (h 0), .int 0, .int l2] (fun q : Nat => ((xb G h x_hasImage f_places f_kinds f_weights f_howManyGenerators f_generators f_racks f_howManySeen f_seenFirst f_seenSecond f_seenIs f_seenPlaces f_howManyEvents f_eventWhat f_eventNumber g_places g_kinds g_weights g_howManyGenerators g_generators g_racks g_howManySeen g_seenFirst g_seenSecond g_seenIs g_seenPlaces g_howManyEvents g_eventWhat g_eventNumber n_m0 n_m1 n_m2 n_s0 n_s1 n_s2 v_keys v_asFound v_found v_turns v_places p_keys p_asFound p_found p_turns p_places i_sort i_howOften i_sorts i_moves q res.2.1 res.2.2.1 res.2.2.2.1 res.2.2.2.2 n_wq n_w w_leasts w_howMany w_known t_signs t_length t_whole t_begins t_ends r_sorts r_numbers r_length) ++ wo)) (some (.int res.1)) 1 4096 := by
  refine ME.of (plainFor_of_name (by decide)) (Nat.le_of_ble_eq_true rfl) ?_
  intro p e s m below meth c A X E hI ls hl
  obtain ⟨hx, hb, hml, hown, hts, hr, hlk⟩ := id X
  have hl : lv_has ls 6 [(0, .ref (h 0)), (1, .int 0), (2, .int l2)] := hl
  unfold f_X9_heavy_0 at hf
  refine lv_iload_n (pc := 0) hx hb dX9_heavy_0 rfl (lv_at hl 1 rfl) ?_
  obtain ⟨t1, e1, hf⟩ := q_ob hf
  refine x_cSn (pc := 1) (st1 := [.int t1]) X E hI (c_X9_isFlag l G e1) ks_X9_99 hd_X9_isFlag ⟨rfl, rfl⟩ (by decide) rfl hl.1 rfl (Nat.le_of_ble_eq_true rfl) dX9_heavy_1 ⟨Nat.le_of_ble_eq_true rfl, Nat.le_of_ble_eq_true rfl⟩ rfl (fun H locs hI => ?_)
  refine lv_if_ne (pc := 4) (tgt := 9) hx hb dX9_heavy_4 (by decide) (fun c2 => ?_) (fun c2 => ?_)
  · have hf := q_in c2 hf
    refine lv_iload_n (pc := 9) hx hb dX9_heavy_9 rfl (lv_at hl 2 rfl) ?_
    refine lv_if_lt (pc := 10) (tgt := 19) hx hb dX9_heavy_10 (by decide) (fun c3 => ?_) (fun c3 => ?_)
    · have hf := q_ip c3 hf
      refine lv_bipush (pc := 19) (v := (-2)) hx hb dX9_heavy_19 (by decide) ?_
      obtain rfl := Option.some.inj hf
      refine W.widen (k := 1) (n := 4096) (by decide) (by decide) ?_
      exact x_iretE n_uq X hI dX9_heavy_21
    · have hf := q_in c3 hf
      refine lv_iload_n (pc := 13) hx hb dX9_heavy_13 rfl (lv_at hl 2 rfl) ?_
      refine lv_bipush (pc := 14) (v := 99) hx hb dX9_heavy_14 (by decide) ?_
      refine lv_icmp_le (pc := 16) (tgt := 22) hx hb dX9_heavy_16 (by decide) (fun c4 => ?_) (fun c4 => ?_)
      · have hf := q_ip c4 hf
        refine lv_aload_n (pc := 22) hx hb dX9_heavy_22 rfl (lv_at hl 0 rfl) ?_
        refine lv_iload_n (pc := 23) hx hb dX9_heavy_23 rfl (lv_at hl 1 rfl) ?_
        obtain ⟨t5, e5, hf⟩ := q_ob hf
        refine x_cVsE (pc := 24) (st1 := [.ref (h 24)]) X E hI (c_X9_classesBy_0 l G h e5) kv_X9_195 hd_X9_classesBy ⟨rfl, rfl⟩ (by decide) 0 rfl rfl rfl rfl hl.1 rfl (Nat.le_of_ble_eq_true rfl) dX9_heavy_24 ⟨Nat.le_of_ble_eq_true rfl, Nat.le_of_ble_eq_true rfl⟩ rfl (fun q5 H locs hI => ?_)
        have hI : IN A G ((xb G h x_hasImage f_places f_kinds f_weights f_howManyGenerators f_generators f_racks f_howManySeen f_seenFirst f_seenSecond f_seenIs f_seenPlaces f_howManyEvents f_eventWhat f_eventNumber g_places g_kinds g_weights g_howManyGenerators g_generators g_racks g_howManySeen g_seenFirst g_seenSecond g_seenIs g_seenPlaces g_howManyEvents g_eventWhat g_eventNumber n_m0 n_m1 n_m2 n_s0 n_s1 n_s2 v_keys v_asFound v_found v_turns v_places p_keys p_asFound p_found p_turns p_places i_sort i_howOften i_sorts i_moves q5 t5.1 t5.2.1 t5.2.2.1 t5.2.2.2 n_wq n_w w_leasts w_howMany w_known t_signs t_length t_whole t_begins t_ends r_sorts r_numbers r_length) ++ wo) s H locs := hI
        refine lv_astore_n (pc := 27) (lv' := [(3, .ref (h 24)), (0, .ref (h 0)), (1, .int 0), (2, .int l2)]) hx hb dX9_heavy_27 rfl hl (by decide) rfl (fun ls hl => ?_)
        refine lv_iconst (pc := 28) (v := 0) hx hb dX9_heavy_28 (by decide) ?_
        refine lv_istore (pc := 29) (lv' := [(4, .int 0), (3, .ref (h 24)), (0, .ref (h 0)), (1, .int 0), (2, .int l2)]) hx hb dX9_heavy_29 hl (by decide) rfl (fun ls hl => ?_)
        refine lv_iconst (pc := 31) (v := 0) hx hb dX9_heavy_31 (by decide) ?_
        refine lv_istore (pc := 32) (lv' := [(5, .int 0), (4, .int 0), (3, .ref (h 24)), (0, .ref (h 0)), (1, .int 0), (2, .int l2)]) hx hb dX9_heavy_32 hl (by decide) rfl (fun ls hl => ?_)
        refine k_X9_heavy_0_L34 X E (fun l4_6 l5_6 H locs ls hI hl hf => ?_) hI (lv_sub hl [3, 5, 2, 1, 0] rfl) hf
        refine lv_iload (pc := 70) hx hb dX9_heavy_70 (lv_at hl 3 rfl) ?_
        obtain rfl := Option.some.inj hf
        exact x_iretE q5 X hI dX9_heavy_72
      · have hf := q_in c4 hf
        refine lv_bipush (pc := 19) (v := (-2)) hx hb dX9_heavy_19 (by decide) ?_
        obtain rfl := Option.some.inj hf
        refine W.widen (k := 1) (n := 4096) (by decide) (by decide) ?_
        exact x_iretE n_uq X hI dX9_heavy_21
  · have hf := q_ip c2 hf
    refine lv_iconst (pc := 7) (v := (-1)) hx hb dX9_heavy_7 (by decide) ?_
    obtain rfl := Option.some.inj hf
    refine W.widen (k := 1) (n := 4096) (by decide) (by decide) ?_
    exact x_iretE n_uq X hI dX9_heavy_8

abbrev rm_X9_heavy_1 : Room := { frames := 4, cells := 1, slots := 4096, locals := 96 }
set_option maxHeartbeats 4000000 in
set_option maxRecDepth 100000 in
theorem k_X9_heavy_1_L34 {p : Program} {l : Launch} {e : Env} {s : State} {m : MethodId} {args : Array Value} {below : List Frame} {meth : Method} {c : Code} {A : Nat → Prop} {G : GX} {h : Nat → Nat} {l2 : Int32} {x_hasImage : Int32} {f_places : Int32} {f_kinds : Int32} {f_weights : Nat → Int32} {f_howManyGenerators : Int32} {f_generators : Nat → Int32} {f_racks : Nat → Int32} {f_howManySeen : Int32} {f_seenFirst : Nat → Int32} {f_seenSecond : Nat → Int32} {f_seenIs : Nat → Int32} {f_seenPlaces : Nat → Int32} {f_howManyEvents : Int32} {f_eventWhat : Nat → Int32} {f_eventNumber : Nat → Int32} {g_places : Int32} {g_kinds : Int32} {g_weights : Nat → Int32} {g_howManyGenerators : Int32} {g_generators : Nat → Int32} {g_racks : Nat → Int32} {g_howManySeen : Int32} {g_seenFirst : Nat → Int32} {g_seenSecond : Nat → Int32} {g_seenIs : Nat → Int32} {g_seenPlaces : Nat → Int32} {g_howManyEvents : Int32} {g_eventWhat : Nat → Int32} {g_eventNumber : Nat → Int32} {n_m0 : Nat} {n_m1 : Nat} {n_m2 : Nat} {n_s0 : Nat} {n_s1 : Nat} {n_s2 : Nat} {v_keys : Nat → Int32} {v_asFound : Nat → Int32} {v_found : Int32} {v_turns : Int32} {v_places : Int32} {p_keys : Nat → Int32} {p_asFound : Nat → Int32} {p_found : Int32} {p_turns : Int32} {p_places : Int32} {i_sort : Nat → Int32} {i_howOften : Nat → Int32} {i_sorts : Int32} {i_moves : Int32} {n_uq : Nat} {n_u : Nat} {u_leasts : Nat → Int32} {u_howMany : Int32} {u_known : Int32} {n_wq : Nat} {n_w : Nat} {w_leasts : Nat → Int32} {w_howMany : Int32} {w_known : Int32} {t_signs : Nat → Int32} {t_length : Int32} {t_whole : Int32} {t_begins : Nat → Int32} {t_ends : Nat → Int32} {r_sorts : Nat → Int32} {r_numbers : Nat → Int32} {r_length : Int32} {wo : va_W} {K : Int32 → Int32 → Option (Int32 × Nat × (Nat → Int32) × Int32 × Int32)} {res : Int32 × Nat × (Nat → Int32) × Int32 × Int32} (X : CX RX9 cX9_heavy 6 (some .int) p s m args meth c) (E : EX G A s)
    (hK : ∀ (l4 : Int32) (l5 : Int32) (H : Heap) (locs : List Loc) (ls : Array Slot), IN A G ((xb G h x_hasImage f_places f_kinds f_weights f_howManyGenerators f_generators f_racks f_howManySeen f_seenFirst f_seenSecond f_seenIs f_seenPlaces f_howManyEvents f_eventWhat f_eventNumber g_places g_kinds g_weights g_howManyGenerators g_generators g_racks g_howManySeen g_seenFirst g_seenSecond g_seenIs g_seenPlaces g_howManyEvents g_eventWhat g_eventNumber n_m0 n_m1 n_m2 n_s0 n_s1 n_s2 v_keys v_asFound v_found v_turns v_places p_keys p_asFound p_found p_turns p_places i_sort i_howOften i_sorts i_moves n_uq n_u u_leasts u_howMany u_known n_wq n_w w_leasts w_howMany w_known t_signs t_length t_whole t_begins t_ends r_sorts r_numbers r_length) ++ wo) s H locs → lv_has ls 6 [(0, .ref (h 0)), (2, .int l2), (3, .ref (h 25)), (4, .int l4), (5, .int l5)] → K l4 l5 = some res → W p l e rm_X9_heavy_1 s m args below meth c H locs 1 4096 (MQ below (QE G A (fun q : Nat => ((xb G h x_hasImage f_places f_kinds f_weights f_howManyGenerators f_generators f_racks f_howManySeen f_seenFirst f_seenSecond f_seenIs f_seenPlaces f_howManyEvents f_eventWhat f_eventNumber g_places g_kinds g_weights g_howManyGenerators g_generators g_racks g_howManySeen g_seenFirst g_seenSecond g_seenIs g_seenPlaces g_howManyEvents g_eventWhat g_eventNumber n_m0 n_m1 n_m2 n_s0 n_s1 n_s2 v_keys v_asFound v_found v_turns v_places p_keys p_asFound p_found p_turns p_places i_sort i_howOften i_sorts i_moves n_uq n_u u_leasts u_howMany u_known q res.2.1 res.2.2.1 res.2.2.2.1 res.2.2.2.2 t_signs t_length t_whole t_begins t_ends r_sorts r_numbers r_length) ++ wo)) (some (.int res.1))) args s 1 4096 A) (F0 m 70 ls [])) :
    ∀ {k : Nat} {l4 : Int32} {l5 : Int32} {H : Heap} {locs : List Loc} {ls : Array Slot}, IN A G ((xb G h x_hasImage f_places f_kinds f_weights f_howManyGenerators f_generators f_racks f_howManySeen f_seenFirst f_seenSecond f_seenIs f_seenPlaces f_howManyEvents f_eventWhat f_eventNumber g_places g_kinds g_weights g_howManyGenerators g_generators g_racks g_howManySeen g_seenFirst g_seenSecond g_seenIs g_seenPlaces g_howManyEvents g_eventWhat g_eventNumber n_m0 n_m1 n_m2 n_s0 n_s1 n_s2 v_keys v_asFound v_found v_turns v_places p_keys p_asFound p_found p_turns p_places i_sort i_howOften i_sorts i_moves n_uq n_u u_leasts u_howMany u_known n_wq n_w w_leasts w_howMany w_known t_signs t_length t_whole t_begins t_ends r_sorts r_numbers r_length) ++ wo) s H locs → lv_has ls 6 [(0, .ref (h 0)), (2, .int l2), (3, .ref (h 25)), (4, .int l4), (5, .int l5)] → f_X9_heavy_1_L34 l2 f_places f_weights n_w w_leasts w_howMany K k l4 l5 = some res → W p l e rm_X9_heavy_1 s m args below meth c H locs 1 4096 (MQ below (QE G A (fun q : Nat => ((xb G h x_hasImage f_places f_kinds f_weights f_howManyGenerators f_generators f_racks f_howManySeen f_seenFirst f_seenSecond f_seenIs f_seenPlaces f_howManyEvents f_eventWhat f_eventNumber g_places g_kinds g_weights g_howManyGenerators g_generators g_racks g_howManySeen g_seenFirst g_seenSecond g_seenIs g_seenPlaces g_howManyEvents g_eventWhat g_eventNumber n_m0 n_m1 n_m2 n_s0 n_s1 n_s2 v_keys v_asFound v_found v_turns v_places p_keys p_asFound p_found p_turns p_places i_sort i_howOften i_sorts i_moves n_uq n_u u_leasts u_howMany u_known q res.2.1 res.2.2.1 res.2.2.2.1 res.2.2.2.2 t_signs t_length t_whole t_begins t_ends r_sorts r_numbers r_length) ++ wo)) (some (.int res.1))) args s 1 4096 A) (F0 m 34 ls []) := by
  obtain ⟨hx, hb, hml, hown, hts, hr, hlk⟩ := id X
  intro k
  induction k with
  | zero => intro l4 l5 H locs ls hI hl hf; exact nomatch (show none = some res from hf)
  | succ k ih =>
    intro l4 l5 H locs ls hI hl hf
    rw [f_X9_heavy_1_L34] at hf
    refine lv_iload (pc := 34) hx hb dX9_heavy_34 (lv_at hl 4 rfl) ?_
    refine lv_aload_n (pc := 36) hx hb dX9_heavy_36 rfl (lv_at hl 2 rfl) ?_
    refine x_get (pc := 37) X E hI inX1 32 rfl rfl 1 (by decide) tw_1_152 rfl dX9_heavy_37 ?_
    refine lv_icmp_ge (pc := 40) (tgt := 70) hx hb dX9_heavy_40 (by decide) (fun c1 => ?_) (fun c1 => ?_)
    · have hf := q_ip c1 hf
      exact hK _ _ _ _ _ hI (lv_sub hl [0, 1, 2, 3, 4] rfl) hf
    · have hf := q_in c1 hf
      refine lv_aload_n (pc := 43) hx hb dX9_heavy_43 rfl (lv_at hl 0 rfl) ?_
      refine x_get (pc := 44) X E hI inX9 0 rfl rfl 0 (by decide) tw_2_7 rfl dX9_heavy_44 ?_
      refine lv_aload_n (pc := 47) hx hb dX9_heavy_47 rfl (lv_at hl 2 rfl) ?_
      refine x_get (pc := 48) X E hI inX1 32 rfl rfl 0 (by decide) tw_1_150 rfl dX9_heavy_48 ?_
      refine lv_iload (pc := 51) hx hb dX9_heavy_51 (lv_at hl 4 rfl) ?_
      obtain ⟨t2, e2, hf⟩ := q_ob hf
      refine x_iald (pc := 53) X E hI 33 rfl e2 dX9_heavy_53 ?_
      obtain ⟨t3, e3, hf⟩ := q_ob hf
      refine x_cVt (pc := 54) (st1 := [.int t3]) (w2 := (xb G h x_hasImage f_places f_kinds f_weights f_howManyGenerators f_generators f_racks f_howManySeen f_seenFirst f_seenSecond f_seenIs f_seenPlaces f_howManyEvents f_eventWhat f_eventNumber g_places g_kinds g_weights g_howManyGenerators g_generators g_racks g_howManySeen g_seenFirst g_seenSecond g_seenIs g_seenPlaces g_howManyEvents g_eventWhat g_eventNumber n_m0 n_m1 n_m2 n_s0 n_s1 n_s2 v_keys v_asFound v_found v_turns v_places p_keys p_asFound p_found p_turns p_places i_sort i_howOften i_sorts i_moves n_uq n_u u_leasts u_howMany u_known n_wq n_w w_leasts w_howMany w_known t_signs t_length t_whole t_begins t_ends r_sorts r_numbers r_length)) X E hI (c_X3_weightOf l G (h 1) (h 2) (h 3) (h 4) (h 5) (h 6) (h 7) (h 8) (h 9) (h 10) e3) kv_X9_205 hd_X3_weightOf ⟨rfl, rfl⟩ (by decide) pt_xb_fw_0 pt_xb_fw_0q 0 rfl rfl rfl rfl hl.1 rfl (Nat.le_of_ble_eq_true rfl) dX9_heavy_54 ⟨Nat.le_of_ble_eq_true rfl, Nat.le_of_ble_eq_true rfl⟩ rfl (fun H locs hI => ?_)
      refine lv_iload_n (pc := 57) hx hb dX9_heavy_57 rfl (lv_at hl 1 rfl) ?_
      refine lv_icmp_ne (pc := 58) (tgt := 64) hx hb dX9_heavy_58 (by decide) (fun c4 => ?_) (fun c4 => ?_)
      · have hf := q_in c4 hf
        refine lv_iinc (pc := 64) (v := l5 + 1) (lv' := [(5, .int (l5 + 1)), (0, .ref (h 0)), (2, .int l2), (3, .ref (h 25)), (4, .int l4)]) hx hb dX9_heavy_64 hl (k := 4) rfl rfl (by decide) rfl (fun ls hl => ?_)
        refine lv_goto (pc := 67) (tgt := 34) hx hb dX9_heavy_67 (by decide) ?_
        exact ih hI (lv_sub hl [1, 2, 3, 4, 0] rfl) hf
      · have hf := q_ip c4 hf
        refine lv_iinc (pc := 61) (v := l4 + 1) (lv' := [(4, .int (l4 + 1)), (0, .ref (h 0)), (2, .int l2), (3, .ref (h 25)), (5, .int l5)]) hx hb dX9_heavy_61 hl (k := 3) rfl rfl (by decide) rfl (fun ls hl => ?_)
        refine lv_iinc (pc := 64) (v := l5 + 1) (lv' := [(5, .int (l5 + 1)), (4, .int (l4 + 1)), (0, .ref (h 0)), (2, .int l2), (3, .ref (h 25))]) hx hb dX9_heavy_64 hl (k := 4) rfl rfl (by decide) rfl (fun ls hl => ?_)
        refine lv_goto (pc := 67) (tgt := 34) hx hb dX9_heavy_67 (by decide) ?_
        exact ih hI (lv_sub hl [2, 3, 4, 1, 0] rfl) hf

set_option maxHeartbeats 4000000 in
set_option maxRecDepth 100000 in
theorem c_X9_heavy_1 (l : Launch) (G : GX) (h : Nat → Nat) {l2 : Int32} {f_places : Int32} {f_kinds : Int32} {f_weights : Nat → Int32} {v_keys : Nat → Int32} {v_found : Int32} {v_places : Int32} {n_w : Nat} {w_leasts : Nat → Int32} {w_howMany : Int32} {w_known : Int32} {x_hasImage : Int32} {f_howManyGenerators : Int32} {f_generators : Nat → Int32} {f_racks : Nat → Int32} {f_howManySeen : Int32} {f_seenFirst : Nat → Int32} {f_seenSecond : Nat → Int32} {f_seenIs : Nat → Int32} {f_seenPlaces : Nat → Int32} {f_howManyEvents : Int32} {f_eventWhat : Nat → Int32} {f_eventNumber : Nat → Int32} {g_places : Int32} {g_kinds : Int32} {g_weights : Nat → Int32} {g_howManyGenerators : Int32} {g_generators : Nat → Int32} {g_racks : Nat → Int32} {g_howManySeen : Int32} {g_seenFirst : Nat → Int32} {g_seenSecond : Nat → Int32} {g_seenIs : Nat → Int32} {g_seenPlaces : Nat → Int32} {g_howManyEvents : Int32} {g_eventWhat : Nat → Int32} {g_eventNumber : Nat → Int32} {n_m0 : Nat} {n_m1 : Nat} {n_m2 : Nat} {n_s0 : Nat} {n_s1 : Nat} {n_s2 : Nat} {v_asFound : Nat → Int32} {v_turns : Int32} {p_keys : Nat → Int32} {p_asFound : Nat → Int32} {p_found : Int32} {p_turns : Int32} {p_places : Int32} {i_sort : Nat → Int32} {i_howOften : Nat → Int32} {i_sorts : Int32} {i_moves : Int32} {n_uq : Nat} {n_u : Nat} {u_leasts : Nat → Int32} {u_howMany : Int32} {u_known : Int32} {n_wq : Nat} {t_signs : Nat → Int32} {t_length : Int32} {t_whole : Int32} {t_begins : Nat → Int32} {t_ends : Nat → Int32} {r_sorts : Nat → Int32} {r_numbers : Nat → Int32} {r_length : Int32} {wo : va_W} {res : Int32 × Nat × (Nat → Int32) × Int32 × Int32} (hf : f_X9_heavy_1 l2 f_places f_kinds f_weights v_keys v_found v_places n_w w_leasts w_howMany w_known = some res) : ME l yX9_heavy cX9_heavy 6 (some .int) rm_X9_heavy_1 G ((xb G h x_hasImage f_places f_kinds f_weights f_howManyGenerators f_generators f_racks f_howManySeen f_seenFirst f_seenSecond f_seenIs f_seenPlaces f_howManyEvents f_eventWhat f_eventNumber g_places g_kinds g_weights g_howManyGenerators g_generators g_racks g_howManySeen g_seenFirst g_seenSecond g_seenIs g_seenPlaces g_howManyEvents g_eventWhat g_eventNumber n_m0 n_m1 n_m2 n_s0 n_s1 n_s2 v_keys v_asFound v_found v_turns v_places p_keys p_asFound p_found p_turns p_places i_sort i_howOften i_sorts i_moves n_uq n_u u_leasts u_howMany u_known n_wq n_w w_leasts w_howMany w_known t_signs t_length t_whole t_begins t_ends r_sorts r_numbers r_length) ++ wo) [.ref (h 0), .int 1, .int l2] (fun q : Nat => ((xb G h x_hasImage f_places f_kinds f_weights f_howManyGenerators f_generators f_racks f_howManySeen f_seenFirst f_seenSecond f_seenIs f_seenPlaces f_howManyEvents f_eventWhat f_eventNumber g_places g_kinds g_weights g_howManyGenerators g_generators g_racks g_howManySeen g_seenFirst g_seenSecond g_seenIs g_seenPlaces g_howManyEvents g_eventWhat g_eventNumber n_m0 n_m1 n_m2 n_s0 n_s1 n_s2 v_keys v_asFound v_found v_turns v_places p_keys p_asFound p_found p_turns p_places i_sort i_howOften i_sorts i_moves n_uq n_u u_leasts u_howMany u_known q res.2.1 res.2.2.1 res.2.2.2.1 res.2.2.2.2 t_signs t_length t_whole t_begins t_ends r_sorts r_numbers r_length) ++ wo)) (some (.int res.1)) 1 4096 := by
  refine ME.of (plainFor_of_name (by decide)) (Nat.le_of_ble_eq_true rfl) ?_
  intro p e s m below meth c A X E hI ls hl
  obtain ⟨hx, hb, hml, hown, hts, hr, hlk⟩ := id X
  have hl : lv_has ls 6 [(0, .ref (h 0)), (1, .int 1), (2, .int l2)] := hl
  unfold f_X9_heavy_1 at hf
  refine lv_iload_n (pc := 0) hx hb dX9_heavy_0 rfl (lv_at hl 1 rfl) ?_
  obtain ⟨t1, e1, hf⟩ := q_ob hf
  refine x_cSn (pc := 1) (st1 := [.int t1]) X E hI (c_X9_isFlag l G e1) ks_X9_99 hd_X9_isFlag ⟨rfl, rfl⟩ (by decide) rfl hl.1 rfl (Nat.le_of_ble_eq_true rfl) dX9_heavy_1 ⟨Nat.le_of_ble_eq_true rfl, Nat.le_of_ble_eq_true rfl⟩ rfl (fun H locs hI => ?_)
  refine lv_if_ne (pc := 4) (tgt := 9) hx hb dX9_heavy_4 (by decide) (fun c2 => ?_) (fun c2 => ?_)
  · have hf := q_in c2 hf
    refine lv_iload_n (pc := 9) hx hb dX9_heavy_9 rfl (lv_at hl 2 rfl) ?_
    refine lv_if_lt (pc := 10) (tgt := 19) hx hb dX9_heavy_10 (by decide) (fun c3 => ?_) (fun c3 => ?_)
    · have hf := q_ip c3 hf
      refine lv_bipush (pc := 19) (v := (-2)) hx hb dX9_heavy_19 (by decide) ?_
      obtain rfl := Option.some.inj hf
      refine W.widen (k := 1) (n := 4096) (by decide) (by decide) ?_
      exact x_iretE n_wq X hI dX9_heavy_21
    · have hf := q_in c3 hf
      refine lv_iload_n (pc := 13) hx hb dX9_heavy_13 rfl (lv_at hl 2 rfl) ?_
      refine lv_bipush (pc := 14) (v := 99) hx hb dX9_heavy_14 (by decide) ?_
      refine lv_icmp_le (pc := 16) (tgt := 22) hx hb dX9_heavy_16 (by decide) (fun c4 => ?_) (fun c4 => ?_)
      · have hf := q_ip c4 hf
        refine lv_aload_n (pc := 22) hx hb dX9_heavy_22 rfl (lv_at hl 0 rfl) ?_
        refine lv_iload_n (pc := 23) hx hb dX9_heavy_23 rfl (lv_at hl 1 rfl) ?_
        obtain ⟨t5, e5, hf⟩ := q_ob hf
        refine x_cVsE (pc := 24) (st1 := [.ref (h 25)]) X E hI (c_X9_classesBy_1 l G h e5) kv_X9_195 hd_X9_classesBy ⟨rfl, rfl⟩ (by decide) 0 rfl rfl rfl rfl hl.1 rfl (Nat.le_of_ble_eq_true rfl) dX9_heavy_24 ⟨Nat.le_of_ble_eq_true rfl, Nat.le_of_ble_eq_true rfl⟩ rfl (fun q5 H locs hI => ?_)
        have hI : IN A G ((xb G h x_hasImage f_places f_kinds f_weights f_howManyGenerators f_generators f_racks f_howManySeen f_seenFirst f_seenSecond f_seenIs f_seenPlaces f_howManyEvents f_eventWhat f_eventNumber g_places g_kinds g_weights g_howManyGenerators g_generators g_racks g_howManySeen g_seenFirst g_seenSecond g_seenIs g_seenPlaces g_howManyEvents g_eventWhat g_eventNumber n_m0 n_m1 n_m2 n_s0 n_s1 n_s2 v_keys v_asFound v_found v_turns v_places p_keys p_asFound p_found p_turns p_places i_sort i_howOften i_sorts i_moves n_uq n_u u_leasts u_howMany u_known q5 t5.1 t5.2.1 t5.2.2.1 t5.2.2.2 t_signs t_length t_whole t_begins t_ends r_sorts r_numbers r_length) ++ wo) s H locs := hI
        refine lv_astore_n (pc := 27) (lv' := [(3, .ref (h 25)), (0, .ref (h 0)), (1, .int 1), (2, .int l2)]) hx hb dX9_heavy_27 rfl hl (by decide) rfl (fun ls hl => ?_)
        refine lv_iconst (pc := 28) (v := 0) hx hb dX9_heavy_28 (by decide) ?_
        refine lv_istore (pc := 29) (lv' := [(4, .int 0), (3, .ref (h 25)), (0, .ref (h 0)), (1, .int 1), (2, .int l2)]) hx hb dX9_heavy_29 hl (by decide) rfl (fun ls hl => ?_)
        refine lv_iconst (pc := 31) (v := 0) hx hb dX9_heavy_31 (by decide) ?_
        refine lv_istore (pc := 32) (lv' := [(5, .int 0), (4, .int 0), (3, .ref (h 25)), (0, .ref (h 0)), (1, .int 1), (2, .int l2)]) hx hb dX9_heavy_32 hl (by decide) rfl (fun ls hl => ?_)
        refine k_X9_heavy_1_L34 X E (fun l4_6 l5_6 H locs ls hI hl hf => ?_) hI (lv_sub hl [3, 5, 2, 1, 0] rfl) hf
        refine lv_iload (pc := 70) hx hb dX9_heavy_70 (lv_at hl 3 rfl) ?_
        obtain rfl := Option.some.inj hf
        exact x_iretE q5 X hI dX9_heavy_72
      · have hf := q_in c4 hf
        refine lv_bipush (pc := 19) (v := (-2)) hx hb dX9_heavy_19 (by decide) ?_
        obtain rfl := Option.some.inj hf
        refine W.widen (k := 1) (n := 4096) (by decide) (by decide) ?_
        exact x_iretE n_wq X hI dX9_heavy_21
  · have hf := q_ip c2 hf
    refine lv_iconst (pc := 7) (v := (-1)) hx hb dX9_heavy_7 (by decide) ?_
    obtain rfl := Option.some.inj hf
    refine W.widen (k := 1) (n := 4096) (by decide) (by decide) ?_
    exact x_iretE n_wq X hI dX9_heavy_8

