abbrev rm_X10_isDone : Room := { frames := 6, cells := 0, slots := 0, locals := 137 }
set_option maxHeartbeats 4000000 in
set_option maxRecDepth 100000 in
theorem c_X10_isDone (l : Launch) (G : GX) (h : Nat → Nat) {l1 : Int32} {z_s : Nat → Int32} {z_moveMany : Int32} {z_moves : Nat → Int32} {z_hands : Nat → Int32} {z_troubles : Int32} {z_troubleSorts : Nat → Int32} {z_troubleNumbers : Nat → Int32} {z_letters : Nat → Int32} {z_firsts : Nat → Int32} {z_seconds : Nat → Int32} {z_thrown : Int32} {z_kept : Nat → Int32} {z_isKept : Int32} {z_asked : Nat → Int32} {z_paint : Nat → Int32} {z_leasts : Nat → Int32} {z_isSeen : Nat → Int32} {z_classMany : Int32} {z_types : Nat → Int32} {z_typeCounts : Nat → Int32} {z_typeMany : Int32} {z_text : Nat → Int32} {z_signs : Int32} {z_at : Int32} {z_lacks : Int32} {z_clauses : Int32} {z_begun : Int32} {z_aside : Nat → Int32} {z_sorts : Nat → Int32} {z_sizes : Nat → Int32} {z_items : Nat → Int64} {res : Int32 × (Nat → Int32) × Int32 × (Nat → Int32) × (Nat → Int32) × Int32 × (Nat → Int32) × (Nat → Int32)} (hf : f_X10_isDone l1 z_s z_moveMany z_moves z_hands z_troubles z_troubleSorts z_troubleNumbers z_letters z_firsts z_seconds = some res) : MX l yX10_isDone cX10_isDone 3 (some .boolean) rm_X10_isDone G (mw G h z_thrown z_s z_kept z_isKept z_moveMany z_moves z_hands z_troubles z_troubleSorts z_troubleNumbers z_asked z_paint z_leasts z_isSeen z_classMany z_types z_typeCounts z_typeMany z_text z_signs z_at z_lacks z_clauses z_begun z_letters z_firsts z_seconds z_aside z_sorts z_sizes z_items) [.ref (h 0), .int l1] (mw G h z_thrown res.2.1 z_kept z_isKept res.2.2.1 res.2.2.2.1 res.2.2.2.2.1 res.2.2.2.2.2.1 res.2.2.2.2.2.2.1 res.2.2.2.2.2.2.2 z_asked z_paint z_leasts z_isSeen z_classMany z_types z_typeCounts z_typeMany z_text z_signs z_at z_lacks z_clauses z_begun z_letters z_firsts z_seconds z_aside z_sorts z_sizes z_items) (some (.int res.1)) 0 0 := by
  refine MX.of (plainFor_of_name (by decide)) (Nat.le_of_ble_eq_true rfl) ?_
  intro p e s m below meth c A X E hI ls hl
  obtain ⟨hx, hb, hml, hown, hts, hr, hlk⟩ := id X
  have hl : lv_has ls 3 [(0, .ref (h 0)), (1, .int l1)] := hl
  unfold f_X10_isDone at hf
  refine lv_aload_n (pc := 0) hx hb dX10_isDone_0 rfl (lv_at hl 0 rfl) ?_
  refine x_get (pc := 1) X E hI inX10 0 rfl rfl 25 (by decide) tw_4_14 rfl dX10_isDone_1 ?_
  refine lv_iload_n (pc := 4) hx hb dX10_isDone_4 rfl (lv_at hl 1 rfl) ?_
  obtain ⟨t1, e1, hf⟩ := q_ob hf
  refine x_iald (pc := 5) X E hI 15 rfl e1 dX10_isDone_5 ?_
  refine lv_istore_n (pc := 6) (lv' := [(2, .int t1), (0, .ref (h 0)), (1, .int l1)]) hx hb dX10_isDone_6 rfl hl (by decide) rfl (fun ls hl => ?_)
  refine lv_aload_n (pc := 7) hx hb dX10_isDone_7 rfl (lv_at hl 1 rfl) ?_
  refine x_get (pc := 8) X E hI inX10 0 rfl rfl 24 (by decide) tw_4_13 rfl dX10_isDone_8 ?_
  refine lv_iload_n (pc := 11) hx hb dX10_isDone_11 rfl (lv_at hl 2 rfl) ?_
  obtain ⟨t2, e2, hf⟩ := q_ob hf
  refine x_iald (pc := 12) X E hI 14 rfl e2 dX10_isDone_12 ?_
  rcases Decidable.em (t2 = 107) with c3 | c3
  · refine lv_lookup (pc := 13) (tgt := 62) hx hb dX10_isDone_13 (by decide) (by rw [c3] <;> rfl) (by decide) ?_
    have hf := q_ip c3 hf
    refine lv_aload_n (pc := 62) hx hb dX10_isDone_62 rfl (lv_at hl 1 rfl) ?_
    refine lv_iload_n (pc := 63) hx hb dX10_isDone_63 rfl (lv_at hl 0 rfl) ?_
    obtain ⟨t4, e4, hf⟩ := q_ob hf
    refine x_cVs (pc := 64) (st1 := [.int t4.1]) (w1 := (mw G h z_thrown t4.2 z_kept z_isKept z_moveMany z_moves z_hands z_troubles z_troubleSorts z_troubleNumbers z_asked z_paint z_leasts z_isSeen z_classMany z_types z_typeCounts z_typeMany z_text z_signs z_at z_lacks z_clauses z_begun z_letters z_firsts z_seconds z_aside z_sorts z_sizes z_items)) X E hI (c_X10_kinds l G h e4) kv_X10_295 hd_X10_kinds ⟨rfl, rfl⟩ (by decide) 0 rfl rfl rfl rfl hl.1 rfl (Nat.le_of_ble_eq_true rfl) dX10_isDone_64 ⟨Nat.le_of_ble_eq_true rfl, Nat.le_of_ble_eq_true rfl⟩ rfl (fun H locs hI => ?_)
    refine lv_if_lt (pc := 67) (tgt := 74) hx hb dX10_isDone_67 (by decide) (fun c5 => ?_) (fun c5 => ?_)
    · have hf := q_ip c5 hf
      refine lv_iconst (pc := 74) (v := 0) hx hb dX10_isDone_74 (by decide) ?_
      obtain rfl := Option.some.inj hf
      exact x_zret X hI (Or.inl rfl) dX10_isDone_75
    · have hf := q_in c5 hf
      refine lv_iconst (pc := 70) (v := 1) hx hb dX10_isDone_70 (by decide) ?_
      refine lv_goto (pc := 71) (tgt := 75) hx hb dX10_isDone_71 (by decide) ?_
      obtain rfl := Option.some.inj hf
      exact x_zret X hI (Or.inr rfl) dX10_isDone_75
  · have hf := q_in c3 hf
    rcases Decidable.em (t2 = 110) with c6 | c6
    · refine lv_lookup (pc := 13) (tgt := 48) hx hb dX10_isDone_13 (by decide) (by rw [c6] <;> rfl) (by decide) ?_
      have hf := q_ip c6 hf
      refine lv_aload_n (pc := 48) hx hb dX10_isDone_48 rfl (lv_at hl 1 rfl) ?_
      refine lv_iload_n (pc := 49) hx hb dX10_isDone_49 rfl (lv_at hl 0 rfl) ?_
      obtain ⟨t7, e7, hf⟩ := q_ob hf
      refine x_cVs (pc := 50) (st1 := [.int t7.1]) (w1 := (mw G h z_thrown t7.2 z_kept z_isKept z_moveMany z_moves z_hands z_troubles z_troubleSorts z_troubleNumbers z_asked z_paint z_leasts z_isSeen z_classMany z_types z_typeCounts z_typeMany z_text z_signs z_at z_lacks z_clauses z_begun z_letters z_firsts z_seconds z_aside z_sorts z_sizes z_items)) X E hI (c_X10_places l G h e7) kv_X10_292 hd_X10_places ⟨rfl, rfl⟩ (by decide) 0 rfl rfl rfl rfl hl.1 rfl (Nat.le_of_ble_eq_true rfl) dX10_isDone_50 ⟨Nat.le_of_ble_eq_true rfl, Nat.le_of_ble_eq_true rfl⟩ rfl (fun H locs hI => ?_)
      refine lv_if_lt (pc := 53) (tgt := 60) hx hb dX10_isDone_53 (by decide) (fun c8 => ?_) (fun c8 => ?_)
      · have hf := q_ip c8 hf
        refine lv_iconst (pc := 60) (v := 0) hx hb dX10_isDone_60 (by decide) ?_
        obtain rfl := Option.some.inj hf
        exact x_zret X hI (Or.inl rfl) dX10_isDone_61
      · have hf := q_in c8 hf
        refine lv_iconst (pc := 56) (v := 1) hx hb dX10_isDone_56 (by decide) ?_
        refine lv_goto (pc := 57) (tgt := 61) hx hb dX10_isDone_57 (by decide) ?_
        obtain rfl := Option.some.inj hf
        exact x_zret X hI (Or.inr rfl) dX10_isDone_61
    · have hf := q_in c6 hf
      rcases Decidable.em (t2 = 119) with c9 | c9
      · refine lv_lookup (pc := 13) (tgt := 76) hx hb dX10_isDone_13 (by decide) (by rw [c9] <;> rfl) (by decide) ?_
        have hf := q_ip c9 hf
        refine lv_aload_n (pc := 76) hx hb dX10_isDone_76 rfl (lv_at hl 1 rfl) ?_
        refine lv_iload_n (pc := 77) hx hb dX10_isDone_77 rfl (lv_at hl 0 rfl) ?_
        refine lv_aload_n (pc := 78) hx hb dX10_isDone_78 rfl (lv_at hl 1 rfl) ?_
        refine x_get (pc := 79) X E hI inX10 0 rfl rfl 26 (by decide) tw_4_15 rfl dX10_isDone_79 ?_
        refine lv_iload_n (pc := 82) hx hb dX10_isDone_82 rfl (lv_at hl 2 rfl) ?_
        obtain ⟨t10, e10, hf⟩ := q_ob hf
        refine x_iald (pc := 83) X E hI 16 rfl e10 dX10_isDone_83 ?_
        obtain ⟨t11, e11, hf⟩ := q_ob hf
        refine x_cVs (pc := 84) (st1 := [.int t11.1]) (w1 := (mw G h z_thrown t11.2 z_kept z_isKept z_moveMany z_moves z_hands z_troubles z_troubleSorts z_troubleNumbers z_asked z_paint z_leasts z_isSeen z_classMany z_types z_typeCounts z_typeMany z_text z_signs z_at z_lacks z_clauses z_begun z_letters z_firsts z_seconds z_aside z_sorts z_sizes z_items)) X E hI (c_X10_weight l G h e11) kv_X10_298 hd_X10_weight ⟨rfl, rfl⟩ (by decide) 0 rfl rfl rfl rfl hl.1 rfl (Nat.le_of_ble_eq_true rfl) dX10_isDone_84 ⟨Nat.le_of_ble_eq_true rfl, Nat.le_of_ble_eq_true rfl⟩ rfl (fun H locs hI => ?_)
        refine lv_if_lt (pc := 87) (tgt := 94) hx hb dX10_isDone_87 (by decide) (fun c12 => ?_) (fun c12 => ?_)
        · have hf := q_ip c12 hf
          refine lv_iconst (pc := 94) (v := 0) hx hb dX10_isDone_94 (by decide) ?_
          obtain rfl := Option.some.inj hf
          exact x_zret X hI (Or.inl rfl) dX10_isDone_95
        · have hf := q_in c12 hf
          refine lv_iconst (pc := 90) (v := 1) hx hb dX10_isDone_90 (by decide) ?_
          refine lv_goto (pc := 91) (tgt := 95) hx hb dX10_isDone_91 (by decide) ?_
          obtain rfl := Option.some.inj hf
          exact x_zret X hI (Or.inr rfl) dX10_isDone_95
      · have hf := q_in c9 hf
        refine lv_lookup (pc := 13) (tgt := 96) hx hb dX10_isDone_13 (by decide) (q_look_107_110_119 c3 c6 c9) (by decide) ?_
        refine lv_aload_n (pc := 96) hx hb dX10_isDone_96 rfl (lv_at hl 1 rfl) ?_
        refine lv_iload_n (pc := 97) hx hb dX10_isDone_97 rfl (lv_at hl 0 rfl) ?_
        refine lv_aload_n (pc := 98) hx hb dX10_isDone_98 rfl (lv_at hl 1 rfl) ?_
        refine x_get (pc := 99) X E hI inX10 0 rfl rfl 24 (by decide) tw_4_13 rfl dX10_isDone_99 ?_
        refine lv_iload_n (pc := 102) hx hb dX10_isDone_102 rfl (lv_at hl 2 rfl) ?_
        obtain ⟨t13, e13, hf⟩ := q_ob hf
        refine x_iald (pc := 103) X E hI 14 rfl e13 dX10_isDone_103 ?_
        refine lv_bipush (pc := 104) (v := 116) hx hb dX10_isDone_104 (by decide) ?_
        refine lv_icmp_ne (pc := 106) (tgt := 113) hx hb dX10_isDone_106 (by decide) (fun c14 => ?_) (fun c14 => ?_)
        · have hf := q_in c14 hf
          refine lv_iconst (pc := 113) (v := 1) hx hb dX10_isDone_113 (by decide) ?_
          obtain ⟨t15, e15, hf⟩ := q_ob hf
          refine x_cVs (pc := 114) (st1 := [.int t15.1]) (w1 := (mw G h z_thrown t15.2.1 z_kept z_isKept t15.2.2.1 t15.2.2.2.1 t15.2.2.2.2.1 t15.2.2.2.2.2.1 t15.2.2.2.2.2.2.1 t15.2.2.2.2.2.2.2 z_asked z_paint z_leasts z_isSeen z_classMany z_types z_typeCounts z_typeMany z_text z_signs z_at z_lacks z_clauses z_begun z_letters z_firsts z_seconds z_aside z_sorts z_sizes z_items)) X E hI (c_X10_generator l G h e15) kv_X10_301 hd_X10_generator ⟨rfl, rfl⟩ (by decide) 0 rfl rfl rfl rfl hl.1 rfl (Nat.le_of_ble_eq_true rfl) dX10_isDone_114 ⟨Nat.le_of_ble_eq_true rfl, Nat.le_of_ble_eq_true rfl⟩ rfl (fun H locs hI => ?_)
          refine lv_if_lt (pc := 117) (tgt := 124) hx hb dX10_isDone_117 (by decide) (fun c16 => ?_) (fun c16 => ?_)
          · have hf := q_ip c16 hf
            refine lv_iconst (pc := 124) (v := 0) hx hb dX10_isDone_124 (by decide) ?_
            obtain rfl := Option.some.inj hf
            exact x_zret X hI (Or.inl rfl) dX10_isDone_125
          · have hf := q_in c16 hf
            refine lv_iconst (pc := 120) (v := 1) hx hb dX10_isDone_120 (by decide) ?_
            refine lv_goto (pc := 121) (tgt := 125) hx hb dX10_isDone_121 (by decide) ?_
            obtain rfl := Option.some.inj hf
            exact x_zret X hI (Or.inr rfl) dX10_isDone_125
        · have hf := q_ip c14 hf
          refine lv_iconst (pc := 109) (v := 0) hx hb dX10_isDone_109 (by decide) ?_
          refine lv_goto (pc := 110) (tgt := 114) hx hb dX10_isDone_110 (by decide) ?_
          obtain ⟨t17, e17, hf⟩ := q_ob hf
          refine x_cVs (pc := 114) (st1 := [.int t17.1]) (w1 := (mw G h z_thrown t17.2.1 z_kept z_isKept t17.2.2.1 t17.2.2.2.1 t17.2.2.2.2.1 t17.2.2.2.2.2.1 t17.2.2.2.2.2.2.1 t17.2.2.2.2.2.2.2 z_asked z_paint z_leasts z_isSeen z_classMany z_types z_typeCounts z_typeMany z_text z_signs z_at z_lacks z_clauses z_begun z_letters z_firsts z_seconds z_aside z_sorts z_sizes z_items)) X E hI (c_X10_generator l G h e17) kv_X10_301 hd_X10_generator ⟨rfl, rfl⟩ (by decide) 0 rfl rfl rfl rfl hl.1 rfl (Nat.le_of_ble_eq_true rfl) dX10_isDone_114 ⟨Nat.le_of_ble_eq_true rfl, Nat.le_of_ble_eq_true rfl⟩ rfl (fun H locs hI => ?_)
          refine lv_if_lt (pc := 117) (tgt := 124) hx hb dX10_isDone_117 (by decide) (fun c18 => ?_) (fun c18 => ?_)
          · have hf := q_ip c18 hf
            refine lv_iconst (pc := 124) (v := 0) hx hb dX10_isDone_124 (by decide) ?_
            obtain rfl := Option.some.inj hf
            exact x_zret X hI (Or.inl rfl) dX10_isDone_125
          · have hf := q_in c18 hf
            refine lv_iconst (pc := 120) (v := 1) hx hb dX10_isDone_120 (by decide) ?_
            refine lv_goto (pc := 121) (tgt := 125) hx hb dX10_isDone_121 (by decide) ?_
            obtain rfl := Option.some.inj hf
            exact x_zret X hI (Or.inr rfl) dX10_isDone_125

abbrev rm_X10_troubled : Room := { frames := 1, cells := 0, slots := 0, locals := 22 }
set_option maxHeartbeats 4000000 in
set_option maxRecDepth 100000 in
theorem c_X10_troubled (l : Launch) (G : GX) (h : Nat → Nat) {l1 : Int32} {z_troubles : Int32} {z_troubleSorts : Nat → Int32} {z_troubleNumbers : Nat → Int32} {z_text : Nat → Int32} {z_signs : Int32} {z_at : Int32} {z_lacks : Int32} {z_clauses : Int32} {z_begun : Int32} {z_thrown : Int32} {z_s : Nat → Int32} {z_kept : Nat → Int32} {z_isKept : Int32} {z_moveMany : Int32} {z_moves : Nat → Int32} {z_hands : Nat → Int32} {z_asked : Nat → Int32} {z_paint : Nat → Int32} {z_leasts : Nat → Int32} {z_isSeen : Nat → Int32} {z_classMany : Int32} {z_types : Nat → Int32} {z_typeCounts : Nat → Int32} {z_typeMany : Int32} {z_letters : Nat → Int32} {z_firsts : Nat → Int32} {z_seconds : Nat → Int32} {z_aside : Nat → Int32} {z_sorts : Nat → Int32} {z_sizes : Nat → Int32} {z_items : Nat → Int64} {res : Int32 × (Nat → Int32) × (Nat → Int32)} (hf : f_X10_troubled l1 z_troubles z_troubleSorts z_troubleNumbers z_text z_signs z_at z_lacks z_clauses z_begun = some res) : MX l yX10_troubled cX10_troubled 2 none rm_X10_troubled G (mw G h z_thrown z_s z_kept z_isKept z_moveMany z_moves z_hands z_troubles z_troubleSorts z_troubleNumbers z_asked z_paint z_leasts z_isSeen z_classMany z_types z_typeCounts z_typeMany z_text z_signs z_at z_lacks z_clauses z_begun z_letters z_firsts z_seconds z_aside z_sorts z_sizes z_items) [.ref (h 0), .int l1] (mw G h z_thrown z_s z_kept z_isKept z_moveMany z_moves z_hands res.1 res.2.1 res.2.2 z_asked z_paint z_leasts z_isSeen z_classMany z_types z_typeCounts z_typeMany z_text z_signs z_at z_lacks z_clauses z_begun z_letters z_firsts z_seconds z_aside z_sorts z_sizes z_items) none 0 0 := by
  refine MX.of (plainFor_of_name (by decide)) (Nat.le_of_ble_eq_true rfl) ?_
  intro p e s m below meth c A X E hI ls hl
  obtain ⟨hx, hb, hml, hown, hts, hr, hlk⟩ := id X
  have hl : lv_has ls 2 [(0, .ref (h 0)), (1, .int l1)] := hl
  unfold f_X10_troubled at hf
  refine lv_aload_n (pc := 0) hx hb dX10_troubled_0 rfl (lv_at hl 0 rfl) ?_
  refine lv_iconst (pc := 1) (v := 0) hx hb dX10_troubled_1 (by decide) ?_
  refine x_put (pc := 2) (w' := (mw G h z_thrown z_s z_kept z_isKept z_moveMany z_moves z_hands 0 z_troubleSorts z_troubleNumbers z_asked z_paint z_leasts z_isSeen z_classMany z_types z_typeCounts z_typeMany z_text z_signs z_at z_lacks z_clauses z_begun z_letters z_firsts z_seconds z_aside z_sorts z_sizes z_items)) X E hI inX10 tyX10 tyX10_ok nmX10 0 rfl rfl 7 (by decide) tw_3_236 rfl rfl rfl (Nat.le_of_ble_eq_true rfl) rfl dX10_troubled_2 (fun H locs hI => ?_)
  refine lv_aload_n (pc := 5) hx hb dX10_troubled_5 rfl (lv_at hl 0 rfl) ?_
  refine lv_iconst (pc := 6) (v := 1) hx hb dX10_troubled_6 (by decide) ?_
  refine lv_aload_n (pc := 7) hx hb dX10_troubled_7 rfl (lv_at hl 0 rfl) ?_
  refine x_get (pc := 8) X E hI inX10 0 rfl rfl 22 (by decide) tw_4_11 rfl dX10_troubled_8 ?_
  obtain ⟨t1, e1, hf⟩ := q_ob hf
  refine x_cVs (pc := 11) (st1 := []) (w1 := (mw G h z_thrown z_s z_kept z_isKept z_moveMany z_moves z_hands t1.1 t1.2.1 t1.2.2 z_asked z_paint z_leasts z_isSeen z_classMany z_types z_typeCounts z_typeMany z_text z_signs z_at z_lacks z_clauses z_begun z_letters z_firsts z_seconds z_aside z_sorts z_sizes z_items)) X E hI (c_X10_tells l G h e1) kv_X10_141 hd_X10_tells ⟨rfl, rfl⟩ (by decide) 0 rfl rfl rfl rfl hl.1 rfl (Nat.le_of_ble_eq_true rfl) dX10_troubled_11 ⟨Nat.le_of_ble_eq_true rfl, Nat.le_of_ble_eq_true rfl⟩ rfl (fun H locs hI => ?_)
  refine lv_iload_n (pc := 14) hx hb dX10_troubled_14 rfl (lv_at hl 1 rfl) ?_
  refine lv_if_eq (pc := 15) (tgt := 27) hx hb dX10_troubled_15 (by decide) (fun c2 => ?_) (fun c2 => ?_)
  · have hf := q_ip c2 hf
    refine lv_iload_n (pc := 27) hx hb dX10_troubled_27 rfl (lv_at hl 1 rfl) ?_
    refine lv_if_eq (pc := 28) (tgt := 51) hx hb dX10_troubled_28 (by decide) (fun c3 => ?_) (fun c3 => ?_)
    · have hf := q_ip c3 hf
      refine lv_aload_n (pc := 51) hx hb dX10_troubled_51 rfl (lv_at hl 0 rfl) ?_
      refine lv_iconst (pc := 52) (v := 4) hx hb dX10_troubled_52 (by decide) ?_
      refine lv_aload_n (pc := 53) hx hb dX10_troubled_53 rfl (lv_at hl 0 rfl) ?_
      obtain ⟨t4, e4, hf⟩ := q_ob hf
      refine x_cVs (pc := 54) (st1 := [.int t4, .int 4, .ref (h 0)]) (w1 := (mw G h z_thrown z_s z_kept z_isKept z_moveMany z_moves z_hands t1.1 t1.2.1 t1.2.2 z_asked z_paint z_leasts z_isSeen z_classMany z_types z_typeCounts z_typeMany z_text z_signs z_at z_lacks z_clauses z_begun z_letters z_firsts z_seconds z_aside z_sorts z_sizes z_items)) X E hI (c_X10_here l G h e4) kv_X10_276 hd_X10_here ⟨rfl, rfl⟩ (by decide) 0 rfl rfl rfl rfl hl.1 rfl (Nat.le_of_ble_eq_true rfl) dX10_troubled_54 ⟨Nat.le_of_ble_eq_true rfl, Nat.le_of_ble_eq_true rfl⟩ rfl (fun H locs hI => ?_)
      obtain ⟨t5, e5, hf⟩ := q_ob hf
      refine x_cVs (pc := 57) (st1 := []) (w1 := (mw G h z_thrown z_s z_kept z_isKept z_moveMany z_moves z_hands t5.1 t5.2.1 t5.2.2 z_asked z_paint z_leasts z_isSeen z_classMany z_types z_typeCounts z_typeMany z_text z_signs z_at z_lacks z_clauses z_begun z_letters z_firsts z_seconds z_aside z_sorts z_sizes z_items)) X E hI (c_X10_tells l G h e5) kv_X10_141 hd_X10_tells ⟨rfl, rfl⟩ (by decide) 0 rfl rfl rfl rfl hl.1 rfl (Nat.le_of_ble_eq_true rfl) dX10_troubled_57 ⟨Nat.le_of_ble_eq_true rfl, Nat.le_of_ble_eq_true rfl⟩ rfl (fun H locs hI => ?_)
      obtain rfl := Option.some.inj hf
      exact x_vret X hI dX10_troubled_60
    · have hf := q_in c3 hf
      refine lv_aload_n (pc := 31) hx hb dX10_troubled_31 rfl (lv_at hl 0 rfl) ?_
      refine x_get (pc := 32) X E hI inX10 0 rfl rfl 21 (by decide) tw_4_10 rfl dX10_troubled_32 ?_
      refine lv_iconst (pc := 35) (v := 3) hx hb dX10_troubled_35 (by decide) ?_
      refine lv_icmp_ne (pc := 36) (tgt := 51) hx hb dX10_troubled_36 (by decide) (fun c6 => ?_) (fun c6 => ?_)
      · have hf := q_in c6 hf
        refine lv_aload_n (pc := 51) hx hb dX10_troubled_51 rfl (lv_at hl 0 rfl) ?_
        refine lv_iconst (pc := 52) (v := 4) hx hb dX10_troubled_52 (by decide) ?_
        refine lv_aload_n (pc := 53) hx hb dX10_troubled_53 rfl (lv_at hl 0 rfl) ?_
        obtain ⟨t7, e7, hf⟩ := q_ob hf
        refine x_cVs (pc := 54) (st1 := [.int t7, .int 4, .ref (h 0)]) (w1 := (mw G h z_thrown z_s z_kept z_isKept z_moveMany z_moves z_hands t1.1 t1.2.1 t1.2.2 z_asked z_paint z_leasts z_isSeen z_classMany z_types z_typeCounts z_typeMany z_text z_signs z_at z_lacks z_clauses z_begun z_letters z_firsts z_seconds z_aside z_sorts z_sizes z_items)) X E hI (c_X10_here l G h e7) kv_X10_276 hd_X10_here ⟨rfl, rfl⟩ (by decide) 0 rfl rfl rfl rfl hl.1 rfl (Nat.le_of_ble_eq_true rfl) dX10_troubled_54 ⟨Nat.le_of_ble_eq_true rfl, Nat.le_of_ble_eq_true rfl⟩ rfl (fun H locs hI => ?_)
        obtain ⟨t8, e8, hf⟩ := q_ob hf
        refine x_cVs (pc := 57) (st1 := []) (w1 := (mw G h z_thrown z_s z_kept z_isKept z_moveMany z_moves z_hands t8.1 t8.2.1 t8.2.2 z_asked z_paint z_leasts z_isSeen z_classMany z_types z_typeCounts z_typeMany z_text z_signs z_at z_lacks z_clauses z_begun z_letters z_firsts z_seconds z_aside z_sorts z_sizes z_items)) X E hI (c_X10_tells l G h e8) kv_X10_141 hd_X10_tells ⟨rfl, rfl⟩ (by decide) 0 rfl rfl rfl rfl hl.1 rfl (Nat.le_of_ble_eq_true rfl) dX10_troubled_57 ⟨Nat.le_of_ble_eq_true rfl, Nat.le_of_ble_eq_true rfl⟩ rfl (fun H locs hI => ?_)
        obtain rfl := Option.some.inj hf
        exact x_vret X hI dX10_troubled_60
      · have hf := q_ip c6 hf
        refine lv_aload_n (pc := 39) hx hb dX10_troubled_39 rfl (lv_at hl 0 rfl) ?_
        refine lv_iconst (pc := 40) (v := 3) hx hb dX10_troubled_40 (by decide) ?_
        refine lv_aload_n (pc := 41) hx hb dX10_troubled_41 rfl (lv_at hl 0 rfl) ?_
        refine x_get (pc := 42) X E hI inX10 0 rfl rfl 20 (by decide) tw_4_9 rfl dX10_troubled_42 ?_
        obtain ⟨t9, e9, hf⟩ := q_ob hf
        refine x_cVs (pc := 45) (st1 := []) (w1 := (mw G h z_thrown z_s z_kept z_isKept z_moveMany z_moves z_hands t9.1 t9.2.1 t9.2.2 z_asked z_paint z_leasts z_isSeen z_classMany z_types z_typeCounts z_typeMany z_text z_signs z_at z_lacks z_clauses z_begun z_letters z_firsts z_seconds z_aside z_sorts z_sizes z_items)) X E hI (c_X10_tells l G h e9) kv_X10_141 hd_X10_tells ⟨rfl, rfl⟩ (by decide) 0 rfl rfl rfl rfl hl.1 rfl (Nat.le_of_ble_eq_true rfl) dX10_troubled_45 ⟨Nat.le_of_ble_eq_true rfl, Nat.le_of_ble_eq_true rfl⟩ rfl (fun H locs hI => ?_)
        refine lv_goto (pc := 48) (tgt := 60) hx hb dX10_troubled_48 (by decide) ?_
        obtain rfl := Option.some.inj hf
        exact x_vret X hI dX10_troubled_60
  · have hf := q_in c2 hf
    refine lv_aload_n (pc := 18) hx hb dX10_troubled_18 rfl (lv_at hl 0 rfl) ?_
    refine lv_iconst (pc := 19) (v := 2) hx hb dX10_troubled_19 (by decide) ?_
    refine lv_aload_n (pc := 20) hx hb dX10_troubled_20 rfl (lv_at hl 0 rfl) ?_
    refine x_get (pc := 21) X E hI inX10 0 rfl rfl 23 (by decide) tw_4_12 rfl dX10_troubled_21 ?_
    obtain ⟨t10, e10, hf⟩ := q_ob hf
    refine x_cVs (pc := 24) (st1 := []) (w1 := (mw G h z_thrown z_s z_kept z_isKept z_moveMany z_moves z_hands t10.1 t10.2.1 t10.2.2 z_asked z_paint z_leasts z_isSeen z_classMany z_types z_typeCounts z_typeMany z_text z_signs z_at z_lacks z_clauses z_begun z_letters z_firsts z_seconds z_aside z_sorts z_sizes z_items)) X E hI (c_X10_tells l G h e10) kv_X10_141 hd_X10_tells ⟨rfl, rfl⟩ (by decide) 0 rfl rfl rfl rfl hl.1 rfl (Nat.le_of_ble_eq_true rfl) dX10_troubled_24 ⟨Nat.le_of_ble_eq_true rfl, Nat.le_of_ble_eq_true rfl⟩ rfl (fun H locs hI => ?_)
    refine lv_iload_n (pc := 27) hx hb dX10_troubled_27 rfl (lv_at hl 1 rfl) ?_
    refine lv_if_eq (pc := 28) (tgt := 51) hx hb dX10_troubled_28 (by decide) (fun c11 => ?_) (fun c11 => ?_)
    · have hf := q_ip c11 hf
      refine lv_aload_n (pc := 51) hx hb dX10_troubled_51 rfl (lv_at hl 0 rfl) ?_
      refine lv_iconst (pc := 52) (v := 4) hx hb dX10_troubled_52 (by decide) ?_
      refine lv_aload_n (pc := 53) hx hb dX10_troubled_53 rfl (lv_at hl 0 rfl) ?_
      obtain ⟨t12, e12, hf⟩ := q_ob hf
      refine x_cVs (pc := 54) (st1 := [.int t12, .int 4, .ref (h 0)]) (w1 := (mw G h z_thrown z_s z_kept z_isKept z_moveMany z_moves z_hands t10.1 t10.2.1 t10.2.2 z_asked z_paint z_leasts z_isSeen z_classMany z_types z_typeCounts z_typeMany z_text z_signs z_at z_lacks z_clauses z_begun z_letters z_firsts z_seconds z_aside z_sorts z_sizes z_items)) X E hI (c_X10_here l G h e12) kv_X10_276 hd_X10_here ⟨rfl, rfl⟩ (by decide) 0 rfl rfl rfl rfl hl.1 rfl (Nat.le_of_ble_eq_true rfl) dX10_troubled_54 ⟨Nat.le_of_ble_eq_true rfl, Nat.le_of_ble_eq_true rfl⟩ rfl (fun H locs hI => ?_)
      obtain ⟨t13, e13, hf⟩ := q_ob hf
      refine x_cVs (pc := 57) (st1 := []) (w1 := (mw G h z_thrown z_s z_kept z_isKept z_moveMany z_moves z_hands t13.1 t13.2.1 t13.2.2 z_asked z_paint z_leasts z_isSeen z_classMany z_types z_typeCounts z_typeMany z_text z_signs z_at z_lacks z_clauses z_begun z_letters z_firsts z_seconds z_aside z_sorts z_sizes z_items)) X E hI (c_X10_tells l G h e13) kv_X10_141 hd_X10_tells ⟨rfl, rfl⟩ (by decide) 0 rfl rfl rfl rfl hl.1 rfl (Nat.le_of_ble_eq_true rfl) dX10_troubled_57 ⟨Nat.le_of_ble_eq_true rfl, Nat.le_of_ble_eq_true rfl⟩ rfl (fun H locs hI => ?_)
      obtain rfl := Option.some.inj hf
      exact x_vret X hI dX10_troubled_60
    · have hf := q_in c11 hf
      refine lv_aload_n (pc := 31) hx hb dX10_troubled_31 rfl (lv_at hl 0 rfl) ?_
      refine x_get (pc := 32) X E hI inX10 0 rfl rfl 21 (by decide) tw_4_10 rfl dX10_troubled_32 ?_
      refine lv_iconst (pc := 35) (v := 3) hx hb dX10_troubled_35 (by decide) ?_
      refine lv_icmp_ne (pc := 36) (tgt := 51) hx hb dX10_troubled_36 (by decide) (fun c14 => ?_) (fun c14 => ?_)
      · have hf := q_in c14 hf
        refine lv_aload_n (pc := 51) hx hb dX10_troubled_51 rfl (lv_at hl 0 rfl) ?_
        refine lv_iconst (pc := 52) (v := 4) hx hb dX10_troubled_52 (by decide) ?_
        refine lv_aload_n (pc := 53) hx hb dX10_troubled_53 rfl (lv_at hl 0 rfl) ?_
        obtain ⟨t15, e15, hf⟩ := q_ob hf
        refine x_cVs (pc := 54) (st1 := [.int t15, .int 4, .ref (h 0)]) (w1 := (mw G h z_thrown z_s z_kept z_isKept z_moveMany z_moves z_hands t10.1 t10.2.1 t10.2.2 z_asked z_paint z_leasts z_isSeen z_classMany z_types z_typeCounts z_typeMany z_text z_signs z_at z_lacks z_clauses z_begun z_letters z_firsts z_seconds z_aside z_sorts z_sizes z_items)) X E hI (c_X10_here l G h e15) kv_X10_276 hd_X10_here ⟨rfl, rfl⟩ (by decide) 0 rfl rfl rfl rfl hl.1 rfl (Nat.le_of_ble_eq_true rfl) dX10_troubled_54 ⟨Nat.le_of_ble_eq_true rfl, Nat.le_of_ble_eq_true rfl⟩ rfl (fun H locs hI => ?_)
        obtain ⟨t16, e16, hf⟩ := q_ob hf
        refine x_cVs (pc := 57) (st1 := []) (w1 := (mw G h z_thrown z_s z_kept z_isKept z_moveMany z_moves z_hands t16.1 t16.2.1 t16.2.2 z_asked z_paint z_leasts z_isSeen z_classMany z_types z_typeCounts z_typeMany z_text z_signs z_at z_lacks z_clauses z_begun z_letters z_firsts z_seconds z_aside z_sorts z_sizes z_items)) X E hI (c_X10_tells l G h e16) kv_X10_141 hd_X10_tells ⟨rfl, rfl⟩ (by decide) 0 rfl rfl rfl rfl hl.1 rfl (Nat.le_of_ble_eq_true rfl) dX10_troubled_57 ⟨Nat.le_of_ble_eq_true rfl, Nat.le_of_ble_eq_true rfl⟩ rfl (fun H locs hI => ?_)
        obtain rfl := Option.some.inj hf
        exact x_vret X hI dX10_troubled_60
      · have hf := q_ip c14 hf
        refine lv_aload_n (pc := 39) hx hb dX10_troubled_39 rfl (lv_at hl 0 rfl) ?_
        refine lv_iconst (pc := 40) (v := 3) hx hb dX10_troubled_40 (by decide) ?_
        refine lv_aload_n (pc := 41) hx hb dX10_troubled_41 rfl (lv_at hl 0 rfl) ?_
        refine x_get (pc := 42) X E hI inX10 0 rfl rfl 20 (by decide) tw_4_9 rfl dX10_troubled_42 ?_
        obtain ⟨t17, e17, hf⟩ := q_ob hf
        refine x_cVs (pc := 45) (st1 := []) (w1 := (mw G h z_thrown z_s z_kept z_isKept z_moveMany z_moves z_hands t17.1 t17.2.1 t17.2.2 z_asked z_paint z_leasts z_isSeen z_classMany z_types z_typeCounts z_typeMany z_text z_signs z_at z_lacks z_clauses z_begun z_letters z_firsts z_seconds z_aside z_sorts z_sizes z_items)) X E hI (c_X10_tells l G h e17) kv_X10_141 hd_X10_tells ⟨rfl, rfl⟩ (by decide) 0 rfl rfl rfl rfl hl.1 rfl (Nat.le_of_ble_eq_true rfl) dX10_troubled_45 ⟨Nat.le_of_ble_eq_true rfl, Nat.le_of_ble_eq_true rfl⟩ rfl (fun H locs hI => ?_)
        refine lv_goto (pc := 48) (tgt := 60) hx hb dX10_troubled_48 (by decide) ?_
        obtain rfl := Option.some.inj hf
        exact x_vret X hI dX10_troubled_60

abbrev rm_X10_read : Room := { frames := 7, cells := 0, slots := 0, locals := 159 }
set_option maxHeartbeats 4000000 in
set_option maxRecDepth 100000 in
theorem k_X10_read_L19 {p : Program} {l : Launch} {e : Env} {s : State} {m : MethodId} {args : Array Value} {below : List Frame} {meth : Method} {c : Code} {A : Nat → Prop} {G : GX} {h : Nat → Nat} {z_thrown : Int32} {z_s : Nat → Int32} {z_kept : Nat → Int32} {z_isKept : Int32} {z_moveMany : Int32} {z_moves : Nat → Int32} {z_hands : Nat → Int32} {z_troubles : Int32} {z_troubleSorts : Nat → Int32} {z_troubleNumbers : Nat → Int32} {z_asked : Nat → Int32} {z_paint : Nat → Int32} {z_leasts : Nat → Int32} {z_isSeen : Nat → Int32} {z_classMany : Int32} {z_types : Nat → Int32} {z_typeCounts : Nat → Int32} {z_typeMany : Int32} {z_text : Nat → Int32} {z_signs : Int32} {z_aside : Nat → Int32} {z_sorts : Nat → Int32} {z_sizes : Nat → Int32} {z_items : Nat → Int64} {K : Int32 → Int32 → Int32 → Int32 → (Nat → Int32) → (Nat → Int32) → (Nat → Int32) → Option (Int32 × (Nat → Int32) × Int32 × (Nat → Int32) × (Nat → Int32) × Int32 × (Nat → Int32) × (Nat → Int32) × Int32 × Int32 × Int32 × Int32 × Int32 × (Nat → Int32) × (Nat → Int32) × (Nat → Int32))} {res : Int32 × (Nat → Int32) × Int32 × (Nat → Int32) × (Nat → Int32) × Int32 × (Nat → Int32) × (Nat → Int32) × Int32 × Int32 × Int32 × Int32 × Int32 × (Nat → Int32) × (Nat → Int32) × (Nat → Int32)} (X : CX RX10 cX10_read 4 (some .int) p s m args meth c) (E : EX G A s)
    (hK : ∀ (z_at : Int32) (z_lacks : Int32) (z_clauses : Int32) (z_begun : Int32) (z_letters : (Nat → Int32)) (z_firsts : (Nat → Int32)) (z_seconds : (Nat → Int32)) (H : Heap) (locs : List Loc) (ls : Array Slot), IN A G (mw G h z_thrown z_s z_kept z_isKept z_moveMany z_moves z_hands z_troubles z_troubleSorts z_troubleNumbers z_asked z_paint z_leasts z_isSeen z_classMany z_types z_typeCounts z_typeMany z_text z_signs z_at z_lacks z_clauses z_begun z_letters z_firsts z_seconds z_aside z_sorts z_sizes z_items) s H locs → lv_has ls 4 [(0, .ref (h 0))] → K z_at z_lacks z_clauses z_begun z_letters z_firsts z_seconds = some res → W p l e rm_X10_read s m args below meth c H locs 0 0 (MQ below (QX G A (mw G h z_thrown res.2.1 z_kept z_isKept res.2.2.1 res.2.2.2.1 res.2.2.2.2.1 res.2.2.2.2.2.1 res.2.2.2.2.2.2.1 res.2.2.2.2.2.2.2.1 z_asked z_paint z_leasts z_isSeen z_classMany z_types z_typeCounts z_typeMany z_text res.2.2.2.2.2.2.2.2.1 res.2.2.2.2.2.2.2.2.2.1 res.2.2.2.2.2.2.2.2.2.2.1 res.2.2.2.2.2.2.2.2.2.2.2.1 res.2.2.2.2.2.2.2.2.2.2.2.2.1 res.2.2.2.2.2.2.2.2.2.2.2.2.2.1 res.2.2.2.2.2.2.2.2.2.2.2.2.2.2.1 res.2.2.2.2.2.2.2.2.2.2.2.2.2.2.2 z_aside z_sorts z_sizes z_items) (some (.int res.1))) args s 0 0 A) (F0 m 61 ls [])) :
    ∀ {k : Nat} {z_at : Int32} {z_lacks : Int32} {z_clauses : Int32} {z_begun : Int32} {z_letters : (Nat → Int32)} {z_firsts : (Nat → Int32)} {z_seconds : (Nat → Int32)} {H : Heap} {locs : List Loc} {ls : Array Slot}, IN A G (mw G h z_thrown z_s z_kept z_isKept z_moveMany z_moves z_hands z_troubles z_troubleSorts z_troubleNumbers z_asked z_paint z_leasts z_isSeen z_classMany z_types z_typeCounts z_typeMany z_text z_signs z_at z_lacks z_clauses z_begun z_letters z_firsts z_seconds z_aside z_sorts z_sizes z_items) s H locs → lv_has ls 4 [(0, .ref (h 0))] → f_X10_read_L19 z_text z_signs K k z_at z_lacks z_clauses z_begun z_letters z_firsts z_seconds = some res → W p l e rm_X10_read s m args below meth c H locs 0 0 (MQ below (QX G A (mw G h z_thrown res.2.1 z_kept z_isKept res.2.2.1 res.2.2.2.1 res.2.2.2.2.1 res.2.2.2.2.2.1 res.2.2.2.2.2.2.1 res.2.2.2.2.2.2.2.1 z_asked z_paint z_leasts z_isSeen z_classMany z_types z_typeCounts z_typeMany z_text res.2.2.2.2.2.2.2.2.1 res.2.2.2.2.2.2.2.2.2.1 res.2.2.2.2.2.2.2.2.2.2.1 res.2.2.2.2.2.2.2.2.2.2.2.1 res.2.2.2.2.2.2.2.2.2.2.2.2.1 res.2.2.2.2.2.2.2.2.2.2.2.2.2.1 res.2.2.2.2.2.2.2.2.2.2.2.2.2.2.1 res.2.2.2.2.2.2.2.2.2.2.2.2.2.2.2 z_aside z_sorts z_sizes z_items) (some (.int res.1))) args s 0 0 A) (F0 m 19 ls []) := by
  obtain ⟨hx, hb, hml, hown, hts, hr, hlk⟩ := id X
  intro k
  induction k with
  | zero => intro z_at z_lacks z_clauses z_begun z_letters z_firsts z_seconds H locs ls hI hl hf; exact nomatch (show none = some res from hf)
  | succ k ih =>
    intro z_at z_lacks z_clauses z_begun z_letters z_firsts z_seconds H locs ls hI hl hf
    rw [f_X10_read_L19] at hf
    refine lv_aload_n (pc := 19) hx hb dX10_read_19 rfl (lv_at hl 0 rfl) ?_
    refine x_get (pc := 20) X E hI inX10 0 rfl rfl 21 (by decide) tw_4_10 rfl dX10_read_20 ?_
    refine lv_if_ne (pc := 23) (tgt := 61) hx hb dX10_read_23 (by decide) (fun c1 => ?_) (fun c1 => ?_)
    · have hf := q_in c1 hf
      exact hK _ _ _ _ _ _ _ _ _ _ hI (lv_sub hl [0] rfl) hf
    · have hf := q_ip c1 hf
      refine lv_aload_n (pc := 26) hx hb dX10_read_26 rfl (lv_at hl 0 rfl) ?_
      obtain ⟨t2, e2, hf⟩ := q_ob hf
      refine x_cVs (pc := 27) (st1 := [.int t2]) (w1 := (mw G h z_thrown z_s z_kept z_isKept z_moveMany z_moves z_hands z_troubles z_troubleSorts z_troubleNumbers z_asked z_paint z_leasts z_isSeen z_classMany z_types z_typeCounts z_typeMany z_text z_signs z_at z_lacks z_clauses z_begun z_letters z_firsts z_seconds z_aside z_sorts z_sizes z_items)) X E hI (c_X10_here l G h e2) kv_X10_276 hd_X10_here ⟨rfl, rfl⟩ (by decide) 0 rfl rfl rfl rfl hl.1 rfl (Nat.le_of_ble_eq_true rfl) dX10_read_27 ⟨Nat.le_of_ble_eq_true rfl, Nat.le_of_ble_eq_true rfl⟩ rfl (fun H locs hI => ?_)
      refine lv_bipush (pc := 30) (v := 59) hx hb dX10_read_30 (by decide) ?_
      refine lv_icmp_ne (pc := 32) (tgt := 61) hx hb dX10_read_32 (by decide) (fun c3 => ?_) (fun c3 => ?_)
      · have hf := q_in c3 hf
        exact hK _ _ _ _ _ _ _ _ _ _ hI (lv_sub hl [0] rfl) hf
      · have hf := q_ip c3 hf
        refine lv_aload_n (pc := 35) hx hb dX10_read_35 rfl (lv_at hl 0 rfl) ?_
        refine x_get (pc := 36) X E hI inX10 0 rfl rfl 22 (by decide) tw_4_11 rfl dX10_read_36 ?_
        refine lv_bipush (pc := 39) (v := 12) hx hb dX10_read_39 (by decide) ?_
        refine lv_icmp_ge (pc := 41) (tgt := 61) hx hb dX10_read_41 (by decide) (fun c4 => ?_) (fun c4 => ?_)
        · have hf := q_ip c4 hf
          exact hK _ _ _ _ _ _ _ _ _ _ hI (lv_sub hl [0] rfl) hf
        · have hf := q_in c4 hf
          refine lv_aload_n (pc := 44) hx hb dX10_read_44 rfl (lv_at hl 0 rfl) ?_
          refine lv_dup (pc := 45) hx hb dX10_read_45 rfl ?_
          refine x_get (pc := 46) X E hI inX10 0 rfl rfl 20 (by decide) tw_4_9 rfl dX10_read_46 ?_
          refine lv_iconst (pc := 49) (v := 1) hx hb dX10_read_49 (by decide) ?_
          refine lv_iadd (pc := 50) hx hb dX10_read_50 ?_
          refine x_put (pc := 51) (w' := (mw G h z_thrown z_s z_kept z_isKept z_moveMany z_moves z_hands z_troubles z_troubleSorts z_troubleNumbers z_asked z_paint z_leasts z_isSeen z_classMany z_types z_typeCounts z_typeMany z_text z_signs (z_at + 1) z_lacks z_clauses z_begun z_letters z_firsts z_seconds z_aside z_sorts z_sizes z_items)) X E hI inX10 tyX10 tyX10_ok nmX10 0 rfl rfl 20 (by decide) tw_4_9 rfl rfl rfl (Nat.le_of_ble_eq_true rfl) rfl dX10_read_51 (fun H locs hI => ?_)
          refine lv_aload_n (pc := 54) hx hb dX10_read_54 rfl (lv_at hl 0 rfl) ?_
          obtain ⟨t5, e5, hf⟩ := q_ob hf
          refine x_cVs (pc := 55) (st1 := []) (w1 := (mw G h z_thrown z_s z_kept z_isKept z_moveMany z_moves z_hands z_troubles z_troubleSorts z_troubleNumbers z_asked z_paint z_leasts z_isSeen z_classMany z_types z_typeCounts z_typeMany z_text z_signs t5.1 t5.2.1 t5.2.2.1 t5.2.2.2.1 t5.2.2.2.2.1 t5.2.2.2.2.2.1 t5.2.2.2.2.2.2 z_aside z_sorts z_sizes z_items)) X E hI (c_X10_clause l G h e5) kv_X10_304 hd_X10_clause ⟨rfl, rfl⟩ (by decide) 0 rfl rfl rfl rfl hl.1 rfl (Nat.le_of_ble_eq_true rfl) dX10_read_55 ⟨Nat.le_of_ble_eq_true rfl, Nat.le_of_ble_eq_true rfl⟩ rfl (fun H locs hI => ?_)
          refine lv_goto (pc := 58) (tgt := 19) hx hb dX10_read_58 (by decide) ?_
          exact ih hI (lv_sub hl [0] rfl) hf

set_option maxHeartbeats 4000000 in
set_option maxRecDepth 100000 in
theorem k_X10_read_L126 {p : Program} {l : Launch} {e : Env} {s : State} {m : MethodId} {args : Array Value} {below : List Frame} {meth : Method} {c : Code} {A : Nat → Prop} {G : GX} {h : Nat → Nat} {z_thrown : Int32} {z_kept : Nat → Int32} {z_isKept : Int32} {z_asked : Nat → Int32} {z_paint : Nat → Int32} {z_leasts : Nat → Int32} {z_isSeen : Nat → Int32} {z_classMany : Int32} {z_types : Nat → Int32} {z_typeCounts : Nat → Int32} {z_typeMany : Int32} {z_text : Nat → Int32} {z_signs : Int32} {z_at : Int32} {z_lacks : Int32} {z_clauses : Int32} {z_begun : Int32} {z_letters : Nat → Int32} {z_firsts : Nat → Int32} {z_seconds : Nat → Int32} {z_aside : Nat → Int32} {z_sorts : Nat → Int32} {z_sizes : Nat → Int32} {z_items : Nat → Int64} {K : Int32 → Int32 → (Nat → Int32) → Int32 → (Nat → Int32) → (Nat → Int32) → Int32 → (Nat → Int32) → (Nat → Int32) → Option (Int32 × (Nat → Int32) × Int32 × (Nat → Int32) × (Nat → Int32) × Int32 × (Nat → Int32) × (Nat → Int32) × Int32 × Int32 × Int32 × Int32 × Int32 × (Nat → Int32) × (Nat → Int32) × (Nat → Int32))} {res : Int32 × (Nat → Int32) × Int32 × (Nat → Int32) × (Nat → Int32) × Int32 × (Nat → Int32) × (Nat → Int32) × Int32 × Int32 × Int32 × Int32 × Int32 × (Nat → Int32) × (Nat → Int32) × (Nat → Int32)} (X : CX RX10 cX10_read 4 (some .int) p s m args meth c) (E : EX G A s)
    (hK : ∀ (l2 : Int32) (l3 : Int32) (z_s : (Nat → Int32)) (z_moveMany : Int32) (z_moves : (Nat → Int32)) (z_hands : (Nat → Int32)) (z_troubles : Int32) (z_troubleSorts : (Nat → Int32)) (z_troubleNumbers : (Nat → Int32)) (H : Heap) (locs : List Loc) (ls : Array Slot), IN A G (mw G h z_thrown z_s z_kept z_isKept z_moveMany z_moves z_hands z_troubles z_troubleSorts z_troubleNumbers z_asked z_paint z_leasts z_isSeen z_classMany z_types z_typeCounts z_typeMany z_text z_signs z_at z_lacks z_clauses z_begun z_letters z_firsts z_seconds z_aside z_sorts z_sizes z_items) s H locs → lv_has ls 4 [(0, .ref (h 0)), (2, .int l2), (3, .int l3)] → K l2 l3 z_s z_moveMany z_moves z_hands z_troubles z_troubleSorts z_troubleNumbers = some res → W p l e rm_X10_read s m args below meth c H locs 0 0 (MQ below (QX G A (mw G h z_thrown res.2.1 z_kept z_isKept res.2.2.1 res.2.2.2.1 res.2.2.2.2.1 res.2.2.2.2.2.1 res.2.2.2.2.2.2.1 res.2.2.2.2.2.2.2.1 z_asked z_paint z_leasts z_isSeen z_classMany z_types z_typeCounts z_typeMany z_text res.2.2.2.2.2.2.2.2.1 res.2.2.2.2.2.2.2.2.2.1 res.2.2.2.2.2.2.2.2.2.2.1 res.2.2.2.2.2.2.2.2.2.2.2.1 res.2.2.2.2.2.2.2.2.2.2.2.2.1 res.2.2.2.2.2.2.2.2.2.2.2.2.2.1 res.2.2.2.2.2.2.2.2.2.2.2.2.2.2.1 res.2.2.2.2.2.2.2.2.2.2.2.2.2.2.2 z_aside z_sorts z_sizes z_items) (some (.int res.1))) args s 0 0 A) (F0 m 156 ls [])) :
    ∀ {k : Nat} {l2 : Int32} {l3 : Int32} {z_s : (Nat → Int32)} {z_moveMany : Int32} {z_moves : (Nat → Int32)} {z_hands : (Nat → Int32)} {z_troubles : Int32} {z_troubleSorts : (Nat → Int32)} {z_troubleNumbers : (Nat → Int32)} {H : Heap} {locs : List Loc} {ls : Array Slot}, IN A G (mw G h z_thrown z_s z_kept z_isKept z_moveMany z_moves z_hands z_troubles z_troubleSorts z_troubleNumbers z_asked z_paint z_leasts z_isSeen z_classMany z_types z_typeCounts z_typeMany z_text z_signs z_at z_lacks z_clauses z_begun z_letters z_firsts z_seconds z_aside z_sorts z_sizes z_items) s H locs → lv_has ls 4 [(0, .ref (h 0)), (2, .int l2), (3, .int l3)] → f_X10_read_L126 z_clauses z_letters z_firsts z_seconds K k l2 l3 z_s z_moveMany z_moves z_hands z_troubles z_troubleSorts z_troubleNumbers = some res → W p l e rm_X10_read s m args below meth c H locs 0 0 (MQ below (QX G A (mw G h z_thrown res.2.1 z_kept z_isKept res.2.2.1 res.2.2.2.1 res.2.2.2.2.1 res.2.2.2.2.2.1 res.2.2.2.2.2.2.1 res.2.2.2.2.2.2.2.1 z_asked z_paint z_leasts z_isSeen z_classMany z_types z_typeCounts z_typeMany z_text res.2.2.2.2.2.2.2.2.1 res.2.2.2.2.2.2.2.2.2.1 res.2.2.2.2.2.2.2.2.2.2.1 res.2.2.2.2.2.2.2.2.2.2.2.1 res.2.2.2.2.2.2.2.2.2.2.2.2.1 res.2.2.2.2.2.2.2.2.2.2.2.2.2.1 res.2.2.2.2.2.2.2.2.2.2.2.2.2.2.1 res.2.2.2.2.2.2.2.2.2.2.2.2.2.2.2 z_aside z_sorts z_sizes z_items) (some (.int res.1))) args s 0 0 A) (F0 m 126 ls []) := by
  obtain ⟨hx, hb, hml, hown, hts, hr, hlk⟩ := id X
  intro k
  induction k with
  | zero => intro l2 l3 z_s z_moveMany z_moves z_hands z_troubles z_troubleSorts z_troubleNumbers H locs ls hI hl hf; exact nomatch (show none = some res from hf)
  | succ k ih =>
    intro l2 l3 z_s z_moveMany z_moves z_hands z_troubles z_troubleSorts z_troubleNumbers H locs ls hI hl hf
    rw [f_X10_read_L126] at hf
    refine lv_iload_n (pc := 126) hx hb dX10_read_126 rfl (lv_at hl 2 rfl) ?_
    refine lv_aload_n (pc := 127) hx hb dX10_read_127 rfl (lv_at hl 0 rfl) ?_
    refine x_get (pc := 128) X E hI inX10 0 rfl rfl 22 (by decide) tw_4_11 rfl dX10_read_128 ?_
    refine lv_icmp_ge (pc := 131) (tgt := 156) hx hb dX10_read_131 (by decide) (fun c1 => ?_) (fun c1 => ?_)
    · have hf := q_ip c1 hf
      exact hK _ _ _ _ _ _ _ _ _ _ _ _ hI (lv_sub hl [0, 1, 2] rfl) hf
    · have hf := q_in c1 hf
      refine lv_iload_n (pc := 134) hx hb dX10_read_134 rfl (lv_at hl 1 rfl) ?_
      refine lv_aload_n (pc := 135) hx hb dX10_read_135 rfl (lv_at hl 0 rfl) ?_
      refine lv_iload_n (pc := 136) hx hb dX10_read_136 rfl (lv_at hl 2 rfl) ?_
      obtain ⟨t2, e2, hf⟩ := q_ob hf
      refine x_cVs (pc := 137) (st1 := [.int t2.1, .int l2]) (w1 := (mw G h z_thrown t2.2.1 z_kept z_isKept t2.2.2.1 t2.2.2.2.1 t2.2.2.2.2.1 t2.2.2.2.2.2.1 t2.2.2.2.2.2.2.1 t2.2.2.2.2.2.2.2 z_asked z_paint z_leasts z_isSeen z_classMany z_types z_typeCounts z_typeMany z_text z_signs z_at z_lacks z_clauses z_begun z_letters z_firsts z_seconds z_aside z_sorts z_sizes z_items)) X E hI (c_X10_isDone l G h e2) kv_X10_311 hd_X10_isDone ⟨rfl, rfl⟩ (by decide) 0 rfl rfl rfl rfl hl.1 rfl (Nat.le_of_ble_eq_true rfl) dX10_read_137 ⟨Nat.le_of_ble_eq_true rfl, Nat.le_of_ble_eq_true rfl⟩ rfl (fun H locs hI => ?_)
      refine lv_if_eq (pc := 140) (tgt := 147) hx hb dX10_read_140 (by decide) (fun c3 => ?_) (fun c3 => ?_)
      · have hf := q_ip c3 hf
        refine lv_iconst (pc := 147) (v := 0) hx hb dX10_read_147 (by decide) ?_
        refine lv_iadd (pc := 148) hx hb dX10_read_148 ?_
        refine lv_istore_n (pc := 149) (lv' := [(2, .int (l2 + 0)), (0, .ref (h 0)), (3, .int l3)]) hx hb dX10_read_149 rfl hl (by decide) rfl (fun ls hl => ?_)
        refine lv_iinc (pc := 150) (v := l3 + 1) (lv' := [(3, .int (l3 + 1)), (2, .int (l2 + 0)), (0, .ref (h 0))]) hx hb dX10_read_150 hl (k := 2) rfl rfl (by decide) rfl (fun ls hl => ?_)
        refine lv_goto (pc := 153) (tgt := 126) hx hb dX10_read_153 (by decide) ?_
        exact ih hI (lv_sub hl [2, 1, 0] rfl) hf
      · have hf := q_in c3 hf
        refine lv_iconst (pc := 143) (v := 1) hx hb dX10_read_143 (by decide) ?_
        refine lv_goto (pc := 144) (tgt := 148) hx hb dX10_read_144 (by decide) ?_
        refine lv_iadd (pc := 148) hx hb dX10_read_148 ?_
        refine lv_istore_n (pc := 149) (lv' := [(2, .int (l2 + 1)), (0, .ref (h 0)), (3, .int l3)]) hx hb dX10_read_149 rfl hl (by decide) rfl (fun ls hl => ?_)
        refine lv_iinc (pc := 150) (v := l3 + 1) (lv' := [(3, .int (l3 + 1)), (2, .int (l2 + 1)), (0, .ref (h 0))]) hx hb dX10_read_150 hl (k := 2) rfl rfl (by decide) rfl (fun ls hl => ?_)
        refine lv_goto (pc := 153) (tgt := 126) hx hb dX10_read_153 (by decide) ?_
        exact ih hI (lv_sub hl [2, 1, 0] rfl) hf

set_option maxHeartbeats 4000000 in
set_option maxRecDepth 100000 in
theorem c_X10_read (l : Launch) (G : GX) (h : Nat → Nat) {z_s : Nat → Int32} {z_moveMany : Int32} {z_moves : Nat → Int32} {z_hands : Nat → Int32} {z_troubles : Int32} {z_troubleSorts : Nat → Int32} {z_troubleNumbers : Nat → Int32} {z_text : Nat → Int32} {z_signs : Int32} {z_at : Int32} {z_lacks : Int32} {z_clauses : Int32} {z_begun : Int32} {z_letters : Nat → Int32} {z_firsts : Nat → Int32} {z_seconds : Nat → Int32} {z_thrown : Int32} {z_kept : Nat → Int32} {z_isKept : Int32} {z_asked : Nat → Int32} {z_paint : Nat → Int32} {z_leasts : Nat → Int32} {z_isSeen : Nat → Int32} {z_classMany : Int32} {z_types : Nat → Int32} {z_typeCounts : Nat → Int32} {z_typeMany : Int32} {z_aside : Nat → Int32} {z_sorts : Nat → Int32} {z_sizes : Nat → Int32} {z_items : Nat → Int64} {res : Int32 × (Nat → Int32) × Int32 × (Nat → Int32) × (Nat → Int32) × Int32 × (Nat → Int32) × (Nat → Int32) × Int32 × Int32 × Int32 × Int32 × Int32 × (Nat → Int32) × (Nat → Int32) × (Nat → Int32)} (hf : f_X10_read z_s z_moveMany z_moves z_hands z_troubles z_troubleSorts z_troubleNumbers z_text z_signs z_at z_lacks z_clauses z_begun z_letters z_firsts z_seconds = some res) : MX l yX10_read cX10_read 4 (some .int) rm_X10_read G (mw G h z_thrown z_s z_kept z_isKept z_moveMany z_moves z_hands z_troubles z_troubleSorts z_troubleNumbers z_asked z_paint z_leasts z_isSeen z_classMany z_types z_typeCounts z_typeMany z_text z_signs z_at z_lacks z_clauses z_begun z_letters z_firsts z_seconds z_aside z_sorts z_sizes z_items) [.ref (h 0)] (mw G h z_thrown res.2.1 z_kept z_isKept res.2.2.1 res.2.2.2.1 res.2.2.2.2.1 res.2.2.2.2.2.1 res.2.2.2.2.2.2.1 res.2.2.2.2.2.2.2.1 z_asked z_paint z_leasts z_isSeen z_classMany z_types z_typeCounts z_typeMany z_text res.2.2.2.2.2.2.2.2.1 res.2.2.2.2.2.2.2.2.2.1 res.2.2.2.2.2.2.2.2.2.2.1 res.2.2.2.2.2.2.2.2.2.2.2.1 res.2.2.2.2.2.2.2.2.2.2.2.2.1 res.2.2.2.2.2.2.2.2.2.2.2.2.2.1 res.2.2.2.2.2.2.2.2.2.2.2.2.2.2.1 res.2.2.2.2.2.2.2.2.2.2.2.2.2.2.2 z_aside z_sorts z_sizes z_items) (some (.int res.1)) 0 0 := by
  refine MX.of (plainFor_of_name (by decide)) (Nat.le_of_ble_eq_true rfl) ?_
  intro p e s m below meth c A X E hI ls hl
  obtain ⟨hx, hb, hml, hown, hts, hr, hlk⟩ := id X
  have hl : lv_has ls 4 [(0, .ref (h 0))] := hl
  unfold f_X10_read at hf
  refine lv_aload_n (pc := 0) hx hb dX10_read_0 rfl (lv_at hl 0 rfl) ?_
  refine lv_iconst (pc := 1) (v := 0) hx hb dX10_read_1 (by decide) ?_
  refine x_put (pc := 2) (w' := (mw G h z_thrown z_s z_kept z_isKept z_moveMany z_moves z_hands z_troubles z_troubleSorts z_troubleNumbers z_asked z_paint z_leasts z_isSeen z_classMany z_types z_typeCounts z_typeMany z_text z_signs 0 z_lacks z_clauses z_begun z_letters z_firsts z_seconds z_aside z_sorts z_sizes z_items)) X E hI inX10 tyX10 tyX10_ok nmX10 0 rfl rfl 20 (by decide) tw_4_9 rfl rfl rfl (Nat.le_of_ble_eq_true rfl) rfl dX10_read_2 (fun H locs hI => ?_)
  refine lv_aload_n (pc := 5) hx hb dX10_read_5 rfl (lv_at hl 0 rfl) ?_
  refine lv_iconst (pc := 6) (v := 0) hx hb dX10_read_6 (by decide) ?_
  refine x_put (pc := 7) (w' := (mw G h z_thrown z_s z_kept z_isKept z_moveMany z_moves z_hands z_troubles z_troubleSorts z_troubleNumbers z_asked z_paint z_leasts z_isSeen z_classMany z_types z_typeCounts z_typeMany z_text z_signs 0 z_lacks 0 z_begun z_letters z_firsts z_seconds z_aside z_sorts z_sizes z_items)) X E hI inX10 tyX10 tyX10_ok nmX10 0 rfl rfl 22 (by decide) tw_4_11 rfl rfl rfl (Nat.le_of_ble_eq_true rfl) rfl dX10_read_7 (fun H locs hI => ?_)
  refine lv_aload_n (pc := 10) hx hb dX10_read_10 rfl (lv_at hl 0 rfl) ?_
  refine lv_iconst (pc := 11) (v := 0) hx hb dX10_read_11 (by decide) ?_
  refine x_put (pc := 12) (w' := (mw G h z_thrown z_s z_kept z_isKept z_moveMany z_moves z_hands z_troubles z_troubleSorts z_troubleNumbers z_asked z_paint z_leasts z_isSeen z_classMany z_types z_typeCounts z_typeMany z_text z_signs 0 0 0 z_begun z_letters z_firsts z_seconds z_aside z_sorts z_sizes z_items)) X E hI inX10 tyX10 tyX10_ok nmX10 0 rfl rfl 21 (by decide) tw_4_10 rfl rfl rfl (Nat.le_of_ble_eq_true rfl) rfl dX10_read_12 (fun H locs hI => ?_)
  refine lv_aload_n (pc := 15) hx hb dX10_read_15 rfl (lv_at hl 0 rfl) ?_
  obtain ⟨t1, e1, hf⟩ := q_ob hf
  refine x_cVs (pc := 16) (st1 := []) (w1 := (mw G h z_thrown z_s z_kept z_isKept z_moveMany z_moves z_hands z_troubles z_troubleSorts z_troubleNumbers z_asked z_paint z_leasts z_isSeen z_classMany z_types z_typeCounts z_typeMany z_text z_signs t1.1 t1.2.1 t1.2.2.1 t1.2.2.2.1 t1.2.2.2.2.1 t1.2.2.2.2.2.1 t1.2.2.2.2.2.2 z_aside z_sorts z_sizes z_items)) X E hI (c_X10_clause l G h e1) kv_X10_304 hd_X10_clause ⟨rfl, rfl⟩ (by decide) 0 rfl rfl rfl rfl hl.1 rfl (Nat.le_of_ble_eq_true rfl) dX10_read_16 ⟨Nat.le_of_ble_eq_true rfl, Nat.le_of_ble_eq_true rfl⟩ rfl (fun H locs hI => ?_)
  refine k_X10_read_L19 X E (fun z_at_2 z_lacks_2 z_clauses_2 z_begun_2 z_letters_2 z_firsts_2 z_seconds_2 H locs ls hI hl hf => ?_) hI (lv_sub hl [0] rfl) hf
  refine lv_aload_n (pc := 61) hx hb dX10_read_61 rfl (lv_at hl 0 rfl) ?_
  refine x_get (pc := 62) X E hI inX10 0 rfl rfl 21 (by decide) tw_4_10 rfl dX10_read_62 ?_
  refine lv_if_ne (pc := 65) (tgt := 79) hx hb dX10_read_65 (by decide) (fun c3 => ?_) (fun c3 => ?_)
  · have hf := q_in c3 hf
    refine lv_iconst (pc := 79) (v := 1) hx hb dX10_read_79 (by decide) ?_
    refine lv_goto (pc := 80) (tgt := 84) hx hb dX10_read_80 (by decide) ?_
    refine lv_istore_n (pc := 84) (lv' := [(1, .int 1), (0, .ref (h 0))]) hx hb dX10_read_84 rfl hl (by decide) rfl (fun ls hl => ?_)
    refine lv_iload_n (pc := 85) hx hb dX10_read_85 rfl (lv_at hl 0 rfl) ?_
    refine lv_if_eq (pc := 86) (tgt := 105) hx hb dX10_read_86 (by decide) (fun c4 => ?_) (fun c4 => ?_)
    · exact absurd c4 (by decide)
    · refine lv_aload_n (pc := 89) hx hb dX10_read_89 rfl (lv_at hl 1 rfl) ?_
      refine lv_aload_n (pc := 90) hx hb dX10_read_90 rfl (lv_at hl 1 rfl) ?_
      refine x_get (pc := 91) X E hI inX10 0 rfl rfl 21 (by decide) tw_4_10 rfl dX10_read_91 ?_
      refine lv_if_eq (pc := 94) (tgt := 101) hx hb dX10_read_94 (by decide) (fun c5 => ?_) (fun c5 => ?_)
      · have hf := q_ip c5 hf
        refine lv_iconst (pc := 101) (v := 0) hx hb dX10_read_101 (by decide) ?_
        obtain ⟨t6, e6, hf⟩ := q_ob hf
        refine x_cVs (pc := 102) (st1 := []) (w1 := (mw G h z_thrown z_s z_kept z_isKept z_moveMany z_moves z_hands t6.1 t6.2.1 t6.2.2 z_asked z_paint z_leasts z_isSeen z_classMany z_types z_typeCounts z_typeMany z_text z_signs z_at_2 z_lacks_2 z_clauses_2 z_begun_2 z_letters_2 z_firsts_2 z_seconds_2 z_aside z_sorts z_sizes z_items)) X E hI (c_X10_troubled l G h e6) kv_X10_307 hd_X10_troubled ⟨rfl, rfl⟩ (by decide) 0 rfl rfl rfl rfl hl.1 rfl (Nat.le_of_ble_eq_true rfl) dX10_read_102 ⟨Nat.le_of_ble_eq_true rfl, Nat.le_of_ble_eq_true rfl⟩ rfl (fun H locs hI => ?_)
        refine lv_aload_n (pc := 105) hx hb dX10_read_105 rfl (lv_at hl 1 rfl) ?_
        refine lv_iconst (pc := 106) (v := 0) hx hb dX10_read_106 (by decide) ?_
        refine x_put (pc := 107) (w' := (mw G h z_thrown z_s z_kept z_isKept z_moveMany z_moves z_hands t6.1 t6.2.1 t6.2.2 z_asked z_paint z_leasts z_isSeen z_classMany z_types z_typeCounts z_typeMany z_text 0 z_at_2 z_lacks_2 z_clauses_2 z_begun_2 z_letters_2 z_firsts_2 z_seconds_2 z_aside z_sorts z_sizes z_items)) X E hI inX10 tyX10 tyX10_ok nmX10 0 rfl rfl 19 (by decide) tw_4_8 rfl rfl rfl (Nat.le_of_ble_eq_true rfl) rfl dX10_read_107 (fun H locs hI => ?_)
        refine lv_iload_n (pc := 110) hx hb dX10_read_110 rfl (lv_at hl 0 rfl) ?_
        refine lv_if_eq (pc := 111) (tgt := 122) hx hb dX10_read_111 (by decide) (fun c7 => ?_) (fun c7 => ?_)
        · exact absurd c7 (by decide)
        · refine lv_bipush (pc := 114) (v := (-10)) hx hb dX10_read_114 (by decide) ?_
          refine lv_aload_n (pc := 116) hx hb dX10_read_116 rfl (lv_at hl 1 rfl) ?_
          refine x_get (pc := 117) X E hI inX10 0 rfl rfl 20 (by decide) tw_4_9 rfl dX10_read_117 ?_
          refine lv_isub (pc := 120) hx hb dX10_read_120 ?_
          obtain rfl := Option.some.inj hf
          exact x_iret X hI dX10_read_121
      · have hf := q_in c5 hf
        refine lv_iconst (pc := 97) (v := 1) hx hb dX10_read_97 (by decide) ?_
        refine lv_goto (pc := 98) (tgt := 102) hx hb dX10_read_98 (by decide) ?_
        obtain ⟨t8, e8, hf⟩ := q_ob hf
        refine x_cVs (pc := 102) (st1 := []) (w1 := (mw G h z_thrown z_s z_kept z_isKept z_moveMany z_moves z_hands t8.1 t8.2.1 t8.2.2 z_asked z_paint z_leasts z_isSeen z_classMany z_types z_typeCounts z_typeMany z_text z_signs z_at_2 z_lacks_2 z_clauses_2 z_begun_2 z_letters_2 z_firsts_2 z_seconds_2 z_aside z_sorts z_sizes z_items)) X E hI (c_X10_troubled l G h e8) kv_X10_307 hd_X10_troubled ⟨rfl, rfl⟩ (by decide) 0 rfl rfl rfl rfl hl.1 rfl (Nat.le_of_ble_eq_true rfl) dX10_read_102 ⟨Nat.le_of_ble_eq_true rfl, Nat.le_of_ble_eq_true rfl⟩ rfl (fun H locs hI => ?_)
        refine lv_aload_n (pc := 105) hx hb dX10_read_105 rfl (lv_at hl 1 rfl) ?_
        refine lv_iconst (pc := 106) (v := 0) hx hb dX10_read_106 (by decide) ?_
        refine x_put (pc := 107) (w' := (mw G h z_thrown z_s z_kept z_isKept z_moveMany z_moves z_hands t8.1 t8.2.1 t8.2.2 z_asked z_paint z_leasts z_isSeen z_classMany z_types z_typeCounts z_typeMany z_text 0 z_at_2 z_lacks_2 z_clauses_2 z_begun_2 z_letters_2 z_firsts_2 z_seconds_2 z_aside z_sorts z_sizes z_items)) X E hI inX10 tyX10 tyX10_ok nmX10 0 rfl rfl 19 (by decide) tw_4_8 rfl rfl rfl (Nat.le_of_ble_eq_true rfl) rfl dX10_read_107 (fun H locs hI => ?_)
        refine lv_iload_n (pc := 110) hx hb dX10_read_110 rfl (lv_at hl 0 rfl) ?_
        refine lv_if_eq (pc := 111) (tgt := 122) hx hb dX10_read_111 (by decide) (fun c9 => ?_) (fun c9 => ?_)
        · exact absurd c9 (by decide)
        · refine lv_bipush (pc := 114) (v := (-10)) hx hb dX10_read_114 (by decide) ?_
          refine lv_aload_n (pc := 116) hx hb dX10_read_116 rfl (lv_at hl 1 rfl) ?_
          refine x_get (pc := 117) X E hI inX10 0 rfl rfl 20 (by decide) tw_4_9 rfl dX10_read_117 ?_
          refine lv_isub (pc := 120) hx hb dX10_read_120 ?_
          obtain rfl := Option.some.inj hf
          exact x_iret X hI dX10_read_121
  · have hf := q_ip c3 hf
    refine lv_aload_n (pc := 68) hx hb dX10_read_68 rfl (lv_at hl 0 rfl) ?_
    refine x_get (pc := 69) X E hI inX10 0 rfl rfl 20 (by decide) tw_4_9 rfl dX10_read_69 ?_
    refine lv_aload_n (pc := 72) hx hb dX10_read_72 rfl (lv_at hl 0 rfl) ?_
    refine x_get (pc := 73) X E hI inX10 0 rfl rfl 19 (by decide) tw_4_8 rfl dX10_read_73 ?_
    refine lv_icmp_ge (pc := 76) (tgt := 83) hx hb dX10_read_76 (by decide) (fun c10 => ?_) (fun c10 => ?_)
    · have hf := q_ip c10 hf
      refine lv_iconst (pc := 83) (v := 0) hx hb dX10_read_83 (by decide) ?_
      refine lv_istore_n (pc := 84) (lv' := [(1, .int 0), (0, .ref (h 0))]) hx hb dX10_read_84 rfl hl (by decide) rfl (fun ls hl => ?_)
      refine lv_iload_n (pc := 85) hx hb dX10_read_85 rfl (lv_at hl 0 rfl) ?_
      refine lv_if_eq (pc := 86) (tgt := 105) hx hb dX10_read_86 (by decide) (fun c11 => ?_) (fun c11 => ?_)
      · refine lv_aload_n (pc := 105) hx hb dX10_read_105 rfl (lv_at hl 1 rfl) ?_
        refine lv_iconst (pc := 106) (v := 0) hx hb dX10_read_106 (by decide) ?_
        refine x_put (pc := 107) (w' := (mw G h z_thrown z_s z_kept z_isKept z_moveMany z_moves z_hands z_troubles z_troubleSorts z_troubleNumbers z_asked z_paint z_leasts z_isSeen z_classMany z_types z_typeCounts z_typeMany z_text 0 z_at_2 z_lacks_2 z_clauses_2 z_begun_2 z_letters_2 z_firsts_2 z_seconds_2 z_aside z_sorts z_sizes z_items)) X E hI inX10 tyX10 tyX10_ok nmX10 0 rfl rfl 19 (by decide) tw_4_8 rfl rfl rfl (Nat.le_of_ble_eq_true rfl) rfl dX10_read_107 (fun H locs hI => ?_)
        refine lv_iload_n (pc := 110) hx hb dX10_read_110 rfl (lv_at hl 0 rfl) ?_
        refine lv_if_eq (pc := 111) (tgt := 122) hx hb dX10_read_111 (by decide) (fun c12 => ?_) (fun c12 => ?_)
        · refine lv_iconst (pc := 122) (v := 0) hx hb dX10_read_122 (by decide) ?_
          refine lv_istore_n (pc := 123) (lv' := [(2, .int 0), (1, .int 0), (0, .ref (h 0))]) hx hb dX10_read_123 rfl hl (by decide) rfl (fun ls hl => ?_)
          refine lv_iconst (pc := 124) (v := 0) hx hb dX10_read_124 (by decide) ?_
          refine lv_istore_n (pc := 125) (lv' := [(3, .int 0), (2, .int 0), (1, .int 0), (0, .ref (h 0))]) hx hb dX10_read_125 rfl hl (by decide) rfl (fun ls hl => ?_)
          refine k_X10_read_L126 X E (fun l2_13 l3_13 z_s_13 z_moveMany_13 z_moves_13 z_hands_13 z_troubles_13 z_troubleSorts_13 z_troubleNumbers_13 H locs ls hI hl hf => ?_) hI (lv_sub hl [3, 1, 0] rfl) hf
          refine lv_iload_n (pc := 156) hx hb dX10_read_156 rfl (lv_at hl 1 rfl) ?_
          obtain rfl := Option.some.inj hf
          exact x_iret X hI dX10_read_157
        · exact absurd c12 (by decide)
      · exact absurd c11 (by decide)
    · have hf := q_in c10 hf
      refine lv_iconst (pc := 79) (v := 1) hx hb dX10_read_79 (by decide) ?_
      refine lv_goto (pc := 80) (tgt := 84) hx hb dX10_read_80 (by decide) ?_
      refine lv_istore_n (pc := 84) (lv' := [(1, .int 1), (0, .ref (h 0))]) hx hb dX10_read_84 rfl hl (by decide) rfl (fun ls hl => ?_)
      refine lv_iload_n (pc := 85) hx hb dX10_read_85 rfl (lv_at hl 0 rfl) ?_
      refine lv_if_eq (pc := 86) (tgt := 105) hx hb dX10_read_86 (by decide) (fun c14 => ?_) (fun c14 => ?_)
      · exact absurd c14 (by decide)
      · refine lv_aload_n (pc := 89) hx hb dX10_read_89 rfl (lv_at hl 1 rfl) ?_
        refine lv_aload_n (pc := 90) hx hb dX10_read_90 rfl (lv_at hl 1 rfl) ?_
        refine x_get (pc := 91) X E hI inX10 0 rfl rfl 21 (by decide) tw_4_10 rfl dX10_read_91 ?_
        refine lv_if_eq (pc := 94) (tgt := 101) hx hb dX10_read_94 (by decide) (fun c15 => ?_) (fun c15 => ?_)
        · have hf := q_ip c15 hf
          refine lv_iconst (pc := 101) (v := 0) hx hb dX10_read_101 (by decide) ?_
          obtain ⟨t16, e16, hf⟩ := q_ob hf
          refine x_cVs (pc := 102) (st1 := []) (w1 := (mw G h z_thrown z_s z_kept z_isKept z_moveMany z_moves z_hands t16.1 t16.2.1 t16.2.2 z_asked z_paint z_leasts z_isSeen z_classMany z_types z_typeCounts z_typeMany z_text z_signs z_at_2 z_lacks_2 z_clauses_2 z_begun_2 z_letters_2 z_firsts_2 z_seconds_2 z_aside z_sorts z_sizes z_items)) X E hI (c_X10_troubled l G h e16) kv_X10_307 hd_X10_troubled ⟨rfl, rfl⟩ (by decide) 0 rfl rfl rfl rfl hl.1 rfl (Nat.le_of_ble_eq_true rfl) dX10_read_102 ⟨Nat.le_of_ble_eq_true rfl, Nat.le_of_ble_eq_true rfl⟩ rfl (fun H locs hI => ?_)
          refine lv_aload_n (pc := 105) hx hb dX10_read_105 rfl (lv_at hl 1 rfl) ?_
          refine lv_iconst (pc := 106) (v := 0) hx hb dX10_read_106 (by decide) ?_
          refine x_put (pc := 107) (w' := (mw G h z_thrown z_s z_kept z_isKept z_moveMany z_moves z_hands t16.1 t16.2.1 t16.2.2 z_asked z_paint z_leasts z_isSeen z_classMany z_types z_typeCounts z_typeMany z_text 0 z_at_2 z_lacks_2 z_clauses_2 z_begun_2 z_letters_2 z_firsts_2 z_seconds_2 z_aside z_sorts z_sizes z_items)) X E hI inX10 tyX10 tyX10_ok nmX10 0 rfl rfl 19 (by decide) tw_4_8 rfl rfl rfl (Nat.le_of_ble_eq_true rfl) rfl dX10_read_107 (fun H locs hI => ?_)
          refine lv_iload_n (pc := 110) hx hb dX10_read_110 rfl (lv_at hl 0 rfl) ?_
          refine lv_if_eq (pc := 111) (tgt := 122) hx hb dX10_read_111 (by decide) (fun c17 => ?_) (fun c17 => ?_)
          · exact absurd c17 (by decide)
          · refine lv_bipush (pc := 114) (v := (-10)) hx hb dX10_read_114 (by decide) ?_
            refine lv_aload_n (pc := 116) hx hb dX10_read_116 rfl (lv_at hl 1 rfl) ?_
            refine x_get (pc := 117) X E hI inX10 0 rfl rfl 20 (by decide) tw_4_9 rfl dX10_read_117 ?_
            refine lv_isub (pc := 120) hx hb dX10_read_120 ?_
            obtain rfl := Option.some.inj hf
            exact x_iret X hI dX10_read_121
        · have hf := q_in c15 hf
          refine lv_iconst (pc := 97) (v := 1) hx hb dX10_read_97 (by decide) ?_
          refine lv_goto (pc := 98) (tgt := 102) hx hb dX10_read_98 (by decide) ?_
          obtain ⟨t18, e18, hf⟩ := q_ob hf
          refine x_cVs (pc := 102) (st1 := []) (w1 := (mw G h z_thrown z_s z_kept z_isKept z_moveMany z_moves z_hands t18.1 t18.2.1 t18.2.2 z_asked z_paint z_leasts z_isSeen z_classMany z_types z_typeCounts z_typeMany z_text z_signs z_at_2 z_lacks_2 z_clauses_2 z_begun_2 z_letters_2 z_firsts_2 z_seconds_2 z_aside z_sorts z_sizes z_items)) X E hI (c_X10_troubled l G h e18) kv_X10_307 hd_X10_troubled ⟨rfl, rfl⟩ (by decide) 0 rfl rfl rfl rfl hl.1 rfl (Nat.le_of_ble_eq_true rfl) dX10_read_102 ⟨Nat.le_of_ble_eq_true rfl, Nat.le_of_ble_eq_true rfl⟩ rfl (fun H locs hI => ?_)
          refine lv_aload_n (pc := 105) hx hb dX10_read_105 rfl (lv_at hl 1 rfl) ?_
          refine lv_iconst (pc := 106) (v := 0) hx hb dX10_read_106 (by decide) ?_
          refine x_put (pc := 107) (w' := (mw G h z_thrown z_s z_kept z_isKept z_moveMany z_moves z_hands t18.1 t18.2.1 t18.2.2 z_asked z_paint z_leasts z_isSeen z_classMany z_types z_typeCounts z_typeMany z_text 0 z_at_2 z_lacks_2 z_clauses_2 z_begun_2 z_letters_2 z_firsts_2 z_seconds_2 z_aside z_sorts z_sizes z_items)) X E hI inX10 tyX10 tyX10_ok nmX10 0 rfl rfl 19 (by decide) tw_4_8 rfl rfl rfl (Nat.le_of_ble_eq_true rfl) rfl dX10_read_107 (fun H locs hI => ?_)
          refine lv_iload_n (pc := 110) hx hb dX10_read_110 rfl (lv_at hl 0 rfl) ?_
          refine lv_if_eq (pc := 111) (tgt := 122) hx hb dX10_read_111 (by decide) (fun c19 => ?_) (fun c19 => ?_)
          · exact absurd c19 (by decide)
          · refine lv_bipush (pc := 114) (v := (-10)) hx hb dX10_read_114 (by decide) ?_
            refine lv_aload_n (pc := 116) hx hb dX10_read_116 rfl (lv_at hl 1 rfl) ?_
            refine x_get (pc := 117) X E hI inX10 0 rfl rfl 20 (by decide) tw_4_9 rfl dX10_read_117 ?_
            refine lv_isub (pc := 120) hx hb dX10_read_120 ?_
            obtain rfl := Option.some.inj hf
            exact x_iret X hI dX10_read_121

abbrev rm_X10_cause : Room := { frames := 1, cells := 0, slots := 0, locals := 25 }
set_option maxHeartbeats 4000000 in
set_option maxRecDepth 100000 in
theorem c_X10_cause (l : Launch) (G : GX) (h : Nat → Nat) {l1 : Int32} {l2 : Int32} {z_troubles : Int32} {z_troubleSorts : Nat → Int32} {z_troubleNumbers : Nat → Int32} {z_thrown : Int32} {z_s : Nat → Int32} {z_kept : Nat → Int32} {z_isKept : Int32} {z_moveMany : Int32} {z_moves : Nat → Int32} {z_hands : Nat → Int32} {z_asked : Nat → Int32} {z_paint : Nat → Int32} {z_leasts : Nat → Int32} {z_isSeen : Nat → Int32} {z_classMany : Int32} {z_types : Nat → Int32} {z_typeCounts : Nat → Int32} {z_typeMany : Int32} {z_text : Nat → Int32} {z_signs : Int32} {z_at : Int32} {z_lacks : Int32} {z_clauses : Int32} {z_begun : Int32} {z_letters : Nat → Int32} {z_firsts : Nat → Int32} {z_seconds : Nat → Int32} {z_aside : Nat → Int32} {z_sorts : Nat → Int32} {z_sizes : Nat → Int32} {z_items : Nat → Int64} {res : Int32} (hf : f_X10_cause l1 l2 z_troubles z_troubleSorts z_troubleNumbers = some res) : MX l yX10_cause cX10_cause 3 (some .int) rm_X10_cause G (mw G h z_thrown z_s z_kept z_isKept z_moveMany z_moves z_hands z_troubles z_troubleSorts z_troubleNumbers z_asked z_paint z_leasts z_isSeen z_classMany z_types z_typeCounts z_typeMany z_text z_signs z_at z_lacks z_clauses z_begun z_letters z_firsts z_seconds z_aside z_sorts z_sizes z_items) [.ref (h 0), .int l1, .int l2] (mw G h z_thrown z_s z_kept z_isKept z_moveMany z_moves z_hands z_troubles z_troubleSorts z_troubleNumbers z_asked z_paint z_leasts z_isSeen z_classMany z_types z_typeCounts z_typeMany z_text z_signs z_at z_lacks z_clauses z_begun z_letters z_firsts z_seconds z_aside z_sorts z_sizes z_items) (some (.int res)) 0 0 := by
  refine MX.of (plainFor_of_name (by decide)) (Nat.le_of_ble_eq_true rfl) ?_
  intro p e s m below meth c A X E hI ls hl
  obtain ⟨hx, hb, hml, hown, hts, hr, hlk⟩ := id X
  have hl : lv_has ls 3 [(0, .ref (h 0)), (1, .int l1), (2, .int l2)] := hl
  unfold f_X10_cause at hf
  refine lv_iload_n (pc := 0) hx hb dX10_cause_0 rfl (lv_at hl 1 rfl) ?_
  refine lv_if_lt (pc := 1) (tgt := 14) hx hb dX10_cause_1 (by decide) (fun c1 => ?_) (fun c1 => ?_)
  · have hf := q_ip c1 hf
    refine lv_iconst (pc := 14) (v := (-1)) hx hb dX10_cause_14 (by decide) ?_
    obtain rfl := Option.some.inj hf
    exact x_iret X hI dX10_cause_15
  · have hf := q_in c1 hf
    refine lv_iload_n (pc := 4) hx hb dX10_cause_4 rfl (lv_at hl 2 rfl) ?_
    refine lv_i2l (pc := 5) (v := (l2 : Int32).toInt64) hx hb dX10_cause_5 rfl ?_
    refine lv_lconst (pc := 6) (v := 0) hx hb dX10_cause_6 (by decide) ?_
    refine lv_lconst (pc := 7) (v := 1) hx hb dX10_cause_7 (by decide) ?_
    obtain ⟨t2, e2, hf⟩ := q_ob hf
    refine x_cSn (pc := 8) (st1 := [.int t2]) X E hI (c_X10_in l G e2) ks_X10_85 hd_X10_in ⟨rfl, rfl⟩ (by decide) rfl hl.1 rfl (Nat.le_of_ble_eq_true rfl) dX10_cause_8 ⟨Nat.le_of_ble_eq_true rfl, Nat.le_of_ble_eq_true rfl⟩ rfl (fun H locs hI => ?_)
    refine lv_if_ne (pc := 11) (tgt := 16) hx hb dX10_cause_11 (by decide) (fun c3 => ?_) (fun c3 => ?_)
    · have hf := q_in c3 hf
      refine lv_iload_n (pc := 16) hx hb dX10_cause_16 rfl (lv_at hl 1 rfl) ?_
      refine lv_aload_n (pc := 17) hx hb dX10_cause_17 rfl (lv_at hl 0 rfl) ?_
      refine x_get (pc := 18) X E hI inX10 0 rfl rfl 7 (by decide) tw_3_236 rfl dX10_cause_18 ?_
      refine lv_icmp_lt (pc := 21) (tgt := 29) hx hb dX10_cause_21 (by decide) (fun c4 => ?_) (fun c4 => ?_)
      · have hf := q_ip c4 hf
        refine lv_iload_n (pc := 29) hx hb dX10_cause_29 rfl (lv_at hl 2 rfl) ?_
        refine lv_if_ne (pc := 30) (tgt := 42) hx hb dX10_cause_30 (by decide) (fun c5 => ?_) (fun c5 => ?_)
        · have hf := q_in c5 hf
          refine lv_aload_n (pc := 42) hx hb dX10_cause_42 rfl (lv_at hl 0 rfl) ?_
          refine x_get (pc := 43) X E hI inX10 0 rfl rfl 9 (by decide) tw_3_238 rfl dX10_cause_43 ?_
          refine lv_iload_n (pc := 46) hx hb dX10_cause_46 rfl (lv_at hl 1 rfl) ?_
          obtain ⟨t6, e6, hf⟩ := q_ob hf
          refine x_iald (pc := 47) X E hI 6 rfl e6 dX10_cause_47 ?_
          obtain rfl := Option.some.inj hf
          exact x_iret X hI dX10_cause_48
        · have hf := q_ip c5 hf
          refine lv_aload_n (pc := 33) hx hb dX10_cause_33 rfl (lv_at hl 0 rfl) ?_
          refine x_get (pc := 34) X E hI inX10 0 rfl rfl 8 (by decide) tw_3_237 rfl dX10_cause_34 ?_
          refine lv_iload_n (pc := 37) hx hb dX10_cause_37 rfl (lv_at hl 1 rfl) ?_
          obtain ⟨t7, e7, hf⟩ := q_ob hf
          refine x_iald (pc := 38) X E hI 5 rfl e7 dX10_cause_38 ?_
          refine lv_goto (pc := 39) (tgt := 48) hx hb dX10_cause_39 (by decide) ?_
          obtain rfl := Option.some.inj hf
          exact x_iret X hI dX10_cause_48
      · have hf := q_in c4 hf
        refine lv_bipush (pc := 24) (v := (-5)) hx hb dX10_cause_24 (by decide) ?_
        refine lv_goto (pc := 26) (tgt := 48) hx hb dX10_cause_26 (by decide) ?_
        obtain rfl := Option.some.inj hf
        exact x_iret X hI dX10_cause_48
    · have hf := q_ip c3 hf
      refine lv_iconst (pc := 14) (v := (-1)) hx hb dX10_cause_14 (by decide) ?_
      obtain rfl := Option.some.inj hf
      exact x_iret X hI dX10_cause_15

abbrev rm_X10_see : Room := { frames := 1, cells := 0, slots := 0, locals := 26 }
set_option maxHeartbeats 4000000 in
set_option maxRecDepth 100000 in
theorem c_X10_see (l : Launch) (G : GX) (h : Nat → Nat) {l1 : Int32} {l2 : Int32} {l3 : Int32} {z_s : Nat → Int32} {z_thrown : Int32} {z_kept : Nat → Int32} {z_isKept : Int32} {z_moveMany : Int32} {z_moves : Nat → Int32} {z_hands : Nat → Int32} {z_troubles : Int32} {z_troubleSorts : Nat → Int32} {z_troubleNumbers : Nat → Int32} {z_asked : Nat → Int32} {z_paint : Nat → Int32} {z_leasts : Nat → Int32} {z_isSeen : Nat → Int32} {z_classMany : Int32} {z_types : Nat → Int32} {z_typeCounts : Nat → Int32} {z_typeMany : Int32} {z_text : Nat → Int32} {z_signs : Int32} {z_at : Int32} {z_lacks : Int32} {z_clauses : Int32} {z_begun : Int32} {z_letters : Nat → Int32} {z_firsts : Nat → Int32} {z_seconds : Nat → Int32} {z_aside : Nat → Int32} {z_sorts : Nat → Int32} {z_sizes : Nat → Int32} {z_items : Nat → Int64} {res : Int32 × (Nat → Int32)} (hf : f_X10_see l1 l2 l3 z_s = some res) : MX l yX10_see cX10_see 5 (some .int) rm_X10_see G (mw G h z_thrown z_s z_kept z_isKept z_moveMany z_moves z_hands z_troubles z_troubleSorts z_troubleNumbers z_asked z_paint z_leasts z_isSeen z_classMany z_types z_typeCounts z_typeMany z_text z_signs z_at z_lacks z_clauses z_begun z_letters z_firsts z_seconds z_aside z_sorts z_sizes z_items) [.ref (h 0), .int l1, .int l2, .int l3] (mw G h z_thrown res.2 z_kept z_isKept z_moveMany z_moves z_hands z_troubles z_troubleSorts z_troubleNumbers z_asked z_paint z_leasts z_isSeen z_classMany z_types z_typeCounts z_typeMany z_text z_signs z_at z_lacks z_clauses z_begun z_letters z_firsts z_seconds z_aside z_sorts z_sizes z_items) (some (.int res.1)) 0 0 := by
  refine MX.of (plainFor_of_name (by decide)) (Nat.le_of_ble_eq_true rfl) ?_
  intro p e s m below meth c A X E hI ls hl
  obtain ⟨hx, hb, hml, hown, hts, hr, hlk⟩ := id X
  have hl : lv_has ls 5 [(0, .ref (h 0)), (1, .int l1), (2, .int l2), (3, .int l3)] := hl
  unfold f_X10_see at hf
  refine lv_iload_n (pc := 0) hx hb dX10_see_0 rfl (lv_at hl 1 rfl) ?_
  refine lv_iconst (pc := 1) (v := (-1)) hx hb dX10_see_1 (by decide) ?_
  refine lv_icmp_ne (pc := 2) (tgt := 14) hx hb dX10_see_2 (by decide) (fun c1 => ?_) (fun c1 => ?_)
  · have hf := q_in c1 hf
    refine lv_aload_n (pc := 14) hx hb dX10_see_14 rfl (lv_at hl 0 rfl) ?_
    refine lv_iload_n (pc := 15) hx hb dX10_see_15 rfl (lv_at hl 1 rfl) ?_
    obtain ⟨t2, e2, hf⟩ := q_ob hf
    refine x_cVs (pc := 16) (st1 := [.int t2]) (w1 := (mw G h z_thrown z_s z_kept z_isKept z_moveMany z_moves z_hands z_troubles z_troubleSorts z_troubleNumbers z_asked z_paint z_leasts z_isSeen z_classMany z_types z_typeCounts z_typeMany z_text z_signs z_at z_lacks z_clauses z_begun z_letters z_firsts z_seconds z_aside z_sorts z_sizes z_items)) X E hI (c_X10_indexOf l G h e2) kv_X10_233 hd_X10_indexOf ⟨rfl, rfl⟩ (by decide) 0 rfl rfl rfl rfl hl.1 rfl (Nat.le_of_ble_eq_true rfl) dX10_see_16 ⟨Nat.le_of_ble_eq_true rfl, Nat.le_of_ble_eq_true rfl⟩ rfl (fun H locs hI => ?_)
    refine lv_iconst (pc := 19) (v := (-1)) hx hb dX10_see_19 (by decide) ?_
    refine lv_icmp_eq (pc := 20) (tgt := 32) hx hb dX10_see_20 (by decide) (fun c3 => ?_) (fun c3 => ?_)
    · have hf := q_ip c3 hf
      refine lv_bipush (pc := 32) (v := (-2)) hx hb dX10_see_32 (by decide) ?_
      obtain rfl := Option.some.inj hf
      exact x_iret X hI dX10_see_34
    · have hf := q_in c3 hf
      refine lv_aload_n (pc := 23) hx hb dX10_see_23 rfl (lv_at hl 0 rfl) ?_
      refine lv_iload_n (pc := 24) hx hb dX10_see_24 rfl (lv_at hl 2 rfl) ?_
      obtain ⟨t4, e4, hf⟩ := q_ob hf
      refine x_cVs (pc := 25) (st1 := [.int t4]) (w1 := (mw G h z_thrown z_s z_kept z_isKept z_moveMany z_moves z_hands z_troubles z_troubleSorts z_troubleNumbers z_asked z_paint z_leasts z_isSeen z_classMany z_types z_typeCounts z_typeMany z_text z_signs z_at z_lacks z_clauses z_begun z_letters z_firsts z_seconds z_aside z_sorts z_sizes z_items)) X E hI (c_X10_indexOf l G h e4) kv_X10_233 hd_X10_indexOf ⟨rfl, rfl⟩ (by decide) 0 rfl rfl rfl rfl hl.1 rfl (Nat.le_of_ble_eq_true rfl) dX10_see_25 ⟨Nat.le_of_ble_eq_true rfl, Nat.le_of_ble_eq_true rfl⟩ rfl (fun H locs hI => ?_)
      refine lv_iconst (pc := 28) (v := (-1)) hx hb dX10_see_28 (by decide) ?_
      refine lv_icmp_ne (pc := 29) (tgt := 35) hx hb dX10_see_29 (by decide) (fun c5 => ?_) (fun c5 => ?_)
      · have hf := q_in c5 hf
        refine lv_aload_n (pc := 35) hx hb dX10_see_35 rfl (lv_at hl 0 rfl) ?_
        refine x_get (pc := 36) X E hI inX10 0 rfl rfl 1 (by decide) tw_3_230 rfl dX10_see_36 ?_
        refine lv_iconst (pc := 39) (v := 3) hx hb dX10_see_39 (by decide) ?_
        obtain ⟨t6, e6, hf⟩ := q_ob hf
        refine x_iald (pc := 40) X E hI 1 rfl e6 dX10_see_40 ?_
        refine lv_iconst (pc := 41) (v := 5) hx hb dX10_see_41 (by decide) ?_
        refine lv_icmp_ne (pc := 42) (tgt := 48) hx hb dX10_see_42 (by decide) (fun c7 => ?_) (fun c7 => ?_)
        · have hf := q_in c7 hf
          refine lv_bipush (pc := 48) (v := 46) hx hb dX10_see_48 (by decide) ?_
          refine lv_iconst (pc := 50) (v := 4) hx hb dX10_see_50 (by decide) ?_
          refine lv_aload_n (pc := 51) hx hb dX10_see_51 rfl (lv_at hl 0 rfl) ?_
          refine x_get (pc := 52) X E hI inX10 0 rfl rfl 1 (by decide) tw_3_230 rfl dX10_see_52 ?_
          refine lv_iconst (pc := 55) (v := 3) hx hb dX10_see_55 (by decide) ?_
          obtain ⟨t8, e8, hf⟩ := q_ob hf
          refine x_iald (pc := 56) X E hI 1 rfl e8 dX10_see_56 ?_
          refine lv_imul (pc := 57) hx hb dX10_see_57 ?_
          refine lv_iadd (pc := 58) hx hb dX10_see_58 ?_
          refine lv_istore (pc := 59) (lv' := [(4, .int (46 + (4 * t8))), (0, .ref (h 0)), (1, .int l1), (2, .int l2), (3, .int l3)]) hx hb dX10_see_59 hl (by decide) rfl (fun ls hl => ?_)
          refine lv_aload_n (pc := 61) hx hb dX10_see_61 rfl (lv_at hl 1 rfl) ?_
          refine x_get (pc := 62) X E hI inX10 0 rfl rfl 1 (by decide) tw_3_230 rfl dX10_see_62 ?_
          refine lv_iload (pc := 65) hx hb dX10_see_65 (lv_at hl 0 rfl) ?_
          refine lv_iload_n (pc := 67) hx hb dX10_see_67 rfl (lv_at hl 2 rfl) ?_
          obtain ⟨t9, e9, hf⟩ := q_ob hf
          refine x_iast (pc := 68) (w' := (mw G h z_thrown t9 z_kept z_isKept z_moveMany z_moves z_hands z_troubles z_troubleSorts z_troubleNumbers z_asked z_paint z_leasts z_isSeen z_classMany z_types z_typeCounts z_typeMany z_text z_signs z_at z_lacks z_clauses z_begun z_letters z_firsts z_seconds z_aside z_sorts z_sizes z_items)) X E hI 1 rfl e9 rfl dX10_see_68 (fun H locs hI => ?_)
          refine lv_aload_n (pc := 69) hx hb dX10_see_69 rfl (lv_at hl 1 rfl) ?_
          refine x_get (pc := 70) X E hI inX10 0 rfl rfl 1 (by decide) tw_3_230 rfl dX10_see_70 ?_
          refine lv_iload (pc := 73) hx hb dX10_see_73 (lv_at hl 0 rfl) ?_
          refine lv_iconst (pc := 75) (v := 1) hx hb dX10_see_75 (by decide) ?_
          refine lv_iadd (pc := 76) hx hb dX10_see_76 ?_
          refine lv_iload_n (pc := 77) hx hb dX10_see_77 rfl (lv_at hl 3 rfl) ?_
          obtain ⟨t10, e10, hf⟩ := q_ob hf
          refine x_iast (pc := 78) (w' := (mw G h z_thrown t10 z_kept z_isKept z_moveMany z_moves z_hands z_troubles z_troubleSorts z_troubleNumbers z_asked z_paint z_leasts z_isSeen z_classMany z_types z_typeCounts z_typeMany z_text z_signs z_at z_lacks z_clauses z_begun z_letters z_firsts z_seconds z_aside z_sorts z_sizes z_items)) X E hI 1 rfl e10 rfl dX10_see_78 (fun H locs hI => ?_)
          refine lv_aload_n (pc := 79) hx hb dX10_see_79 rfl (lv_at hl 1 rfl) ?_
          refine x_get (pc := 80) X E hI inX10 0 rfl rfl 1 (by decide) tw_3_230 rfl dX10_see_80 ?_
          refine lv_iload (pc := 83) hx hb dX10_see_83 (lv_at hl 0 rfl) ?_
          refine lv_iconst (pc := 85) (v := 2) hx hb dX10_see_85 (by decide) ?_
          refine lv_iadd (pc := 86) hx hb dX10_see_86 ?_
          refine lv_iload_n (pc := 87) hx hb dX10_see_87 rfl (lv_at hl 4 rfl) ?_
          refine lv_if_eq (pc := 88) (tgt := 95) hx hb dX10_see_88 (by decide) (fun c11 => ?_) (fun c11 => ?_)
          · have hf := q_ip c11 hf
            refine lv_iconst (pc := 95) (v := 0) hx hb dX10_see_95 (by decide) ?_
            obtain ⟨t12, e12, hf⟩ := q_ob hf
            refine x_iast (pc := 96) (w' := (mw G h z_thrown t12 z_kept z_isKept z_moveMany z_moves z_hands z_troubles z_troubleSorts z_troubleNumbers z_asked z_paint z_leasts z_isSeen z_classMany z_types z_typeCounts z_typeMany z_text z_signs z_at z_lacks z_clauses z_begun z_letters z_firsts z_seconds z_aside z_sorts z_sizes z_items)) X E hI 1 rfl e12 rfl dX10_see_96 (fun H locs hI => ?_)
            refine lv_aload_n (pc := 97) hx hb dX10_see_97 rfl (lv_at hl 1 rfl) ?_
            refine x_get (pc := 98) X E hI inX10 0 rfl rfl 1 (by decide) tw_3_230 rfl dX10_see_98 ?_
            refine lv_iload (pc := 101) hx hb dX10_see_101 (lv_at hl 0 rfl) ?_
            refine lv_iconst (pc := 103) (v := 3) hx hb dX10_see_103 (by decide) ?_
            refine lv_iadd (pc := 104) hx hb dX10_see_104 ?_
            refine lv_aload_n (pc := 105) hx hb dX10_see_105 rfl (lv_at hl 1 rfl) ?_
            refine x_get (pc := 106) X E hI inX10 0 rfl rfl 1 (by decide) tw_3_230 rfl dX10_see_106 ?_
            refine lv_iconst (pc := 109) (v := 0) hx hb dX10_see_109 (by decide) ?_
            obtain ⟨t13, e13, hf⟩ := q_ob hf
            refine x_iald (pc := 110) X E hI 1 rfl e13 dX10_see_110 ?_
            obtain ⟨t14, e14, hf⟩ := q_ob hf
            refine x_iast (pc := 111) (w' := (mw G h z_thrown t14 z_kept z_isKept z_moveMany z_moves z_hands z_troubles z_troubleSorts z_troubleNumbers z_asked z_paint z_leasts z_isSeen z_classMany z_types z_typeCounts z_typeMany z_text z_signs z_at z_lacks z_clauses z_begun z_letters z_firsts z_seconds z_aside z_sorts z_sizes z_items)) X E hI 1 rfl e14 rfl dX10_see_111 (fun H locs hI => ?_)
            refine lv_aload_n (pc := 112) hx hb dX10_see_112 rfl (lv_at hl 1 rfl) ?_
            refine x_get (pc := 113) X E hI inX10 0 rfl rfl 1 (by decide) tw_3_230 rfl dX10_see_113 ?_
            refine lv_iconst (pc := 116) (v := 3) hx hb dX10_see_116 (by decide) ?_
            refine lv_dup2_11 (pc := 117) hx hb dX10_see_117 rfl rfl ?_
            obtain ⟨t15, e15, hf⟩ := q_ob hf
            refine x_iald (pc := 118) X E hI 1 rfl e15 dX10_see_118 ?_
            refine lv_iconst (pc := 119) (v := 1) hx hb dX10_see_119 (by decide) ?_
            refine lv_iadd (pc := 120) hx hb dX10_see_120 ?_
            obtain ⟨t16, e16, hf⟩ := q_ob hf
            refine x_iast (pc := 121) (w' := (mw G h z_thrown t16 z_kept z_isKept z_moveMany z_moves z_hands z_troubles z_troubleSorts z_troubleNumbers z_asked z_paint z_leasts z_isSeen z_classMany z_types z_typeCounts z_typeMany z_text z_signs z_at z_lacks z_clauses z_begun z_letters z_firsts z_seconds z_aside z_sorts z_sizes z_items)) X E hI 1 rfl e16 rfl dX10_see_121 (fun H locs hI => ?_)
            refine lv_aload_n (pc := 122) hx hb dX10_see_122 rfl (lv_at hl 1 rfl) ?_
            refine x_get (pc := 123) X E hI inX10 0 rfl rfl 1 (by decide) tw_3_230 rfl dX10_see_123 ?_
            refine lv_iconst (pc := 126) (v := 3) hx hb dX10_see_126 (by decide) ?_
            obtain ⟨t17, e17, hf⟩ := q_ob hf
            refine x_iald (pc := 127) X E hI 1 rfl e17 dX10_see_127 ?_
            obtain rfl := Option.some.inj hf
            exact x_iret X hI dX10_see_128
          · have hf := q_in c11 hf
            refine lv_iconst (pc := 91) (v := 1) hx hb dX10_see_91 (by decide) ?_
            refine lv_goto (pc := 92) (tgt := 96) hx hb dX10_see_92 (by decide) ?_
            obtain ⟨t18, e18, hf⟩ := q_ob hf
            refine x_iast (pc := 96) (w' := (mw G h z_thrown t18 z_kept z_isKept z_moveMany z_moves z_hands z_troubles z_troubleSorts z_troubleNumbers z_asked z_paint z_leasts z_isSeen z_classMany z_types z_typeCounts z_typeMany z_text z_signs z_at z_lacks z_clauses z_begun z_letters z_firsts z_seconds z_aside z_sorts z_sizes z_items)) X E hI 1 rfl e18 rfl dX10_see_96 (fun H locs hI => ?_)
            refine lv_aload_n (pc := 97) hx hb dX10_see_97 rfl (lv_at hl 1 rfl) ?_
            refine x_get (pc := 98) X E hI inX10 0 rfl rfl 1 (by decide) tw_3_230 rfl dX10_see_98 ?_
            refine lv_iload (pc := 101) hx hb dX10_see_101 (lv_at hl 0 rfl) ?_
            refine lv_iconst (pc := 103) (v := 3) hx hb dX10_see_103 (by decide) ?_
            refine lv_iadd (pc := 104) hx hb dX10_see_104 ?_
            refine lv_aload_n (pc := 105) hx hb dX10_see_105 rfl (lv_at hl 1 rfl) ?_
            refine x_get (pc := 106) X E hI inX10 0 rfl rfl 1 (by decide) tw_3_230 rfl dX10_see_106 ?_
            refine lv_iconst (pc := 109) (v := 0) hx hb dX10_see_109 (by decide) ?_
            obtain ⟨t19, e19, hf⟩ := q_ob hf
            refine x_iald (pc := 110) X E hI 1 rfl e19 dX10_see_110 ?_
            obtain ⟨t20, e20, hf⟩ := q_ob hf
            refine x_iast (pc := 111) (w' := (mw G h z_thrown t20 z_kept z_isKept z_moveMany z_moves z_hands z_troubles z_troubleSorts z_troubleNumbers z_asked z_paint z_leasts z_isSeen z_classMany z_types z_typeCounts z_typeMany z_text z_signs z_at z_lacks z_clauses z_begun z_letters z_firsts z_seconds z_aside z_sorts z_sizes z_items)) X E hI 1 rfl e20 rfl dX10_see_111 (fun H locs hI => ?_)
            refine lv_aload_n (pc := 112) hx hb dX10_see_112 rfl (lv_at hl 1 rfl) ?_
            refine x_get (pc := 113) X E hI inX10 0 rfl rfl 1 (by decide) tw_3_230 rfl dX10_see_113 ?_
            refine lv_iconst (pc := 116) (v := 3) hx hb dX10_see_116 (by decide) ?_
            refine lv_dup2_11 (pc := 117) hx hb dX10_see_117 rfl rfl ?_
            obtain ⟨t21, e21, hf⟩ := q_ob hf
            refine x_iald (pc := 118) X E hI 1 rfl e21 dX10_see_118 ?_
            refine lv_iconst (pc := 119) (v := 1) hx hb dX10_see_119 (by decide) ?_
            refine lv_iadd (pc := 120) hx hb dX10_see_120 ?_
            obtain ⟨t22, e22, hf⟩ := q_ob hf
            refine x_iast (pc := 121) (w' := (mw G h z_thrown t22 z_kept z_isKept z_moveMany z_moves z_hands z_troubles z_troubleSorts z_troubleNumbers z_asked z_paint z_leasts z_isSeen z_classMany z_types z_typeCounts z_typeMany z_text z_signs z_at z_lacks z_clauses z_begun z_letters z_firsts z_seconds z_aside z_sorts z_sizes z_items)) X E hI 1 rfl e22 rfl dX10_see_121 (fun H locs hI => ?_)
            refine lv_aload_n (pc := 122) hx hb dX10_see_122 rfl (lv_at hl 1 rfl) ?_
            refine x_get (pc := 123) X E hI inX10 0 rfl rfl 1 (by decide) tw_3_230 rfl dX10_see_123 ?_
            refine lv_iconst (pc := 126) (v := 3) hx hb dX10_see_126 (by decide) ?_
            obtain ⟨t23, e23, hf⟩ := q_ob hf
            refine x_iald (pc := 127) X E hI 1 rfl e23 dX10_see_127 ?_
            obtain rfl := Option.some.inj hf
            exact x_iret X hI dX10_see_128
        · have hf := q_ip c7 hf
          refine lv_bipush (pc := 45) (v := (-4)) hx hb dX10_see_45 (by decide) ?_
          obtain rfl := Option.some.inj hf
          exact x_iret X hI dX10_see_47
      · have hf := q_ip c5 hf
        refine lv_bipush (pc := 32) (v := (-2)) hx hb dX10_see_32 (by decide) ?_
        obtain rfl := Option.some.inj hf
        exact x_iret X hI dX10_see_34
  · have hf := q_ip c1 hf
    refine lv_aload_n (pc := 5) hx hb dX10_see_5 rfl (lv_at hl 0 rfl) ?_
    refine x_get (pc := 6) X E hI inX10 0 rfl rfl 1 (by decide) tw_3_230 rfl dX10_see_6 ?_
    refine lv_iconst (pc := 9) (v := 3) hx hb dX10_see_9 (by decide) ?_
    refine lv_iconst (pc := 10) (v := 0) hx hb dX10_see_10 (by decide) ?_
    obtain ⟨t24, e24, hf⟩ := q_ob hf
    refine x_iast (pc := 11) (w' := (mw G h z_thrown t24 z_kept z_isKept z_moveMany z_moves z_hands z_troubles z_troubleSorts z_troubleNumbers z_asked z_paint z_leasts z_isSeen z_classMany z_types z_typeCounts z_typeMany z_text z_signs z_at z_lacks z_clauses z_begun z_letters z_firsts z_seconds z_aside z_sorts z_sizes z_items)) X E hI 1 rfl e24 rfl dX10_see_11 (fun H locs hI => ?_)
    refine lv_iconst (pc := 12) (v := 0) hx hb dX10_see_12 (by decide) ?_
    obtain rfl := Option.some.inj hf
    exact x_iret X hI dX10_see_13

abbrev rm_X10_isSo : Room := { frames := 3, cells := 0, slots := 0, locals := 69 }
set_option maxHeartbeats 4000000 in
set_option maxRecDepth 100000 in
theorem c_X10_isSo (l : Launch) (G : GX) (h : Nat → Nat) {l1 : Int32} {z_s : Nat → Int32} {z_moveMany : Int32} {z_moves : Nat → Int32} {z_hands : Nat → Int32} {z_paint : Nat → Int32} {z_thrown : Int32} {z_kept : Nat → Int32} {z_isKept : Int32} {z_troubles : Int32} {z_troubleSorts : Nat → Int32} {z_troubleNumbers : Nat → Int32} {z_asked : Nat → Int32} {z_leasts : Nat → Int32} {z_isSeen : Nat → Int32} {z_classMany : Int32} {z_types : Nat → Int32} {z_typeCounts : Nat → Int32} {z_typeMany : Int32} {z_text : Nat → Int32} {z_signs : Int32} {z_at : Int32} {z_lacks : Int32} {z_clauses : Int32} {z_begun : Int32} {z_letters : Nat → Int32} {z_firsts : Nat → Int32} {z_seconds : Nat → Int32} {z_aside : Nat → Int32} {z_sorts : Nat → Int32} {z_sizes : Nat → Int32} {z_items : Nat → Int64} {res : Int32 × (Nat → Int32)} (hf : f_X10_isSo l1 z_s z_moveMany z_moves z_hands z_paint = some res) : MX l yX10_isSo cX10_isSo 5 (some .boolean) rm_X10_isSo G (mw G h z_thrown z_s z_kept z_isKept z_moveMany z_moves z_hands z_troubles z_troubleSorts z_troubleNumbers z_asked z_paint z_leasts z_isSeen z_classMany z_types z_typeCounts z_typeMany z_text z_signs z_at z_lacks z_clauses z_begun z_letters z_firsts z_seconds z_aside z_sorts z_sizes z_items) [.ref (h 0), .int l1] (mw G h z_thrown z_s z_kept z_isKept z_moveMany z_moves z_hands z_troubles z_troubleSorts z_troubleNumbers z_asked res.2 z_leasts z_isSeen z_classMany z_types z_typeCounts z_typeMany z_text z_signs z_at z_lacks z_clauses z_begun z_letters z_firsts z_seconds z_aside z_sorts z_sizes z_items) (some (.int res.1)) 0 0 := by
  refine MX.of (plainFor_of_name (by decide)) (Nat.le_of_ble_eq_true rfl) ?_
  intro p e s m below meth c A X E hI ls hl
  obtain ⟨hx, hb, hml, hown, hts, hr, hlk⟩ := id X
  have hl : lv_has ls 5 [(0, .ref (h 0)), (1, .int l1)] := hl
  unfold f_X10_isSo at hf
  refine lv_bipush (pc := 0) (v := 46) hx hb dX10_isSo_0 (by decide) ?_
  refine lv_iconst (pc := 2) (v := 4) hx hb dX10_isSo_2 (by decide) ?_
  refine lv_iload_n (pc := 3) hx hb dX10_isSo_3 rfl (lv_at hl 1 rfl) ?_
  refine lv_imul (pc := 4) hx hb dX10_isSo_4 ?_
  refine lv_iadd (pc := 5) hx hb dX10_isSo_5 ?_
  refine lv_istore_n (pc := 6) (lv' := [(2, .int (46 + (4 * l1))), (0, .ref (h 0)), (1, .int l1)]) hx hb dX10_isSo_6 rfl hl (by decide) rfl (fun ls hl => ?_)
  refine lv_aload_n (pc := 7) hx hb dX10_isSo_7 rfl (lv_at hl 1 rfl) ?_
  refine lv_aload_n (pc := 8) hx hb dX10_isSo_8 rfl (lv_at hl 1 rfl) ?_
  refine x_get (pc := 9) X E hI inX10 0 rfl rfl 1 (by decide) tw_3_230 rfl dX10_isSo_9 ?_
  refine lv_iload_n (pc := 12) hx hb dX10_isSo_12 rfl (lv_at hl 0 rfl) ?_
  obtain ⟨t1, e1, hf⟩ := q_ob hf
  refine x_iald (pc := 13) X E hI 1 rfl e1 dX10_isSo_13 ?_
  obtain ⟨t2, e2, hf⟩ := q_ob hf
  refine x_cVs (pc := 14) (st1 := [.int t2]) (w1 := (mw G h z_thrown z_s z_kept z_isKept z_moveMany z_moves z_hands z_troubles z_troubleSorts z_troubleNumbers z_asked z_paint z_leasts z_isSeen z_classMany z_types z_typeCounts z_typeMany z_text z_signs z_at z_lacks z_clauses z_begun z_letters z_firsts z_seconds z_aside z_sorts z_sizes z_items)) X E hI (c_X10_indexOf l G h e2) kv_X10_233 hd_X10_indexOf ⟨rfl, rfl⟩ (by decide) 0 rfl rfl rfl rfl hl.1 rfl (Nat.le_of_ble_eq_true rfl) dX10_isSo_14 ⟨Nat.le_of_ble_eq_true rfl, Nat.le_of_ble_eq_true rfl⟩ rfl (fun H locs hI => ?_)
  refine lv_istore_n (pc := 17) (lv' := [(3, .int t2), (2, .int (46 + (4 * l1))), (0, .ref (h 0)), (1, .int l1)]) hx hb dX10_isSo_17 rfl hl (by decide) rfl (fun ls hl => ?_)
  refine lv_aload_n (pc := 18) hx hb dX10_isSo_18 rfl (lv_at hl 2 rfl) ?_
  refine lv_aload_n (pc := 19) hx hb dX10_isSo_19 rfl (lv_at hl 2 rfl) ?_
  refine x_get (pc := 20) X E hI inX10 0 rfl rfl 1 (by decide) tw_3_230 rfl dX10_isSo_20 ?_
  refine lv_iload_n (pc := 23) hx hb dX10_isSo_23 rfl (lv_at hl 1 rfl) ?_
  refine lv_iconst (pc := 24) (v := 1) hx hb dX10_isSo_24 (by decide) ?_
  refine lv_iadd (pc := 25) hx hb dX10_isSo_25 ?_
  obtain ⟨t3, e3, hf⟩ := q_ob hf
  refine x_iald (pc := 26) X E hI 1 rfl e3 dX10_isSo_26 ?_
  obtain ⟨t4, e4, hf⟩ := q_ob hf
  refine x_cVs (pc := 27) (st1 := [.int t4]) (w1 := (mw G h z_thrown z_s z_kept z_isKept z_moveMany z_moves z_hands z_troubles z_troubleSorts z_troubleNumbers z_asked z_paint z_leasts z_isSeen z_classMany z_types z_typeCounts z_typeMany z_text z_signs z_at z_lacks z_clauses z_begun z_letters z_firsts z_seconds z_aside z_sorts z_sizes z_items)) X E hI (c_X10_indexOf l G h e4) kv_X10_233 hd_X10_indexOf ⟨rfl, rfl⟩ (by decide) 0 rfl rfl rfl rfl hl.1 rfl (Nat.le_of_ble_eq_true rfl) dX10_isSo_27 ⟨Nat.le_of_ble_eq_true rfl, Nat.le_of_ble_eq_true rfl⟩ rfl (fun H locs hI => ?_)
  refine lv_istore (pc := 30) (lv' := [(4, .int t4), (3, .int t2), (2, .int (46 + (4 * l1))), (0, .ref (h 0)), (1, .int l1)]) hx hb dX10_isSo_30 hl (by decide) rfl (fun ls hl => ?_)
  refine lv_aload_n (pc := 32) hx hb dX10_isSo_32 rfl (lv_at hl 3 rfl) ?_
  refine x_get (pc := 33) X E hI inX10 0 rfl rfl 1 (by decide) tw_3_230 rfl dX10_isSo_33 ?_
  refine lv_iload_n (pc := 36) hx hb dX10_isSo_36 rfl (lv_at hl 2 rfl) ?_
  refine lv_iconst (pc := 37) (v := 3) hx hb dX10_isSo_37 (by decide) ?_
  refine lv_iadd (pc := 38) hx hb dX10_isSo_38 ?_
  obtain ⟨t5, e5, hf⟩ := q_ob hf
  refine x_iald (pc := 39) X E hI 1 rfl e5 dX10_isSo_39 ?_
  refine lv_aload_n (pc := 40) hx hb dX10_isSo_40 rfl (lv_at hl 3 rfl) ?_
  refine x_get (pc := 41) X E hI inX10 0 rfl rfl 1 (by decide) tw_3_230 rfl dX10_isSo_41 ?_
  refine lv_iconst (pc := 44) (v := 0) hx hb dX10_isSo_44 (by decide) ?_
  obtain ⟨t6, e6, hf⟩ := q_ob hf
  refine x_iald (pc := 45) X E hI 1 rfl e6 dX10_isSo_45 ?_
  refine lv_icmp_ne (pc := 46) (tgt := 60) hx hb dX10_isSo_46 (by decide) (fun c7 => ?_) (fun c7 => ?_)
  · have hf := q_in c7 hf
    refine lv_iconst (pc := 60) (v := 0) hx hb dX10_isSo_60 (by decide) ?_
    obtain rfl := Option.some.inj hf
    exact x_zret X hI (Or.inl rfl) dX10_isSo_61
  · have hf := q_ip c7 hf
    refine lv_iload_n (pc := 49) hx hb dX10_isSo_49 rfl (lv_at hl 1 rfl) ?_
    refine lv_iconst (pc := 50) (v := (-1)) hx hb dX10_isSo_50 (by decide) ?_
    refine lv_icmp_eq (pc := 51) (tgt := 60) hx hb dX10_isSo_51 (by decide) (fun c8 => ?_) (fun c8 => ?_)
    · have hf := q_ip c8 hf
      refine lv_iconst (pc := 60) (v := 0) hx hb dX10_isSo_60 (by decide) ?_
      obtain rfl := Option.some.inj hf
      exact x_zret X hI (Or.inl rfl) dX10_isSo_61
    · have hf := q_in c8 hf
      refine lv_iload (pc := 54) hx hb dX10_isSo_54 (lv_at hl 0 rfl) ?_
      refine lv_iconst (pc := 56) (v := (-1)) hx hb dX10_isSo_56 (by decide) ?_
      refine lv_icmp_ne (pc := 57) (tgt := 62) hx hb dX10_isSo_57 (by decide) (fun c9 => ?_) (fun c9 => ?_)
      · have hf := q_in c9 hf
        refine lv_aload_n (pc := 62) hx hb dX10_isSo_62 rfl (lv_at hl 3 rfl) ?_
        refine lv_iconst (pc := 63) (v := 1) hx hb dX10_isSo_63 (by decide) ?_
        refine lv_iload_n (pc := 64) hx hb dX10_isSo_64 rfl (lv_at hl 1 rfl) ?_
        obtain ⟨t10, e10, hf⟩ := q_ob hf
        refine x_cVs (pc := 65) (st1 := [.int t10.1]) (w1 := (mw G h z_thrown z_s z_kept z_isKept z_moveMany z_moves z_hands z_troubles z_troubleSorts z_troubleNumbers z_asked t10.2 z_leasts z_isSeen z_classMany z_types z_typeCounts z_typeMany z_text z_signs z_at z_lacks z_clauses z_begun z_letters z_firsts z_seconds z_aside z_sorts z_sizes z_items)) X E hI (c_X10_leastOf l G h e10) kv_X10_195 hd_X10_leastOf ⟨rfl, rfl⟩ (by decide) 0 rfl rfl rfl rfl hl.1 rfl (Nat.le_of_ble_eq_true rfl) dX10_isSo_65 ⟨Nat.le_of_ble_eq_true rfl, Nat.le_of_ble_eq_true rfl⟩ rfl (fun H locs hI => ?_)
        refine lv_aload_n (pc := 68) hx hb dX10_isSo_68 rfl (lv_at hl 3 rfl) ?_
        refine lv_iconst (pc := 69) (v := 1) hx hb dX10_isSo_69 (by decide) ?_
        refine lv_iload (pc := 70) hx hb dX10_isSo_70 (lv_at hl 0 rfl) ?_
        obtain ⟨t11, e11, hf⟩ := q_ob hf
        refine x_cVs (pc := 72) (st1 := [.int t11.1, .int t10.1]) (w1 := (mw G h z_thrown z_s z_kept z_isKept z_moveMany z_moves z_hands z_troubles z_troubleSorts z_troubleNumbers z_asked t11.2 z_leasts z_isSeen z_classMany z_types z_typeCounts z_typeMany z_text z_signs z_at z_lacks z_clauses z_begun z_letters z_firsts z_seconds z_aside z_sorts z_sizes z_items)) X E hI (c_X10_leastOf l G h e11) kv_X10_195 hd_X10_leastOf ⟨rfl, rfl⟩ (by decide) 0 rfl rfl rfl rfl hl.1 rfl (Nat.le_of_ble_eq_true rfl) dX10_isSo_72 ⟨Nat.le_of_ble_eq_true rfl, Nat.le_of_ble_eq_true rfl⟩ rfl (fun H locs hI => ?_)
        refine lv_icmp_ne (pc := 75) (tgt := 82) hx hb dX10_isSo_75 (by decide) (fun c12 => ?_) (fun c12 => ?_)
        · have hf := q_in c12 hf
          refine lv_iconst (pc := 82) (v := 0) hx hb dX10_isSo_82 (by decide) ?_
          refine lv_aload_n (pc := 83) hx hb dX10_isSo_83 rfl (lv_at hl 3 rfl) ?_
          refine x_get (pc := 84) X E hI inX10 0 rfl rfl 1 (by decide) tw_3_230 rfl dX10_isSo_84 ?_
          refine lv_iload_n (pc := 87) hx hb dX10_isSo_87 rfl (lv_at hl 2 rfl) ?_
          refine lv_iconst (pc := 88) (v := 2) hx hb dX10_isSo_88 (by decide) ?_
          refine lv_iadd (pc := 89) hx hb dX10_isSo_89 ?_
          obtain ⟨t13, e13, hf⟩ := q_ob hf
          refine x_iald (pc := 90) X E hI 1 rfl e13 dX10_isSo_90 ?_
          refine lv_iconst (pc := 91) (v := 1) hx hb dX10_isSo_91 (by decide) ?_
          refine lv_icmp_ne (pc := 92) (tgt := 99) hx hb dX10_isSo_92 (by decide) (fun c14 => ?_) (fun c14 => ?_)
          · have hf := q_in c14 hf
            refine lv_iconst (pc := 99) (v := 0) hx hb dX10_isSo_99 (by decide) ?_
            refine lv_icmp_ne (pc := 100) (tgt := 107) hx hb dX10_isSo_100 (by decide) (fun c15 => ?_) (fun c15 => ?_)
            · exact absurd c15 (by decide)
            · refine lv_iconst (pc := 103) (v := 1) hx hb dX10_isSo_103 (by decide) ?_
              refine lv_goto (pc := 104) (tgt := 108) hx hb dX10_isSo_104 (by decide) ?_
              obtain rfl := Option.some.inj hf
              exact x_zret X hI (Or.inr rfl) dX10_isSo_108
          · have hf := q_ip c14 hf
            refine lv_iconst (pc := 95) (v := 1) hx hb dX10_isSo_95 (by decide) ?_
            refine lv_goto (pc := 96) (tgt := 100) hx hb dX10_isSo_96 (by decide) ?_
            refine lv_icmp_ne (pc := 100) (tgt := 107) hx hb dX10_isSo_100 (by decide) (fun c16 => ?_) (fun c16 => ?_)
            · refine lv_iconst (pc := 107) (v := 0) hx hb dX10_isSo_107 (by decide) ?_
              obtain rfl := Option.some.inj hf
              exact x_zret X hI (Or.inl rfl) dX10_isSo_108
            · exact absurd c16 (by decide)
        · have hf := q_ip c12 hf
          refine lv_iconst (pc := 78) (v := 1) hx hb dX10_isSo_78 (by decide) ?_
          refine lv_goto (pc := 79) (tgt := 83) hx hb dX10_isSo_79 (by decide) ?_
          refine lv_aload_n (pc := 83) hx hb dX10_isSo_83 rfl (lv_at hl 3 rfl) ?_
          refine x_get (pc := 84) X E hI inX10 0 rfl rfl 1 (by decide) tw_3_230 rfl dX10_isSo_84 ?_
          refine lv_iload_n (pc := 87) hx hb dX10_isSo_87 rfl (lv_at hl 2 rfl) ?_
          refine lv_iconst (pc := 88) (v := 2) hx hb dX10_isSo_88 (by decide) ?_
          refine lv_iadd (pc := 89) hx hb dX10_isSo_89 ?_
          obtain ⟨t17, e17, hf⟩ := q_ob hf
          refine x_iald (pc := 90) X E hI 1 rfl e17 dX10_isSo_90 ?_
          refine lv_iconst (pc := 91) (v := 1) hx hb dX10_isSo_91 (by decide) ?_
          refine lv_icmp_ne (pc := 92) (tgt := 99) hx hb dX10_isSo_92 (by decide) (fun c18 => ?_) (fun c18 => ?_)
          · have hf := q_in c18 hf
            refine lv_iconst (pc := 99) (v := 0) hx hb dX10_isSo_99 (by decide) ?_
            refine lv_icmp_ne (pc := 100) (tgt := 107) hx hb dX10_isSo_100 (by decide) (fun c19 => ?_) (fun c19 => ?_)
            · refine lv_iconst (pc := 107) (v := 0) hx hb dX10_isSo_107 (by decide) ?_
              obtain rfl := Option.some.inj hf
              exact x_zret X hI (Or.inl rfl) dX10_isSo_108
            · exact absurd c19 (by decide)
          · have hf := q_ip c18 hf
            refine lv_iconst (pc := 95) (v := 1) hx hb dX10_isSo_95 (by decide) ?_
            refine lv_goto (pc := 96) (tgt := 100) hx hb dX10_isSo_96 (by decide) ?_
            refine lv_icmp_ne (pc := 100) (tgt := 107) hx hb dX10_isSo_100 (by decide) (fun c20 => ?_) (fun c20 => ?_)
            · exact absurd c20 (by decide)
            · refine lv_iconst (pc := 103) (v := 1) hx hb dX10_isSo_103 (by decide) ?_
              refine lv_goto (pc := 104) (tgt := 108) hx hb dX10_isSo_104 (by decide) ?_
              obtain rfl := Option.some.inj hf
              exact x_zret X hI (Or.inr rfl) dX10_isSo_108
      · have hf := q_ip c9 hf
        refine lv_iconst (pc := 60) (v := 0) hx hb dX10_isSo_60 (by decide) ?_
        obtain rfl := Option.some.inj hf
        exact x_zret X hI (Or.inl rfl) dX10_isSo_61

abbrev rm_X10_isAllSo : Room := { frames := 4, cells := 0, slots := 0, locals := 93 }
set_option maxHeartbeats 4000000 in
set_option maxRecDepth 100000 in
theorem k_X10_isAllSo_L2 {p : Program} {l : Launch} {e : Env} {s : State} {m : MethodId} {args : Array Value} {below : List Frame} {meth : Method} {c : Code} {A : Nat → Prop} {G : GX} {h : Nat → Nat} {z_thrown : Int32} {z_s : Nat → Int32} {z_kept : Nat → Int32} {z_isKept : Int32} {z_moveMany : Int32} {z_moves : Nat → Int32} {z_hands : Nat → Int32} {z_troubles : Int32} {z_troubleSorts : Nat → Int32} {z_troubleNumbers : Nat → Int32} {z_asked : Nat → Int32} {z_leasts : Nat → Int32} {z_isSeen : Nat → Int32} {z_classMany : Int32} {z_types : Nat → Int32} {z_typeCounts : Nat → Int32} {z_typeMany : Int32} {z_text : Nat → Int32} {z_signs : Int32} {z_at : Int32} {z_lacks : Int32} {z_clauses : Int32} {z_begun : Int32} {z_letters : Nat → Int32} {z_firsts : Nat → Int32} {z_seconds : Nat → Int32} {z_aside : Nat → Int32} {z_sorts : Nat → Int32} {z_sizes : Nat → Int32} {z_items : Nat → Int64} {K : Int32 → (Nat → Int32) → Option (Int32 × (Nat → Int32))} {res : Int32 × (Nat → Int32)} (X : CX RX10 cX10_isAllSo 2 (some .boolean) p s m args meth c) (E : EX G A s)
    (hK : ∀ (l1 : Int32) (z_paint : (Nat → Int32)) (H : Heap) (locs : List Loc) (ls : Array Slot), IN A G (mw G h z_thrown z_s z_kept z_isKept z_moveMany z_moves z_hands z_troubles z_troubleSorts z_troubleNumbers z_asked z_paint z_leasts z_isSeen z_classMany z_types z_typeCounts z_typeMany z_text z_signs z_at z_lacks z_clauses z_begun z_letters z_firsts z_seconds z_aside z_sorts z_sizes z_items) s H locs → lv_has ls 2 [(0, .ref (h 0)), (1, .int l1)] → K l1 z_paint = some res → W p l e rm_X10_isAllSo s m args below meth c H locs 0 0 (MQ below (QX G A (mw G h z_thrown z_s z_kept z_isKept z_moveMany z_moves z_hands z_troubles z_troubleSorts z_troubleNumbers z_asked res.2 z_leasts z_isSeen z_classMany z_types z_typeCounts z_typeMany z_text z_signs z_at z_lacks z_clauses z_begun z_letters z_firsts z_seconds z_aside z_sorts z_sizes z_items) (some (.int res.1))) args s 0 0 A) (F0 m 28 ls [])) :
    ∀ {k : Nat} {l1 : Int32} {z_paint : (Nat → Int32)} {H : Heap} {locs : List Loc} {ls : Array Slot}, IN A G (mw G h z_thrown z_s z_kept z_isKept z_moveMany z_moves z_hands z_troubles z_troubleSorts z_troubleNumbers z_asked z_paint z_leasts z_isSeen z_classMany z_types z_typeCounts z_typeMany z_text z_signs z_at z_lacks z_clauses z_begun z_letters z_firsts z_seconds z_aside z_sorts z_sizes z_items) s H locs → lv_has ls 2 [(0, .ref (h 0)), (1, .int l1)] → f_X10_isAllSo_L2 z_s z_moveMany z_moves z_hands K k l1 z_paint = some res → W p l e rm_X10_isAllSo s m args below meth c H locs 0 0 (MQ below (QX G A (mw G h z_thrown z_s z_kept z_isKept z_moveMany z_moves z_hands z_troubles z_troubleSorts z_troubleNumbers z_asked res.2 z_leasts z_isSeen z_classMany z_types z_typeCounts z_typeMany z_text z_signs z_at z_lacks z_clauses z_begun z_letters z_firsts z_seconds z_aside z_sorts z_sizes z_items) (some (.int res.1))) args s 0 0 A) (F0 m 2 ls []) := by
  obtain ⟨hx, hb, hml, hown, hts, hr, hlk⟩ := id X
  intro k
  induction k with
  | zero => intro l1 z_paint H locs ls hI hl hf; exact nomatch (show none = some res from hf)
  | succ k ih =>
    intro l1 z_paint H locs ls hI hl hf
    rw [f_X10_isAllSo_L2] at hf
    refine lv_iload_n (pc := 2) hx hb dX10_isAllSo_2 rfl (lv_at hl 1 rfl) ?_
    refine lv_aload_n (pc := 3) hx hb dX10_isAllSo_3 rfl (lv_at hl 0 rfl) ?_
    refine x_get (pc := 4) X E hI inX10 0 rfl rfl 1 (by decide) tw_3_230 rfl dX10_isAllSo_4 ?_
    refine lv_iconst (pc := 7) (v := 3) hx hb dX10_isAllSo_7 (by decide) ?_
    obtain ⟨t1, e1, hf⟩ := q_ob hf
    refine x_iald (pc := 8) X E hI 1 rfl e1 dX10_isAllSo_8 ?_
    refine lv_icmp_ge (pc := 9) (tgt := 28) hx hb dX10_isAllSo_9 (by decide) (fun c2 => ?_) (fun c2 => ?_)
    · have hf := q_ip c2 hf
      exact hK _ _ _ _ _ hI (lv_sub hl [0, 1] rfl) hf
    · have hf := q_in c2 hf
      refine lv_aload_n (pc := 12) hx hb dX10_isAllSo_12 rfl (lv_at hl 0 rfl) ?_
      refine lv_iload_n (pc := 13) hx hb dX10_isAllSo_13 rfl (lv_at hl 1 rfl) ?_
      obtain ⟨t3, e3, hf⟩ := q_ob hf
      refine x_cVs (pc := 14) (st1 := [.int t3.1]) (w1 := (mw G h z_thrown z_s z_kept z_isKept z_moveMany z_moves z_hands z_troubles z_troubleSorts z_troubleNumbers z_asked t3.2 z_leasts z_isSeen z_classMany z_types z_typeCounts z_typeMany z_text z_signs z_at z_lacks z_clauses z_begun z_letters z_firsts z_seconds z_aside z_sorts z_sizes z_items)) X E hI (c_X10_isSo l G h e3) kv_X10_314 hd_X10_isSo ⟨rfl, rfl⟩ (by decide) 0 rfl rfl rfl rfl hl.1 rfl (Nat.le_of_ble_eq_true rfl) dX10_isAllSo_14 ⟨Nat.le_of_ble_eq_true rfl, Nat.le_of_ble_eq_true rfl⟩ rfl (fun H locs hI => ?_)
      refine lv_if_ne (pc := 17) (tgt := 22) hx hb dX10_isAllSo_17 (by decide) (fun c4 => ?_) (fun c4 => ?_)
      · have hf := q_in c4 hf
        refine lv_iinc (pc := 22) (v := l1 + 1) (lv' := [(1, .int (l1 + 1)), (0, .ref (h 0))]) hx hb dX10_isAllSo_22 hl (k := 1) rfl rfl (by decide) rfl (fun ls hl => ?_)
        refine lv_goto (pc := 25) (tgt := 2) hx hb dX10_isAllSo_25 (by decide) ?_
        exact ih hI (lv_sub hl [1, 0] rfl) hf
      · have hf := q_ip c4 hf
        refine lv_iconst (pc := 20) (v := 0) hx hb dX10_isAllSo_20 (by decide) ?_
        obtain rfl := Option.some.inj hf
        exact x_zret X hI (Or.inl rfl) dX10_isAllSo_21

set_option maxHeartbeats 4000000 in
set_option maxRecDepth 100000 in
theorem c_X10_isAllSo (l : Launch) (G : GX) (h : Nat → Nat) {z_s : Nat → Int32} {z_moveMany : Int32} {z_moves : Nat → Int32} {z_hands : Nat → Int32} {z_paint : Nat → Int32} {z_thrown : Int32} {z_kept : Nat → Int32} {z_isKept : Int32} {z_troubles : Int32} {z_troubleSorts : Nat → Int32} {z_troubleNumbers : Nat → Int32} {z_asked : Nat → Int32} {z_leasts : Nat → Int32} {z_isSeen : Nat → Int32} {z_classMany : Int32} {z_types : Nat → Int32} {z_typeCounts : Nat → Int32} {z_typeMany : Int32} {z_text : Nat → Int32} {z_signs : Int32} {z_at : Int32} {z_lacks : Int32} {z_clauses : Int32} {z_begun : Int32} {z_letters : Nat → Int32} {z_firsts : Nat → Int32} {z_seconds : Nat → Int32} {z_aside : Nat → Int32} {z_sorts : Nat → Int32} {z_sizes : Nat → Int32} {z_items : Nat → Int64} {res : Int32 × (Nat → Int32)} (hf : f_X10_isAllSo z_s z_moveMany z_moves z_hands z_paint = some res) : MX l yX10_isAllSo cX10_isAllSo 2 (some .boolean) rm_X10_isAllSo G (mw G h z_thrown z_s z_kept z_isKept z_moveMany z_moves z_hands z_troubles z_troubleSorts z_troubleNumbers z_asked z_paint z_leasts z_isSeen z_classMany z_types z_typeCounts z_typeMany z_text z_signs z_at z_lacks z_clauses z_begun z_letters z_firsts z_seconds z_aside z_sorts z_sizes z_items) [.ref (h 0)] (mw G h z_thrown z_s z_kept z_isKept z_moveMany z_moves z_hands z_troubles z_troubleSorts z_troubleNumbers z_asked res.2 z_leasts z_isSeen z_classMany z_types z_typeCounts z_typeMany z_text z_signs z_at z_lacks z_clauses z_begun z_letters z_firsts z_seconds z_aside z_sorts z_sizes z_items) (some (.int res.1)) 0 0 := by
  refine MX.of (plainFor_of_name (by decide)) (Nat.le_of_ble_eq_true rfl) ?_
  intro p e s m below meth c A X E hI ls hl
  obtain ⟨hx, hb, hml, hown, hts, hr, hlk⟩ := id X
  have hl : lv_has ls 2 [(0, .ref (h 0))] := hl
  unfold f_X10_isAllSo at hf
  refine lv_iconst (pc := 0) (v := 0) hx hb dX10_isAllSo_0 (by decide) ?_
  refine lv_istore_n (pc := 1) (lv' := [(1, .int 0), (0, .ref (h 0))]) hx hb dX10_isAllSo_1 rfl hl (by decide) rfl (fun ls hl => ?_)
  refine k_X10_isAllSo_L2 X E (fun l1_1 z_paint_1 H locs ls hI hl hf => ?_) hI (lv_sub hl [1, 0] rfl) hf
  refine lv_iconst (pc := 28) (v := 1) hx hb dX10_isAllSo_28 (by decide) ?_
  obtain rfl := Option.some.inj hf
  exact x_zret X hI (Or.inr rfl) dX10_isAllSo_29

abbrev rm_X10_fits : Room := { frames := 5, cells := 0, slots := 0, locals := 114 }
set_option maxHeartbeats 4000000 in
set_option maxRecDepth 100000 in
theorem k_X10_fits_L23 {p : Program} {l : Launch} {e : Env} {s : State} {m : MethodId} {args : Array Value} {below : List Frame} {meth : Method} {c : Code} {A : Nat → Prop} {G : GX} {h : Nat → Nat} {l1 : Int32} {z_thrown : Int32} {z_s : Nat → Int32} {z_kept : Nat → Int32} {z_isKept : Int32} {z_troubles : Int32} {z_troubleSorts : Nat → Int32} {z_troubleNumbers : Nat → Int32} {z_asked : Nat → Int32} {z_leasts : Nat → Int32} {z_isSeen : Nat → Int32} {z_classMany : Int32} {z_types : Nat → Int32} {z_typeCounts : Nat → Int32} {z_typeMany : Int32} {z_text : Nat → Int32} {z_signs : Int32} {z_at : Int32} {z_lacks : Int32} {z_clauses : Int32} {z_begun : Int32} {z_letters : Nat → Int32} {z_firsts : Nat → Int32} {z_seconds : Nat → Int32} {z_aside : Nat → Int32} {z_sorts : Nat → Int32} {z_sizes : Nat → Int32} {z_items : Nat → Int64} {K : Int32 → Int32 → Int32 → Int32 → (Nat → Int32) → (Nat → Int32) → (Nat → Int32) → Option (Int32 × Int32 × (Nat → Int32) × (Nat → Int32) × (Nat → Int32))} {res : Int32 × Int32 × (Nat → Int32) × (Nat → Int32) × (Nat → Int32)} (X : CX RX10 cX10_fits 5 (some .int) p s m args meth c) (E : EX G A s)
    (hK : ∀ (l2 : Int32) (l3 : Int32) (l4 : Int32) (z_moveMany : Int32) (z_moves : (Nat → Int32)) (z_hands : (Nat → Int32)) (z_paint : (Nat → Int32)) (H : Heap) (locs : List Loc) (ls : Array Slot), IN A G (mw G h z_thrown z_s z_kept z_isKept z_moveMany z_moves z_hands z_troubles z_troubleSorts z_troubleNumbers z_asked z_paint z_leasts z_isSeen z_classMany z_types z_typeCounts z_typeMany z_text z_signs z_at z_lacks z_clauses z_begun z_letters z_firsts z_seconds z_aside z_sorts z_sizes z_items) s H locs → lv_has ls 5 [(0, .ref (h 0)), (1, .int l1), (2, .int l2), (3, .int l3), (4, .int l4)] → K l2 l3 l4 z_moveMany z_moves z_hands z_paint = some res → W p l e rm_X10_fits s m args below meth c H locs 0 0 (MQ below (QX G A (mw G h z_thrown z_s z_kept z_isKept res.2.1 res.2.2.1 res.2.2.2.1 z_troubles z_troubleSorts z_troubleNumbers z_asked res.2.2.2.2 z_leasts z_isSeen z_classMany z_types z_typeCounts z_typeMany z_text z_signs z_at z_lacks z_clauses z_begun z_letters z_firsts z_seconds z_aside z_sorts z_sizes z_items) (some (.int res.1))) args s 0 0 A) (F0 m 57 ls [])) :
    ∀ {k : Nat} {l2 : Int32} {l3 : Int32} {l4 : Int32} {z_moveMany : Int32} {z_moves : (Nat → Int32)} {z_hands : (Nat → Int32)} {z_paint : (Nat → Int32)} {H : Heap} {locs : List Loc} {ls : Array Slot}, IN A G (mw G h z_thrown z_s z_kept z_isKept z_moveMany z_moves z_hands z_troubles z_troubleSorts z_troubleNumbers z_asked z_paint z_leasts z_isSeen z_classMany z_types z_typeCounts z_typeMany z_text z_signs z_at z_lacks z_clauses z_begun z_letters z_firsts z_seconds z_aside z_sorts z_sizes z_items) s H locs → lv_has ls 5 [(0, .ref (h 0)), (1, .int l1), (2, .int l2), (3, .int l3), (4, .int l4)] → f_X10_fits_L23 l1 z_s K k l2 l3 l4 z_moveMany z_moves z_hands z_paint = some res → W p l e rm_X10_fits s m args below meth c H locs 0 0 (MQ below (QX G A (mw G h z_thrown z_s z_kept z_isKept res.2.1 res.2.2.1 res.2.2.2.1 z_troubles z_troubleSorts z_troubleNumbers z_asked res.2.2.2.2 z_leasts z_isSeen z_classMany z_types z_typeCounts z_typeMany z_text z_signs z_at z_lacks z_clauses z_begun z_letters z_firsts z_seconds z_aside z_sorts z_sizes z_items) (some (.int res.1))) args s 0 0 A) (F0 m 23 ls []) := by
  obtain ⟨hx, hb, hml, hown, hts, hr, hlk⟩ := id X
  intro k
  induction k with
  | zero => intro l2 l3 l4 z_moveMany z_moves z_hands z_paint H locs ls hI hl hf; exact nomatch (show none = some res from hf)
  | succ k ih =>
    intro l2 l3 l4 z_moveMany z_moves z_hands z_paint H locs ls hI hl hf
    rw [f_X10_fits_L23] at hf
    refine lv_iload (pc := 23) hx hb dX10_fits_23 (lv_at hl 4 rfl) ?_
    refine lv_if_lt (pc := 25) (tgt := 57) hx hb dX10_fits_25 (by decide) (fun c1 => ?_) (fun c1 => ?_)
    · have hf := q_ip c1 hf
      exact hK _ _ _ _ _ _ _ _ _ _ hI (lv_sub hl [0, 1, 2, 3, 4] rfl) hf
    · have hf := q_in c1 hf
      refine lv_aload_n (pc := 28) hx hb dX10_fits_28 rfl (lv_at hl 0 rfl) ?_
      refine lv_iload (pc := 29) hx hb dX10_fits_29 (lv_at hl 4 rfl) ?_
      obtain ⟨t2, e2, hf⟩ := q_ob hf
      refine x_cVs (pc := 31) (st1 := [.int t2.1]) (w1 := (mw G h z_thrown z_s z_kept z_isKept t2.2.1 t2.2.2.1 t2.2.2.2 z_troubles z_troubleSorts z_troubleNumbers z_asked z_paint z_leasts z_isSeen z_classMany z_types z_typeCounts z_typeMany z_text z_signs z_at z_lacks z_clauses z_begun z_letters z_firsts z_seconds z_aside z_sorts z_sizes z_items)) X E hI (c_X10_moves l G h e2) kv_X10_130 hd_X10_moves ⟨rfl, rfl⟩ (by decide) 0 rfl rfl rfl rfl hl.1 rfl (Nat.le_of_ble_eq_true rfl) dX10_fits_31 ⟨Nat.le_of_ble_eq_true rfl, Nat.le_of_ble_eq_true rfl⟩ rfl (fun H locs hI => ?_)
      refine lv_pop (pc := 34) hx hb dX10_fits_34 rfl ?_
      refine lv_aload_n (pc := 35) hx hb dX10_fits_35 rfl (lv_at hl 0 rfl) ?_
      obtain ⟨t3, e3, hf⟩ := q_ob hf
      refine x_cVs (pc := 36) (st1 := [.int t3.1]) (w1 := (mw G h z_thrown z_s z_kept z_isKept t2.2.1 t2.2.2.1 t2.2.2.2 z_troubles z_troubleSorts z_troubleNumbers z_asked t3.2 z_leasts z_isSeen z_classMany z_types z_typeCounts z_typeMany z_text z_signs z_at z_lacks z_clauses z_begun z_letters z_firsts z_seconds z_aside z_sorts z_sizes z_items)) X E hI (c_X10_isAllSo l G h e3) kv_X10_317 hd_X10_isAllSo ⟨rfl, rfl⟩ (by decide) 0 rfl rfl rfl rfl hl.1 rfl (Nat.le_of_ble_eq_true rfl) dX10_fits_36 ⟨Nat.le_of_ble_eq_true rfl, Nat.le_of_ble_eq_true rfl⟩ rfl (fun H locs hI => ?_)
      refine lv_if_ne (pc := 39) (tgt := 45) hx hb dX10_fits_39 (by decide) (fun c4 => ?_) (fun c4 => ?_)
      · have hf := q_in c4 hf
        refine lv_iinc (pc := 45) (v := l2 + 1) (lv' := [(2, .int (l2 + 1)), (0, .ref (h 0)), (1, .int l1), (3, .int l3), (4, .int l4)]) hx hb dX10_fits_45 hl (k := 2) rfl rfl (by decide) rfl (fun ls hl => ?_)
        refine lv_iload (pc := 48) hx hb dX10_fits_48 (lv_at hl 4 rfl) ?_
        refine lv_istore_n (pc := 50) (lv' := [(3, .int l4), (2, .int (l2 + 1)), (0, .ref (h 0)), (1, .int l1), (4, .int l4)]) hx hb dX10_fits_50 rfl hl (by decide) rfl (fun ls hl => ?_)
        refine lv_iinc (pc := 51) (v := l4 + (-1)) (lv' := [(4, .int (l4 + (-1))), (3, .int l4), (2, .int (l2 + 1)), (0, .ref (h 0)), (1, .int l1)]) hx hb dX10_fits_51 hl (k := 4) rfl rfl (by decide) rfl (fun ls hl => ?_)
        refine lv_goto (pc := 54) (tgt := 23) hx hb dX10_fits_54 (by decide) ?_
        exact ih hI (lv_sub hl [3, 4, 2, 1, 0] rfl) hf
      · have hf := q_ip c4 hf
        refine lv_goto (pc := 42) (tgt := 51) hx hb dX10_fits_42 (by decide) ?_
        refine lv_iinc (pc := 51) (v := l4 + (-1)) (lv' := [(4, .int (l4 + (-1))), (0, .ref (h 0)), (1, .int l1), (2, .int l2), (3, .int l3)]) hx hb dX10_fits_51 hl (k := 4) rfl rfl (by decide) rfl (fun ls hl => ?_)
        refine lv_goto (pc := 54) (tgt := 23) hx hb dX10_fits_54 (by decide) ?_
        exact ih hI (lv_sub hl [1, 2, 3, 4, 0] rfl) hf

set_option maxHeartbeats 4000000 in
set_option maxRecDepth 100000 in
theorem c_X10_fits (l : Launch) (G : GX) (h : Nat → Nat) {l1 : Int32} {z_s : Nat → Int32} {z_moveMany : Int32} {z_moves : Nat → Int32} {z_hands : Nat → Int32} {z_paint : Nat → Int32} {z_thrown : Int32} {z_kept : Nat → Int32} {z_isKept : Int32} {z_troubles : Int32} {z_troubleSorts : Nat → Int32} {z_troubleNumbers : Nat → Int32} {z_asked : Nat → Int32} {z_leasts : Nat → Int32} {z_isSeen : Nat → Int32} {z_classMany : Int32} {z_types : Nat → Int32} {z_typeCounts : Nat → Int32} {z_typeMany : Int32} {z_text : Nat → Int32} {z_signs : Int32} {z_at : Int32} {z_lacks : Int32} {z_clauses : Int32} {z_begun : Int32} {z_letters : Nat → Int32} {z_firsts : Nat → Int32} {z_seconds : Nat → Int32} {z_aside : Nat → Int32} {z_sorts : Nat → Int32} {z_sizes : Nat → Int32} {z_items : Nat → Int64} {res : Int32 × Int32 × (Nat → Int32) × (Nat → Int32) × (Nat → Int32)} (hf : f_X10_fits l1 z_s z_moveMany z_moves z_hands z_paint = some res) : MX l yX10_fits cX10_fits 5 (some .int) rm_X10_fits G (mw G h z_thrown z_s z_kept z_isKept z_moveMany z_moves z_hands z_troubles z_troubleSorts z_troubleNumbers z_asked z_paint z_leasts z_isSeen z_classMany z_types z_typeCounts z_typeMany z_text z_signs z_at z_lacks z_clauses z_begun z_letters z_firsts z_seconds z_aside z_sorts z_sizes z_items) [.ref (h 0), .int l1] (mw G h z_thrown z_s z_kept z_isKept res.2.1 res.2.2.1 res.2.2.2.1 z_troubles z_troubleSorts z_troubleNumbers z_asked res.2.2.2.2 z_leasts z_isSeen z_classMany z_types z_typeCounts z_typeMany z_text z_signs z_at z_lacks z_clauses z_begun z_letters z_firsts z_seconds z_aside z_sorts z_sizes z_items) (some (.int res.1)) 0 0 := by
  refine MX.of (plainFor_of_name (by decide)) (Nat.le_of_ble_eq_true rfl) ?_
  intro p e s m below meth c A X E hI ls hl
  obtain ⟨hx, hb, hml, hown, hts, hr, hlk⟩ := id X
  have hl : lv_has ls 5 [(0, .ref (h 0)), (1, .int l1)] := hl
  unfold f_X10_fits at hf
  refine lv_iload_n (pc := 0) hx hb dX10_fits_0 rfl (lv_at hl 1 rfl) ?_
  refine lv_i2l (pc := 1) (v := (l1 : Int32).toInt64) hx hb dX10_fits_1 rfl ?_
  refine lv_lconst (pc := 2) (v := 0) hx hb dX10_fits_2 (by decide) ?_
  refine lv_lconst (pc := 3) (v := 1) hx hb dX10_fits_3 (by decide) ?_
  obtain ⟨t1, e1, hf⟩ := q_ob hf
  refine x_cSn (pc := 4) (st1 := [.int t1]) X E hI (c_X10_in l G e1) ks_X10_85 hd_X10_in ⟨rfl, rfl⟩ (by decide) rfl hl.1 rfl (Nat.le_of_ble_eq_true rfl) dX10_fits_4 ⟨Nat.le_of_ble_eq_true rfl, Nat.le_of_ble_eq_true rfl⟩ rfl (fun H locs hI => ?_)
  refine lv_if_ne (pc := 7) (tgt := 12) hx hb dX10_fits_7 (by decide) (fun c2 => ?_) (fun c2 => ?_)
  · have hf := q_in c2 hf
    refine lv_iconst (pc := 12) (v := 0) hx hb dX10_fits_12 (by decide) ?_
    refine lv_istore_n (pc := 13) (lv' := [(2, .int 0), (0, .ref (h 0)), (1, .int l1)]) hx hb dX10_fits_13 rfl hl (by decide) rfl (fun ls hl => ?_)
    refine lv_bipush (pc := 14) (v := (-5)) hx hb dX10_fits_14 (by decide) ?_
    refine lv_istore_n (pc := 16) (lv' := [(3, .int ((-5))), (2, .int 0), (0, .ref (h 0)), (1, .int l1)]) hx hb dX10_fits_16 rfl hl (by decide) rfl (fun ls hl => ?_)
    refine lv_aload_n (pc := 17) hx hb dX10_fits_17 rfl (lv_at hl 2 rfl) ?_
    obtain ⟨t3, e3, hf⟩ := q_ob hf
    refine x_cVs (pc := 18) (st1 := [.int t3]) (w1 := (mw G h z_thrown z_s z_kept z_isKept z_moveMany z_moves z_hands z_troubles z_troubleSorts z_troubleNumbers z_asked z_paint z_leasts z_isSeen z_classMany z_types z_typeCounts z_typeMany z_text z_signs z_at z_lacks z_clauses z_begun z_letters z_firsts z_seconds z_aside z_sorts z_sizes z_items)) X E hI (c_X10_allGenerators l G h e3) kv_X10_126 hd_X10_allGenerators ⟨rfl, rfl⟩ (by decide) 0 rfl rfl rfl rfl hl.1 rfl (Nat.le_of_ble_eq_true rfl) dX10_fits_18 ⟨Nat.le_of_ble_eq_true rfl, Nat.le_of_ble_eq_true rfl⟩ rfl (fun H locs hI => ?_)
    refine lv_istore (pc := 21) (lv' := [(4, .int t3), (3, .int ((-5))), (2, .int 0), (0, .ref (h 0)), (1, .int l1)]) hx hb dX10_fits_21 hl (by decide) rfl (fun ls hl => ?_)
    refine k_X10_fits_L23 X E (fun l2_4 l3_4 l4_4 z_moveMany_4 z_moves_4 z_hands_4 z_paint_4 H locs ls hI hl hf => ?_) hI (lv_sub hl [3, 4, 2, 1, 0] rfl) hf
    refine lv_iload_n (pc := 57) hx hb dX10_fits_57 rfl (lv_at hl 1 rfl) ?_
    refine lv_if_ne (pc := 58) (tgt := 65) hx hb dX10_fits_58 (by decide) (fun c5 => ?_) (fun c5 => ?_)
    · have hf := q_in c5 hf
      refine lv_iload_n (pc := 65) hx hb dX10_fits_65 rfl (lv_at hl 3 rfl) ?_
      obtain rfl := Option.some.inj hf
      exact x_iret X hI dX10_fits_66
    · have hf := q_ip c5 hf
      refine lv_iload_n (pc := 61) hx hb dX10_fits_61 rfl (lv_at hl 2 rfl) ?_
      refine lv_goto (pc := 62) (tgt := 66) hx hb dX10_fits_62 (by decide) ?_
      obtain rfl := Option.some.inj hf
      exact x_iret X hI dX10_fits_66
  · have hf := q_ip c2 hf
    refine lv_iconst (pc := 10) (v := (-1)) hx hb dX10_fits_10 (by decide) ?_
    obtain rfl := Option.some.inj hf
    exact x_iret X hI dX10_fits_11

abbrev rm_X10_event : Room := { frames := 1, cells := 0, slots := 0, locals := 25 }
set_option maxHeartbeats 4000000 in
set_option maxRecDepth 100000 in
theorem c_X10_event (l : Launch) (G : GX) (h : Nat → Nat) {l1 : Int32} {l2 : Int32} {z_s : Nat → Int32} {z_thrown : Int32} {z_kept : Nat → Int32} {z_isKept : Int32} {z_moveMany : Int32} {z_moves : Nat → Int32} {z_hands : Nat → Int32} {z_troubles : Int32} {z_troubleSorts : Nat → Int32} {z_troubleNumbers : Nat → Int32} {z_asked : Nat → Int32} {z_paint : Nat → Int32} {z_leasts : Nat → Int32} {z_isSeen : Nat → Int32} {z_classMany : Int32} {z_types : Nat → Int32} {z_typeCounts : Nat → Int32} {z_typeMany : Int32} {z_text : Nat → Int32} {z_signs : Int32} {z_at : Int32} {z_lacks : Int32} {z_clauses : Int32} {z_begun : Int32} {z_letters : Nat → Int32} {z_firsts : Nat → Int32} {z_seconds : Nat → Int32} {z_aside : Nat → Int32} {z_sorts : Nat → Int32} {z_sizes : Nat → Int32} {z_items : Nat → Int64} {res : Int32 × (Nat → Int32)} (hf : f_X10_event l1 l2 z_s = some res) : MX l yX10_event cX10_event 3 (some .int) rm_X10_event G (mw G h z_thrown z_s z_kept z_isKept z_moveMany z_moves z_hands z_troubles z_troubleSorts z_troubleNumbers z_asked z_paint z_leasts z_isSeen z_classMany z_types z_typeCounts z_typeMany z_text z_signs z_at z_lacks z_clauses z_begun z_letters z_firsts z_seconds z_aside z_sorts z_sizes z_items) [.ref (h 0), .int l1, .int l2] (mw G h z_thrown res.2 z_kept z_isKept z_moveMany z_moves z_hands z_troubles z_troubleSorts z_troubleNumbers z_asked z_paint z_leasts z_isSeen z_classMany z_types z_typeCounts z_typeMany z_text z_signs z_at z_lacks z_clauses z_begun z_letters z_firsts z_seconds z_aside z_sorts z_sizes z_items) (some (.int res.1)) 0 0 := by
  refine MX.of (plainFor_of_name (by decide)) (Nat.le_of_ble_eq_true rfl) ?_
  intro p e s m below meth c A X E hI ls hl
  obtain ⟨hx, hb, hml, hown, hts, hr, hlk⟩ := id X
  have hl : lv_has ls 3 [(0, .ref (h 0)), (1, .int l1), (2, .int l2)] := hl
  unfold f_X10_event at hf
  refine lv_iload_n (pc := 0) hx hb dX10_event_0 rfl (lv_at hl 1 rfl) ?_
  refine lv_iconst (pc := 1) (v := (-1)) hx hb dX10_event_1 (by decide) ?_
  refine lv_icmp_ne (pc := 2) (tgt := 14) hx hb dX10_event_2 (by decide) (fun c1 => ?_) (fun c1 => ?_)
  · have hf := q_in c1 hf
    refine lv_iload_n (pc := 14) hx hb dX10_event_14 rfl (lv_at hl 1 rfl) ?_
    refine lv_i2l (pc := 15) (v := (l1 : Int32).toInt64) hx hb dX10_event_15 rfl ?_
    refine lv_lconst (pc := 16) (v := 0) hx hb dX10_event_16 (by decide) ?_
    refine lv_ldc2 (pc := 17) (v := 2) hx hb hown (hts _ tw_4_88) dX10_event_17 ?_
    obtain ⟨t2, e2, hf⟩ := q_ob hf
    refine x_cSn (pc := 20) (st1 := [.int t2]) X E hI (c_X10_in l G e2) ks_X10_85 hd_X10_in ⟨rfl, rfl⟩ (by decide) rfl hl.1 rfl (Nat.le_of_ble_eq_true rfl) dX10_event_20 ⟨Nat.le_of_ble_eq_true rfl, Nat.le_of_ble_eq_true rfl⟩ rfl (fun H locs hI => ?_)
    refine lv_if_ne (pc := 23) (tgt := 28) hx hb dX10_event_23 (by decide) (fun c3 => ?_) (fun c3 => ?_)
    · have hf := q_in c3 hf
      refine lv_iload_n (pc := 28) hx hb dX10_event_28 rfl (lv_at hl 1 rfl) ?_
      refine lv_if_ne (pc := 29) (tgt := 47) hx hb dX10_event_29 (by decide) (fun c4 => ?_) (fun c4 => ?_)
      · have hf := q_in c4 hf
        refine lv_iload_n (pc := 47) hx hb dX10_event_47 rfl (lv_at hl 2 rfl) ?_
        refine lv_i2l (pc := 48) (v := (l2 : Int32).toInt64) hx hb dX10_event_48 rfl ?_
        refine lv_lconst (pc := 49) (v := 0) hx hb dX10_event_49 (by decide) ?_
        refine lv_ldc2 (pc := 50) (v := 3) hx hb hown (hts _ tw_4_102) dX10_event_50 ?_
        obtain ⟨t5, e5, hf⟩ := q_ob hf
        refine x_cSn (pc := 53) (st1 := [.int t5]) X E hI (c_X10_in l G e5) ks_X10_85 hd_X10_in ⟨rfl, rfl⟩ (by decide) rfl hl.1 rfl (Nat.le_of_ble_eq_true rfl) dX10_event_53 ⟨Nat.le_of_ble_eq_true rfl, Nat.le_of_ble_eq_true rfl⟩ rfl (fun H locs hI => ?_)
        refine lv_if_ne (pc := 56) (tgt := 62) hx hb dX10_event_56 (by decide) (fun c6 => ?_) (fun c6 => ?_)
        · have hf := q_in c6 hf
          refine lv_aload_n (pc := 62) hx hb dX10_event_62 rfl (lv_at hl 0 rfl) ?_
          refine x_get (pc := 63) X E hI inX10 0 rfl rfl 1 (by decide) tw_3_230 rfl dX10_event_63 ?_
          refine lv_iconst (pc := 66) (v := 4) hx hb dX10_event_66 (by decide) ?_
          obtain ⟨t7, e7, hf⟩ := q_ob hf
          refine x_iald (pc := 67) X E hI 1 rfl e7 dX10_event_67 ?_
          refine lv_bipush (pc := 68) (v := 8) hx hb dX10_event_68 (by decide) ?_
          refine lv_icmp_ne (pc := 70) (tgt := 76) hx hb dX10_event_70 (by decide) (fun c8 => ?_) (fun c8 => ?_)
          · have hf := q_in c8 hf
            refine lv_aload_n (pc := 76) hx hb dX10_event_76 rfl (lv_at hl 0 rfl) ?_
            refine x_get (pc := 77) X E hI inX10 0 rfl rfl 1 (by decide) tw_3_230 rfl dX10_event_77 ?_
            refine lv_bipush (pc := 80) (v := 66) hx hb dX10_event_80 (by decide) ?_
            refine lv_iconst (pc := 82) (v := 2) hx hb dX10_event_82 (by decide) ?_
            refine lv_aload_n (pc := 83) hx hb dX10_event_83 rfl (lv_at hl 0 rfl) ?_
            refine x_get (pc := 84) X E hI inX10 0 rfl rfl 1 (by decide) tw_3_230 rfl dX10_event_84 ?_
            refine lv_iconst (pc := 87) (v := 4) hx hb dX10_event_87 (by decide) ?_
            obtain ⟨t9, e9, hf⟩ := q_ob hf
            refine x_iald (pc := 88) X E hI 1 rfl e9 dX10_event_88 ?_
            refine lv_imul (pc := 89) hx hb dX10_event_89 ?_
            refine lv_iadd (pc := 90) hx hb dX10_event_90 ?_
            refine lv_iload_n (pc := 91) hx hb dX10_event_91 rfl (lv_at hl 1 rfl) ?_
            obtain ⟨t10, e10, hf⟩ := q_ob hf
            refine x_iast (pc := 92) (w' := (mw G h z_thrown t10 z_kept z_isKept z_moveMany z_moves z_hands z_troubles z_troubleSorts z_troubleNumbers z_asked z_paint z_leasts z_isSeen z_classMany z_types z_typeCounts z_typeMany z_text z_signs z_at z_lacks z_clauses z_begun z_letters z_firsts z_seconds z_aside z_sorts z_sizes z_items)) X E hI 1 rfl e10 rfl dX10_event_92 (fun H locs hI => ?_)
            refine lv_aload_n (pc := 93) hx hb dX10_event_93 rfl (lv_at hl 0 rfl) ?_
            refine x_get (pc := 94) X E hI inX10 0 rfl rfl 1 (by decide) tw_3_230 rfl dX10_event_94 ?_
            refine lv_bipush (pc := 97) (v := 66) hx hb dX10_event_97 (by decide) ?_
            refine lv_iconst (pc := 99) (v := 2) hx hb dX10_event_99 (by decide) ?_
            refine lv_aload_n (pc := 100) hx hb dX10_event_100 rfl (lv_at hl 0 rfl) ?_
            refine x_get (pc := 101) X E hI inX10 0 rfl rfl 1 (by decide) tw_3_230 rfl dX10_event_101 ?_
            refine lv_iconst (pc := 104) (v := 4) hx hb dX10_event_104 (by decide) ?_
            obtain ⟨t11, e11, hf⟩ := q_ob hf
            refine x_iald (pc := 105) X E hI 1 rfl e11 dX10_event_105 ?_
            refine lv_imul (pc := 106) hx hb dX10_event_106 ?_
            refine lv_iadd (pc := 107) hx hb dX10_event_107 ?_
            refine lv_iconst (pc := 108) (v := 1) hx hb dX10_event_108 (by decide) ?_
            refine lv_iadd (pc := 109) hx hb dX10_event_109 ?_
            refine lv_iload_n (pc := 110) hx hb dX10_event_110 rfl (lv_at hl 2 rfl) ?_
            obtain ⟨t12, e12, hf⟩ := q_ob hf
            refine x_iast (pc := 111) (w' := (mw G h z_thrown t12 z_kept z_isKept z_moveMany z_moves z_hands z_troubles z_troubleSorts z_troubleNumbers z_asked z_paint z_leasts z_isSeen z_classMany z_types z_typeCounts z_typeMany z_text z_signs z_at z_lacks z_clauses z_begun z_letters z_firsts z_seconds z_aside z_sorts z_sizes z_items)) X E hI 1 rfl e12 rfl dX10_event_111 (fun H locs hI => ?_)
            refine lv_aload_n (pc := 112) hx hb dX10_event_112 rfl (lv_at hl 0 rfl) ?_
            refine x_get (pc := 113) X E hI inX10 0 rfl rfl 1 (by decide) tw_3_230 rfl dX10_event_113 ?_
            refine lv_iconst (pc := 116) (v := 4) hx hb dX10_event_116 (by decide) ?_
            refine lv_dup2_11 (pc := 117) hx hb dX10_event_117 rfl rfl ?_
            obtain ⟨t13, e13, hf⟩ := q_ob hf
            refine x_iald (pc := 118) X E hI 1 rfl e13 dX10_event_118 ?_
            refine lv_iconst (pc := 119) (v := 1) hx hb dX10_event_119 (by decide) ?_
            refine lv_iadd (pc := 120) hx hb dX10_event_120 ?_
            obtain ⟨t14, e14, hf⟩ := q_ob hf
            refine x_iast (pc := 121) (w' := (mw G h z_thrown t14 z_kept z_isKept z_moveMany z_moves z_hands z_troubles z_troubleSorts z_troubleNumbers z_asked z_paint z_leasts z_isSeen z_classMany z_types z_typeCounts z_typeMany z_text z_signs z_at z_lacks z_clauses z_begun z_letters z_firsts z_seconds z_aside z_sorts z_sizes z_items)) X E hI 1 rfl e14 rfl dX10_event_121 (fun H locs hI => ?_)
            refine lv_aload_n (pc := 122) hx hb dX10_event_122 rfl (lv_at hl 0 rfl) ?_
            refine x_get (pc := 123) X E hI inX10 0 rfl rfl 1 (by decide) tw_3_230 rfl dX10_event_123 ?_
            refine lv_iconst (pc := 126) (v := 4) hx hb dX10_event_126 (by decide) ?_
            obtain ⟨t15, e15, hf⟩ := q_ob hf
            refine x_iald (pc := 127) X E hI 1 rfl e15 dX10_event_127 ?_
            obtain rfl := Option.some.inj hf
            exact x_iret X hI dX10_event_128
          · have hf := q_ip c8 hf
            refine lv_bipush (pc := 73) (v := (-4)) hx hb dX10_event_73 (by decide) ?_
            obtain rfl := Option.some.inj hf
            exact x_iret X hI dX10_event_75
        · have hf := q_ip c6 hf
          refine lv_bipush (pc := 59) (v := (-2)) hx hb dX10_event_59 (by decide) ?_
          obtain rfl := Option.some.inj hf
          exact x_iret X hI dX10_event_61
      · have hf := q_ip c4 hf
        refine lv_iload_n (pc := 32) hx hb dX10_event_32 rfl (lv_at hl 2 rfl) ?_
        refine lv_i2l (pc := 33) (v := (l2 : Int32).toInt64) hx hb dX10_event_33 rfl ?_
        refine lv_lconst (pc := 34) (v := 1) hx hb dX10_event_34 (by decide) ?_
        refine lv_ldc2 (pc := 35) (v := 4) hx hb hown (hts _ tw_4_97) dX10_event_35 ?_
        obtain ⟨t16, e16, hf⟩ := q_ob hf
        refine x_cSn (pc := 38) (st1 := [.int t16]) X E hI (c_X10_in l G e16) ks_X10_85 hd_X10_in ⟨rfl, rfl⟩ (by decide) rfl hl.1 rfl (Nat.le_of_ble_eq_true rfl) dX10_event_38 ⟨Nat.le_of_ble_eq_true rfl, Nat.le_of_ble_eq_true rfl⟩ rfl (fun H locs hI => ?_)
        refine lv_if_ne (pc := 41) (tgt := 62) hx hb dX10_event_41 (by decide) (fun c17 => ?_) (fun c17 => ?_)
        · have hf := q_in c17 hf
          refine lv_aload_n (pc := 62) hx hb dX10_event_62 rfl (lv_at hl 0 rfl) ?_
          refine x_get (pc := 63) X E hI inX10 0 rfl rfl 1 (by decide) tw_3_230 rfl dX10_event_63 ?_
          refine lv_iconst (pc := 66) (v := 4) hx hb dX10_event_66 (by decide) ?_
          obtain ⟨t18, e18, hf⟩ := q_ob hf
          refine x_iald (pc := 67) X E hI 1 rfl e18 dX10_event_67 ?_
          refine lv_bipush (pc := 68) (v := 8) hx hb dX10_event_68 (by decide) ?_
          refine lv_icmp_ne (pc := 70) (tgt := 76) hx hb dX10_event_70 (by decide) (fun c19 => ?_) (fun c19 => ?_)
          · have hf := q_in c19 hf
            refine lv_aload_n (pc := 76) hx hb dX10_event_76 rfl (lv_at hl 0 rfl) ?_
            refine x_get (pc := 77) X E hI inX10 0 rfl rfl 1 (by decide) tw_3_230 rfl dX10_event_77 ?_
            refine lv_bipush (pc := 80) (v := 66) hx hb dX10_event_80 (by decide) ?_
            refine lv_iconst (pc := 82) (v := 2) hx hb dX10_event_82 (by decide) ?_
            refine lv_aload_n (pc := 83) hx hb dX10_event_83 rfl (lv_at hl 0 rfl) ?_
            refine x_get (pc := 84) X E hI inX10 0 rfl rfl 1 (by decide) tw_3_230 rfl dX10_event_84 ?_
            refine lv_iconst (pc := 87) (v := 4) hx hb dX10_event_87 (by decide) ?_
            obtain ⟨t20, e20, hf⟩ := q_ob hf
            refine x_iald (pc := 88) X E hI 1 rfl e20 dX10_event_88 ?_
            refine lv_imul (pc := 89) hx hb dX10_event_89 ?_
            refine lv_iadd (pc := 90) hx hb dX10_event_90 ?_
            refine lv_iload_n (pc := 91) hx hb dX10_event_91 rfl (lv_at hl 1 rfl) ?_
            obtain ⟨t21, e21, hf⟩ := q_ob hf
            refine x_iast (pc := 92) (w' := (mw G h z_thrown t21 z_kept z_isKept z_moveMany z_moves z_hands z_troubles z_troubleSorts z_troubleNumbers z_asked z_paint z_leasts z_isSeen z_classMany z_types z_typeCounts z_typeMany z_text z_signs z_at z_lacks z_clauses z_begun z_letters z_firsts z_seconds z_aside z_sorts z_sizes z_items)) X E hI 1 rfl e21 rfl dX10_event_92 (fun H locs hI => ?_)
            refine lv_aload_n (pc := 93) hx hb dX10_event_93 rfl (lv_at hl 0 rfl) ?_
            refine x_get (pc := 94) X E hI inX10 0 rfl rfl 1 (by decide) tw_3_230 rfl dX10_event_94 ?_
            refine lv_bipush (pc := 97) (v := 66) hx hb dX10_event_97 (by decide) ?_
            refine lv_iconst (pc := 99) (v := 2) hx hb dX10_event_99 (by decide) ?_
            refine lv_aload_n (pc := 100) hx hb dX10_event_100 rfl (lv_at hl 0 rfl) ?_
            refine x_get (pc := 101) X E hI inX10 0 rfl rfl 1 (by decide) tw_3_230 rfl dX10_event_101 ?_
            refine lv_iconst (pc := 104) (v := 4) hx hb dX10_event_104 (by decide) ?_
            obtain ⟨t22, e22, hf⟩ := q_ob hf
            refine x_iald (pc := 105) X E hI 1 rfl e22 dX10_event_105 ?_
            refine lv_imul (pc := 106) hx hb dX10_event_106 ?_
            refine lv_iadd (pc := 107) hx hb dX10_event_107 ?_
            refine lv_iconst (pc := 108) (v := 1) hx hb dX10_event_108 (by decide) ?_
            refine lv_iadd (pc := 109) hx hb dX10_event_109 ?_
            refine lv_iload_n (pc := 110) hx hb dX10_event_110 rfl (lv_at hl 2 rfl) ?_
            obtain ⟨t23, e23, hf⟩ := q_ob hf
            refine x_iast (pc := 111) (w' := (mw G h z_thrown t23 z_kept z_isKept z_moveMany z_moves z_hands z_troubles z_troubleSorts z_troubleNumbers z_asked z_paint z_leasts z_isSeen z_classMany z_types z_typeCounts z_typeMany z_text z_signs z_at z_lacks z_clauses z_begun z_letters z_firsts z_seconds z_aside z_sorts z_sizes z_items)) X E hI 1 rfl e23 rfl dX10_event_111 (fun H locs hI => ?_)
            refine lv_aload_n (pc := 112) hx hb dX10_event_112 rfl (lv_at hl 0 rfl) ?_
            refine x_get (pc := 113) X E hI inX10 0 rfl rfl 1 (by decide) tw_3_230 rfl dX10_event_113 ?_
            refine lv_iconst (pc := 116) (v := 4) hx hb dX10_event_116 (by decide) ?_
            refine lv_dup2_11 (pc := 117) hx hb dX10_event_117 rfl rfl ?_
            obtain ⟨t24, e24, hf⟩ := q_ob hf
            refine x_iald (pc := 118) X E hI 1 rfl e24 dX10_event_118 ?_
            refine lv_iconst (pc := 119) (v := 1) hx hb dX10_event_119 (by decide) ?_
            refine lv_iadd (pc := 120) hx hb dX10_event_120 ?_
            obtain ⟨t25, e25, hf⟩ := q_ob hf
            refine x_iast (pc := 121) (w' := (mw G h z_thrown t25 z_kept z_isKept z_moveMany z_moves z_hands z_troubles z_troubleSorts z_troubleNumbers z_asked z_paint z_leasts z_isSeen z_classMany z_types z_typeCounts z_typeMany z_text z_signs z_at z_lacks z_clauses z_begun z_letters z_firsts z_seconds z_aside z_sorts z_sizes z_items)) X E hI 1 rfl e25 rfl dX10_event_121 (fun H locs hI => ?_)
            refine lv_aload_n (pc := 122) hx hb dX10_event_122 rfl (lv_at hl 0 rfl) ?_
            refine x_get (pc := 123) X E hI inX10 0 rfl rfl 1 (by decide) tw_3_230 rfl dX10_event_123 ?_
            refine lv_iconst (pc := 126) (v := 4) hx hb dX10_event_126 (by decide) ?_
            obtain ⟨t26, e26, hf⟩ := q_ob hf
            refine x_iald (pc := 127) X E hI 1 rfl e26 dX10_event_127 ?_
            obtain rfl := Option.some.inj hf
            exact x_iret X hI dX10_event_128
          · have hf := q_ip c19 hf
            refine lv_bipush (pc := 73) (v := (-4)) hx hb dX10_event_73 (by decide) ?_
            obtain rfl := Option.some.inj hf
            exact x_iret X hI dX10_event_75
        · have hf := q_ip c17 hf
          refine lv_goto (pc := 44) (tgt := 59) hx hb dX10_event_44 (by decide) ?_
          refine lv_bipush (pc := 59) (v := (-2)) hx hb dX10_event_59 (by decide) ?_
          obtain rfl := Option.some.inj hf
          exact x_iret X hI dX10_event_61
    · have hf := q_ip c3 hf
      refine lv_iconst (pc := 26) (v := (-1)) hx hb dX10_event_26 (by decide) ?_
      obtain rfl := Option.some.inj hf
      exact x_iret X hI dX10_event_27
  · have hf := q_ip c1 hf
    refine lv_aload_n (pc := 5) hx hb dX10_event_5 rfl (lv_at hl 0 rfl) ?_
    refine x_get (pc := 6) X E hI inX10 0 rfl rfl 1 (by decide) tw_3_230 rfl dX10_event_6 ?_
    refine lv_iconst (pc := 9) (v := 4) hx hb dX10_event_9 (by decide) ?_
    refine lv_iconst (pc := 10) (v := 0) hx hb dX10_event_10 (by decide) ?_
    obtain ⟨t27, e27, hf⟩ := q_ob hf
    refine x_iast (pc := 11) (w' := (mw G h z_thrown t27 z_kept z_isKept z_moveMany z_moves z_hands z_troubles z_troubleSorts z_troubleNumbers z_asked z_paint z_leasts z_isSeen z_classMany z_types z_typeCounts z_typeMany z_text z_signs z_at z_lacks z_clauses z_begun z_letters z_firsts z_seconds z_aside z_sorts z_sizes z_items)) X E hI 1 rfl e27 rfl dX10_event_11 (fun H locs hI => ?_)
    refine lv_iconst (pc := 12) (v := 0) hx hb dX10_event_12 (by decide) ?_
    obtain rfl := Option.some.inj hf
    exact x_iret X hI dX10_event_13

abbrev rm_X10_happens : Room := { frames := 5, cells := 0, slots := 0, locals := 112 }
set_option maxHeartbeats 4000000 in
set_option maxRecDepth 100000 in
theorem c_X10_happens (l : Launch) (G : GX) (h : Nat → Nat) {l1 : Int32} {l2 : Int32} {l3 : Int32} {z_s : Nat → Int32} {z_moveMany : Int32} {z_moves : Nat → Int32} {z_hands : Nat → Int32} {z_thrown : Int32} {z_kept : Nat → Int32} {z_isKept : Int32} {z_troubles : Int32} {z_troubleSorts : Nat → Int32} {z_troubleNumbers : Nat → Int32} {z_asked : Nat → Int32} {z_paint : Nat → Int32} {z_leasts : Nat → Int32} {z_isSeen : Nat → Int32} {z_classMany : Int32} {z_types : Nat → Int32} {z_typeCounts : Nat → Int32} {z_typeMany : Int32} {z_text : Nat → Int32} {z_signs : Int32} {z_at : Int32} {z_lacks : Int32} {z_clauses : Int32} {z_begun : Int32} {z_letters : Nat → Int32} {z_firsts : Nat → Int32} {z_seconds : Nat → Int32} {z_aside : Nat → Int32} {z_sorts : Nat → Int32} {z_sizes : Nat → Int32} {z_items : Nat → Int64} {res : Int32 × (Nat → Int32) × Int32 × (Nat → Int32) × (Nat → Int32)} (hf : f_X10_happens l1 l2 l3 z_s z_moveMany z_moves z_hands = some res) : MX l yX10_happens cX10_happens 4 (some .int) rm_X10_happens G (mw G h z_thrown z_s z_kept z_isKept z_moveMany z_moves z_hands z_troubles z_troubleSorts z_troubleNumbers z_asked z_paint z_leasts z_isSeen z_classMany z_types z_typeCounts z_typeMany z_text z_signs z_at z_lacks z_clauses z_begun z_letters z_firsts z_seconds z_aside z_sorts z_sizes z_items) [.ref (h 0), .int l1, .int l2, .int l3] (mw G h z_thrown res.2.1 z_kept z_isKept res.2.2.1 res.2.2.2.1 res.2.2.2.2 z_troubles z_troubleSorts z_troubleNumbers z_asked z_paint z_leasts z_isSeen z_classMany z_types z_typeCounts z_typeMany z_text z_signs z_at z_lacks z_clauses z_begun z_letters z_firsts z_seconds z_aside z_sorts z_sizes z_items) (some (.int res.1)) 0 0 := by
  refine MX.of (plainFor_of_name (by decide)) (Nat.le_of_ble_eq_true rfl) ?_
  intro p e s m below meth c A X E hI ls hl
  obtain ⟨hx, hb, hml, hown, hts, hr, hlk⟩ := id X
  have hl : lv_has ls 4 [(0, .ref (h 0)), (1, .int l1), (2, .int l2), (3, .int l3)] := hl
  unfold f_X10_happens at hf
  refine lv_iload_n (pc := 0) hx hb dX10_happens_0 rfl (lv_at hl 1 rfl) ?_
  refine lv_if_ne (pc := 1) (tgt := 13) hx hb dX10_happens_1 (by decide) (fun c1 => ?_) (fun c1 => ?_)
  · have hf := q_in c1 hf
    refine lv_iload_n (pc := 13) hx hb dX10_happens_13 rfl (lv_at hl 3 rfl) ?_
    refine lv_iload_n (pc := 14) hx hb dX10_happens_14 rfl (lv_at hl 2 rfl) ?_
    obtain ⟨t2, e2, hf⟩ := q_ob hf
    refine x_cSn (pc := 15) (st1 := [.int t2]) X E hI (c_X10_has l G e2) ks_X10_110 hd_X10_has ⟨rfl, rfl⟩ (by decide) rfl hl.1 rfl (Nat.le_of_ble_eq_true rfl) dX10_happens_15 ⟨Nat.le_of_ble_eq_true rfl, Nat.le_of_ble_eq_true rfl⟩ rfl (fun H locs hI => ?_)
    refine lv_if_ne (pc := 18) (tgt := 23) hx hb dX10_happens_18 (by decide) (fun c3 => ?_) (fun c3 => ?_)
    · have hf := q_in c3 hf
      refine lv_iload_n (pc := 23) hx hb dX10_happens_23 rfl (lv_at hl 1 rfl) ?_
      refine lv_iconst (pc := 24) (v := 1) hx hb dX10_happens_24 (by decide) ?_
      refine lv_icmp_ne (pc := 25) (tgt := 36) hx hb dX10_happens_25 (by decide) (fun c4 => ?_) (fun c4 => ?_)
      · have hf := q_in c4 hf
        refine lv_aload_n (pc := 36) hx hb dX10_happens_36 rfl (lv_at hl 0 rfl) ?_
        refine x_get (pc := 37) X E hI inX10 0 rfl rfl 1 (by decide) tw_3_230 rfl dX10_happens_37 ?_
        refine lv_bipush (pc := 40) (v := 33) hx hb dX10_happens_40 (by decide) ?_
        refine lv_iload_n (pc := 42) hx hb dX10_happens_42 rfl (lv_at hl 2 rfl) ?_
        refine lv_iadd (pc := 43) hx hb dX10_happens_43 ?_
        refine lv_dup2_11 (pc := 44) hx hb dX10_happens_44 rfl rfl ?_
        obtain ⟨t5, e5, hf⟩ := q_ob hf
        refine x_iald (pc := 45) X E hI 1 rfl e5 dX10_happens_45 ?_
        refine lv_iconst (pc := 46) (v := 1) hx hb dX10_happens_46 (by decide) ?_
        refine lv_ixor (pc := 47) hx hb dX10_happens_47 ?_
        obtain ⟨t6, e6, hf⟩ := q_ob hf
        refine x_iast (pc := 48) (w' := (mw G h z_thrown t6 z_kept z_isKept z_moveMany z_moves z_hands z_troubles z_troubleSorts z_troubleNumbers z_asked z_paint z_leasts z_isSeen z_classMany z_types z_typeCounts z_typeMany z_text z_signs z_at z_lacks z_clauses z_begun z_letters z_firsts z_seconds z_aside z_sorts z_sizes z_items)) X E hI 1 rfl e6 rfl dX10_happens_48 (fun H locs hI => ?_)
        refine lv_aload_n (pc := 49) hx hb dX10_happens_49 rfl (lv_at hl 0 rfl) ?_
        refine lv_iload_n (pc := 50) hx hb dX10_happens_50 rfl (lv_at hl 3 rfl) ?_
        obtain ⟨t7, e7, hf⟩ := q_ob hf
        refine x_cVs (pc := 51) (st1 := [.int t7.1]) (w1 := (mw G h z_thrown t6 z_kept z_isKept t7.2.1 t7.2.2.1 t7.2.2.2 z_troubles z_troubleSorts z_troubleNumbers z_asked z_paint z_leasts z_isSeen z_classMany z_types z_typeCounts z_typeMany z_text z_signs z_at z_lacks z_clauses z_begun z_letters z_firsts z_seconds z_aside z_sorts z_sizes z_items)) X E hI (c_X10_moves l G h e7) kv_X10_130 hd_X10_moves ⟨rfl, rfl⟩ (by decide) 0 rfl rfl rfl rfl hl.1 rfl (Nat.le_of_ble_eq_true rfl) dX10_happens_51 ⟨Nat.le_of_ble_eq_true rfl, Nat.le_of_ble_eq_true rfl⟩ rfl (fun H locs hI => ?_)
        refine lv_if_ne (pc := 54) (tgt := 70) hx hb dX10_happens_54 (by decide) (fun c8 => ?_) (fun c8 => ?_)
        · have hf := q_in c8 hf
          refine lv_iload_n (pc := 70) hx hb dX10_happens_70 rfl (lv_at hl 3 rfl) ?_
          obtain rfl := Option.some.inj hf
          exact x_iret X hI dX10_happens_71
        · have hf := q_ip c8 hf
          refine lv_aload_n (pc := 57) hx hb dX10_happens_57 rfl (lv_at hl 0 rfl) ?_
          refine x_get (pc := 58) X E hI inX10 0 rfl rfl 1 (by decide) tw_3_230 rfl dX10_happens_58 ?_
          refine lv_bipush (pc := 61) (v := 33) hx hb dX10_happens_61 (by decide) ?_
          refine lv_iload_n (pc := 63) hx hb dX10_happens_63 rfl (lv_at hl 2 rfl) ?_
          refine lv_iadd (pc := 64) hx hb dX10_happens_64 ?_
          refine lv_dup2_11 (pc := 65) hx hb dX10_happens_65 rfl rfl ?_
          obtain ⟨t9, e9, hf⟩ := q_ob hf
          refine x_iald (pc := 66) X E hI 1 rfl e9 dX10_happens_66 ?_
          refine lv_iconst (pc := 67) (v := 1) hx hb dX10_happens_67 (by decide) ?_
          refine lv_ixor (pc := 68) hx hb dX10_happens_68 ?_
          obtain ⟨t10, e10, hf⟩ := q_ob hf
          refine x_iast (pc := 69) (w' := (mw G h z_thrown t10 z_kept z_isKept t7.2.1 t7.2.2.1 t7.2.2.2 z_troubles z_troubleSorts z_troubleNumbers z_asked z_paint z_leasts z_isSeen z_classMany z_types z_typeCounts z_typeMany z_text z_signs z_at z_lacks z_clauses z_begun z_letters z_firsts z_seconds z_aside z_sorts z_sizes z_items)) X E hI 1 rfl e10 rfl dX10_happens_69 (fun H locs hI => ?_)
          refine lv_iload_n (pc := 70) hx hb dX10_happens_70 rfl (lv_at hl 3 rfl) ?_
          obtain rfl := Option.some.inj hf
          exact x_iret X hI dX10_happens_71
      · have hf := q_ip c4 hf
        refine lv_iload_n (pc := 28) hx hb dX10_happens_28 rfl (lv_at hl 3 rfl) ?_
        refine lv_iconst (pc := 29) (v := 1) hx hb dX10_happens_29 (by decide) ?_
        refine lv_iload_n (pc := 30) hx hb dX10_happens_30 rfl (lv_at hl 2 rfl) ?_
        refine lv_ishl (pc := 31) hx hb dX10_happens_31 ?_
        refine lv_iconst (pc := 32) (v := (-1)) hx hb dX10_happens_32 (by decide) ?_
        refine lv_ixor (pc := 33) hx hb dX10_happens_33 ?_
        refine lv_iand (pc := 34) hx hb dX10_happens_34 ?_
        obtain rfl := Option.some.inj hf
        exact x_iret X hI dX10_happens_35
    · have hf := q_ip c3 hf
      refine lv_iload_n (pc := 21) hx hb dX10_happens_21 rfl (lv_at hl 3 rfl) ?_
      obtain rfl := Option.some.inj hf
      exact x_iret X hI dX10_happens_22
  · have hf := q_ip c1 hf
    refine lv_aload_n (pc := 4) hx hb dX10_happens_4 rfl (lv_at hl 0 rfl) ?_
    refine x_get (pc := 5) X E hI inX10 0 rfl rfl 1 (by decide) tw_3_230 rfl dX10_happens_5 ?_
    refine lv_iconst (pc := 8) (v := 1) hx hb dX10_happens_8 (by decide) ?_
    refine lv_iload_n (pc := 9) hx hb dX10_happens_9 rfl (lv_at hl 2 rfl) ?_
    obtain ⟨t11, e11, hf⟩ := q_ob hf
    refine x_iast (pc := 10) (w' := (mw G h z_thrown t11 z_kept z_isKept z_moveMany z_moves z_hands z_troubles z_troubleSorts z_troubleNumbers z_asked z_paint z_leasts z_isSeen z_classMany z_types z_typeCounts z_typeMany z_text z_signs z_at z_lacks z_clauses z_begun z_letters z_firsts z_seconds z_aside z_sorts z_sizes z_items)) X E hI 1 rfl e11 rfl dX10_happens_10 (fun H locs hI => ?_)
    refine lv_iload_n (pc := 11) hx hb dX10_happens_11 rfl (lv_at hl 3 rfl) ?_
    obtain rfl := Option.some.inj hf
    exact x_iret X hI dX10_happens_12

abbrev rm_X10_after : Room := { frames := 6, cells := 0, slots := 0, locals := 135 }
set_option maxHeartbeats 4000000 in
set_option maxRecDepth 100000 in
theorem k_X10_after_L18 {p : Program} {l : Launch} {e : Env} {s : State} {m : MethodId} {args : Array Value} {below : List Frame} {meth : Method} {c : Code} {A : Nat → Prop} {G : GX} {h : Nat → Nat} {z_thrown : Int32} {z_kept : Nat → Int32} {z_isKept : Int32} {z_troubles : Int32} {z_troubleSorts : Nat → Int32} {z_troubleNumbers : Nat → Int32} {z_asked : Nat → Int32} {z_paint : Nat → Int32} {z_leasts : Nat → Int32} {z_isSeen : Nat → Int32} {z_classMany : Int32} {z_types : Nat → Int32} {z_typeCounts : Nat → Int32} {z_typeMany : Int32} {z_text : Nat → Int32} {z_signs : Int32} {z_at : Int32} {z_lacks : Int32} {z_clauses : Int32} {z_begun : Int32} {z_letters : Nat → Int32} {z_firsts : Nat → Int32} {z_seconds : Nat → Int32} {z_aside : Nat → Int32} {z_sorts : Nat → Int32} {z_sizes : Nat → Int32} {z_items : Nat → Int64} {K : Int32 → Int32 → (Nat → Int32) → Int32 → (Nat → Int32) → (Nat → Int32) → Option (Int32 × (Nat → Int32) × Int32 × (Nat → Int32) × (Nat → Int32) × (Nat → Int32) × (Nat → Int32) × (Nat → Int32) × Int32 × (Nat → Int32))} {res : Int32 × (Nat → Int32) × Int32 × (Nat → Int32) × (Nat → Int32) × (Nat → Int32) × (Nat → Int32) × (Nat → Int32) × Int32 × (Nat → Int32)} (X : CX RX10 cX10_after 3 (some .int) p s m args meth c) (E : EX G A s)
    (hK : ∀ (l1 : Int32) (l2 : Int32) (z_s : (Nat → Int32)) (z_moveMany : Int32) (z_moves : (Nat → Int32)) (z_hands : (Nat → Int32)) (H : Heap) (locs : List Loc) (ls : Array Slot), IN A G (mw G h z_thrown z_s z_kept z_isKept z_moveMany z_moves z_hands z_troubles z_troubleSorts z_troubleNumbers z_asked z_paint z_leasts z_isSeen z_classMany z_types z_typeCounts z_typeMany z_text z_signs z_at z_lacks z_clauses z_begun z_letters z_firsts z_seconds z_aside z_sorts z_sizes z_items) s H locs → lv_has ls 3 [(0, .ref (h 0)), (1, .int l1), (2, .int l2)] → K l1 l2 z_s z_moveMany z_moves z_hands = some res → W p l e rm_X10_after s m args below meth c H locs 0 0 (MQ below (QX G A (mw G h z_thrown res.2.1 z_kept z_isKept res.2.2.1 res.2.2.2.1 res.2.2.2.2.1 z_troubles z_troubleSorts z_troubleNumbers z_asked res.2.2.2.2.2.1 res.2.2.2.2.2.2.1 res.2.2.2.2.2.2.2.1 res.2.2.2.2.2.2.2.2.1 z_types z_typeCounts z_typeMany z_text z_signs z_at z_lacks z_clauses z_begun z_letters z_firsts z_seconds res.2.2.2.2.2.2.2.2.2 z_sorts z_sizes z_items) (some (.int res.1))) args s 0 0 A) (F0 m 64 ls [])) :
    ∀ {k : Nat} {l1 : Int32} {l2 : Int32} {z_s : (Nat → Int32)} {z_moveMany : Int32} {z_moves : (Nat → Int32)} {z_hands : (Nat → Int32)} {H : Heap} {locs : List Loc} {ls : Array Slot}, IN A G (mw G h z_thrown z_s z_kept z_isKept z_moveMany z_moves z_hands z_troubles z_troubleSorts z_troubleNumbers z_asked z_paint z_leasts z_isSeen z_classMany z_types z_typeCounts z_typeMany z_text z_signs z_at z_lacks z_clauses z_begun z_letters z_firsts z_seconds z_aside z_sorts z_sizes z_items) s H locs → lv_has ls 3 [(0, .ref (h 0)), (1, .int l1), (2, .int l2)] → f_X10_after_L18 K k l1 l2 z_s z_moveMany z_moves z_hands = some res → W p l e rm_X10_after s m args below meth c H locs 0 0 (MQ below (QX G A (mw G h z_thrown res.2.1 z_kept z_isKept res.2.2.1 res.2.2.2.1 res.2.2.2.2.1 z_troubles z_troubleSorts z_troubleNumbers z_asked res.2.2.2.2.2.1 res.2.2.2.2.2.2.1 res.2.2.2.2.2.2.2.1 res.2.2.2.2.2.2.2.2.1 z_types z_typeCounts z_typeMany z_text z_signs z_at z_lacks z_clauses z_begun z_letters z_firsts z_seconds res.2.2.2.2.2.2.2.2.2 z_sorts z_sizes z_items) (some (.int res.1))) args s 0 0 A) (F0 m 18 ls []) := by
  obtain ⟨hx, hb, hml, hown, hts, hr, hlk⟩ := id X
  intro k
  induction k with
  | zero => intro l1 l2 z_s z_moveMany z_moves z_hands H locs ls hI hl hf; exact nomatch (show none = some res from hf)
  | succ k ih =>
    intro l1 l2 z_s z_moveMany z_moves z_hands H locs ls hI hl hf
    rw [f_X10_after_L18] at hf
    refine lv_iload_n (pc := 18) hx hb dX10_after_18 rfl (lv_at hl 2 rfl) ?_
    refine lv_aload_n (pc := 19) hx hb dX10_after_19 rfl (lv_at hl 0 rfl) ?_
    refine x_get (pc := 20) X E hI inX10 0 rfl rfl 1 (by decide) tw_3_230 rfl dX10_after_20 ?_
    refine lv_iconst (pc := 23) (v := 4) hx hb dX10_after_23 (by decide) ?_
    obtain ⟨t1, e1, hf⟩ := q_ob hf
    refine x_iald (pc := 24) X E hI 1 rfl e1 dX10_after_24 ?_
    refine lv_icmp_ge (pc := 25) (tgt := 64) hx hb dX10_after_25 (by decide) (fun c2 => ?_) (fun c2 => ?_)
    · have hf := q_ip c2 hf
      exact hK _ _ _ _ _ _ _ _ _ hI (lv_sub hl [0, 1, 2] rfl) hf
    · have hf := q_in c2 hf
      refine lv_aload_n (pc := 28) hx hb dX10_after_28 rfl (lv_at hl 0 rfl) ?_
      refine lv_aload_n (pc := 29) hx hb dX10_after_29 rfl (lv_at hl 0 rfl) ?_
      refine x_get (pc := 30) X E hI inX10 0 rfl rfl 1 (by decide) tw_3_230 rfl dX10_after_30 ?_
      refine lv_bipush (pc := 33) (v := 66) hx hb dX10_after_33 (by decide) ?_
      refine lv_iconst (pc := 35) (v := 2) hx hb dX10_after_35 (by decide) ?_
      refine lv_iload_n (pc := 36) hx hb dX10_after_36 rfl (lv_at hl 2 rfl) ?_
      refine lv_imul (pc := 37) hx hb dX10_after_37 ?_
      refine lv_iadd (pc := 38) hx hb dX10_after_38 ?_
      obtain ⟨t3, e3, hf⟩ := q_ob hf
      refine x_iald (pc := 39) X E hI 1 rfl e3 dX10_after_39 ?_
      refine lv_aload_n (pc := 40) hx hb dX10_after_40 rfl (lv_at hl 0 rfl) ?_
      refine x_get (pc := 41) X E hI inX10 0 rfl rfl 1 (by decide) tw_3_230 rfl dX10_after_41 ?_
      refine lv_bipush (pc := 44) (v := 66) hx hb dX10_after_44 (by decide) ?_
      refine lv_iconst (pc := 46) (v := 2) hx hb dX10_after_46 (by decide) ?_
      refine lv_iload_n (pc := 47) hx hb dX10_after_47 rfl (lv_at hl 2 rfl) ?_
      refine lv_imul (pc := 48) hx hb dX10_after_48 ?_
      refine lv_iadd (pc := 49) hx hb dX10_after_49 ?_
      refine lv_iconst (pc := 50) (v := 1) hx hb dX10_after_50 (by decide) ?_
      refine lv_iadd (pc := 51) hx hb dX10_after_51 ?_
      obtain ⟨t4, e4, hf⟩ := q_ob hf
      refine x_iald (pc := 52) X E hI 1 rfl e4 dX10_after_52 ?_
      refine lv_iload_n (pc := 53) hx hb dX10_after_53 rfl (lv_at hl 1 rfl) ?_
      obtain ⟨t5, e5, hf⟩ := q_ob hf
      refine x_cVs (pc := 54) (st1 := [.int t5.1]) (w1 := (mw G h z_thrown t5.2.1 z_kept z_isKept t5.2.2.1 t5.2.2.2.1 t5.2.2.2.2 z_troubles z_troubleSorts z_troubleNumbers z_asked z_paint z_leasts z_isSeen z_classMany z_types z_typeCounts z_typeMany z_text z_signs z_at z_lacks z_clauses z_begun z_letters z_firsts z_seconds z_aside z_sorts z_sizes z_items)) X E hI (c_X10_happens l G h e5) kv_X10_325 hd_X10_happens ⟨rfl, rfl⟩ (by decide) 0 rfl rfl rfl rfl hl.1 rfl (Nat.le_of_ble_eq_true rfl) dX10_after_54 ⟨Nat.le_of_ble_eq_true rfl, Nat.le_of_ble_eq_true rfl⟩ rfl (fun H locs hI => ?_)
      refine lv_istore_n (pc := 57) (lv' := [(1, .int t5.1), (0, .ref (h 0)), (2, .int l2)]) hx hb dX10_after_57 rfl hl (by decide) rfl (fun ls hl => ?_)
      refine lv_iinc (pc := 58) (v := l2 + 1) (lv' := [(2, .int (l2 + 1)), (1, .int t5.1), (0, .ref (h 0))]) hx hb dX10_after_58 hl (k := 2) rfl rfl (by decide) rfl (fun ls hl => ?_)
      refine lv_goto (pc := 61) (tgt := 18) hx hb dX10_after_61 (by decide) ?_
      exact ih hI (lv_sub hl [2, 1, 0] rfl) hf

set_option maxHeartbeats 4000000 in
set_option maxRecDepth 100000 in
theorem c_X10_after (l : Launch) (G : GX) (h : Nat → Nat) {z_s : Nat → Int32} {z_moveMany : Int32} {z_moves : Nat → Int32} {z_hands : Nat → Int32} {z_paint : Nat → Int32} {z_leasts : Nat → Int32} {z_isSeen : Nat → Int32} {z_classMany : Int32} {z_aside : Nat → Int32} {z_thrown : Int32} {z_kept : Nat → Int32} {z_isKept : Int32} {z_troubles : Int32} {z_troubleSorts : Nat → Int32} {z_troubleNumbers : Nat → Int32} {z_asked : Nat → Int32} {z_types : Nat → Int32} {z_typeCounts : Nat → Int32} {z_typeMany : Int32} {z_text : Nat → Int32} {z_signs : Int32} {z_at : Int32} {z_lacks : Int32} {z_clauses : Int32} {z_begun : Int32} {z_letters : Nat → Int32} {z_firsts : Nat → Int32} {z_seconds : Nat → Int32} {z_sorts : Nat → Int32} {z_sizes : Nat → Int32} {z_items : Nat → Int64} {res : Int32 × (Nat → Int32) × Int32 × (Nat → Int32) × (Nat → Int32) × (Nat → Int32) × (Nat → Int32) × (Nat → Int32) × Int32 × (Nat → Int32)} (hf : f_X10_after z_s z_moveMany z_moves z_hands z_paint z_leasts z_isSeen z_classMany z_aside = some res) : MX l yX10_after cX10_after 3 (some .int) rm_X10_after G (mw G h z_thrown z_s z_kept z_isKept z_moveMany z_moves z_hands z_troubles z_troubleSorts z_troubleNumbers z_asked z_paint z_leasts z_isSeen z_classMany z_types z_typeCounts z_typeMany z_text z_signs z_at z_lacks z_clauses z_begun z_letters z_firsts z_seconds z_aside z_sorts z_sizes z_items) [.ref (h 0)] (mw G h z_thrown res.2.1 z_kept z_isKept res.2.2.1 res.2.2.2.1 res.2.2.2.2.1 z_troubles z_troubleSorts z_troubleNumbers z_asked res.2.2.2.2.2.1 res.2.2.2.2.2.2.1 res.2.2.2.2.2.2.2.1 res.2.2.2.2.2.2.2.2.1 z_types z_typeCounts z_typeMany z_text z_signs z_at z_lacks z_clauses z_begun z_letters z_firsts z_seconds res.2.2.2.2.2.2.2.2.2 z_sorts z_sizes z_items) (some (.int res.1)) 0 0 := by
  refine MX.of (plainFor_of_name (by decide)) (Nat.le_of_ble_eq_true rfl) ?_
  intro p e s m below meth c A X E hI ls hl
  obtain ⟨hx, hb, hml, hown, hts, hr, hlk⟩ := id X
  have hl : lv_has ls 3 [(0, .ref (h 0))] := hl
  unfold f_X10_after at hf
  refine lv_aload_n (pc := 0) hx hb dX10_after_0 rfl (lv_at hl 0 rfl) ?_
  refine x_get (pc := 1) X E hI inX10 0 rfl rfl 1 (by decide) tw_3_230 rfl dX10_after_1 ?_
  refine lv_aload_n (pc := 4) hx hb dX10_after_4 rfl (lv_at hl 0 rfl) ?_
  refine x_get (pc := 5) X E hI inX10 0 rfl rfl 27 (by decide) tw_4_16 rfl dX10_after_5 ?_
  obtain ⟨t1, e1, hf⟩ := q_ob hf
  refine x_cSp (pc := 8) (st1 := []) (w2 := (mw G h z_thrown z_s z_kept z_isKept z_moveMany z_moves z_hands z_troubles z_troubleSorts z_troubleNumbers z_asked z_paint z_leasts z_isSeen z_classMany z_types z_typeCounts z_typeMany z_text z_signs z_at z_lacks z_clauses z_begun z_letters z_firsts z_seconds t1 z_sorts z_sizes z_items)) X E hI (c_X10_copies l G (h 1) (h 17) e1) ks_X10_321 hd_X10_copies ⟨rfl, rfl⟩ (by decide) pt_mw_cpw_0 pt_mw_cpw_0q rfl hl.1 rfl (Nat.le_of_ble_eq_true rfl) dX10_after_8 ⟨Nat.le_of_ble_eq_true rfl, Nat.le_of_ble_eq_true rfl⟩ rfl (fun H locs hI => ?_)
  refine lv_aload_n (pc := 11) hx hb dX10_after_11 rfl (lv_at hl 0 rfl) ?_
  obtain ⟨t2, e2, hf⟩ := q_ob hf
  refine x_cVs (pc := 12) (st1 := [.int t2]) (w1 := (mw G h z_thrown z_s z_kept z_isKept z_moveMany z_moves z_hands z_troubles z_troubleSorts z_troubleNumbers z_asked z_paint z_leasts z_isSeen z_classMany z_types z_typeCounts z_typeMany z_text z_signs z_at z_lacks z_clauses z_begun z_letters z_firsts z_seconds t1 z_sorts z_sizes z_items)) X E hI (c_X10_allGenerators l G h e2) kv_X10_126 hd_X10_allGenerators ⟨rfl, rfl⟩ (by decide) 0 rfl rfl rfl rfl hl.1 rfl (Nat.le_of_ble_eq_true rfl) dX10_after_12 ⟨Nat.le_of_ble_eq_true rfl, Nat.le_of_ble_eq_true rfl⟩ rfl (fun H locs hI => ?_)
  refine lv_istore_n (pc := 15) (lv' := [(1, .int t2), (0, .ref (h 0))]) hx hb dX10_after_15 rfl hl (by decide) rfl (fun ls hl => ?_)
  refine lv_iconst (pc := 16) (v := 0) hx hb dX10_after_16 (by decide) ?_
  refine lv_istore_n (pc := 17) (lv' := [(2, .int 0), (1, .int t2), (0, .ref (h 0))]) hx hb dX10_after_17 rfl hl (by decide) rfl (fun ls hl => ?_)
  refine k_X10_after_L18 X E (fun l1_3 l2_3 z_s_3 z_moveMany_3 z_moves_3 z_hands_3 H locs ls hI hl hf => ?_) hI (lv_sub hl [2, 1, 0] rfl) hf
  refine lv_aload_n (pc := 64) hx hb dX10_after_64 rfl (lv_at hl 0 rfl) ?_
  refine lv_iload_n (pc := 65) hx hb dX10_after_65 rfl (lv_at hl 1 rfl) ?_
  obtain ⟨t4, e4, hf⟩ := q_ob hf
  refine x_cVs (pc := 66) (st1 := [.int t4.1]) (w1 := (mw G h z_thrown z_s_3 z_kept z_isKept t4.2.1 t4.2.2.1 t4.2.2.2 z_troubles z_troubleSorts z_troubleNumbers z_asked z_paint z_leasts z_isSeen z_classMany z_types z_typeCounts z_typeMany z_text z_signs z_at z_lacks z_clauses z_begun z_letters z_firsts z_seconds t1 z_sorts z_sizes z_items)) X E hI (c_X10_moves l G h e4) kv_X10_130 hd_X10_moves ⟨rfl, rfl⟩ (by decide) 0 rfl rfl rfl rfl hl.1 rfl (Nat.le_of_ble_eq_true rfl) dX10_after_66 ⟨Nat.le_of_ble_eq_true rfl, Nat.le_of_ble_eq_true rfl⟩ rfl (fun H locs hI => ?_)
  refine lv_pop (pc := 69) hx hb dX10_after_69 rfl ?_
  refine lv_aload_n (pc := 70) hx hb dX10_after_70 rfl (lv_at hl 0 rfl) ?_
  refine lv_iconst (pc := 71) (v := 1) hx hb dX10_after_71 (by decide) ?_
  obtain ⟨t5, e5, hf⟩ := q_ob hf
  refine x_cVs (pc := 72) (st1 := []) (w1 := (mw G h z_thrown z_s_3 z_kept z_isKept t4.2.1 t4.2.2.1 t4.2.2.2 z_troubles z_troubleSorts z_troubleNumbers z_asked t5.1 t5.2.1 t5.2.2.1 t5.2.2.2 z_types z_typeCounts z_typeMany z_text z_signs z_at z_lacks z_clauses z_begun z_letters z_firsts z_seconds t1 z_sorts z_sizes z_items)) X E hI (c_X10_classes l G h e5) kv_X10_189 hd_X10_classes ⟨rfl, rfl⟩ (by decide) 0 rfl rfl rfl rfl hl.1 rfl (Nat.le_of_ble_eq_true rfl) dX10_after_72 ⟨Nat.le_of_ble_eq_true rfl, Nat.le_of_ble_eq_true rfl⟩ rfl (fun H locs hI => ?_)
  refine lv_aload_n (pc := 75) hx hb dX10_after_75 rfl (lv_at hl 0 rfl) ?_
  refine x_get (pc := 76) X E hI inX10 0 rfl rfl 27 (by decide) tw_4_16 rfl dX10_after_76 ?_
  refine lv_aload_n (pc := 79) hx hb dX10_after_79 rfl (lv_at hl 0 rfl) ?_
  refine x_get (pc := 80) X E hI inX10 0 rfl rfl 1 (by decide) tw_3_230 rfl dX10_after_80 ?_
  obtain ⟨t6, e6, hf⟩ := q_ob hf
  refine x_cSp (pc := 83) (st1 := []) (w2 := (mw G h z_thrown t6 z_kept z_isKept t4.2.1 t4.2.2.1 t4.2.2.2 z_troubles z_troubleSorts z_troubleNumbers z_asked t5.1 t5.2.1 t5.2.2.1 t5.2.2.2 z_types z_typeCounts z_typeMany z_text z_signs z_at z_lacks z_clauses z_begun z_letters z_firsts z_seconds t1 z_sorts z_sizes z_items)) X E hI (c_X10_copies l G (h 17) (h 1) e6) ks_X10_321 hd_X10_copies ⟨rfl, rfl⟩ (by decide) pt_mw_cpw_1 pt_mw_cpw_1q rfl hl.1 rfl (Nat.le_of_ble_eq_true rfl) dX10_after_83 ⟨Nat.le_of_ble_eq_true rfl, Nat.le_of_ble_eq_true rfl⟩ rfl (fun H locs hI => ?_)
  refine lv_aload_n (pc := 86) hx hb dX10_after_86 rfl (lv_at hl 0 rfl) ?_
  refine x_get (pc := 87) X E hI inX10 0 rfl rfl 14 (by decide) tw_4_3 rfl dX10_after_87 ?_
  obtain rfl := Option.some.inj hf
  exact x_iret X hI dX10_after_90

abbrev rm_X10_isTape : Room := { frames := 1, cells := 0, slots := 0, locals := 25 }
set_option maxHeartbeats 4000000 in
set_option maxRecDepth 100000 in
theorem c_X10_isTape (l : Launch) (G : GX)  {l0 : Int32} {res : Int32} (hf : f_X10_isTape l0 = some res) : MX l yX10_isTape cX10_isTape 1 (some .boolean) rm_X10_isTape G [] [.int l0] [] (some (.int res)) 0 0 := by
  refine MX.of (plainFor_of_name (by decide)) (Nat.le_of_ble_eq_true rfl) ?_
  intro p e s m below meth c A X E hI ls hl
  obtain ⟨hx, hb, hml, hown, hts, hr, hlk⟩ := id X
  have hl : lv_has ls 1 [(0, .int l0)] := hl
  unfold f_X10_isTape at hf
  refine lv_iload_n (pc := 0) hx hb dX10_isTape_0 rfl (lv_at hl 0 rfl) ?_
  refine lv_i2l (pc := 1) (v := (l0 : Int32).toInt64) hx hb dX10_isTape_1 rfl ?_
  refine lv_lconst (pc := 2) (v := 0) hx hb dX10_isTape_2 (by decide) ?_
  refine lv_ldc2 (pc := 3) (v := 5) hx hb hown (hts _ tw_5_219) dX10_isTape_3 ?_
  obtain ⟨t1, e1, hf⟩ := q_ob hf
  refine x_cSn (pc := 6) (st1 := [.int t1]) X E hI (c_X10_in l G e1) ks_X10_85 hd_X10_in ⟨rfl, rfl⟩ (by decide) rfl hl.1 rfl (Nat.le_of_ble_eq_true rfl) dX10_isTape_6 ⟨Nat.le_of_ble_eq_true rfl, Nat.le_of_ble_eq_true rfl⟩ rfl (fun H locs hI => ?_)
  obtain ⟨t2, e2, hf⟩ := q_ob hf
  obtain ⟨hz, rfl⟩ := q_rz_i e2
  obtain rfl := Option.some.inj hf
  exact x_zret X hI hz dX10_isTape_9

