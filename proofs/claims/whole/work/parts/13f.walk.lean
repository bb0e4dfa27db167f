abbrev rm_X10_clause : Room := { frames := 2, cells := 0, slots := 0, locals := 48 }
set_option maxHeartbeats 4000000 in
set_option maxRecDepth 100000 in
theorem c_X10_clause (l : Launch) (G : GX) (h : Nat → Nat) {z_text : Nat → Int32} {z_signs : Int32} {z_at : Int32} {z_lacks : Int32} {z_clauses : Int32} {z_begun : Int32} {z_letters : Nat → Int32} {z_firsts : Nat → Int32} {z_seconds : Nat → Int32} {z_thrown : Int32} {z_s : Nat → Int32} {z_kept : Nat → Int32} {z_isKept : Int32} {z_moveMany : Int32} {z_moves : Nat → Int32} {z_hands : Nat → Int32} {z_troubles : Int32} {z_troubleSorts : Nat → Int32} {z_troubleNumbers : Nat → Int32} {z_asked : Nat → Int32} {z_paint : Nat → Int32} {z_leasts : Nat → Int32} {z_isSeen : Nat → Int32} {z_classMany : Int32} {z_types : Nat → Int32} {z_typeCounts : Nat → Int32} {z_typeMany : Int32} {z_aside : Nat → Int32} {z_sorts : Nat → Int32} {z_sizes : Nat → Int32} {z_items : Nat → Int64} {res : Int32 × Int32 × Int32 × Int32 × (Nat → Int32) × (Nat → Int32) × (Nat → Int32)} (hf : f_X10_clause z_text z_signs z_at z_lacks z_clauses z_begun z_letters z_firsts z_seconds = some res) : MX l yX10_clause cX10_clause 4 none rm_X10_clause G (mw G h z_thrown z_s z_kept z_isKept z_moveMany z_moves z_hands z_troubles z_troubleSorts z_troubleNumbers z_asked z_paint z_leasts z_isSeen z_classMany z_types z_typeCounts z_typeMany z_text z_signs z_at z_lacks z_clauses z_begun z_letters z_firsts z_seconds z_aside z_sorts z_sizes z_items) [.ref (h 0)] (mw G h z_thrown z_s z_kept z_isKept z_moveMany z_moves z_hands z_troubles z_troubleSorts z_troubleNumbers z_asked z_paint z_leasts z_isSeen z_classMany z_types z_typeCounts z_typeMany z_text z_signs res.1 res.2.1 res.2.2.1 res.2.2.2.1 res.2.2.2.2.1 res.2.2.2.2.2.1 res.2.2.2.2.2.2 z_aside z_sorts z_sizes z_items) none 0 0 := by
  refine MX.of (plainFor_of_name (by decide)) (Nat.le_of_ble_eq_true rfl) ?_
  intro p e s m below meth c A X E hI ls hl
  obtain ⟨hx, hb, hml, hown, hts, hr, hlk⟩ := id X
  have hl : lv_has ls 4 [(0, .ref (h 0))] := hl
  unfold f_X10_clause at hf
  refine lv_aload_n (pc := 0) hx hb dX10_clause_0 rfl (lv_at hl 0 rfl) ?_
  refine lv_aload_n (pc := 1) hx hb dX10_clause_1 rfl (lv_at hl 0 rfl) ?_
  refine x_get (pc := 2) X E hI inX10 0 rfl rfl 20 (by decide) tw_4_9 rfl dX10_clause_2 ?_
  refine x_put (pc := 5) (w' := (mw G h z_thrown z_s z_kept z_isKept z_moveMany z_moves z_hands z_troubles z_troubleSorts z_troubleNumbers z_asked z_paint z_leasts z_isSeen z_classMany z_types z_typeCounts z_typeMany z_text z_signs z_at z_lacks z_clauses z_at z_letters z_firsts z_seconds z_aside z_sorts z_sizes z_items)) X E hI inX10 tyX10 tyX10_ok nmX10 0 rfl rfl 23 (by decide) tw_4_12 rfl rfl rfl (Nat.le_of_ble_eq_true rfl) rfl dX10_clause_5 (fun H locs hI => ?_)
  refine lv_aload_n (pc := 8) hx hb dX10_clause_8 rfl (lv_at hl 0 rfl) ?_
  obtain ⟨t1, e1, hf⟩ := q_ob hf
  refine x_cVs (pc := 9) (st1 := [.int t1]) (w1 := (mw G h z_thrown z_s z_kept z_isKept z_moveMany z_moves z_hands z_troubles z_troubleSorts z_troubleNumbers z_asked z_paint z_leasts z_isSeen z_classMany z_types z_typeCounts z_typeMany z_text z_signs z_at z_lacks z_clauses z_at z_letters z_firsts z_seconds z_aside z_sorts z_sizes z_items)) X E hI (c_X10_here l G h e1) kv_X10_276 hd_X10_here ⟨rfl, rfl⟩ (by decide) 0 rfl rfl rfl rfl hl.1 rfl (Nat.le_of_ble_eq_true rfl) dX10_clause_9 ⟨Nat.le_of_ble_eq_true rfl, Nat.le_of_ble_eq_true rfl⟩ rfl (fun H locs hI => ?_)
  refine lv_istore_n (pc := 12) (lv' := [(1, .int t1), (0, .ref (h 0))]) hx hb dX10_clause_12 rfl hl (by decide) rfl (fun ls hl => ?_)
  refine lv_iload_n (pc := 13) hx hb dX10_clause_13 rfl (lv_at hl 0 rfl) ?_
  refine lv_bipush (pc := 14) (v := 110) hx hb dX10_clause_14 (by decide) ?_
  refine lv_icmp_eq (pc := 16) (tgt := 49) hx hb dX10_clause_16 (by decide) (fun c2 => ?_) (fun c2 => ?_)
  · have hf := q_ip c2 hf
    refine lv_aload_n (pc := 49) hx hb dX10_clause_49 rfl (lv_at hl 1 rfl) ?_
    refine lv_dup (pc := 50) hx hb dX10_clause_50 rfl ?_
    refine x_get (pc := 51) X E hI inX10 0 rfl rfl 20 (by decide) tw_4_9 rfl dX10_clause_51 ?_
    refine lv_iconst (pc := 54) (v := 1) hx hb dX10_clause_54 (by decide) ?_
    refine lv_iadd (pc := 55) hx hb dX10_clause_55 ?_
    refine x_put (pc := 56) (w' := (mw G h z_thrown z_s z_kept z_isKept z_moveMany z_moves z_hands z_troubles z_troubleSorts z_troubleNumbers z_asked z_paint z_leasts z_isSeen z_classMany z_types z_typeCounts z_typeMany z_text z_signs (z_at + 1) z_lacks z_clauses z_at z_letters z_firsts z_seconds z_aside z_sorts z_sizes z_items)) X E hI inX10 tyX10 tyX10_ok nmX10 0 rfl rfl 20 (by decide) tw_4_9 rfl rfl rfl (Nat.le_of_ble_eq_true rfl) rfl dX10_clause_56 (fun H locs hI => ?_)
    refine lv_aload_n (pc := 59) hx hb dX10_clause_59 rfl (lv_at hl 1 rfl) ?_
    refine lv_iload_n (pc := 60) hx hb dX10_clause_60 rfl (lv_at hl 0 rfl) ?_
    refine lv_bipush (pc := 61) (v := 116) hx hb dX10_clause_61 (by decide) ?_
    refine lv_icmp_eq (pc := 63) (tgt := 72) hx hb dX10_clause_63 (by decide) (fun c3 => ?_) (fun c3 => ?_)
    · have hf := q_ip c3 hf
      refine lv_bipush (pc := 72) (v := 6) hx hb dX10_clause_72 (by decide) ?_
      refine lv_goto (pc := 74) (tgt := 78) hx hb dX10_clause_74 (by decide) ?_
      obtain ⟨t4, e4, hf⟩ := q_ob hf
      refine x_cVs (pc := 78) (st1 := [.int t4.1]) (w1 := (mw G h z_thrown z_s z_kept z_isKept z_moveMany z_moves z_hands z_troubles z_troubleSorts z_troubleNumbers z_asked z_paint z_leasts z_isSeen z_classMany z_types z_typeCounts z_typeMany z_text z_signs t4.2.1 t4.2.2 z_clauses z_at z_letters z_firsts z_seconds z_aside z_sorts z_sizes z_items)) X E hI (c_X10_digits l G h e4) kv_X10_286 hd_X10_digits ⟨rfl, rfl⟩ (by decide) 0 rfl rfl rfl rfl hl.1 rfl (Nat.le_of_ble_eq_true rfl) dX10_clause_78 ⟨Nat.le_of_ble_eq_true rfl, Nat.le_of_ble_eq_true rfl⟩ rfl (fun H locs hI => ?_)
      refine lv_istore_n (pc := 81) (lv' := [(2, .int t4.1), (1, .int t1), (0, .ref (h 0))]) hx hb dX10_clause_81 rfl hl (by decide) rfl (fun ls hl => ?_)
      refine lv_iload_n (pc := 82) hx hb dX10_clause_82 rfl (lv_at hl 1 rfl) ?_
      refine lv_bipush (pc := 83) (v := 119) hx hb dX10_clause_83 (by decide) ?_
      refine lv_icmp_ne (pc := 85) (tgt := 96) hx hb dX10_clause_85 (by decide) (fun c5 => ?_) (fun c5 => ?_)
      · have hf := q_in c5 hf
        refine lv_iconst (pc := 96) (v := 0) hx hb dX10_clause_96 (by decide) ?_
        refine lv_istore_n (pc := 97) (lv' := [(3, .int 0), (2, .int t4.1), (1, .int t1), (0, .ref (h 0))]) hx hb dX10_clause_97 rfl hl (by decide) rfl (fun ls hl => ?_)
        refine lv_aload_n (pc := 98) hx hb dX10_clause_98 rfl (lv_at hl 3 rfl) ?_
        refine x_get (pc := 99) X E hI inX10 0 rfl rfl 21 (by decide) tw_4_10 rfl dX10_clause_99 ?_
        refine lv_if_eq (pc := 102) (tgt := 106) hx hb dX10_clause_102 (by decide) (fun c6 => ?_) (fun c6 => ?_)
        · have hf := q_ip c6 hf
          refine lv_aload_n (pc := 106) hx hb dX10_clause_106 rfl (lv_at hl 3 rfl) ?_
          refine x_get (pc := 107) X E hI inX10 0 rfl rfl 24 (by decide) tw_4_13 rfl dX10_clause_107 ?_
          refine lv_aload_n (pc := 110) hx hb dX10_clause_110 rfl (lv_at hl 3 rfl) ?_
          refine x_get (pc := 111) X E hI inX10 0 rfl rfl 22 (by decide) tw_4_11 rfl dX10_clause_111 ?_
          refine lv_iload_n (pc := 114) hx hb dX10_clause_114 rfl (lv_at hl 2 rfl) ?_
          obtain ⟨t7, e7, hf⟩ := q_ob hf
          refine x_iast (pc := 115) (w' := (mw G h z_thrown z_s z_kept z_isKept z_moveMany z_moves z_hands z_troubles z_troubleSorts z_troubleNumbers z_asked z_paint z_leasts z_isSeen z_classMany z_types z_typeCounts z_typeMany z_text z_signs t4.2.1 t4.2.2 z_clauses z_at t7 z_firsts z_seconds z_aside z_sorts z_sizes z_items)) X E hI 14 rfl e7 rfl dX10_clause_115 (fun H locs hI => ?_)
          refine lv_aload_n (pc := 116) hx hb dX10_clause_116 rfl (lv_at hl 3 rfl) ?_
          refine x_get (pc := 117) X E hI inX10 0 rfl rfl 25 (by decide) tw_4_14 rfl dX10_clause_117 ?_
          refine lv_aload_n (pc := 120) hx hb dX10_clause_120 rfl (lv_at hl 3 rfl) ?_
          refine x_get (pc := 121) X E hI inX10 0 rfl rfl 22 (by decide) tw_4_11 rfl dX10_clause_121 ?_
          refine lv_iload_n (pc := 124) hx hb dX10_clause_124 rfl (lv_at hl 1 rfl) ?_
          obtain ⟨t8, e8, hf⟩ := q_ob hf
          refine x_iast (pc := 125) (w' := (mw G h z_thrown z_s z_kept z_isKept z_moveMany z_moves z_hands z_troubles z_troubleSorts z_troubleNumbers z_asked z_paint z_leasts z_isSeen z_classMany z_types z_typeCounts z_typeMany z_text z_signs t4.2.1 t4.2.2 z_clauses z_at t7 t8 z_seconds z_aside z_sorts z_sizes z_items)) X E hI 15 rfl e8 rfl dX10_clause_125 (fun H locs hI => ?_)
          refine lv_aload_n (pc := 126) hx hb dX10_clause_126 rfl (lv_at hl 3 rfl) ?_
          refine x_get (pc := 127) X E hI inX10 0 rfl rfl 26 (by decide) tw_4_15 rfl dX10_clause_127 ?_
          refine lv_aload_n (pc := 130) hx hb dX10_clause_130 rfl (lv_at hl 3 rfl) ?_
          refine x_get (pc := 131) X E hI inX10 0 rfl rfl 22 (by decide) tw_4_11 rfl dX10_clause_131 ?_
          refine lv_iload_n (pc := 134) hx hb dX10_clause_134 rfl (lv_at hl 0 rfl) ?_
          obtain ⟨t9, e9, hf⟩ := q_ob hf
          refine x_iast (pc := 135) (w' := (mw G h z_thrown z_s z_kept z_isKept z_moveMany z_moves z_hands z_troubles z_troubleSorts z_troubleNumbers z_asked z_paint z_leasts z_isSeen z_classMany z_types z_typeCounts z_typeMany z_text z_signs t4.2.1 t4.2.2 z_clauses z_at t7 t8 t9 z_aside z_sorts z_sizes z_items)) X E hI 16 rfl e9 rfl dX10_clause_135 (fun H locs hI => ?_)
          refine lv_aload_n (pc := 136) hx hb dX10_clause_136 rfl (lv_at hl 3 rfl) ?_
          refine lv_dup (pc := 137) hx hb dX10_clause_137 rfl ?_
          refine x_get (pc := 138) X E hI inX10 0 rfl rfl 22 (by decide) tw_4_11 rfl dX10_clause_138 ?_
          refine lv_iconst (pc := 141) (v := 1) hx hb dX10_clause_141 (by decide) ?_
          refine lv_iadd (pc := 142) hx hb dX10_clause_142 ?_
          refine x_put (pc := 143) (w' := (mw G h z_thrown z_s z_kept z_isKept z_moveMany z_moves z_hands z_troubles z_troubleSorts z_troubleNumbers z_asked z_paint z_leasts z_isSeen z_classMany z_types z_typeCounts z_typeMany z_text z_signs t4.2.1 t4.2.2 (z_clauses + 1) z_at t7 t8 t9 z_aside z_sorts z_sizes z_items)) X E hI inX10 tyX10 tyX10_ok nmX10 0 rfl rfl 22 (by decide) tw_4_11 rfl rfl rfl (Nat.le_of_ble_eq_true rfl) rfl dX10_clause_143 (fun H locs hI => ?_)
          obtain rfl := Option.some.inj hf
          exact x_vret X hI dX10_clause_146
        · have hf := q_in c6 hf
          obtain rfl := Option.some.inj hf
          exact x_vret X hI dX10_clause_105
      · have hf := q_ip c5 hf
        refine lv_aload_n (pc := 88) hx hb dX10_clause_88 rfl (lv_at hl 2 rfl) ?_
        refine lv_iconst (pc := 89) (v := 1) hx hb dX10_clause_89 (by decide) ?_
        obtain ⟨t10, e10, hf⟩ := q_ob hf
        refine x_cVs (pc := 90) (st1 := [.int t10.1]) (w1 := (mw G h z_thrown z_s z_kept z_isKept z_moveMany z_moves z_hands z_troubles z_troubleSorts z_troubleNumbers z_asked z_paint z_leasts z_isSeen z_classMany z_types z_typeCounts z_typeMany z_text z_signs t10.2.1 t10.2.2 z_clauses z_at z_letters z_firsts z_seconds z_aside z_sorts z_sizes z_items)) X E hI (c_X10_digits l G h e10) kv_X10_286 hd_X10_digits ⟨rfl, rfl⟩ (by decide) 0 rfl rfl rfl rfl hl.1 rfl (Nat.le_of_ble_eq_true rfl) dX10_clause_90 ⟨Nat.le_of_ble_eq_true rfl, Nat.le_of_ble_eq_true rfl⟩ rfl (fun H locs hI => ?_)
        refine lv_goto (pc := 93) (tgt := 97) hx hb dX10_clause_93 (by decide) ?_
        refine lv_istore_n (pc := 97) (lv' := [(3, .int t10.1), (2, .int t4.1), (1, .int t1), (0, .ref (h 0))]) hx hb dX10_clause_97 rfl hl (by decide) rfl (fun ls hl => ?_)
        refine lv_aload_n (pc := 98) hx hb dX10_clause_98 rfl (lv_at hl 3 rfl) ?_
        refine x_get (pc := 99) X E hI inX10 0 rfl rfl 21 (by decide) tw_4_10 rfl dX10_clause_99 ?_
        refine lv_if_eq (pc := 102) (tgt := 106) hx hb dX10_clause_102 (by decide) (fun c11 => ?_) (fun c11 => ?_)
        · have hf := q_ip c11 hf
          refine lv_aload_n (pc := 106) hx hb dX10_clause_106 rfl (lv_at hl 3 rfl) ?_
          refine x_get (pc := 107) X E hI inX10 0 rfl rfl 24 (by decide) tw_4_13 rfl dX10_clause_107 ?_
          refine lv_aload_n (pc := 110) hx hb dX10_clause_110 rfl (lv_at hl 3 rfl) ?_
          refine x_get (pc := 111) X E hI inX10 0 rfl rfl 22 (by decide) tw_4_11 rfl dX10_clause_111 ?_
          refine lv_iload_n (pc := 114) hx hb dX10_clause_114 rfl (lv_at hl 2 rfl) ?_
          obtain ⟨t12, e12, hf⟩ := q_ob hf
          refine x_iast (pc := 115) (w' := (mw G h z_thrown z_s z_kept z_isKept z_moveMany z_moves z_hands z_troubles z_troubleSorts z_troubleNumbers z_asked z_paint z_leasts z_isSeen z_classMany z_types z_typeCounts z_typeMany z_text z_signs t10.2.1 t10.2.2 z_clauses z_at t12 z_firsts z_seconds z_aside z_sorts z_sizes z_items)) X E hI 14 rfl e12 rfl dX10_clause_115 (fun H locs hI => ?_)
          refine lv_aload_n (pc := 116) hx hb dX10_clause_116 rfl (lv_at hl 3 rfl) ?_
          refine x_get (pc := 117) X E hI inX10 0 rfl rfl 25 (by decide) tw_4_14 rfl dX10_clause_117 ?_
          refine lv_aload_n (pc := 120) hx hb dX10_clause_120 rfl (lv_at hl 3 rfl) ?_
          refine x_get (pc := 121) X E hI inX10 0 rfl rfl 22 (by decide) tw_4_11 rfl dX10_clause_121 ?_
          refine lv_iload_n (pc := 124) hx hb dX10_clause_124 rfl (lv_at hl 1 rfl) ?_
          obtain ⟨t13, e13, hf⟩ := q_ob hf
          refine x_iast (pc := 125) (w' := (mw G h z_thrown z_s z_kept z_isKept z_moveMany z_moves z_hands z_troubles z_troubleSorts z_troubleNumbers z_asked z_paint z_leasts z_isSeen z_classMany z_types z_typeCounts z_typeMany z_text z_signs t10.2.1 t10.2.2 z_clauses z_at t12 t13 z_seconds z_aside z_sorts z_sizes z_items)) X E hI 15 rfl e13 rfl dX10_clause_125 (fun H locs hI => ?_)
          refine lv_aload_n (pc := 126) hx hb dX10_clause_126 rfl (lv_at hl 3 rfl) ?_
          refine x_get (pc := 127) X E hI inX10 0 rfl rfl 26 (by decide) tw_4_15 rfl dX10_clause_127 ?_
          refine lv_aload_n (pc := 130) hx hb dX10_clause_130 rfl (lv_at hl 3 rfl) ?_
          refine x_get (pc := 131) X E hI inX10 0 rfl rfl 22 (by decide) tw_4_11 rfl dX10_clause_131 ?_
          refine lv_iload_n (pc := 134) hx hb dX10_clause_134 rfl (lv_at hl 0 rfl) ?_
          obtain ⟨t14, e14, hf⟩ := q_ob hf
          refine x_iast (pc := 135) (w' := (mw G h z_thrown z_s z_kept z_isKept z_moveMany z_moves z_hands z_troubles z_troubleSorts z_troubleNumbers z_asked z_paint z_leasts z_isSeen z_classMany z_types z_typeCounts z_typeMany z_text z_signs t10.2.1 t10.2.2 z_clauses z_at t12 t13 t14 z_aside z_sorts z_sizes z_items)) X E hI 16 rfl e14 rfl dX10_clause_135 (fun H locs hI => ?_)
          refine lv_aload_n (pc := 136) hx hb dX10_clause_136 rfl (lv_at hl 3 rfl) ?_
          refine lv_dup (pc := 137) hx hb dX10_clause_137 rfl ?_
          refine x_get (pc := 138) X E hI inX10 0 rfl rfl 22 (by decide) tw_4_11 rfl dX10_clause_138 ?_
          refine lv_iconst (pc := 141) (v := 1) hx hb dX10_clause_141 (by decide) ?_
          refine lv_iadd (pc := 142) hx hb dX10_clause_142 ?_
          refine x_put (pc := 143) (w' := (mw G h z_thrown z_s z_kept z_isKept z_moveMany z_moves z_hands z_troubles z_troubleSorts z_troubleNumbers z_asked z_paint z_leasts z_isSeen z_classMany z_types z_typeCounts z_typeMany z_text z_signs t10.2.1 t10.2.2 (z_clauses + 1) z_at t12 t13 t14 z_aside z_sorts z_sizes z_items)) X E hI inX10 tyX10 tyX10_ok nmX10 0 rfl rfl 22 (by decide) tw_4_11 rfl rfl rfl (Nat.le_of_ble_eq_true rfl) rfl dX10_clause_143 (fun H locs hI => ?_)
          obtain rfl := Option.some.inj hf
          exact x_vret X hI dX10_clause_146
        · have hf := q_in c11 hf
          obtain rfl := Option.some.inj hf
          exact x_vret X hI dX10_clause_105
    · have hf := q_in c3 hf
      refine lv_iload_n (pc := 66) hx hb dX10_clause_66 rfl (lv_at hl 0 rfl) ?_
      refine lv_bipush (pc := 67) (v := 109) hx hb dX10_clause_67 (by decide) ?_
      refine lv_icmp_ne (pc := 69) (tgt := 77) hx hb dX10_clause_69 (by decide) (fun c15 => ?_) (fun c15 => ?_)
      · have hf := q_in c15 hf
        refine lv_iconst (pc := 77) (v := 1) hx hb dX10_clause_77 (by decide) ?_
        obtain ⟨t16, e16, hf⟩ := q_ob hf
        refine x_cVs (pc := 78) (st1 := [.int t16.1]) (w1 := (mw G h z_thrown z_s z_kept z_isKept z_moveMany z_moves z_hands z_troubles z_troubleSorts z_troubleNumbers z_asked z_paint z_leasts z_isSeen z_classMany z_types z_typeCounts z_typeMany z_text z_signs t16.2.1 t16.2.2 z_clauses z_at z_letters z_firsts z_seconds z_aside z_sorts z_sizes z_items)) X E hI (c_X10_digits l G h e16) kv_X10_286 hd_X10_digits ⟨rfl, rfl⟩ (by decide) 0 rfl rfl rfl rfl hl.1 rfl (Nat.le_of_ble_eq_true rfl) dX10_clause_78 ⟨Nat.le_of_ble_eq_true rfl, Nat.le_of_ble_eq_true rfl⟩ rfl (fun H locs hI => ?_)
        refine lv_istore_n (pc := 81) (lv' := [(2, .int t16.1), (1, .int t1), (0, .ref (h 0))]) hx hb dX10_clause_81 rfl hl (by decide) rfl (fun ls hl => ?_)
        refine lv_iload_n (pc := 82) hx hb dX10_clause_82 rfl (lv_at hl 1 rfl) ?_
        refine lv_bipush (pc := 83) (v := 119) hx hb dX10_clause_83 (by decide) ?_
        refine lv_icmp_ne (pc := 85) (tgt := 96) hx hb dX10_clause_85 (by decide) (fun c17 => ?_) (fun c17 => ?_)
        · have hf := q_in c17 hf
          refine lv_iconst (pc := 96) (v := 0) hx hb dX10_clause_96 (by decide) ?_
          refine lv_istore_n (pc := 97) (lv' := [(3, .int 0), (2, .int t16.1), (1, .int t1), (0, .ref (h 0))]) hx hb dX10_clause_97 rfl hl (by decide) rfl (fun ls hl => ?_)
          refine lv_aload_n (pc := 98) hx hb dX10_clause_98 rfl (lv_at hl 3 rfl) ?_
          refine x_get (pc := 99) X E hI inX10 0 rfl rfl 21 (by decide) tw_4_10 rfl dX10_clause_99 ?_
          refine lv_if_eq (pc := 102) (tgt := 106) hx hb dX10_clause_102 (by decide) (fun c18 => ?_) (fun c18 => ?_)
          · have hf := q_ip c18 hf
            refine lv_aload_n (pc := 106) hx hb dX10_clause_106 rfl (lv_at hl 3 rfl) ?_
            refine x_get (pc := 107) X E hI inX10 0 rfl rfl 24 (by decide) tw_4_13 rfl dX10_clause_107 ?_
            refine lv_aload_n (pc := 110) hx hb dX10_clause_110 rfl (lv_at hl 3 rfl) ?_
            refine x_get (pc := 111) X E hI inX10 0 rfl rfl 22 (by decide) tw_4_11 rfl dX10_clause_111 ?_
            refine lv_iload_n (pc := 114) hx hb dX10_clause_114 rfl (lv_at hl 2 rfl) ?_
            obtain ⟨t19, e19, hf⟩ := q_ob hf
            refine x_iast (pc := 115) (w' := (mw G h z_thrown z_s z_kept z_isKept z_moveMany z_moves z_hands z_troubles z_troubleSorts z_troubleNumbers z_asked z_paint z_leasts z_isSeen z_classMany z_types z_typeCounts z_typeMany z_text z_signs t16.2.1 t16.2.2 z_clauses z_at t19 z_firsts z_seconds z_aside z_sorts z_sizes z_items)) X E hI 14 rfl e19 rfl dX10_clause_115 (fun H locs hI => ?_)
            refine lv_aload_n (pc := 116) hx hb dX10_clause_116 rfl (lv_at hl 3 rfl) ?_
            refine x_get (pc := 117) X E hI inX10 0 rfl rfl 25 (by decide) tw_4_14 rfl dX10_clause_117 ?_
            refine lv_aload_n (pc := 120) hx hb dX10_clause_120 rfl (lv_at hl 3 rfl) ?_
            refine x_get (pc := 121) X E hI inX10 0 rfl rfl 22 (by decide) tw_4_11 rfl dX10_clause_121 ?_
            refine lv_iload_n (pc := 124) hx hb dX10_clause_124 rfl (lv_at hl 1 rfl) ?_
            obtain ⟨t20, e20, hf⟩ := q_ob hf
            refine x_iast (pc := 125) (w' := (mw G h z_thrown z_s z_kept z_isKept z_moveMany z_moves z_hands z_troubles z_troubleSorts z_troubleNumbers z_asked z_paint z_leasts z_isSeen z_classMany z_types z_typeCounts z_typeMany z_text z_signs t16.2.1 t16.2.2 z_clauses z_at t19 t20 z_seconds z_aside z_sorts z_sizes z_items)) X E hI 15 rfl e20 rfl dX10_clause_125 (fun H locs hI => ?_)
            refine lv_aload_n (pc := 126) hx hb dX10_clause_126 rfl (lv_at hl 3 rfl) ?_
            refine x_get (pc := 127) X E hI inX10 0 rfl rfl 26 (by decide) tw_4_15 rfl dX10_clause_127 ?_
            refine lv_aload_n (pc := 130) hx hb dX10_clause_130 rfl (lv_at hl 3 rfl) ?_
            refine x_get (pc := 131) X E hI inX10 0 rfl rfl 22 (by decide) tw_4_11 rfl dX10_clause_131 ?_
            refine lv_iload_n (pc := 134) hx hb dX10_clause_134 rfl (lv_at hl 0 rfl) ?_
            obtain ⟨t21, e21, hf⟩ := q_ob hf
            refine x_iast (pc := 135) (w' := (mw G h z_thrown z_s z_kept z_isKept z_moveMany z_moves z_hands z_troubles z_troubleSorts z_troubleNumbers z_asked z_paint z_leasts z_isSeen z_classMany z_types z_typeCounts z_typeMany z_text z_signs t16.2.1 t16.2.2 z_clauses z_at t19 t20 t21 z_aside z_sorts z_sizes z_items)) X E hI 16 rfl e21 rfl dX10_clause_135 (fun H locs hI => ?_)
            refine lv_aload_n (pc := 136) hx hb dX10_clause_136 rfl (lv_at hl 3 rfl) ?_
            refine lv_dup (pc := 137) hx hb dX10_clause_137 rfl ?_
            refine x_get (pc := 138) X E hI inX10 0 rfl rfl 22 (by decide) tw_4_11 rfl dX10_clause_138 ?_
            refine lv_iconst (pc := 141) (v := 1) hx hb dX10_clause_141 (by decide) ?_
            refine lv_iadd (pc := 142) hx hb dX10_clause_142 ?_
            refine x_put (pc := 143) (w' := (mw G h z_thrown z_s z_kept z_isKept z_moveMany z_moves z_hands z_troubles z_troubleSorts z_troubleNumbers z_asked z_paint z_leasts z_isSeen z_classMany z_types z_typeCounts z_typeMany z_text z_signs t16.2.1 t16.2.2 (z_clauses + 1) z_at t19 t20 t21 z_aside z_sorts z_sizes z_items)) X E hI inX10 tyX10 tyX10_ok nmX10 0 rfl rfl 22 (by decide) tw_4_11 rfl rfl rfl (Nat.le_of_ble_eq_true rfl) rfl dX10_clause_143 (fun H locs hI => ?_)
            obtain rfl := Option.some.inj hf
            exact x_vret X hI dX10_clause_146
          · have hf := q_in c18 hf
            obtain rfl := Option.some.inj hf
            exact x_vret X hI dX10_clause_105
        · have hf := q_ip c17 hf
          refine lv_aload_n (pc := 88) hx hb dX10_clause_88 rfl (lv_at hl 2 rfl) ?_
          refine lv_iconst (pc := 89) (v := 1) hx hb dX10_clause_89 (by decide) ?_
          obtain ⟨t22, e22, hf⟩ := q_ob hf
          refine x_cVs (pc := 90) (st1 := [.int t22.1]) (w1 := (mw G h z_thrown z_s z_kept z_isKept z_moveMany z_moves z_hands z_troubles z_troubleSorts z_troubleNumbers z_asked z_paint z_leasts z_isSeen z_classMany z_types z_typeCounts z_typeMany z_text z_signs t22.2.1 t22.2.2 z_clauses z_at z_letters z_firsts z_seconds z_aside z_sorts z_sizes z_items)) X E hI (c_X10_digits l G h e22) kv_X10_286 hd_X10_digits ⟨rfl, rfl⟩ (by decide) 0 rfl rfl rfl rfl hl.1 rfl (Nat.le_of_ble_eq_true rfl) dX10_clause_90 ⟨Nat.le_of_ble_eq_true rfl, Nat.le_of_ble_eq_true rfl⟩ rfl (fun H locs hI => ?_)
          refine lv_goto (pc := 93) (tgt := 97) hx hb dX10_clause_93 (by decide) ?_
          refine lv_istore_n (pc := 97) (lv' := [(3, .int t22.1), (2, .int t16.1), (1, .int t1), (0, .ref (h 0))]) hx hb dX10_clause_97 rfl hl (by decide) rfl (fun ls hl => ?_)
          refine lv_aload_n (pc := 98) hx hb dX10_clause_98 rfl (lv_at hl 3 rfl) ?_
          refine x_get (pc := 99) X E hI inX10 0 rfl rfl 21 (by decide) tw_4_10 rfl dX10_clause_99 ?_
          refine lv_if_eq (pc := 102) (tgt := 106) hx hb dX10_clause_102 (by decide) (fun c23 => ?_) (fun c23 => ?_)
          · have hf := q_ip c23 hf
            refine lv_aload_n (pc := 106) hx hb dX10_clause_106 rfl (lv_at hl 3 rfl) ?_
            refine x_get (pc := 107) X E hI inX10 0 rfl rfl 24 (by decide) tw_4_13 rfl dX10_clause_107 ?_
            refine lv_aload_n (pc := 110) hx hb dX10_clause_110 rfl (lv_at hl 3 rfl) ?_
            refine x_get (pc := 111) X E hI inX10 0 rfl rfl 22 (by decide) tw_4_11 rfl dX10_clause_111 ?_
            refine lv_iload_n (pc := 114) hx hb dX10_clause_114 rfl (lv_at hl 2 rfl) ?_
            obtain ⟨t24, e24, hf⟩ := q_ob hf
            refine x_iast (pc := 115) (w' := (mw G h z_thrown z_s z_kept z_isKept z_moveMany z_moves z_hands z_troubles z_troubleSorts z_troubleNumbers z_asked z_paint z_leasts z_isSeen z_classMany z_types z_typeCounts z_typeMany z_text z_signs t22.2.1 t22.2.2 z_clauses z_at t24 z_firsts z_seconds z_aside z_sorts z_sizes z_items)) X E hI 14 rfl e24 rfl dX10_clause_115 (fun H locs hI => ?_)
            refine lv_aload_n (pc := 116) hx hb dX10_clause_116 rfl (lv_at hl 3 rfl) ?_
            refine x_get (pc := 117) X E hI inX10 0 rfl rfl 25 (by decide) tw_4_14 rfl dX10_clause_117 ?_
            refine lv_aload_n (pc := 120) hx hb dX10_clause_120 rfl (lv_at hl 3 rfl) ?_
            refine x_get (pc := 121) X E hI inX10 0 rfl rfl 22 (by decide) tw_4_11 rfl dX10_clause_121 ?_
            refine lv_iload_n (pc := 124) hx hb dX10_clause_124 rfl (lv_at hl 1 rfl) ?_
            obtain ⟨t25, e25, hf⟩ := q_ob hf
            refine x_iast (pc := 125) (w' := (mw G h z_thrown z_s z_kept z_isKept z_moveMany z_moves z_hands z_troubles z_troubleSorts z_troubleNumbers z_asked z_paint z_leasts z_isSeen z_classMany z_types z_typeCounts z_typeMany z_text z_signs t22.2.1 t22.2.2 z_clauses z_at t24 t25 z_seconds z_aside z_sorts z_sizes z_items)) X E hI 15 rfl e25 rfl dX10_clause_125 (fun H locs hI => ?_)
            refine lv_aload_n (pc := 126) hx hb dX10_clause_126 rfl (lv_at hl 3 rfl) ?_
            refine x_get (pc := 127) X E hI inX10 0 rfl rfl 26 (by decide) tw_4_15 rfl dX10_clause_127 ?_
            refine lv_aload_n (pc := 130) hx hb dX10_clause_130 rfl (lv_at hl 3 rfl) ?_
            refine x_get (pc := 131) X E hI inX10 0 rfl rfl 22 (by decide) tw_4_11 rfl dX10_clause_131 ?_
            refine lv_iload_n (pc := 134) hx hb dX10_clause_134 rfl (lv_at hl 0 rfl) ?_
            obtain ⟨t26, e26, hf⟩ := q_ob hf
            refine x_iast (pc := 135) (w' := (mw G h z_thrown z_s z_kept z_isKept z_moveMany z_moves z_hands z_troubles z_troubleSorts z_troubleNumbers z_asked z_paint z_leasts z_isSeen z_classMany z_types z_typeCounts z_typeMany z_text z_signs t22.2.1 t22.2.2 z_clauses z_at t24 t25 t26 z_aside z_sorts z_sizes z_items)) X E hI 16 rfl e26 rfl dX10_clause_135 (fun H locs hI => ?_)
            refine lv_aload_n (pc := 136) hx hb dX10_clause_136 rfl (lv_at hl 3 rfl) ?_
            refine lv_dup (pc := 137) hx hb dX10_clause_137 rfl ?_
            refine x_get (pc := 138) X E hI inX10 0 rfl rfl 22 (by decide) tw_4_11 rfl dX10_clause_138 ?_
            refine lv_iconst (pc := 141) (v := 1) hx hb dX10_clause_141 (by decide) ?_
            refine lv_iadd (pc := 142) hx hb dX10_clause_142 ?_
            refine x_put (pc := 143) (w' := (mw G h z_thrown z_s z_kept z_isKept z_moveMany z_moves z_hands z_troubles z_troubleSorts z_troubleNumbers z_asked z_paint z_leasts z_isSeen z_classMany z_types z_typeCounts z_typeMany z_text z_signs t22.2.1 t22.2.2 (z_clauses + 1) z_at t24 t25 t26 z_aside z_sorts z_sizes z_items)) X E hI inX10 tyX10 tyX10_ok nmX10 0 rfl rfl 22 (by decide) tw_4_11 rfl rfl rfl (Nat.le_of_ble_eq_true rfl) rfl dX10_clause_143 (fun H locs hI => ?_)
            obtain rfl := Option.some.inj hf
            exact x_vret X hI dX10_clause_146
          · have hf := q_in c23 hf
            obtain rfl := Option.some.inj hf
            exact x_vret X hI dX10_clause_105
      · have hf := q_ip c15 hf
        refine lv_bipush (pc := 72) (v := 6) hx hb dX10_clause_72 (by decide) ?_
        refine lv_goto (pc := 74) (tgt := 78) hx hb dX10_clause_74 (by decide) ?_
        obtain ⟨t27, e27, hf⟩ := q_ob hf
        refine x_cVs (pc := 78) (st1 := [.int t27.1]) (w1 := (mw G h z_thrown z_s z_kept z_isKept z_moveMany z_moves z_hands z_troubles z_troubleSorts z_troubleNumbers z_asked z_paint z_leasts z_isSeen z_classMany z_types z_typeCounts z_typeMany z_text z_signs t27.2.1 t27.2.2 z_clauses z_at z_letters z_firsts z_seconds z_aside z_sorts z_sizes z_items)) X E hI (c_X10_digits l G h e27) kv_X10_286 hd_X10_digits ⟨rfl, rfl⟩ (by decide) 0 rfl rfl rfl rfl hl.1 rfl (Nat.le_of_ble_eq_true rfl) dX10_clause_78 ⟨Nat.le_of_ble_eq_true rfl, Nat.le_of_ble_eq_true rfl⟩ rfl (fun H locs hI => ?_)
        refine lv_istore_n (pc := 81) (lv' := [(2, .int t27.1), (1, .int t1), (0, .ref (h 0))]) hx hb dX10_clause_81 rfl hl (by decide) rfl (fun ls hl => ?_)
        refine lv_iload_n (pc := 82) hx hb dX10_clause_82 rfl (lv_at hl 1 rfl) ?_
        refine lv_bipush (pc := 83) (v := 119) hx hb dX10_clause_83 (by decide) ?_
        refine lv_icmp_ne (pc := 85) (tgt := 96) hx hb dX10_clause_85 (by decide) (fun c28 => ?_) (fun c28 => ?_)
        · have hf := q_in c28 hf
          refine lv_iconst (pc := 96) (v := 0) hx hb dX10_clause_96 (by decide) ?_
          refine lv_istore_n (pc := 97) (lv' := [(3, .int 0), (2, .int t27.1), (1, .int t1), (0, .ref (h 0))]) hx hb dX10_clause_97 rfl hl (by decide) rfl (fun ls hl => ?_)
          refine lv_aload_n (pc := 98) hx hb dX10_clause_98 rfl (lv_at hl 3 rfl) ?_
          refine x_get (pc := 99) X E hI inX10 0 rfl rfl 21 (by decide) tw_4_10 rfl dX10_clause_99 ?_
          refine lv_if_eq (pc := 102) (tgt := 106) hx hb dX10_clause_102 (by decide) (fun c29 => ?_) (fun c29 => ?_)
          · have hf := q_ip c29 hf
            refine lv_aload_n (pc := 106) hx hb dX10_clause_106 rfl (lv_at hl 3 rfl) ?_
            refine x_get (pc := 107) X E hI inX10 0 rfl rfl 24 (by decide) tw_4_13 rfl dX10_clause_107 ?_
            refine lv_aload_n (pc := 110) hx hb dX10_clause_110 rfl (lv_at hl 3 rfl) ?_
            refine x_get (pc := 111) X E hI inX10 0 rfl rfl 22 (by decide) tw_4_11 rfl dX10_clause_111 ?_
            refine lv_iload_n (pc := 114) hx hb dX10_clause_114 rfl (lv_at hl 2 rfl) ?_
            obtain ⟨t30, e30, hf⟩ := q_ob hf
            refine x_iast (pc := 115) (w' := (mw G h z_thrown z_s z_kept z_isKept z_moveMany z_moves z_hands z_troubles z_troubleSorts z_troubleNumbers z_asked z_paint z_leasts z_isSeen z_classMany z_types z_typeCounts z_typeMany z_text z_signs t27.2.1 t27.2.2 z_clauses z_at t30 z_firsts z_seconds z_aside z_sorts z_sizes z_items)) X E hI 14 rfl e30 rfl dX10_clause_115 (fun H locs hI => ?_)
            refine lv_aload_n (pc := 116) hx hb dX10_clause_116 rfl (lv_at hl 3 rfl) ?_
            refine x_get (pc := 117) X E hI inX10 0 rfl rfl 25 (by decide) tw_4_14 rfl dX10_clause_117 ?_
            refine lv_aload_n (pc := 120) hx hb dX10_clause_120 rfl (lv_at hl 3 rfl) ?_
            refine x_get (pc := 121) X E hI inX10 0 rfl rfl 22 (by decide) tw_4_11 rfl dX10_clause_121 ?_
            refine lv_iload_n (pc := 124) hx hb dX10_clause_124 rfl (lv_at hl 1 rfl) ?_
            obtain ⟨t31, e31, hf⟩ := q_ob hf
            refine x_iast (pc := 125) (w' := (mw G h z_thrown z_s z_kept z_isKept z_moveMany z_moves z_hands z_troubles z_troubleSorts z_troubleNumbers z_asked z_paint z_leasts z_isSeen z_classMany z_types z_typeCounts z_typeMany z_text z_signs t27.2.1 t27.2.2 z_clauses z_at t30 t31 z_seconds z_aside z_sorts z_sizes z_items)) X E hI 15 rfl e31 rfl dX10_clause_125 (fun H locs hI => ?_)
            refine lv_aload_n (pc := 126) hx hb dX10_clause_126 rfl (lv_at hl 3 rfl) ?_
            refine x_get (pc := 127) X E hI inX10 0 rfl rfl 26 (by decide) tw_4_15 rfl dX10_clause_127 ?_
            refine lv_aload_n (pc := 130) hx hb dX10_clause_130 rfl (lv_at hl 3 rfl) ?_
            refine x_get (pc := 131) X E hI inX10 0 rfl rfl 22 (by decide) tw_4_11 rfl dX10_clause_131 ?_
            refine lv_iload_n (pc := 134) hx hb dX10_clause_134 rfl (lv_at hl 0 rfl) ?_
            obtain ⟨t32, e32, hf⟩ := q_ob hf
            refine x_iast (pc := 135) (w' := (mw G h z_thrown z_s z_kept z_isKept z_moveMany z_moves z_hands z_troubles z_troubleSorts z_troubleNumbers z_asked z_paint z_leasts z_isSeen z_classMany z_types z_typeCounts z_typeMany z_text z_signs t27.2.1 t27.2.2 z_clauses z_at t30 t31 t32 z_aside z_sorts z_sizes z_items)) X E hI 16 rfl e32 rfl dX10_clause_135 (fun H locs hI => ?_)
            refine lv_aload_n (pc := 136) hx hb dX10_clause_136 rfl (lv_at hl 3 rfl) ?_
            refine lv_dup (pc := 137) hx hb dX10_clause_137 rfl ?_
            refine x_get (pc := 138) X E hI inX10 0 rfl rfl 22 (by decide) tw_4_11 rfl dX10_clause_138 ?_
            refine lv_iconst (pc := 141) (v := 1) hx hb dX10_clause_141 (by decide) ?_
            refine lv_iadd (pc := 142) hx hb dX10_clause_142 ?_
            refine x_put (pc := 143) (w' := (mw G h z_thrown z_s z_kept z_isKept z_moveMany z_moves z_hands z_troubles z_troubleSorts z_troubleNumbers z_asked z_paint z_leasts z_isSeen z_classMany z_types z_typeCounts z_typeMany z_text z_signs t27.2.1 t27.2.2 (z_clauses + 1) z_at t30 t31 t32 z_aside z_sorts z_sizes z_items)) X E hI inX10 tyX10 tyX10_ok nmX10 0 rfl rfl 22 (by decide) tw_4_11 rfl rfl rfl (Nat.le_of_ble_eq_true rfl) rfl dX10_clause_143 (fun H locs hI => ?_)
            obtain rfl := Option.some.inj hf
            exact x_vret X hI dX10_clause_146
          · have hf := q_in c29 hf
            obtain rfl := Option.some.inj hf
            exact x_vret X hI dX10_clause_105
        · have hf := q_ip c28 hf
          refine lv_aload_n (pc := 88) hx hb dX10_clause_88 rfl (lv_at hl 2 rfl) ?_
          refine lv_iconst (pc := 89) (v := 1) hx hb dX10_clause_89 (by decide) ?_
          obtain ⟨t33, e33, hf⟩ := q_ob hf
          refine x_cVs (pc := 90) (st1 := [.int t33.1]) (w1 := (mw G h z_thrown z_s z_kept z_isKept z_moveMany z_moves z_hands z_troubles z_troubleSorts z_troubleNumbers z_asked z_paint z_leasts z_isSeen z_classMany z_types z_typeCounts z_typeMany z_text z_signs t33.2.1 t33.2.2 z_clauses z_at z_letters z_firsts z_seconds z_aside z_sorts z_sizes z_items)) X E hI (c_X10_digits l G h e33) kv_X10_286 hd_X10_digits ⟨rfl, rfl⟩ (by decide) 0 rfl rfl rfl rfl hl.1 rfl (Nat.le_of_ble_eq_true rfl) dX10_clause_90 ⟨Nat.le_of_ble_eq_true rfl, Nat.le_of_ble_eq_true rfl⟩ rfl (fun H locs hI => ?_)
          refine lv_goto (pc := 93) (tgt := 97) hx hb dX10_clause_93 (by decide) ?_
          refine lv_istore_n (pc := 97) (lv' := [(3, .int t33.1), (2, .int t27.1), (1, .int t1), (0, .ref (h 0))]) hx hb dX10_clause_97 rfl hl (by decide) rfl (fun ls hl => ?_)
          refine lv_aload_n (pc := 98) hx hb dX10_clause_98 rfl (lv_at hl 3 rfl) ?_
          refine x_get (pc := 99) X E hI inX10 0 rfl rfl 21 (by decide) tw_4_10 rfl dX10_clause_99 ?_
          refine lv_if_eq (pc := 102) (tgt := 106) hx hb dX10_clause_102 (by decide) (fun c34 => ?_) (fun c34 => ?_)
          · have hf := q_ip c34 hf
            refine lv_aload_n (pc := 106) hx hb dX10_clause_106 rfl (lv_at hl 3 rfl) ?_
            refine x_get (pc := 107) X E hI inX10 0 rfl rfl 24 (by decide) tw_4_13 rfl dX10_clause_107 ?_
            refine lv_aload_n (pc := 110) hx hb dX10_clause_110 rfl (lv_at hl 3 rfl) ?_
            refine x_get (pc := 111) X E hI inX10 0 rfl rfl 22 (by decide) tw_4_11 rfl dX10_clause_111 ?_
            refine lv_iload_n (pc := 114) hx hb dX10_clause_114 rfl (lv_at hl 2 rfl) ?_
            obtain ⟨t35, e35, hf⟩ := q_ob hf
            refine x_iast (pc := 115) (w' := (mw G h z_thrown z_s z_kept z_isKept z_moveMany z_moves z_hands z_troubles z_troubleSorts z_troubleNumbers z_asked z_paint z_leasts z_isSeen z_classMany z_types z_typeCounts z_typeMany z_text z_signs t33.2.1 t33.2.2 z_clauses z_at t35 z_firsts z_seconds z_aside z_sorts z_sizes z_items)) X E hI 14 rfl e35 rfl dX10_clause_115 (fun H locs hI => ?_)
            refine lv_aload_n (pc := 116) hx hb dX10_clause_116 rfl (lv_at hl 3 rfl) ?_
            refine x_get (pc := 117) X E hI inX10 0 rfl rfl 25 (by decide) tw_4_14 rfl dX10_clause_117 ?_
            refine lv_aload_n (pc := 120) hx hb dX10_clause_120 rfl (lv_at hl 3 rfl) ?_
            refine x_get (pc := 121) X E hI inX10 0 rfl rfl 22 (by decide) tw_4_11 rfl dX10_clause_121 ?_
            refine lv_iload_n (pc := 124) hx hb dX10_clause_124 rfl (lv_at hl 1 rfl) ?_
            obtain ⟨t36, e36, hf⟩ := q_ob hf
            refine x_iast (pc := 125) (w' := (mw G h z_thrown z_s z_kept z_isKept z_moveMany z_moves z_hands z_troubles z_troubleSorts z_troubleNumbers z_asked z_paint z_leasts z_isSeen z_classMany z_types z_typeCounts z_typeMany z_text z_signs t33.2.1 t33.2.2 z_clauses z_at t35 t36 z_seconds z_aside z_sorts z_sizes z_items)) X E hI 15 rfl e36 rfl dX10_clause_125 (fun H locs hI => ?_)
            refine lv_aload_n (pc := 126) hx hb dX10_clause_126 rfl (lv_at hl 3 rfl) ?_
            refine x_get (pc := 127) X E hI inX10 0 rfl rfl 26 (by decide) tw_4_15 rfl dX10_clause_127 ?_
            refine lv_aload_n (pc := 130) hx hb dX10_clause_130 rfl (lv_at hl 3 rfl) ?_
            refine x_get (pc := 131) X E hI inX10 0 rfl rfl 22 (by decide) tw_4_11 rfl dX10_clause_131 ?_
            refine lv_iload_n (pc := 134) hx hb dX10_clause_134 rfl (lv_at hl 0 rfl) ?_
            obtain ⟨t37, e37, hf⟩ := q_ob hf
            refine x_iast (pc := 135) (w' := (mw G h z_thrown z_s z_kept z_isKept z_moveMany z_moves z_hands z_troubles z_troubleSorts z_troubleNumbers z_asked z_paint z_leasts z_isSeen z_classMany z_types z_typeCounts z_typeMany z_text z_signs t33.2.1 t33.2.2 z_clauses z_at t35 t36 t37 z_aside z_sorts z_sizes z_items)) X E hI 16 rfl e37 rfl dX10_clause_135 (fun H locs hI => ?_)
            refine lv_aload_n (pc := 136) hx hb dX10_clause_136 rfl (lv_at hl 3 rfl) ?_
            refine lv_dup (pc := 137) hx hb dX10_clause_137 rfl ?_
            refine x_get (pc := 138) X E hI inX10 0 rfl rfl 22 (by decide) tw_4_11 rfl dX10_clause_138 ?_
            refine lv_iconst (pc := 141) (v := 1) hx hb dX10_clause_141 (by decide) ?_
            refine lv_iadd (pc := 142) hx hb dX10_clause_142 ?_
            refine x_put (pc := 143) (w' := (mw G h z_thrown z_s z_kept z_isKept z_moveMany z_moves z_hands z_troubles z_troubleSorts z_troubleNumbers z_asked z_paint z_leasts z_isSeen z_classMany z_types z_typeCounts z_typeMany z_text z_signs t33.2.1 t33.2.2 (z_clauses + 1) z_at t35 t36 t37 z_aside z_sorts z_sizes z_items)) X E hI inX10 tyX10 tyX10_ok nmX10 0 rfl rfl 22 (by decide) tw_4_11 rfl rfl rfl (Nat.le_of_ble_eq_true rfl) rfl dX10_clause_143 (fun H locs hI => ?_)
            obtain rfl := Option.some.inj hf
            exact x_vret X hI dX10_clause_146
          · have hf := q_in c34 hf
            obtain rfl := Option.some.inj hf
            exact x_vret X hI dX10_clause_105
  · have hf := q_in c2 hf
    refine lv_iload_n (pc := 19) hx hb dX10_clause_19 rfl (lv_at hl 0 rfl) ?_
    refine lv_bipush (pc := 20) (v := 107) hx hb dX10_clause_20 (by decide) ?_
    refine lv_icmp_eq (pc := 22) (tgt := 49) hx hb dX10_clause_22 (by decide) (fun c38 => ?_) (fun c38 => ?_)
    · have hf := q_ip c38 hf
      refine lv_aload_n (pc := 49) hx hb dX10_clause_49 rfl (lv_at hl 1 rfl) ?_
      refine lv_dup (pc := 50) hx hb dX10_clause_50 rfl ?_
      refine x_get (pc := 51) X E hI inX10 0 rfl rfl 20 (by decide) tw_4_9 rfl dX10_clause_51 ?_
      refine lv_iconst (pc := 54) (v := 1) hx hb dX10_clause_54 (by decide) ?_
      refine lv_iadd (pc := 55) hx hb dX10_clause_55 ?_
      refine x_put (pc := 56) (w' := (mw G h z_thrown z_s z_kept z_isKept z_moveMany z_moves z_hands z_troubles z_troubleSorts z_troubleNumbers z_asked z_paint z_leasts z_isSeen z_classMany z_types z_typeCounts z_typeMany z_text z_signs (z_at + 1) z_lacks z_clauses z_at z_letters z_firsts z_seconds z_aside z_sorts z_sizes z_items)) X E hI inX10 tyX10 tyX10_ok nmX10 0 rfl rfl 20 (by decide) tw_4_9 rfl rfl rfl (Nat.le_of_ble_eq_true rfl) rfl dX10_clause_56 (fun H locs hI => ?_)
      refine lv_aload_n (pc := 59) hx hb dX10_clause_59 rfl (lv_at hl 1 rfl) ?_
      refine lv_iload_n (pc := 60) hx hb dX10_clause_60 rfl (lv_at hl 0 rfl) ?_
      refine lv_bipush (pc := 61) (v := 116) hx hb dX10_clause_61 (by decide) ?_
      refine lv_icmp_eq (pc := 63) (tgt := 72) hx hb dX10_clause_63 (by decide) (fun c39 => ?_) (fun c39 => ?_)
      · have hf := q_ip c39 hf
        refine lv_bipush (pc := 72) (v := 6) hx hb dX10_clause_72 (by decide) ?_
        refine lv_goto (pc := 74) (tgt := 78) hx hb dX10_clause_74 (by decide) ?_
        obtain ⟨t40, e40, hf⟩ := q_ob hf
        refine x_cVs (pc := 78) (st1 := [.int t40.1]) (w1 := (mw G h z_thrown z_s z_kept z_isKept z_moveMany z_moves z_hands z_troubles z_troubleSorts z_troubleNumbers z_asked z_paint z_leasts z_isSeen z_classMany z_types z_typeCounts z_typeMany z_text z_signs t40.2.1 t40.2.2 z_clauses z_at z_letters z_firsts z_seconds z_aside z_sorts z_sizes z_items)) X E hI (c_X10_digits l G h e40) kv_X10_286 hd_X10_digits ⟨rfl, rfl⟩ (by decide) 0 rfl rfl rfl rfl hl.1 rfl (Nat.le_of_ble_eq_true rfl) dX10_clause_78 ⟨Nat.le_of_ble_eq_true rfl, Nat.le_of_ble_eq_true rfl⟩ rfl (fun H locs hI => ?_)
        refine lv_istore_n (pc := 81) (lv' := [(2, .int t40.1), (1, .int t1), (0, .ref (h 0))]) hx hb dX10_clause_81 rfl hl (by decide) rfl (fun ls hl => ?_)
        refine lv_iload_n (pc := 82) hx hb dX10_clause_82 rfl (lv_at hl 1 rfl) ?_
        refine lv_bipush (pc := 83) (v := 119) hx hb dX10_clause_83 (by decide) ?_
        refine lv_icmp_ne (pc := 85) (tgt := 96) hx hb dX10_clause_85 (by decide) (fun c41 => ?_) (fun c41 => ?_)
        · have hf := q_in c41 hf
          refine lv_iconst (pc := 96) (v := 0) hx hb dX10_clause_96 (by decide) ?_
          refine lv_istore_n (pc := 97) (lv' := [(3, .int 0), (2, .int t40.1), (1, .int t1), (0, .ref (h 0))]) hx hb dX10_clause_97 rfl hl (by decide) rfl (fun ls hl => ?_)
          refine lv_aload_n (pc := 98) hx hb dX10_clause_98 rfl (lv_at hl 3 rfl) ?_
          refine x_get (pc := 99) X E hI inX10 0 rfl rfl 21 (by decide) tw_4_10 rfl dX10_clause_99 ?_
          refine lv_if_eq (pc := 102) (tgt := 106) hx hb dX10_clause_102 (by decide) (fun c42 => ?_) (fun c42 => ?_)
          · have hf := q_ip c42 hf
            refine lv_aload_n (pc := 106) hx hb dX10_clause_106 rfl (lv_at hl 3 rfl) ?_
            refine x_get (pc := 107) X E hI inX10 0 rfl rfl 24 (by decide) tw_4_13 rfl dX10_clause_107 ?_
            refine lv_aload_n (pc := 110) hx hb dX10_clause_110 rfl (lv_at hl 3 rfl) ?_
            refine x_get (pc := 111) X E hI inX10 0 rfl rfl 22 (by decide) tw_4_11 rfl dX10_clause_111 ?_
            refine lv_iload_n (pc := 114) hx hb dX10_clause_114 rfl (lv_at hl 2 rfl) ?_
            obtain ⟨t43, e43, hf⟩ := q_ob hf
            refine x_iast (pc := 115) (w' := (mw G h z_thrown z_s z_kept z_isKept z_moveMany z_moves z_hands z_troubles z_troubleSorts z_troubleNumbers z_asked z_paint z_leasts z_isSeen z_classMany z_types z_typeCounts z_typeMany z_text z_signs t40.2.1 t40.2.2 z_clauses z_at t43 z_firsts z_seconds z_aside z_sorts z_sizes z_items)) X E hI 14 rfl e43 rfl dX10_clause_115 (fun H locs hI => ?_)
            refine lv_aload_n (pc := 116) hx hb dX10_clause_116 rfl (lv_at hl 3 rfl) ?_
            refine x_get (pc := 117) X E hI inX10 0 rfl rfl 25 (by decide) tw_4_14 rfl dX10_clause_117 ?_
            refine lv_aload_n (pc := 120) hx hb dX10_clause_120 rfl (lv_at hl 3 rfl) ?_
            refine x_get (pc := 121) X E hI inX10 0 rfl rfl 22 (by decide) tw_4_11 rfl dX10_clause_121 ?_
            refine lv_iload_n (pc := 124) hx hb dX10_clause_124 rfl (lv_at hl 1 rfl) ?_
            obtain ⟨t44, e44, hf⟩ := q_ob hf
            refine x_iast (pc := 125) (w' := (mw G h z_thrown z_s z_kept z_isKept z_moveMany z_moves z_hands z_troubles z_troubleSorts z_troubleNumbers z_asked z_paint z_leasts z_isSeen z_classMany z_types z_typeCounts z_typeMany z_text z_signs t40.2.1 t40.2.2 z_clauses z_at t43 t44 z_seconds z_aside z_sorts z_sizes z_items)) X E hI 15 rfl e44 rfl dX10_clause_125 (fun H locs hI => ?_)
            refine lv_aload_n (pc := 126) hx hb dX10_clause_126 rfl (lv_at hl 3 rfl) ?_
            refine x_get (pc := 127) X E hI inX10 0 rfl rfl 26 (by decide) tw_4_15 rfl dX10_clause_127 ?_
            refine lv_aload_n (pc := 130) hx hb dX10_clause_130 rfl (lv_at hl 3 rfl) ?_
            refine x_get (pc := 131) X E hI inX10 0 rfl rfl 22 (by decide) tw_4_11 rfl dX10_clause_131 ?_
            refine lv_iload_n (pc := 134) hx hb dX10_clause_134 rfl (lv_at hl 0 rfl) ?_
            obtain ⟨t45, e45, hf⟩ := q_ob hf
            refine x_iast (pc := 135) (w' := (mw G h z_thrown z_s z_kept z_isKept z_moveMany z_moves z_hands z_troubles z_troubleSorts z_troubleNumbers z_asked z_paint z_leasts z_isSeen z_classMany z_types z_typeCounts z_typeMany z_text z_signs t40.2.1 t40.2.2 z_clauses z_at t43 t44 t45 z_aside z_sorts z_sizes z_items)) X E hI 16 rfl e45 rfl dX10_clause_135 (fun H locs hI => ?_)
            refine lv_aload_n (pc := 136) hx hb dX10_clause_136 rfl (lv_at hl 3 rfl) ?_
            refine lv_dup (pc := 137) hx hb dX10_clause_137 rfl ?_
            refine x_get (pc := 138) X E hI inX10 0 rfl rfl 22 (by decide) tw_4_11 rfl dX10_clause_138 ?_
            refine lv_iconst (pc := 141) (v := 1) hx hb dX10_clause_141 (by decide) ?_
            refine lv_iadd (pc := 142) hx hb dX10_clause_142 ?_
            refine x_put (pc := 143) (w' := (mw G h z_thrown z_s z_kept z_isKept z_moveMany z_moves z_hands z_troubles z_troubleSorts z_troubleNumbers z_asked z_paint z_leasts z_isSeen z_classMany z_types z_typeCounts z_typeMany z_text z_signs t40.2.1 t40.2.2 (z_clauses + 1) z_at t43 t44 t45 z_aside z_sorts z_sizes z_items)) X E hI inX10 tyX10 tyX10_ok nmX10 0 rfl rfl 22 (by decide) tw_4_11 rfl rfl rfl (Nat.le_of_ble_eq_true rfl) rfl dX10_clause_143 (fun H locs hI => ?_)
            obtain rfl := Option.some.inj hf
            exact x_vret X hI dX10_clause_146
          · have hf := q_in c42 hf
            obtain rfl := Option.some.inj hf
            exact x_vret X hI dX10_clause_105
        · have hf := q_ip c41 hf
          refine lv_aload_n (pc := 88) hx hb dX10_clause_88 rfl (lv_at hl 2 rfl) ?_
          refine lv_iconst (pc := 89) (v := 1) hx hb dX10_clause_89 (by decide) ?_
          obtain ⟨t46, e46, hf⟩ := q_ob hf
          refine x_cVs (pc := 90) (st1 := [.int t46.1]) (w1 := (mw G h z_thrown z_s z_kept z_isKept z_moveMany z_moves z_hands z_troubles z_troubleSorts z_troubleNumbers z_asked z_paint z_leasts z_isSeen z_classMany z_types z_typeCounts z_typeMany z_text z_signs t46.2.1 t46.2.2 z_clauses z_at z_letters z_firsts z_seconds z_aside z_sorts z_sizes z_items)) X E hI (c_X10_digits l G h e46) kv_X10_286 hd_X10_digits ⟨rfl, rfl⟩ (by decide) 0 rfl rfl rfl rfl hl.1 rfl (Nat.le_of_ble_eq_true rfl) dX10_clause_90 ⟨Nat.le_of_ble_eq_true rfl, Nat.le_of_ble_eq_true rfl⟩ rfl (fun H locs hI => ?_)
          refine lv_goto (pc := 93) (tgt := 97) hx hb dX10_clause_93 (by decide) ?_
          refine lv_istore_n (pc := 97) (lv' := [(3, .int t46.1), (2, .int t40.1), (1, .int t1), (0, .ref (h 0))]) hx hb dX10_clause_97 rfl hl (by decide) rfl (fun ls hl => ?_)
          refine lv_aload_n (pc := 98) hx hb dX10_clause_98 rfl (lv_at hl 3 rfl) ?_
          refine x_get (pc := 99) X E hI inX10 0 rfl rfl 21 (by decide) tw_4_10 rfl dX10_clause_99 ?_
          refine lv_if_eq (pc := 102) (tgt := 106) hx hb dX10_clause_102 (by decide) (fun c47 => ?_) (fun c47 => ?_)
          · have hf := q_ip c47 hf
            refine lv_aload_n (pc := 106) hx hb dX10_clause_106 rfl (lv_at hl 3 rfl) ?_
            refine x_get (pc := 107) X E hI inX10 0 rfl rfl 24 (by decide) tw_4_13 rfl dX10_clause_107 ?_
            refine lv_aload_n (pc := 110) hx hb dX10_clause_110 rfl (lv_at hl 3 rfl) ?_
            refine x_get (pc := 111) X E hI inX10 0 rfl rfl 22 (by decide) tw_4_11 rfl dX10_clause_111 ?_
            refine lv_iload_n (pc := 114) hx hb dX10_clause_114 rfl (lv_at hl 2 rfl) ?_
            obtain ⟨t48, e48, hf⟩ := q_ob hf
            refine x_iast (pc := 115) (w' := (mw G h z_thrown z_s z_kept z_isKept z_moveMany z_moves z_hands z_troubles z_troubleSorts z_troubleNumbers z_asked z_paint z_leasts z_isSeen z_classMany z_types z_typeCounts z_typeMany z_text z_signs t46.2.1 t46.2.2 z_clauses z_at t48 z_firsts z_seconds z_aside z_sorts z_sizes z_items)) X E hI 14 rfl e48 rfl dX10_clause_115 (fun H locs hI => ?_)
            refine lv_aload_n (pc := 116) hx hb dX10_clause_116 rfl (lv_at hl 3 rfl) ?_
            refine x_get (pc := 117) X E hI inX10 0 rfl rfl 25 (by decide) tw_4_14 rfl dX10_clause_117 ?_
            refine lv_aload_n (pc := 120) hx hb dX10_clause_120 rfl (lv_at hl 3 rfl) ?_
            refine x_get (pc := 121) X E hI inX10 0 rfl rfl 22 (by decide) tw_4_11 rfl dX10_clause_121 ?_
            refine lv_iload_n (pc := 124) hx hb dX10_clause_124 rfl (lv_at hl 1 rfl) ?_
            obtain ⟨t49, e49, hf⟩ := q_ob hf
            refine x_iast (pc := 125) (w' := (mw G h z_thrown z_s z_kept z_isKept z_moveMany z_moves z_hands z_troubles z_troubleSorts z_troubleNumbers z_asked z_paint z_leasts z_isSeen z_classMany z_types z_typeCounts z_typeMany z_text z_signs t46.2.1 t46.2.2 z_clauses z_at t48 t49 z_seconds z_aside z_sorts z_sizes z_items)) X E hI 15 rfl e49 rfl dX10_clause_125 (fun H locs hI => ?_)
            refine lv_aload_n (pc := 126) hx hb dX10_clause_126 rfl (lv_at hl 3 rfl) ?_
            refine x_get (pc := 127) X E hI inX10 0 rfl rfl 26 (by decide) tw_4_15 rfl dX10_clause_127 ?_
            refine lv_aload_n (pc := 130) hx hb dX10_clause_130 rfl (lv_at hl 3 rfl) ?_
            refine x_get (pc := 131) X E hI inX10 0 rfl rfl 22 (by decide) tw_4_11 rfl dX10_clause_131 ?_
            refine lv_iload_n (pc := 134) hx hb dX10_clause_134 rfl (lv_at hl 0 rfl) ?_
            obtain ⟨t50, e50, hf⟩ := q_ob hf
            refine x_iast (pc := 135) (w' := (mw G h z_thrown z_s z_kept z_isKept z_moveMany z_moves z_hands z_troubles z_troubleSorts z_troubleNumbers z_asked z_paint z_leasts z_isSeen z_classMany z_types z_typeCounts z_typeMany z_text z_signs t46.2.1 t46.2.2 z_clauses z_at t48 t49 t50 z_aside z_sorts z_sizes z_items)) X E hI 16 rfl e50 rfl dX10_clause_135 (fun H locs hI => ?_)
            refine lv_aload_n (pc := 136) hx hb dX10_clause_136 rfl (lv_at hl 3 rfl) ?_
            refine lv_dup (pc := 137) hx hb dX10_clause_137 rfl ?_
            refine x_get (pc := 138) X E hI inX10 0 rfl rfl 22 (by decide) tw_4_11 rfl dX10_clause_138 ?_
            refine lv_iconst (pc := 141) (v := 1) hx hb dX10_clause_141 (by decide) ?_
            refine lv_iadd (pc := 142) hx hb dX10_clause_142 ?_
            refine x_put (pc := 143) (w' := (mw G h z_thrown z_s z_kept z_isKept z_moveMany z_moves z_hands z_troubles z_troubleSorts z_troubleNumbers z_asked z_paint z_leasts z_isSeen z_classMany z_types z_typeCounts z_typeMany z_text z_signs t46.2.1 t46.2.2 (z_clauses + 1) z_at t48 t49 t50 z_aside z_sorts z_sizes z_items)) X E hI inX10 tyX10 tyX10_ok nmX10 0 rfl rfl 22 (by decide) tw_4_11 rfl rfl rfl (Nat.le_of_ble_eq_true rfl) rfl dX10_clause_143 (fun H locs hI => ?_)
            obtain rfl := Option.some.inj hf
            exact x_vret X hI dX10_clause_146
          · have hf := q_in c47 hf
            obtain rfl := Option.some.inj hf
            exact x_vret X hI dX10_clause_105
      · have hf := q_in c39 hf
        refine lv_iload_n (pc := 66) hx hb dX10_clause_66 rfl (lv_at hl 0 rfl) ?_
        refine lv_bipush (pc := 67) (v := 109) hx hb dX10_clause_67 (by decide) ?_
        refine lv_icmp_ne (pc := 69) (tgt := 77) hx hb dX10_clause_69 (by decide) (fun c51 => ?_) (fun c51 => ?_)
        · have hf := q_in c51 hf
          refine lv_iconst (pc := 77) (v := 1) hx hb dX10_clause_77 (by decide) ?_
          obtain ⟨t52, e52, hf⟩ := q_ob hf
          refine x_cVs (pc := 78) (st1 := [.int t52.1]) (w1 := (mw G h z_thrown z_s z_kept z_isKept z_moveMany z_moves z_hands z_troubles z_troubleSorts z_troubleNumbers z_asked z_paint z_leasts z_isSeen z_classMany z_types z_typeCounts z_typeMany z_text z_signs t52.2.1 t52.2.2 z_clauses z_at z_letters z_firsts z_seconds z_aside z_sorts z_sizes z_items)) X E hI (c_X10_digits l G h e52) kv_X10_286 hd_X10_digits ⟨rfl, rfl⟩ (by decide) 0 rfl rfl rfl rfl hl.1 rfl (Nat.le_of_ble_eq_true rfl) dX10_clause_78 ⟨Nat.le_of_ble_eq_true rfl, Nat.le_of_ble_eq_true rfl⟩ rfl (fun H locs hI => ?_)
          refine lv_istore_n (pc := 81) (lv' := [(2, .int t52.1), (1, .int t1), (0, .ref (h 0))]) hx hb dX10_clause_81 rfl hl (by decide) rfl (fun ls hl => ?_)
          refine lv_iload_n (pc := 82) hx hb dX10_clause_82 rfl (lv_at hl 1 rfl) ?_
          refine lv_bipush (pc := 83) (v := 119) hx hb dX10_clause_83 (by decide) ?_
          refine lv_icmp_ne (pc := 85) (tgt := 96) hx hb dX10_clause_85 (by decide) (fun c53 => ?_) (fun c53 => ?_)
          · have hf := q_in c53 hf
            refine lv_iconst (pc := 96) (v := 0) hx hb dX10_clause_96 (by decide) ?_
            refine lv_istore_n (pc := 97) (lv' := [(3, .int 0), (2, .int t52.1), (1, .int t1), (0, .ref (h 0))]) hx hb dX10_clause_97 rfl hl (by decide) rfl (fun ls hl => ?_)
            refine lv_aload_n (pc := 98) hx hb dX10_clause_98 rfl (lv_at hl 3 rfl) ?_
            refine x_get (pc := 99) X E hI inX10 0 rfl rfl 21 (by decide) tw_4_10 rfl dX10_clause_99 ?_
            refine lv_if_eq (pc := 102) (tgt := 106) hx hb dX10_clause_102 (by decide) (fun c54 => ?_) (fun c54 => ?_)
            · have hf := q_ip c54 hf
              refine lv_aload_n (pc := 106) hx hb dX10_clause_106 rfl (lv_at hl 3 rfl) ?_
              refine x_get (pc := 107) X E hI inX10 0 rfl rfl 24 (by decide) tw_4_13 rfl dX10_clause_107 ?_
              refine lv_aload_n (pc := 110) hx hb dX10_clause_110 rfl (lv_at hl 3 rfl) ?_
              refine x_get (pc := 111) X E hI inX10 0 rfl rfl 22 (by decide) tw_4_11 rfl dX10_clause_111 ?_
              refine lv_iload_n (pc := 114) hx hb dX10_clause_114 rfl (lv_at hl 2 rfl) ?_
              obtain ⟨t55, e55, hf⟩ := q_ob hf
              refine x_iast (pc := 115) (w' := (mw G h z_thrown z_s z_kept z_isKept z_moveMany z_moves z_hands z_troubles z_troubleSorts z_troubleNumbers z_asked z_paint z_leasts z_isSeen z_classMany z_types z_typeCounts z_typeMany z_text z_signs t52.2.1 t52.2.2 z_clauses z_at t55 z_firsts z_seconds z_aside z_sorts z_sizes z_items)) X E hI 14 rfl e55 rfl dX10_clause_115 (fun H locs hI => ?_)
              refine lv_aload_n (pc := 116) hx hb dX10_clause_116 rfl (lv_at hl 3 rfl) ?_
              refine x_get (pc := 117) X E hI inX10 0 rfl rfl 25 (by decide) tw_4_14 rfl dX10_clause_117 ?_
              refine lv_aload_n (pc := 120) hx hb dX10_clause_120 rfl (lv_at hl 3 rfl) ?_
              refine x_get (pc := 121) X E hI inX10 0 rfl rfl 22 (by decide) tw_4_11 rfl dX10_clause_121 ?_
              refine lv_iload_n (pc := 124) hx hb dX10_clause_124 rfl (lv_at hl 1 rfl) ?_
              obtain ⟨t56, e56, hf⟩ := q_ob hf
              refine x_iast (pc := 125) (w' := (mw G h z_thrown z_s z_kept z_isKept z_moveMany z_moves z_hands z_troubles z_troubleSorts z_troubleNumbers z_asked z_paint z_leasts z_isSeen z_classMany z_types z_typeCounts z_typeMany z_text z_signs t52.2.1 t52.2.2 z_clauses z_at t55 t56 z_seconds z_aside z_sorts z_sizes z_items)) X E hI 15 rfl e56 rfl dX10_clause_125 (fun H locs hI => ?_)
              refine lv_aload_n (pc := 126) hx hb dX10_clause_126 rfl (lv_at hl 3 rfl) ?_
              refine x_get (pc := 127) X E hI inX10 0 rfl rfl 26 (by decide) tw_4_15 rfl dX10_clause_127 ?_
              refine lv_aload_n (pc := 130) hx hb dX10_clause_130 rfl (lv_at hl 3 rfl) ?_
              refine x_get (pc := 131) X E hI inX10 0 rfl rfl 22 (by decide) tw_4_11 rfl dX10_clause_131 ?_
              refine lv_iload_n (pc := 134) hx hb dX10_clause_134 rfl (lv_at hl 0 rfl) ?_
              obtain ⟨t57, e57, hf⟩ := q_ob hf
              refine x_iast (pc := 135) (w' := (mw G h z_thrown z_s z_kept z_isKept z_moveMany z_moves z_hands z_troubles z_troubleSorts z_troubleNumbers z_asked z_paint z_leasts z_isSeen z_classMany z_types z_typeCounts z_typeMany z_text z_signs t52.2.1 t52.2.2 z_clauses z_at t55 t56 t57 z_aside z_sorts z_sizes z_items)) X E hI 16 rfl e57 rfl dX10_clause_135 (fun H locs hI => ?_)
              refine lv_aload_n (pc := 136) hx hb dX10_clause_136 rfl (lv_at hl 3 rfl) ?_
              refine lv_dup (pc := 137) hx hb dX10_clause_137 rfl ?_
              refine x_get (pc := 138) X E hI inX10 0 rfl rfl 22 (by decide) tw_4_11 rfl dX10_clause_138 ?_
              refine lv_iconst (pc := 141) (v := 1) hx hb dX10_clause_141 (by decide) ?_
              refine lv_iadd (pc := 142) hx hb dX10_clause_142 ?_
              refine x_put (pc := 143) (w' := (mw G h z_thrown z_s z_kept z_isKept z_moveMany z_moves z_hands z_troubles z_troubleSorts z_troubleNumbers z_asked z_paint z_leasts z_isSeen z_classMany z_types z_typeCounts z_typeMany z_text z_signs t52.2.1 t52.2.2 (z_clauses + 1) z_at t55 t56 t57 z_aside z_sorts z_sizes z_items)) X E hI inX10 tyX10 tyX10_ok nmX10 0 rfl rfl 22 (by decide) tw_4_11 rfl rfl rfl (Nat.le_of_ble_eq_true rfl) rfl dX10_clause_143 (fun H locs hI => ?_)
              obtain rfl := Option.some.inj hf
              exact x_vret X hI dX10_clause_146
            · have hf := q_in c54 hf
              obtain rfl := Option.some.inj hf
              exact x_vret X hI dX10_clause_105
          · have hf := q_ip c53 hf
            refine lv_aload_n (pc := 88) hx hb dX10_clause_88 rfl (lv_at hl 2 rfl) ?_
            refine lv_iconst (pc := 89) (v := 1) hx hb dX10_clause_89 (by decide) ?_
            obtain ⟨t58, e58, hf⟩ := q_ob hf
            refine x_cVs (pc := 90) (st1 := [.int t58.1]) (w1 := (mw G h z_thrown z_s z_kept z_isKept z_moveMany z_moves z_hands z_troubles z_troubleSorts z_troubleNumbers z_asked z_paint z_leasts z_isSeen z_classMany z_types z_typeCounts z_typeMany z_text z_signs t58.2.1 t58.2.2 z_clauses z_at z_letters z_firsts z_seconds z_aside z_sorts z_sizes z_items)) X E hI (c_X10_digits l G h e58) kv_X10_286 hd_X10_digits ⟨rfl, rfl⟩ (by decide) 0 rfl rfl rfl rfl hl.1 rfl (Nat.le_of_ble_eq_true rfl) dX10_clause_90 ⟨Nat.le_of_ble_eq_true rfl, Nat.le_of_ble_eq_true rfl⟩ rfl (fun H locs hI => ?_)
            refine lv_goto (pc := 93) (tgt := 97) hx hb dX10_clause_93 (by decide) ?_
            refine lv_istore_n (pc := 97) (lv' := [(3, .int t58.1), (2, .int t52.1), (1, .int t1), (0, .ref (h 0))]) hx hb dX10_clause_97 rfl hl (by decide) rfl (fun ls hl => ?_)
            refine lv_aload_n (pc := 98) hx hb dX10_clause_98 rfl (lv_at hl 3 rfl) ?_
            refine x_get (pc := 99) X E hI inX10 0 rfl rfl 21 (by decide) tw_4_10 rfl dX10_clause_99 ?_
            refine lv_if_eq (pc := 102) (tgt := 106) hx hb dX10_clause_102 (by decide) (fun c59 => ?_) (fun c59 => ?_)
            · have hf := q_ip c59 hf
              refine lv_aload_n (pc := 106) hx hb dX10_clause_106 rfl (lv_at hl 3 rfl) ?_
              refine x_get (pc := 107) X E hI inX10 0 rfl rfl 24 (by decide) tw_4_13 rfl dX10_clause_107 ?_
              refine lv_aload_n (pc := 110) hx hb dX10_clause_110 rfl (lv_at hl 3 rfl) ?_
              refine x_get (pc := 111) X E hI inX10 0 rfl rfl 22 (by decide) tw_4_11 rfl dX10_clause_111 ?_
              refine lv_iload_n (pc := 114) hx hb dX10_clause_114 rfl (lv_at hl 2 rfl) ?_
              obtain ⟨t60, e60, hf⟩ := q_ob hf
              refine x_iast (pc := 115) (w' := (mw G h z_thrown z_s z_kept z_isKept z_moveMany z_moves z_hands z_troubles z_troubleSorts z_troubleNumbers z_asked z_paint z_leasts z_isSeen z_classMany z_types z_typeCounts z_typeMany z_text z_signs t58.2.1 t58.2.2 z_clauses z_at t60 z_firsts z_seconds z_aside z_sorts z_sizes z_items)) X E hI 14 rfl e60 rfl dX10_clause_115 (fun H locs hI => ?_)
              refine lv_aload_n (pc := 116) hx hb dX10_clause_116 rfl (lv_at hl 3 rfl) ?_
              refine x_get (pc := 117) X E hI inX10 0 rfl rfl 25 (by decide) tw_4_14 rfl dX10_clause_117 ?_
              refine lv_aload_n (pc := 120) hx hb dX10_clause_120 rfl (lv_at hl 3 rfl) ?_
              refine x_get (pc := 121) X E hI inX10 0 rfl rfl 22 (by decide) tw_4_11 rfl dX10_clause_121 ?_
              refine lv_iload_n (pc := 124) hx hb dX10_clause_124 rfl (lv_at hl 1 rfl) ?_
              obtain ⟨t61, e61, hf⟩ := q_ob hf
              refine x_iast (pc := 125) (w' := (mw G h z_thrown z_s z_kept z_isKept z_moveMany z_moves z_hands z_troubles z_troubleSorts z_troubleNumbers z_asked z_paint z_leasts z_isSeen z_classMany z_types z_typeCounts z_typeMany z_text z_signs t58.2.1 t58.2.2 z_clauses z_at t60 t61 z_seconds z_aside z_sorts z_sizes z_items)) X E hI 15 rfl e61 rfl dX10_clause_125 (fun H locs hI => ?_)
              refine lv_aload_n (pc := 126) hx hb dX10_clause_126 rfl (lv_at hl 3 rfl) ?_
              refine x_get (pc := 127) X E hI inX10 0 rfl rfl 26 (by decide) tw_4_15 rfl dX10_clause_127 ?_
              refine lv_aload_n (pc := 130) hx hb dX10_clause_130 rfl (lv_at hl 3 rfl) ?_
              refine x_get (pc := 131) X E hI inX10 0 rfl rfl 22 (by decide) tw_4_11 rfl dX10_clause_131 ?_
              refine lv_iload_n (pc := 134) hx hb dX10_clause_134 rfl (lv_at hl 0 rfl) ?_
              obtain ⟨t62, e62, hf⟩ := q_ob hf
              refine x_iast (pc := 135) (w' := (mw G h z_thrown z_s z_kept z_isKept z_moveMany z_moves z_hands z_troubles z_troubleSorts z_troubleNumbers z_asked z_paint z_leasts z_isSeen z_classMany z_types z_typeCounts z_typeMany z_text z_signs t58.2.1 t58.2.2 z_clauses z_at t60 t61 t62 z_aside z_sorts z_sizes z_items)) X E hI 16 rfl e62 rfl dX10_clause_135 (fun H locs hI => ?_)
              refine lv_aload_n (pc := 136) hx hb dX10_clause_136 rfl (lv_at hl 3 rfl) ?_
              refine lv_dup (pc := 137) hx hb dX10_clause_137 rfl ?_
              refine x_get (pc := 138) X E hI inX10 0 rfl rfl 22 (by decide) tw_4_11 rfl dX10_clause_138 ?_
              refine lv_iconst (pc := 141) (v := 1) hx hb dX10_clause_141 (by decide) ?_
              refine lv_iadd (pc := 142) hx hb dX10_clause_142 ?_
              refine x_put (pc := 143) (w' := (mw G h z_thrown z_s z_kept z_isKept z_moveMany z_moves z_hands z_troubles z_troubleSorts z_troubleNumbers z_asked z_paint z_leasts z_isSeen z_classMany z_types z_typeCounts z_typeMany z_text z_signs t58.2.1 t58.2.2 (z_clauses + 1) z_at t60 t61 t62 z_aside z_sorts z_sizes z_items)) X E hI inX10 tyX10 tyX10_ok nmX10 0 rfl rfl 22 (by decide) tw_4_11 rfl rfl rfl (Nat.le_of_ble_eq_true rfl) rfl dX10_clause_143 (fun H locs hI => ?_)
              obtain rfl := Option.some.inj hf
              exact x_vret X hI dX10_clause_146
            · have hf := q_in c59 hf
              obtain rfl := Option.some.inj hf
              exact x_vret X hI dX10_clause_105
        · have hf := q_ip c51 hf
          refine lv_bipush (pc := 72) (v := 6) hx hb dX10_clause_72 (by decide) ?_
          refine lv_goto (pc := 74) (tgt := 78) hx hb dX10_clause_74 (by decide) ?_
          obtain ⟨t63, e63, hf⟩ := q_ob hf
          refine x_cVs (pc := 78) (st1 := [.int t63.1]) (w1 := (mw G h z_thrown z_s z_kept z_isKept z_moveMany z_moves z_hands z_troubles z_troubleSorts z_troubleNumbers z_asked z_paint z_leasts z_isSeen z_classMany z_types z_typeCounts z_typeMany z_text z_signs t63.2.1 t63.2.2 z_clauses z_at z_letters z_firsts z_seconds z_aside z_sorts z_sizes z_items)) X E hI (c_X10_digits l G h e63) kv_X10_286 hd_X10_digits ⟨rfl, rfl⟩ (by decide) 0 rfl rfl rfl rfl hl.1 rfl (Nat.le_of_ble_eq_true rfl) dX10_clause_78 ⟨Nat.le_of_ble_eq_true rfl, Nat.le_of_ble_eq_true rfl⟩ rfl (fun H locs hI => ?_)
          refine lv_istore_n (pc := 81) (lv' := [(2, .int t63.1), (1, .int t1), (0, .ref (h 0))]) hx hb dX10_clause_81 rfl hl (by decide) rfl (fun ls hl => ?_)
          refine lv_iload_n (pc := 82) hx hb dX10_clause_82 rfl (lv_at hl 1 rfl) ?_
          refine lv_bipush (pc := 83) (v := 119) hx hb dX10_clause_83 (by decide) ?_
          refine lv_icmp_ne (pc := 85) (tgt := 96) hx hb dX10_clause_85 (by decide) (fun c64 => ?_) (fun c64 => ?_)
          · have hf := q_in c64 hf
            refine lv_iconst (pc := 96) (v := 0) hx hb dX10_clause_96 (by decide) ?_
            refine lv_istore_n (pc := 97) (lv' := [(3, .int 0), (2, .int t63.1), (1, .int t1), (0, .ref (h 0))]) hx hb dX10_clause_97 rfl hl (by decide) rfl (fun ls hl => ?_)
            refine lv_aload_n (pc := 98) hx hb dX10_clause_98 rfl (lv_at hl 3 rfl) ?_
            refine x_get (pc := 99) X E hI inX10 0 rfl rfl 21 (by decide) tw_4_10 rfl dX10_clause_99 ?_
            refine lv_if_eq (pc := 102) (tgt := 106) hx hb dX10_clause_102 (by decide) (fun c65 => ?_) (fun c65 => ?_)
            · have hf := q_ip c65 hf
              refine lv_aload_n (pc := 106) hx hb dX10_clause_106 rfl (lv_at hl 3 rfl) ?_
              refine x_get (pc := 107) X E hI inX10 0 rfl rfl 24 (by decide) tw_4_13 rfl dX10_clause_107 ?_
              refine lv_aload_n (pc := 110) hx hb dX10_clause_110 rfl (lv_at hl 3 rfl) ?_
              refine x_get (pc := 111) X E hI inX10 0 rfl rfl 22 (by decide) tw_4_11 rfl dX10_clause_111 ?_
              refine lv_iload_n (pc := 114) hx hb dX10_clause_114 rfl (lv_at hl 2 rfl) ?_
              obtain ⟨t66, e66, hf⟩ := q_ob hf
              refine x_iast (pc := 115) (w' := (mw G h z_thrown z_s z_kept z_isKept z_moveMany z_moves z_hands z_troubles z_troubleSorts z_troubleNumbers z_asked z_paint z_leasts z_isSeen z_classMany z_types z_typeCounts z_typeMany z_text z_signs t63.2.1 t63.2.2 z_clauses z_at t66 z_firsts z_seconds z_aside z_sorts z_sizes z_items)) X E hI 14 rfl e66 rfl dX10_clause_115 (fun H locs hI => ?_)
              refine lv_aload_n (pc := 116) hx hb dX10_clause_116 rfl (lv_at hl 3 rfl) ?_
              refine x_get (pc := 117) X E hI inX10 0 rfl rfl 25 (by decide) tw_4_14 rfl dX10_clause_117 ?_
              refine lv_aload_n (pc := 120) hx hb dX10_clause_120 rfl (lv_at hl 3 rfl) ?_
              refine x_get (pc := 121) X E hI inX10 0 rfl rfl 22 (by decide) tw_4_11 rfl dX10_clause_121 ?_
              refine lv_iload_n (pc := 124) hx hb dX10_clause_124 rfl (lv_at hl 1 rfl) ?_
              obtain ⟨t67, e67, hf⟩ := q_ob hf
              refine x_iast (pc := 125) (w' := (mw G h z_thrown z_s z_kept z_isKept z_moveMany z_moves z_hands z_troubles z_troubleSorts z_troubleNumbers z_asked z_paint z_leasts z_isSeen z_classMany z_types z_typeCounts z_typeMany z_text z_signs t63.2.1 t63.2.2 z_clauses z_at t66 t67 z_seconds z_aside z_sorts z_sizes z_items)) X E hI 15 rfl e67 rfl dX10_clause_125 (fun H locs hI => ?_)
              refine lv_aload_n (pc := 126) hx hb dX10_clause_126 rfl (lv_at hl 3 rfl) ?_
              refine x_get (pc := 127) X E hI inX10 0 rfl rfl 26 (by decide) tw_4_15 rfl dX10_clause_127 ?_
              refine lv_aload_n (pc := 130) hx hb dX10_clause_130 rfl (lv_at hl 3 rfl) ?_
              refine x_get (pc := 131) X E hI inX10 0 rfl rfl 22 (by decide) tw_4_11 rfl dX10_clause_131 ?_
              refine lv_iload_n (pc := 134) hx hb dX10_clause_134 rfl (lv_at hl 0 rfl) ?_
              obtain ⟨t68, e68, hf⟩ := q_ob hf
              refine x_iast (pc := 135) (w' := (mw G h z_thrown z_s z_kept z_isKept z_moveMany z_moves z_hands z_troubles z_troubleSorts z_troubleNumbers z_asked z_paint z_leasts z_isSeen z_classMany z_types z_typeCounts z_typeMany z_text z_signs t63.2.1 t63.2.2 z_clauses z_at t66 t67 t68 z_aside z_sorts z_sizes z_items)) X E hI 16 rfl e68 rfl dX10_clause_135 (fun H locs hI => ?_)
              refine lv_aload_n (pc := 136) hx hb dX10_clause_136 rfl (lv_at hl 3 rfl) ?_
              refine lv_dup (pc := 137) hx hb dX10_clause_137 rfl ?_
              refine x_get (pc := 138) X E hI inX10 0 rfl rfl 22 (by decide) tw_4_11 rfl dX10_clause_138 ?_
              refine lv_iconst (pc := 141) (v := 1) hx hb dX10_clause_141 (by decide) ?_
              refine lv_iadd (pc := 142) hx hb dX10_clause_142 ?_
              refine x_put (pc := 143) (w' := (mw G h z_thrown z_s z_kept z_isKept z_moveMany z_moves z_hands z_troubles z_troubleSorts z_troubleNumbers z_asked z_paint z_leasts z_isSeen z_classMany z_types z_typeCounts z_typeMany z_text z_signs t63.2.1 t63.2.2 (z_clauses + 1) z_at t66 t67 t68 z_aside z_sorts z_sizes z_items)) X E hI inX10 tyX10 tyX10_ok nmX10 0 rfl rfl 22 (by decide) tw_4_11 rfl rfl rfl (Nat.le_of_ble_eq_true rfl) rfl dX10_clause_143 (fun H locs hI => ?_)
              obtain rfl := Option.some.inj hf
              exact x_vret X hI dX10_clause_146
            · have hf := q_in c65 hf
              obtain rfl := Option.some.inj hf
              exact x_vret X hI dX10_clause_105
          · have hf := q_ip c64 hf
            refine lv_aload_n (pc := 88) hx hb dX10_clause_88 rfl (lv_at hl 2 rfl) ?_
            refine lv_iconst (pc := 89) (v := 1) hx hb dX10_clause_89 (by decide) ?_
            obtain ⟨t69, e69, hf⟩ := q_ob hf
            refine x_cVs (pc := 90) (st1 := [.int t69.1]) (w1 := (mw G h z_thrown z_s z_kept z_isKept z_moveMany z_moves z_hands z_troubles z_troubleSorts z_troubleNumbers z_asked z_paint z_leasts z_isSeen z_classMany z_types z_typeCounts z_typeMany z_text z_signs t69.2.1 t69.2.2 z_clauses z_at z_letters z_firsts z_seconds z_aside z_sorts z_sizes z_items)) X E hI (c_X10_digits l G h e69) kv_X10_286 hd_X10_digits ⟨rfl, rfl⟩ (by decide) 0 rfl rfl rfl rfl hl.1 rfl (Nat.le_of_ble_eq_true rfl) dX10_clause_90 ⟨Nat.le_of_ble_eq_true rfl, Nat.le_of_ble_eq_true rfl⟩ rfl (fun H locs hI => ?_)
            refine lv_goto (pc := 93) (tgt := 97) hx hb dX10_clause_93 (by decide) ?_
            refine lv_istore_n (pc := 97) (lv' := [(3, .int t69.1), (2, .int t63.1), (1, .int t1), (0, .ref (h 0))]) hx hb dX10_clause_97 rfl hl (by decide) rfl (fun ls hl => ?_)
            refine lv_aload_n (pc := 98) hx hb dX10_clause_98 rfl (lv_at hl 3 rfl) ?_
            refine x_get (pc := 99) X E hI inX10 0 rfl rfl 21 (by decide) tw_4_10 rfl dX10_clause_99 ?_
            refine lv_if_eq (pc := 102) (tgt := 106) hx hb dX10_clause_102 (by decide) (fun c70 => ?_) (fun c70 => ?_)
            · have hf := q_ip c70 hf
              refine lv_aload_n (pc := 106) hx hb dX10_clause_106 rfl (lv_at hl 3 rfl) ?_
              refine x_get (pc := 107) X E hI inX10 0 rfl rfl 24 (by decide) tw_4_13 rfl dX10_clause_107 ?_
              refine lv_aload_n (pc := 110) hx hb dX10_clause_110 rfl (lv_at hl 3 rfl) ?_
              refine x_get (pc := 111) X E hI inX10 0 rfl rfl 22 (by decide) tw_4_11 rfl dX10_clause_111 ?_
              refine lv_iload_n (pc := 114) hx hb dX10_clause_114 rfl (lv_at hl 2 rfl) ?_
              obtain ⟨t71, e71, hf⟩ := q_ob hf
              refine x_iast (pc := 115) (w' := (mw G h z_thrown z_s z_kept z_isKept z_moveMany z_moves z_hands z_troubles z_troubleSorts z_troubleNumbers z_asked z_paint z_leasts z_isSeen z_classMany z_types z_typeCounts z_typeMany z_text z_signs t69.2.1 t69.2.2 z_clauses z_at t71 z_firsts z_seconds z_aside z_sorts z_sizes z_items)) X E hI 14 rfl e71 rfl dX10_clause_115 (fun H locs hI => ?_)
              refine lv_aload_n (pc := 116) hx hb dX10_clause_116 rfl (lv_at hl 3 rfl) ?_
              refine x_get (pc := 117) X E hI inX10 0 rfl rfl 25 (by decide) tw_4_14 rfl dX10_clause_117 ?_
              refine lv_aload_n (pc := 120) hx hb dX10_clause_120 rfl (lv_at hl 3 rfl) ?_
              refine x_get (pc := 121) X E hI inX10 0 rfl rfl 22 (by decide) tw_4_11 rfl dX10_clause_121 ?_
              refine lv_iload_n (pc := 124) hx hb dX10_clause_124 rfl (lv_at hl 1 rfl) ?_
              obtain ⟨t72, e72, hf⟩ := q_ob hf
              refine x_iast (pc := 125) (w' := (mw G h z_thrown z_s z_kept z_isKept z_moveMany z_moves z_hands z_troubles z_troubleSorts z_troubleNumbers z_asked z_paint z_leasts z_isSeen z_classMany z_types z_typeCounts z_typeMany z_text z_signs t69.2.1 t69.2.2 z_clauses z_at t71 t72 z_seconds z_aside z_sorts z_sizes z_items)) X E hI 15 rfl e72 rfl dX10_clause_125 (fun H locs hI => ?_)
              refine lv_aload_n (pc := 126) hx hb dX10_clause_126 rfl (lv_at hl 3 rfl) ?_
              refine x_get (pc := 127) X E hI inX10 0 rfl rfl 26 (by decide) tw_4_15 rfl dX10_clause_127 ?_
              refine lv_aload_n (pc := 130) hx hb dX10_clause_130 rfl (lv_at hl 3 rfl) ?_
              refine x_get (pc := 131) X E hI inX10 0 rfl rfl 22 (by decide) tw_4_11 rfl dX10_clause_131 ?_
              refine lv_iload_n (pc := 134) hx hb dX10_clause_134 rfl (lv_at hl 0 rfl) ?_
              obtain ⟨t73, e73, hf⟩ := q_ob hf
              refine x_iast (pc := 135) (w' := (mw G h z_thrown z_s z_kept z_isKept z_moveMany z_moves z_hands z_troubles z_troubleSorts z_troubleNumbers z_asked z_paint z_leasts z_isSeen z_classMany z_types z_typeCounts z_typeMany z_text z_signs t69.2.1 t69.2.2 z_clauses z_at t71 t72 t73 z_aside z_sorts z_sizes z_items)) X E hI 16 rfl e73 rfl dX10_clause_135 (fun H locs hI => ?_)
              refine lv_aload_n (pc := 136) hx hb dX10_clause_136 rfl (lv_at hl 3 rfl) ?_
              refine lv_dup (pc := 137) hx hb dX10_clause_137 rfl ?_
              refine x_get (pc := 138) X E hI inX10 0 rfl rfl 22 (by decide) tw_4_11 rfl dX10_clause_138 ?_
              refine lv_iconst (pc := 141) (v := 1) hx hb dX10_clause_141 (by decide) ?_
              refine lv_iadd (pc := 142) hx hb dX10_clause_142 ?_
              refine x_put (pc := 143) (w' := (mw G h z_thrown z_s z_kept z_isKept z_moveMany z_moves z_hands z_troubles z_troubleSorts z_troubleNumbers z_asked z_paint z_leasts z_isSeen z_classMany z_types z_typeCounts z_typeMany z_text z_signs t69.2.1 t69.2.2 (z_clauses + 1) z_at t71 t72 t73 z_aside z_sorts z_sizes z_items)) X E hI inX10 tyX10 tyX10_ok nmX10 0 rfl rfl 22 (by decide) tw_4_11 rfl rfl rfl (Nat.le_of_ble_eq_true rfl) rfl dX10_clause_143 (fun H locs hI => ?_)
              obtain rfl := Option.some.inj hf
              exact x_vret X hI dX10_clause_146
            · have hf := q_in c70 hf
              obtain rfl := Option.some.inj hf
              exact x_vret X hI dX10_clause_105
    · have hf := q_in c38 hf
      refine lv_iload_n (pc := 25) hx hb dX10_clause_25 rfl (lv_at hl 0 rfl) ?_
      refine lv_bipush (pc := 26) (v := 119) hx hb dX10_clause_26 (by decide) ?_
      refine lv_icmp_eq (pc := 28) (tgt := 49) hx hb dX10_clause_28 (by decide) (fun c74 => ?_) (fun c74 => ?_)
      · have hf := q_ip c74 hf
        refine lv_aload_n (pc := 49) hx hb dX10_clause_49 rfl (lv_at hl 1 rfl) ?_
        refine lv_dup (pc := 50) hx hb dX10_clause_50 rfl ?_
        refine x_get (pc := 51) X E hI inX10 0 rfl rfl 20 (by decide) tw_4_9 rfl dX10_clause_51 ?_
        refine lv_iconst (pc := 54) (v := 1) hx hb dX10_clause_54 (by decide) ?_
        refine lv_iadd (pc := 55) hx hb dX10_clause_55 ?_
        refine x_put (pc := 56) (w' := (mw G h z_thrown z_s z_kept z_isKept z_moveMany z_moves z_hands z_troubles z_troubleSorts z_troubleNumbers z_asked z_paint z_leasts z_isSeen z_classMany z_types z_typeCounts z_typeMany z_text z_signs (z_at + 1) z_lacks z_clauses z_at z_letters z_firsts z_seconds z_aside z_sorts z_sizes z_items)) X E hI inX10 tyX10 tyX10_ok nmX10 0 rfl rfl 20 (by decide) tw_4_9 rfl rfl rfl (Nat.le_of_ble_eq_true rfl) rfl dX10_clause_56 (fun H locs hI => ?_)
        refine lv_aload_n (pc := 59) hx hb dX10_clause_59 rfl (lv_at hl 1 rfl) ?_
        refine lv_iload_n (pc := 60) hx hb dX10_clause_60 rfl (lv_at hl 0 rfl) ?_
        refine lv_bipush (pc := 61) (v := 116) hx hb dX10_clause_61 (by decide) ?_
        refine lv_icmp_eq (pc := 63) (tgt := 72) hx hb dX10_clause_63 (by decide) (fun c75 => ?_) (fun c75 => ?_)
        · have hf := q_ip c75 hf
          refine lv_bipush (pc := 72) (v := 6) hx hb dX10_clause_72 (by decide) ?_
          refine lv_goto (pc := 74) (tgt := 78) hx hb dX10_clause_74 (by decide) ?_
          obtain ⟨t76, e76, hf⟩ := q_ob hf
          refine x_cVs (pc := 78) (st1 := [.int t76.1]) (w1 := (mw G h z_thrown z_s z_kept z_isKept z_moveMany z_moves z_hands z_troubles z_troubleSorts z_troubleNumbers z_asked z_paint z_leasts z_isSeen z_classMany z_types z_typeCounts z_typeMany z_text z_signs t76.2.1 t76.2.2 z_clauses z_at z_letters z_firsts z_seconds z_aside z_sorts z_sizes z_items)) X E hI (c_X10_digits l G h e76) kv_X10_286 hd_X10_digits ⟨rfl, rfl⟩ (by decide) 0 rfl rfl rfl rfl hl.1 rfl (Nat.le_of_ble_eq_true rfl) dX10_clause_78 ⟨Nat.le_of_ble_eq_true rfl, Nat.le_of_ble_eq_true rfl⟩ rfl (fun H locs hI => ?_)
          refine lv_istore_n (pc := 81) (lv' := [(2, .int t76.1), (1, .int t1), (0, .ref (h 0))]) hx hb dX10_clause_81 rfl hl (by decide) rfl (fun ls hl => ?_)
          refine lv_iload_n (pc := 82) hx hb dX10_clause_82 rfl (lv_at hl 1 rfl) ?_
          refine lv_bipush (pc := 83) (v := 119) hx hb dX10_clause_83 (by decide) ?_
          refine lv_icmp_ne (pc := 85) (tgt := 96) hx hb dX10_clause_85 (by decide) (fun c77 => ?_) (fun c77 => ?_)
          · have hf := q_in c77 hf
            refine lv_iconst (pc := 96) (v := 0) hx hb dX10_clause_96 (by decide) ?_
            refine lv_istore_n (pc := 97) (lv' := [(3, .int 0), (2, .int t76.1), (1, .int t1), (0, .ref (h 0))]) hx hb dX10_clause_97 rfl hl (by decide) rfl (fun ls hl => ?_)
            refine lv_aload_n (pc := 98) hx hb dX10_clause_98 rfl (lv_at hl 3 rfl) ?_
            refine x_get (pc := 99) X E hI inX10 0 rfl rfl 21 (by decide) tw_4_10 rfl dX10_clause_99 ?_
            refine lv_if_eq (pc := 102) (tgt := 106) hx hb dX10_clause_102 (by decide) (fun c78 => ?_) (fun c78 => ?_)
            · have hf := q_ip c78 hf
              refine lv_aload_n (pc := 106) hx hb dX10_clause_106 rfl (lv_at hl 3 rfl) ?_
              refine x_get (pc := 107) X E hI inX10 0 rfl rfl 24 (by decide) tw_4_13 rfl dX10_clause_107 ?_
              refine lv_aload_n (pc := 110) hx hb dX10_clause_110 rfl (lv_at hl 3 rfl) ?_
              refine x_get (pc := 111) X E hI inX10 0 rfl rfl 22 (by decide) tw_4_11 rfl dX10_clause_111 ?_
              refine lv_iload_n (pc := 114) hx hb dX10_clause_114 rfl (lv_at hl 2 rfl) ?_
              obtain ⟨t79, e79, hf⟩ := q_ob hf
              refine x_iast (pc := 115) (w' := (mw G h z_thrown z_s z_kept z_isKept z_moveMany z_moves z_hands z_troubles z_troubleSorts z_troubleNumbers z_asked z_paint z_leasts z_isSeen z_classMany z_types z_typeCounts z_typeMany z_text z_signs t76.2.1 t76.2.2 z_clauses z_at t79 z_firsts z_seconds z_aside z_sorts z_sizes z_items)) X E hI 14 rfl e79 rfl dX10_clause_115 (fun H locs hI => ?_)
              refine lv_aload_n (pc := 116) hx hb dX10_clause_116 rfl (lv_at hl 3 rfl) ?_
              refine x_get (pc := 117) X E hI inX10 0 rfl rfl 25 (by decide) tw_4_14 rfl dX10_clause_117 ?_
              refine lv_aload_n (pc := 120) hx hb dX10_clause_120 rfl (lv_at hl 3 rfl) ?_
              refine x_get (pc := 121) X E hI inX10 0 rfl rfl 22 (by decide) tw_4_11 rfl dX10_clause_121 ?_
              refine lv_iload_n (pc := 124) hx hb dX10_clause_124 rfl (lv_at hl 1 rfl) ?_
              obtain ⟨t80, e80, hf⟩ := q_ob hf
              refine x_iast (pc := 125) (w' := (mw G h z_thrown z_s z_kept z_isKept z_moveMany z_moves z_hands z_troubles z_troubleSorts z_troubleNumbers z_asked z_paint z_leasts z_isSeen z_classMany z_types z_typeCounts z_typeMany z_text z_signs t76.2.1 t76.2.2 z_clauses z_at t79 t80 z_seconds z_aside z_sorts z_sizes z_items)) X E hI 15 rfl e80 rfl dX10_clause_125 (fun H locs hI => ?_)
              refine lv_aload_n (pc := 126) hx hb dX10_clause_126 rfl (lv_at hl 3 rfl) ?_
              refine x_get (pc := 127) X E hI inX10 0 rfl rfl 26 (by decide) tw_4_15 rfl dX10_clause_127 ?_
              refine lv_aload_n (pc := 130) hx hb dX10_clause_130 rfl (lv_at hl 3 rfl) ?_
              refine x_get (pc := 131) X E hI inX10 0 rfl rfl 22 (by decide) tw_4_11 rfl dX10_clause_131 ?_
              refine lv_iload_n (pc := 134) hx hb dX10_clause_134 rfl (lv_at hl 0 rfl) ?_
              obtain ⟨t81, e81, hf⟩ := q_ob hf
              refine x_iast (pc := 135) (w' := (mw G h z_thrown z_s z_kept z_isKept z_moveMany z_moves z_hands z_troubles z_troubleSorts z_troubleNumbers z_asked z_paint z_leasts z_isSeen z_classMany z_types z_typeCounts z_typeMany z_text z_signs t76.2.1 t76.2.2 z_clauses z_at t79 t80 t81 z_aside z_sorts z_sizes z_items)) X E hI 16 rfl e81 rfl dX10_clause_135 (fun H locs hI => ?_)
              refine lv_aload_n (pc := 136) hx hb dX10_clause_136 rfl (lv_at hl 3 rfl) ?_
              refine lv_dup (pc := 137) hx hb dX10_clause_137 rfl ?_
              refine x_get (pc := 138) X E hI inX10 0 rfl rfl 22 (by decide) tw_4_11 rfl dX10_clause_138 ?_
              refine lv_iconst (pc := 141) (v := 1) hx hb dX10_clause_141 (by decide) ?_
              refine lv_iadd (pc := 142) hx hb dX10_clause_142 ?_
              refine x_put (pc := 143) (w' := (mw G h z_thrown z_s z_kept z_isKept z_moveMany z_moves z_hands z_troubles z_troubleSorts z_troubleNumbers z_asked z_paint z_leasts z_isSeen z_classMany z_types z_typeCounts z_typeMany z_text z_signs t76.2.1 t76.2.2 (z_clauses + 1) z_at t79 t80 t81 z_aside z_sorts z_sizes z_items)) X E hI inX10 tyX10 tyX10_ok nmX10 0 rfl rfl 22 (by decide) tw_4_11 rfl rfl rfl (Nat.le_of_ble_eq_true rfl) rfl dX10_clause_143 (fun H locs hI => ?_)
              obtain rfl := Option.some.inj hf
              exact x_vret X hI dX10_clause_146
            · have hf := q_in c78 hf
              obtain rfl := Option.some.inj hf
              exact x_vret X hI dX10_clause_105
          · have hf := q_ip c77 hf
            refine lv_aload_n (pc := 88) hx hb dX10_clause_88 rfl (lv_at hl 2 rfl) ?_
            refine lv_iconst (pc := 89) (v := 1) hx hb dX10_clause_89 (by decide) ?_
            obtain ⟨t82, e82, hf⟩ := q_ob hf
            refine x_cVs (pc := 90) (st1 := [.int t82.1]) (w1 := (mw G h z_thrown z_s z_kept z_isKept z_moveMany z_moves z_hands z_troubles z_troubleSorts z_troubleNumbers z_asked z_paint z_leasts z_isSeen z_classMany z_types z_typeCounts z_typeMany z_text z_signs t82.2.1 t82.2.2 z_clauses z_at z_letters z_firsts z_seconds z_aside z_sorts z_sizes z_items)) X E hI (c_X10_digits l G h e82) kv_X10_286 hd_X10_digits ⟨rfl, rfl⟩ (by decide) 0 rfl rfl rfl rfl hl.1 rfl (Nat.le_of_ble_eq_true rfl) dX10_clause_90 ⟨Nat.le_of_ble_eq_true rfl, Nat.le_of_ble_eq_true rfl⟩ rfl (fun H locs hI => ?_)
            refine lv_goto (pc := 93) (tgt := 97) hx hb dX10_clause_93 (by decide) ?_
            refine lv_istore_n (pc := 97) (lv' := [(3, .int t82.1), (2, .int t76.1), (1, .int t1), (0, .ref (h 0))]) hx hb dX10_clause_97 rfl hl (by decide) rfl (fun ls hl => ?_)
            refine lv_aload_n (pc := 98) hx hb dX10_clause_98 rfl (lv_at hl 3 rfl) ?_
            refine x_get (pc := 99) X E hI inX10 0 rfl rfl 21 (by decide) tw_4_10 rfl dX10_clause_99 ?_
            refine lv_if_eq (pc := 102) (tgt := 106) hx hb dX10_clause_102 (by decide) (fun c83 => ?_) (fun c83 => ?_)
            · have hf := q_ip c83 hf
              refine lv_aload_n (pc := 106) hx hb dX10_clause_106 rfl (lv_at hl 3 rfl) ?_
              refine x_get (pc := 107) X E hI inX10 0 rfl rfl 24 (by decide) tw_4_13 rfl dX10_clause_107 ?_
              refine lv_aload_n (pc := 110) hx hb dX10_clause_110 rfl (lv_at hl 3 rfl) ?_
              refine x_get (pc := 111) X E hI inX10 0 rfl rfl 22 (by decide) tw_4_11 rfl dX10_clause_111 ?_
              refine lv_iload_n (pc := 114) hx hb dX10_clause_114 rfl (lv_at hl 2 rfl) ?_
              obtain ⟨t84, e84, hf⟩ := q_ob hf
              refine x_iast (pc := 115) (w' := (mw G h z_thrown z_s z_kept z_isKept z_moveMany z_moves z_hands z_troubles z_troubleSorts z_troubleNumbers z_asked z_paint z_leasts z_isSeen z_classMany z_types z_typeCounts z_typeMany z_text z_signs t82.2.1 t82.2.2 z_clauses z_at t84 z_firsts z_seconds z_aside z_sorts z_sizes z_items)) X E hI 14 rfl e84 rfl dX10_clause_115 (fun H locs hI => ?_)
              refine lv_aload_n (pc := 116) hx hb dX10_clause_116 rfl (lv_at hl 3 rfl) ?_
              refine x_get (pc := 117) X E hI inX10 0 rfl rfl 25 (by decide) tw_4_14 rfl dX10_clause_117 ?_
              refine lv_aload_n (pc := 120) hx hb dX10_clause_120 rfl (lv_at hl 3 rfl) ?_
              refine x_get (pc := 121) X E hI inX10 0 rfl rfl 22 (by decide) tw_4_11 rfl dX10_clause_121 ?_
              refine lv_iload_n (pc := 124) hx hb dX10_clause_124 rfl (lv_at hl 1 rfl) ?_
              obtain ⟨t85, e85, hf⟩ := q_ob hf
              refine x_iast (pc := 125) (w' := (mw G h z_thrown z_s z_kept z_isKept z_moveMany z_moves z_hands z_troubles z_troubleSorts z_troubleNumbers z_asked z_paint z_leasts z_isSeen z_classMany z_types z_typeCounts z_typeMany z_text z_signs t82.2.1 t82.2.2 z_clauses z_at t84 t85 z_seconds z_aside z_sorts z_sizes z_items)) X E hI 15 rfl e85 rfl dX10_clause_125 (fun H locs hI => ?_)
              refine lv_aload_n (pc := 126) hx hb dX10_clause_126 rfl (lv_at hl 3 rfl) ?_
              refine x_get (pc := 127) X E hI inX10 0 rfl rfl 26 (by decide) tw_4_15 rfl dX10_clause_127 ?_
              refine lv_aload_n (pc := 130) hx hb dX10_clause_130 rfl (lv_at hl 3 rfl) ?_
              refine x_get (pc := 131) X E hI inX10 0 rfl rfl 22 (by decide) tw_4_11 rfl dX10_clause_131 ?_
              refine lv_iload_n (pc := 134) hx hb dX10_clause_134 rfl (lv_at hl 0 rfl) ?_
              obtain ⟨t86, e86, hf⟩ := q_ob hf
              refine x_iast (pc := 135) (w' := (mw G h z_thrown z_s z_kept z_isKept z_moveMany z_moves z_hands z_troubles z_troubleSorts z_troubleNumbers z_asked z_paint z_leasts z_isSeen z_classMany z_types z_typeCounts z_typeMany z_text z_signs t82.2.1 t82.2.2 z_clauses z_at t84 t85 t86 z_aside z_sorts z_sizes z_items)) X E hI 16 rfl e86 rfl dX10_clause_135 (fun H locs hI => ?_)
              refine lv_aload_n (pc := 136) hx hb dX10_clause_136 rfl (lv_at hl 3 rfl) ?_
              refine lv_dup (pc := 137) hx hb dX10_clause_137 rfl ?_
              refine x_get (pc := 138) X E hI inX10 0 rfl rfl 22 (by decide) tw_4_11 rfl dX10_clause_138 ?_
              refine lv_iconst (pc := 141) (v := 1) hx hb dX10_clause_141 (by decide) ?_
              refine lv_iadd (pc := 142) hx hb dX10_clause_142 ?_
              refine x_put (pc := 143) (w' := (mw G h z_thrown z_s z_kept z_isKept z_moveMany z_moves z_hands z_troubles z_troubleSorts z_troubleNumbers z_asked z_paint z_leasts z_isSeen z_classMany z_types z_typeCounts z_typeMany z_text z_signs t82.2.1 t82.2.2 (z_clauses + 1) z_at t84 t85 t86 z_aside z_sorts z_sizes z_items)) X E hI inX10 tyX10 tyX10_ok nmX10 0 rfl rfl 22 (by decide) tw_4_11 rfl rfl rfl (Nat.le_of_ble_eq_true rfl) rfl dX10_clause_143 (fun H locs hI => ?_)
              obtain rfl := Option.some.inj hf
              exact x_vret X hI dX10_clause_146
            · have hf := q_in c83 hf
              obtain rfl := Option.some.inj hf
              exact x_vret X hI dX10_clause_105
        · have hf := q_in c75 hf
          refine lv_iload_n (pc := 66) hx hb dX10_clause_66 rfl (lv_at hl 0 rfl) ?_
          refine lv_bipush (pc := 67) (v := 109) hx hb dX10_clause_67 (by decide) ?_
          refine lv_icmp_ne (pc := 69) (tgt := 77) hx hb dX10_clause_69 (by decide) (fun c87 => ?_) (fun c87 => ?_)
          · have hf := q_in c87 hf
            refine lv_iconst (pc := 77) (v := 1) hx hb dX10_clause_77 (by decide) ?_
            obtain ⟨t88, e88, hf⟩ := q_ob hf
            refine x_cVs (pc := 78) (st1 := [.int t88.1]) (w1 := (mw G h z_thrown z_s z_kept z_isKept z_moveMany z_moves z_hands z_troubles z_troubleSorts z_troubleNumbers z_asked z_paint z_leasts z_isSeen z_classMany z_types z_typeCounts z_typeMany z_text z_signs t88.2.1 t88.2.2 z_clauses z_at z_letters z_firsts z_seconds z_aside z_sorts z_sizes z_items)) X E hI (c_X10_digits l G h e88) kv_X10_286 hd_X10_digits ⟨rfl, rfl⟩ (by decide) 0 rfl rfl rfl rfl hl.1 rfl (Nat.le_of_ble_eq_true rfl) dX10_clause_78 ⟨Nat.le_of_ble_eq_true rfl, Nat.le_of_ble_eq_true rfl⟩ rfl (fun H locs hI => ?_)
            refine lv_istore_n (pc := 81) (lv' := [(2, .int t88.1), (1, .int t1), (0, .ref (h 0))]) hx hb dX10_clause_81 rfl hl (by decide) rfl (fun ls hl => ?_)
            refine lv_iload_n (pc := 82) hx hb dX10_clause_82 rfl (lv_at hl 1 rfl) ?_
            refine lv_bipush (pc := 83) (v := 119) hx hb dX10_clause_83 (by decide) ?_
            refine lv_icmp_ne (pc := 85) (tgt := 96) hx hb dX10_clause_85 (by decide) (fun c89 => ?_) (fun c89 => ?_)
            · have hf := q_in c89 hf
              refine lv_iconst (pc := 96) (v := 0) hx hb dX10_clause_96 (by decide) ?_
              refine lv_istore_n (pc := 97) (lv' := [(3, .int 0), (2, .int t88.1), (1, .int t1), (0, .ref (h 0))]) hx hb dX10_clause_97 rfl hl (by decide) rfl (fun ls hl => ?_)
              refine lv_aload_n (pc := 98) hx hb dX10_clause_98 rfl (lv_at hl 3 rfl) ?_
              refine x_get (pc := 99) X E hI inX10 0 rfl rfl 21 (by decide) tw_4_10 rfl dX10_clause_99 ?_
              refine lv_if_eq (pc := 102) (tgt := 106) hx hb dX10_clause_102 (by decide) (fun c90 => ?_) (fun c90 => ?_)
              · have hf := q_ip c90 hf
                refine lv_aload_n (pc := 106) hx hb dX10_clause_106 rfl (lv_at hl 3 rfl) ?_
                refine x_get (pc := 107) X E hI inX10 0 rfl rfl 24 (by decide) tw_4_13 rfl dX10_clause_107 ?_
                refine lv_aload_n (pc := 110) hx hb dX10_clause_110 rfl (lv_at hl 3 rfl) ?_
                refine x_get (pc := 111) X E hI inX10 0 rfl rfl 22 (by decide) tw_4_11 rfl dX10_clause_111 ?_
                refine lv_iload_n (pc := 114) hx hb dX10_clause_114 rfl (lv_at hl 2 rfl) ?_
                obtain ⟨t91, e91, hf⟩ := q_ob hf
                refine x_iast (pc := 115) (w' := (mw G h z_thrown z_s z_kept z_isKept z_moveMany z_moves z_hands z_troubles z_troubleSorts z_troubleNumbers z_asked z_paint z_leasts z_isSeen z_classMany z_types z_typeCounts z_typeMany z_text z_signs t88.2.1 t88.2.2 z_clauses z_at t91 z_firsts z_seconds z_aside z_sorts z_sizes z_items)) X E hI 14 rfl e91 rfl dX10_clause_115 (fun H locs hI => ?_)
                refine lv_aload_n (pc := 116) hx hb dX10_clause_116 rfl (lv_at hl 3 rfl) ?_
                refine x_get (pc := 117) X E hI inX10 0 rfl rfl 25 (by decide) tw_4_14 rfl dX10_clause_117 ?_
                refine lv_aload_n (pc := 120) hx hb dX10_clause_120 rfl (lv_at hl 3 rfl) ?_
                refine x_get (pc := 121) X E hI inX10 0 rfl rfl 22 (by decide) tw_4_11 rfl dX10_clause_121 ?_
                refine lv_iload_n (pc := 124) hx hb dX10_clause_124 rfl (lv_at hl 1 rfl) ?_
                obtain ⟨t92, e92, hf⟩ := q_ob hf
                refine x_iast (pc := 125) (w' := (mw G h z_thrown z_s z_kept z_isKept z_moveMany z_moves z_hands z_troubles z_troubleSorts z_troubleNumbers z_asked z_paint z_leasts z_isSeen z_classMany z_types z_typeCounts z_typeMany z_text z_signs t88.2.1 t88.2.2 z_clauses z_at t91 t92 z_seconds z_aside z_sorts z_sizes z_items)) X E hI 15 rfl e92 rfl dX10_clause_125 (fun H locs hI => ?_)
                refine lv_aload_n (pc := 126) hx hb dX10_clause_126 rfl (lv_at hl 3 rfl) ?_
                refine x_get (pc := 127) X E hI inX10 0 rfl rfl 26 (by decide) tw_4_15 rfl dX10_clause_127 ?_
                refine lv_aload_n (pc := 130) hx hb dX10_clause_130 rfl (lv_at hl 3 rfl) ?_
                refine x_get (pc := 131) X E hI inX10 0 rfl rfl 22 (by decide) tw_4_11 rfl dX10_clause_131 ?_
                refine lv_iload_n (pc := 134) hx hb dX10_clause_134 rfl (lv_at hl 0 rfl) ?_
                obtain ⟨t93, e93, hf⟩ := q_ob hf
                refine x_iast (pc := 135) (w' := (mw G h z_thrown z_s z_kept z_isKept z_moveMany z_moves z_hands z_troubles z_troubleSorts z_troubleNumbers z_asked z_paint z_leasts z_isSeen z_classMany z_types z_typeCounts z_typeMany z_text z_signs t88.2.1 t88.2.2 z_clauses z_at t91 t92 t93 z_aside z_sorts z_sizes z_items)) X E hI 16 rfl e93 rfl dX10_clause_135 (fun H locs hI => ?_)
                refine lv_aload_n (pc := 136) hx hb dX10_clause_136 rfl (lv_at hl 3 rfl) ?_
                refine lv_dup (pc := 137) hx hb dX10_clause_137 rfl ?_
                refine x_get (pc := 138) X E hI inX10 0 rfl rfl 22 (by decide) tw_4_11 rfl dX10_clause_138 ?_
                refine lv_iconst (pc := 141) (v := 1) hx hb dX10_clause_141 (by decide) ?_
                refine lv_iadd (pc := 142) hx hb dX10_clause_142 ?_
                refine x_put (pc := 143) (w' := (mw G h z_thrown z_s z_kept z_isKept z_moveMany z_moves z_hands z_troubles z_troubleSorts z_troubleNumbers z_asked z_paint z_leasts z_isSeen z_classMany z_types z_typeCounts z_typeMany z_text z_signs t88.2.1 t88.2.2 (z_clauses + 1) z_at t91 t92 t93 z_aside z_sorts z_sizes z_items)) X E hI inX10 tyX10 tyX10_ok nmX10 0 rfl rfl 22 (by decide) tw_4_11 rfl rfl rfl (Nat.le_of_ble_eq_true rfl) rfl dX10_clause_143 (fun H locs hI => ?_)
                obtain rfl := Option.some.inj hf
                exact x_vret X hI dX10_clause_146
              · have hf := q_in c90 hf
                obtain rfl := Option.some.inj hf
                exact x_vret X hI dX10_clause_105
            · have hf := q_ip c89 hf
              refine lv_aload_n (pc := 88) hx hb dX10_clause_88 rfl (lv_at hl 2 rfl) ?_
              refine lv_iconst (pc := 89) (v := 1) hx hb dX10_clause_89 (by decide) ?_
              obtain ⟨t94, e94, hf⟩ := q_ob hf
              refine x_cVs (pc := 90) (st1 := [.int t94.1]) (w1 := (mw G h z_thrown z_s z_kept z_isKept z_moveMany z_moves z_hands z_troubles z_troubleSorts z_troubleNumbers z_asked z_paint z_leasts z_isSeen z_classMany z_types z_typeCounts z_typeMany z_text z_signs t94.2.1 t94.2.2 z_clauses z_at z_letters z_firsts z_seconds z_aside z_sorts z_sizes z_items)) X E hI (c_X10_digits l G h e94) kv_X10_286 hd_X10_digits ⟨rfl, rfl⟩ (by decide) 0 rfl rfl rfl rfl hl.1 rfl (Nat.le_of_ble_eq_true rfl) dX10_clause_90 ⟨Nat.le_of_ble_eq_true rfl, Nat.le_of_ble_eq_true rfl⟩ rfl (fun H locs hI => ?_)
              refine lv_goto (pc := 93) (tgt := 97) hx hb dX10_clause_93 (by decide) ?_
              refine lv_istore_n (pc := 97) (lv' := [(3, .int t94.1), (2, .int t88.1), (1, .int t1), (0, .ref (h 0))]) hx hb dX10_clause_97 rfl hl (by decide) rfl (fun ls hl => ?_)
              refine lv_aload_n (pc := 98) hx hb dX10_clause_98 rfl (lv_at hl 3 rfl) ?_
              refine x_get (pc := 99) X E hI inX10 0 rfl rfl 21 (by decide) tw_4_10 rfl dX10_clause_99 ?_
              refine lv_if_eq (pc := 102) (tgt := 106) hx hb dX10_clause_102 (by decide) (fun c95 => ?_) (fun c95 => ?_)
              · have hf := q_ip c95 hf
                refine lv_aload_n (pc := 106) hx hb dX10_clause_106 rfl (lv_at hl 3 rfl) ?_
                refine x_get (pc := 107) X E hI inX10 0 rfl rfl 24 (by decide) tw_4_13 rfl dX10_clause_107 ?_
                refine lv_aload_n (pc := 110) hx hb dX10_clause_110 rfl (lv_at hl 3 rfl) ?_
                refine x_get (pc := 111) X E hI inX10 0 rfl rfl 22 (by decide) tw_4_11 rfl dX10_clause_111 ?_
                refine lv_iload_n (pc := 114) hx hb dX10_clause_114 rfl (lv_at hl 2 rfl) ?_
                obtain ⟨t96, e96, hf⟩ := q_ob hf
                refine x_iast (pc := 115) (w' := (mw G h z_thrown z_s z_kept z_isKept z_moveMany z_moves z_hands z_troubles z_troubleSorts z_troubleNumbers z_asked z_paint z_leasts z_isSeen z_classMany z_types z_typeCounts z_typeMany z_text z_signs t94.2.1 t94.2.2 z_clauses z_at t96 z_firsts z_seconds z_aside z_sorts z_sizes z_items)) X E hI 14 rfl e96 rfl dX10_clause_115 (fun H locs hI => ?_)
                refine lv_aload_n (pc := 116) hx hb dX10_clause_116 rfl (lv_at hl 3 rfl) ?_
                refine x_get (pc := 117) X E hI inX10 0 rfl rfl 25 (by decide) tw_4_14 rfl dX10_clause_117 ?_
                refine lv_aload_n (pc := 120) hx hb dX10_clause_120 rfl (lv_at hl 3 rfl) ?_
                refine x_get (pc := 121) X E hI inX10 0 rfl rfl 22 (by decide) tw_4_11 rfl dX10_clause_121 ?_
                refine lv_iload_n (pc := 124) hx hb dX10_clause_124 rfl (lv_at hl 1 rfl) ?_
                obtain ⟨t97, e97, hf⟩ := q_ob hf
                refine x_iast (pc := 125) (w' := (mw G h z_thrown z_s z_kept z_isKept z_moveMany z_moves z_hands z_troubles z_troubleSorts z_troubleNumbers z_asked z_paint z_leasts z_isSeen z_classMany z_types z_typeCounts z_typeMany z_text z_signs t94.2.1 t94.2.2 z_clauses z_at t96 t97 z_seconds z_aside z_sorts z_sizes z_items)) X E hI 15 rfl e97 rfl dX10_clause_125 (fun H locs hI => ?_)
                refine lv_aload_n (pc := 126) hx hb dX10_clause_126 rfl (lv_at hl 3 rfl) ?_
                refine x_get (pc := 127) X E hI inX10 0 rfl rfl 26 (by decide) tw_4_15 rfl dX10_clause_127 ?_
                refine lv_aload_n (pc := 130) hx hb dX10_clause_130 rfl (lv_at hl 3 rfl) ?_
                refine x_get (pc := 131) X E hI inX10 0 rfl rfl 22 (by decide) tw_4_11 rfl dX10_clause_131 ?_
                refine lv_iload_n (pc := 134) hx hb dX10_clause_134 rfl (lv_at hl 0 rfl) ?_
                obtain ⟨t98, e98, hf⟩ := q_ob hf
                refine x_iast (pc := 135) (w' := (mw G h z_thrown z_s z_kept z_isKept z_moveMany z_moves z_hands z_troubles z_troubleSorts z_troubleNumbers z_asked z_paint z_leasts z_isSeen z_classMany z_types z_typeCounts z_typeMany z_text z_signs t94.2.1 t94.2.2 z_clauses z_at t96 t97 t98 z_aside z_sorts z_sizes z_items)) X E hI 16 rfl e98 rfl dX10_clause_135 (fun H locs hI => ?_)
                refine lv_aload_n (pc := 136) hx hb dX10_clause_136 rfl (lv_at hl 3 rfl) ?_
                refine lv_dup (pc := 137) hx hb dX10_clause_137 rfl ?_
                refine x_get (pc := 138) X E hI inX10 0 rfl rfl 22 (by decide) tw_4_11 rfl dX10_clause_138 ?_
                refine lv_iconst (pc := 141) (v := 1) hx hb dX10_clause_141 (by decide) ?_
                refine lv_iadd (pc := 142) hx hb dX10_clause_142 ?_
                refine x_put (pc := 143) (w' := (mw G h z_thrown z_s z_kept z_isKept z_moveMany z_moves z_hands z_troubles z_troubleSorts z_troubleNumbers z_asked z_paint z_leasts z_isSeen z_classMany z_types z_typeCounts z_typeMany z_text z_signs t94.2.1 t94.2.2 (z_clauses + 1) z_at t96 t97 t98 z_aside z_sorts z_sizes z_items)) X E hI inX10 tyX10 tyX10_ok nmX10 0 rfl rfl 22 (by decide) tw_4_11 rfl rfl rfl (Nat.le_of_ble_eq_true rfl) rfl dX10_clause_143 (fun H locs hI => ?_)
                obtain rfl := Option.some.inj hf
                exact x_vret X hI dX10_clause_146
              · have hf := q_in c95 hf
                obtain rfl := Option.some.inj hf
                exact x_vret X hI dX10_clause_105
          · have hf := q_ip c87 hf
            refine lv_bipush (pc := 72) (v := 6) hx hb dX10_clause_72 (by decide) ?_
            refine lv_goto (pc := 74) (tgt := 78) hx hb dX10_clause_74 (by decide) ?_
            obtain ⟨t99, e99, hf⟩ := q_ob hf
            refine x_cVs (pc := 78) (st1 := [.int t99.1]) (w1 := (mw G h z_thrown z_s z_kept z_isKept z_moveMany z_moves z_hands z_troubles z_troubleSorts z_troubleNumbers z_asked z_paint z_leasts z_isSeen z_classMany z_types z_typeCounts z_typeMany z_text z_signs t99.2.1 t99.2.2 z_clauses z_at z_letters z_firsts z_seconds z_aside z_sorts z_sizes z_items)) X E hI (c_X10_digits l G h e99) kv_X10_286 hd_X10_digits ⟨rfl, rfl⟩ (by decide) 0 rfl rfl rfl rfl hl.1 rfl (Nat.le_of_ble_eq_true rfl) dX10_clause_78 ⟨Nat.le_of_ble_eq_true rfl, Nat.le_of_ble_eq_true rfl⟩ rfl (fun H locs hI => ?_)
            refine lv_istore_n (pc := 81) (lv' := [(2, .int t99.1), (1, .int t1), (0, .ref (h 0))]) hx hb dX10_clause_81 rfl hl (by decide) rfl (fun ls hl => ?_)
            refine lv_iload_n (pc := 82) hx hb dX10_clause_82 rfl (lv_at hl 1 rfl) ?_
            refine lv_bipush (pc := 83) (v := 119) hx hb dX10_clause_83 (by decide) ?_
            refine lv_icmp_ne (pc := 85) (tgt := 96) hx hb dX10_clause_85 (by decide) (fun c100 => ?_) (fun c100 => ?_)
            · have hf := q_in c100 hf
              refine lv_iconst (pc := 96) (v := 0) hx hb dX10_clause_96 (by decide) ?_
              refine lv_istore_n (pc := 97) (lv' := [(3, .int 0), (2, .int t99.1), (1, .int t1), (0, .ref (h 0))]) hx hb dX10_clause_97 rfl hl (by decide) rfl (fun ls hl => ?_)
              refine lv_aload_n (pc := 98) hx hb dX10_clause_98 rfl (lv_at hl 3 rfl) ?_
              refine x_get (pc := 99) X E hI inX10 0 rfl rfl 21 (by decide) tw_4_10 rfl dX10_clause_99 ?_
              refine lv_if_eq (pc := 102) (tgt := 106) hx hb dX10_clause_102 (by decide) (fun c101 => ?_) (fun c101 => ?_)
              · have hf := q_ip c101 hf
                refine lv_aload_n (pc := 106) hx hb dX10_clause_106 rfl (lv_at hl 3 rfl) ?_
                refine x_get (pc := 107) X E hI inX10 0 rfl rfl 24 (by decide) tw_4_13 rfl dX10_clause_107 ?_
                refine lv_aload_n (pc := 110) hx hb dX10_clause_110 rfl (lv_at hl 3 rfl) ?_
                refine x_get (pc := 111) X E hI inX10 0 rfl rfl 22 (by decide) tw_4_11 rfl dX10_clause_111 ?_
                refine lv_iload_n (pc := 114) hx hb dX10_clause_114 rfl (lv_at hl 2 rfl) ?_
                obtain ⟨t102, e102, hf⟩ := q_ob hf
                refine x_iast (pc := 115) (w' := (mw G h z_thrown z_s z_kept z_isKept z_moveMany z_moves z_hands z_troubles z_troubleSorts z_troubleNumbers z_asked z_paint z_leasts z_isSeen z_classMany z_types z_typeCounts z_typeMany z_text z_signs t99.2.1 t99.2.2 z_clauses z_at t102 z_firsts z_seconds z_aside z_sorts z_sizes z_items)) X E hI 14 rfl e102 rfl dX10_clause_115 (fun H locs hI => ?_)
                refine lv_aload_n (pc := 116) hx hb dX10_clause_116 rfl (lv_at hl 3 rfl) ?_
                refine x_get (pc := 117) X E hI inX10 0 rfl rfl 25 (by decide) tw_4_14 rfl dX10_clause_117 ?_
                refine lv_aload_n (pc := 120) hx hb dX10_clause_120 rfl (lv_at hl 3 rfl) ?_
                refine x_get (pc := 121) X E hI inX10 0 rfl rfl 22 (by decide) tw_4_11 rfl dX10_clause_121 ?_
                refine lv_iload_n (pc := 124) hx hb dX10_clause_124 rfl (lv_at hl 1 rfl) ?_
                obtain ⟨t103, e103, hf⟩ := q_ob hf
                refine x_iast (pc := 125) (w' := (mw G h z_thrown z_s z_kept z_isKept z_moveMany z_moves z_hands z_troubles z_troubleSorts z_troubleNumbers z_asked z_paint z_leasts z_isSeen z_classMany z_types z_typeCounts z_typeMany z_text z_signs t99.2.1 t99.2.2 z_clauses z_at t102 t103 z_seconds z_aside z_sorts z_sizes z_items)) X E hI 15 rfl e103 rfl dX10_clause_125 (fun H locs hI => ?_)
                refine lv_aload_n (pc := 126) hx hb dX10_clause_126 rfl (lv_at hl 3 rfl) ?_
                refine x_get (pc := 127) X E hI inX10 0 rfl rfl 26 (by decide) tw_4_15 rfl dX10_clause_127 ?_
                refine lv_aload_n (pc := 130) hx hb dX10_clause_130 rfl (lv_at hl 3 rfl) ?_
                refine x_get (pc := 131) X E hI inX10 0 rfl rfl 22 (by decide) tw_4_11 rfl dX10_clause_131 ?_
                refine lv_iload_n (pc := 134) hx hb dX10_clause_134 rfl (lv_at hl 0 rfl) ?_
                obtain ⟨t104, e104, hf⟩ := q_ob hf
                refine x_iast (pc := 135) (w' := (mw G h z_thrown z_s z_kept z_isKept z_moveMany z_moves z_hands z_troubles z_troubleSorts z_troubleNumbers z_asked z_paint z_leasts z_isSeen z_classMany z_types z_typeCounts z_typeMany z_text z_signs t99.2.1 t99.2.2 z_clauses z_at t102 t103 t104 z_aside z_sorts z_sizes z_items)) X E hI 16 rfl e104 rfl dX10_clause_135 (fun H locs hI => ?_)
                refine lv_aload_n (pc := 136) hx hb dX10_clause_136 rfl (lv_at hl 3 rfl) ?_
                refine lv_dup (pc := 137) hx hb dX10_clause_137 rfl ?_
                refine x_get (pc := 138) X E hI inX10 0 rfl rfl 22 (by decide) tw_4_11 rfl dX10_clause_138 ?_
                refine lv_iconst (pc := 141) (v := 1) hx hb dX10_clause_141 (by decide) ?_
                refine lv_iadd (pc := 142) hx hb dX10_clause_142 ?_
                refine x_put (pc := 143) (w' := (mw G h z_thrown z_s z_kept z_isKept z_moveMany z_moves z_hands z_troubles z_troubleSorts z_troubleNumbers z_asked z_paint z_leasts z_isSeen z_classMany z_types z_typeCounts z_typeMany z_text z_signs t99.2.1 t99.2.2 (z_clauses + 1) z_at t102 t103 t104 z_aside z_sorts z_sizes z_items)) X E hI inX10 tyX10 tyX10_ok nmX10 0 rfl rfl 22 (by decide) tw_4_11 rfl rfl rfl (Nat.le_of_ble_eq_true rfl) rfl dX10_clause_143 (fun H locs hI => ?_)
                obtain rfl := Option.some.inj hf
                exact x_vret X hI dX10_clause_146
              · have hf := q_in c101 hf
                obtain rfl := Option.some.inj hf
                exact x_vret X hI dX10_clause_105
            · have hf := q_ip c100 hf
              refine lv_aload_n (pc := 88) hx hb dX10_clause_88 rfl (lv_at hl 2 rfl) ?_
              refine lv_iconst (pc := 89) (v := 1) hx hb dX10_clause_89 (by decide) ?_
              obtain ⟨t105, e105, hf⟩ := q_ob hf
              refine x_cVs (pc := 90) (st1 := [.int t105.1]) (w1 := (mw G h z_thrown z_s z_kept z_isKept z_moveMany z_moves z_hands z_troubles z_troubleSorts z_troubleNumbers z_asked z_paint z_leasts z_isSeen z_classMany z_types z_typeCounts z_typeMany z_text z_signs t105.2.1 t105.2.2 z_clauses z_at z_letters z_firsts z_seconds z_aside z_sorts z_sizes z_items)) X E hI (c_X10_digits l G h e105) kv_X10_286 hd_X10_digits ⟨rfl, rfl⟩ (by decide) 0 rfl rfl rfl rfl hl.1 rfl (Nat.le_of_ble_eq_true rfl) dX10_clause_90 ⟨Nat.le_of_ble_eq_true rfl, Nat.le_of_ble_eq_true rfl⟩ rfl (fun H locs hI => ?_)
              refine lv_goto (pc := 93) (tgt := 97) hx hb dX10_clause_93 (by decide) ?_
              refine lv_istore_n (pc := 97) (lv' := [(3, .int t105.1), (2, .int t99.1), (1, .int t1), (0, .ref (h 0))]) hx hb dX10_clause_97 rfl hl (by decide) rfl (fun ls hl => ?_)
              refine lv_aload_n (pc := 98) hx hb dX10_clause_98 rfl (lv_at hl 3 rfl) ?_
              refine x_get (pc := 99) X E hI inX10 0 rfl rfl 21 (by decide) tw_4_10 rfl dX10_clause_99 ?_
              refine lv_if_eq (pc := 102) (tgt := 106) hx hb dX10_clause_102 (by decide) (fun c106 => ?_) (fun c106 => ?_)
              · have hf := q_ip c106 hf
                refine lv_aload_n (pc := 106) hx hb dX10_clause_106 rfl (lv_at hl 3 rfl) ?_
                refine x_get (pc := 107) X E hI inX10 0 rfl rfl 24 (by decide) tw_4_13 rfl dX10_clause_107 ?_
                refine lv_aload_n (pc := 110) hx hb dX10_clause_110 rfl (lv_at hl 3 rfl) ?_
                refine x_get (pc := 111) X E hI inX10 0 rfl rfl 22 (by decide) tw_4_11 rfl dX10_clause_111 ?_
                refine lv_iload_n (pc := 114) hx hb dX10_clause_114 rfl (lv_at hl 2 rfl) ?_
                obtain ⟨t107, e107, hf⟩ := q_ob hf
                refine x_iast (pc := 115) (w' := (mw G h z_thrown z_s z_kept z_isKept z_moveMany z_moves z_hands z_troubles z_troubleSorts z_troubleNumbers z_asked z_paint z_leasts z_isSeen z_classMany z_types z_typeCounts z_typeMany z_text z_signs t105.2.1 t105.2.2 z_clauses z_at t107 z_firsts z_seconds z_aside z_sorts z_sizes z_items)) X E hI 14 rfl e107 rfl dX10_clause_115 (fun H locs hI => ?_)
                refine lv_aload_n (pc := 116) hx hb dX10_clause_116 rfl (lv_at hl 3 rfl) ?_
                refine x_get (pc := 117) X E hI inX10 0 rfl rfl 25 (by decide) tw_4_14 rfl dX10_clause_117 ?_
                refine lv_aload_n (pc := 120) hx hb dX10_clause_120 rfl (lv_at hl 3 rfl) ?_
                refine x_get (pc := 121) X E hI inX10 0 rfl rfl 22 (by decide) tw_4_11 rfl dX10_clause_121 ?_
                refine lv_iload_n (pc := 124) hx hb dX10_clause_124 rfl (lv_at hl 1 rfl) ?_
                obtain ⟨t108, e108, hf⟩ := q_ob hf
                refine x_iast (pc := 125) (w' := (mw G h z_thrown z_s z_kept z_isKept z_moveMany z_moves z_hands z_troubles z_troubleSorts z_troubleNumbers z_asked z_paint z_leasts z_isSeen z_classMany z_types z_typeCounts z_typeMany z_text z_signs t105.2.1 t105.2.2 z_clauses z_at t107 t108 z_seconds z_aside z_sorts z_sizes z_items)) X E hI 15 rfl e108 rfl dX10_clause_125 (fun H locs hI => ?_)
                refine lv_aload_n (pc := 126) hx hb dX10_clause_126 rfl (lv_at hl 3 rfl) ?_
                refine x_get (pc := 127) X E hI inX10 0 rfl rfl 26 (by decide) tw_4_15 rfl dX10_clause_127 ?_
                refine lv_aload_n (pc := 130) hx hb dX10_clause_130 rfl (lv_at hl 3 rfl) ?_
                refine x_get (pc := 131) X E hI inX10 0 rfl rfl 22 (by decide) tw_4_11 rfl dX10_clause_131 ?_
                refine lv_iload_n (pc := 134) hx hb dX10_clause_134 rfl (lv_at hl 0 rfl) ?_
                obtain ⟨t109, e109, hf⟩ := q_ob hf
                refine x_iast (pc := 135) (w' := (mw G h z_thrown z_s z_kept z_isKept z_moveMany z_moves z_hands z_troubles z_troubleSorts z_troubleNumbers z_asked z_paint z_leasts z_isSeen z_classMany z_types z_typeCounts z_typeMany z_text z_signs t105.2.1 t105.2.2 z_clauses z_at t107 t108 t109 z_aside z_sorts z_sizes z_items)) X E hI 16 rfl e109 rfl dX10_clause_135 (fun H locs hI => ?_)
                refine lv_aload_n (pc := 136) hx hb dX10_clause_136 rfl (lv_at hl 3 rfl) ?_
                refine lv_dup (pc := 137) hx hb dX10_clause_137 rfl ?_
                refine x_get (pc := 138) X E hI inX10 0 rfl rfl 22 (by decide) tw_4_11 rfl dX10_clause_138 ?_
                refine lv_iconst (pc := 141) (v := 1) hx hb dX10_clause_141 (by decide) ?_
                refine lv_iadd (pc := 142) hx hb dX10_clause_142 ?_
                refine x_put (pc := 143) (w' := (mw G h z_thrown z_s z_kept z_isKept z_moveMany z_moves z_hands z_troubles z_troubleSorts z_troubleNumbers z_asked z_paint z_leasts z_isSeen z_classMany z_types z_typeCounts z_typeMany z_text z_signs t105.2.1 t105.2.2 (z_clauses + 1) z_at t107 t108 t109 z_aside z_sorts z_sizes z_items)) X E hI inX10 tyX10 tyX10_ok nmX10 0 rfl rfl 22 (by decide) tw_4_11 rfl rfl rfl (Nat.le_of_ble_eq_true rfl) rfl dX10_clause_143 (fun H locs hI => ?_)
                obtain rfl := Option.some.inj hf
                exact x_vret X hI dX10_clause_146
              · have hf := q_in c106 hf
                obtain rfl := Option.some.inj hf
                exact x_vret X hI dX10_clause_105
      · have hf := q_in c74 hf
        refine lv_iload_n (pc := 31) hx hb dX10_clause_31 rfl (lv_at hl 0 rfl) ?_
        refine lv_bipush (pc := 32) (v := 116) hx hb dX10_clause_32 (by decide) ?_
        refine lv_icmp_eq (pc := 34) (tgt := 49) hx hb dX10_clause_34 (by decide) (fun c110 => ?_) (fun c110 => ?_)
        · have hf := q_ip c110 hf
          refine lv_aload_n (pc := 49) hx hb dX10_clause_49 rfl (lv_at hl 1 rfl) ?_
          refine lv_dup (pc := 50) hx hb dX10_clause_50 rfl ?_
          refine x_get (pc := 51) X E hI inX10 0 rfl rfl 20 (by decide) tw_4_9 rfl dX10_clause_51 ?_
          refine lv_iconst (pc := 54) (v := 1) hx hb dX10_clause_54 (by decide) ?_
          refine lv_iadd (pc := 55) hx hb dX10_clause_55 ?_
          refine x_put (pc := 56) (w' := (mw G h z_thrown z_s z_kept z_isKept z_moveMany z_moves z_hands z_troubles z_troubleSorts z_troubleNumbers z_asked z_paint z_leasts z_isSeen z_classMany z_types z_typeCounts z_typeMany z_text z_signs (z_at + 1) z_lacks z_clauses z_at z_letters z_firsts z_seconds z_aside z_sorts z_sizes z_items)) X E hI inX10 tyX10 tyX10_ok nmX10 0 rfl rfl 20 (by decide) tw_4_9 rfl rfl rfl (Nat.le_of_ble_eq_true rfl) rfl dX10_clause_56 (fun H locs hI => ?_)
          refine lv_aload_n (pc := 59) hx hb dX10_clause_59 rfl (lv_at hl 1 rfl) ?_
          refine lv_iload_n (pc := 60) hx hb dX10_clause_60 rfl (lv_at hl 0 rfl) ?_
          refine lv_bipush (pc := 61) (v := 116) hx hb dX10_clause_61 (by decide) ?_
          refine lv_icmp_eq (pc := 63) (tgt := 72) hx hb dX10_clause_63 (by decide) (fun c111 => ?_) (fun c111 => ?_)
          · have hf := q_ip c111 hf
            refine lv_bipush (pc := 72) (v := 6) hx hb dX10_clause_72 (by decide) ?_
            refine lv_goto (pc := 74) (tgt := 78) hx hb dX10_clause_74 (by decide) ?_
            obtain ⟨t112, e112, hf⟩ := q_ob hf
            refine x_cVs (pc := 78) (st1 := [.int t112.1]) (w1 := (mw G h z_thrown z_s z_kept z_isKept z_moveMany z_moves z_hands z_troubles z_troubleSorts z_troubleNumbers z_asked z_paint z_leasts z_isSeen z_classMany z_types z_typeCounts z_typeMany z_text z_signs t112.2.1 t112.2.2 z_clauses z_at z_letters z_firsts z_seconds z_aside z_sorts z_sizes z_items)) X E hI (c_X10_digits l G h e112) kv_X10_286 hd_X10_digits ⟨rfl, rfl⟩ (by decide) 0 rfl rfl rfl rfl hl.1 rfl (Nat.le_of_ble_eq_true rfl) dX10_clause_78 ⟨Nat.le_of_ble_eq_true rfl, Nat.le_of_ble_eq_true rfl⟩ rfl (fun H locs hI => ?_)
            refine lv_istore_n (pc := 81) (lv' := [(2, .int t112.1), (1, .int t1), (0, .ref (h 0))]) hx hb dX10_clause_81 rfl hl (by decide) rfl (fun ls hl => ?_)
            refine lv_iload_n (pc := 82) hx hb dX10_clause_82 rfl (lv_at hl 1 rfl) ?_
            refine lv_bipush (pc := 83) (v := 119) hx hb dX10_clause_83 (by decide) ?_
            refine lv_icmp_ne (pc := 85) (tgt := 96) hx hb dX10_clause_85 (by decide) (fun c113 => ?_) (fun c113 => ?_)
            · have hf := q_in c113 hf
              refine lv_iconst (pc := 96) (v := 0) hx hb dX10_clause_96 (by decide) ?_
              refine lv_istore_n (pc := 97) (lv' := [(3, .int 0), (2, .int t112.1), (1, .int t1), (0, .ref (h 0))]) hx hb dX10_clause_97 rfl hl (by decide) rfl (fun ls hl => ?_)
              refine lv_aload_n (pc := 98) hx hb dX10_clause_98 rfl (lv_at hl 3 rfl) ?_
              refine x_get (pc := 99) X E hI inX10 0 rfl rfl 21 (by decide) tw_4_10 rfl dX10_clause_99 ?_
              refine lv_if_eq (pc := 102) (tgt := 106) hx hb dX10_clause_102 (by decide) (fun c114 => ?_) (fun c114 => ?_)
              · have hf := q_ip c114 hf
                refine lv_aload_n (pc := 106) hx hb dX10_clause_106 rfl (lv_at hl 3 rfl) ?_
                refine x_get (pc := 107) X E hI inX10 0 rfl rfl 24 (by decide) tw_4_13 rfl dX10_clause_107 ?_
                refine lv_aload_n (pc := 110) hx hb dX10_clause_110 rfl (lv_at hl 3 rfl) ?_
                refine x_get (pc := 111) X E hI inX10 0 rfl rfl 22 (by decide) tw_4_11 rfl dX10_clause_111 ?_
                refine lv_iload_n (pc := 114) hx hb dX10_clause_114 rfl (lv_at hl 2 rfl) ?_
                obtain ⟨t115, e115, hf⟩ := q_ob hf
                refine x_iast (pc := 115) (w' := (mw G h z_thrown z_s z_kept z_isKept z_moveMany z_moves z_hands z_troubles z_troubleSorts z_troubleNumbers z_asked z_paint z_leasts z_isSeen z_classMany z_types z_typeCounts z_typeMany z_text z_signs t112.2.1 t112.2.2 z_clauses z_at t115 z_firsts z_seconds z_aside z_sorts z_sizes z_items)) X E hI 14 rfl e115 rfl dX10_clause_115 (fun H locs hI => ?_)
                refine lv_aload_n (pc := 116) hx hb dX10_clause_116 rfl (lv_at hl 3 rfl) ?_
                refine x_get (pc := 117) X E hI inX10 0 rfl rfl 25 (by decide) tw_4_14 rfl dX10_clause_117 ?_
                refine lv_aload_n (pc := 120) hx hb dX10_clause_120 rfl (lv_at hl 3 rfl) ?_
                refine x_get (pc := 121) X E hI inX10 0 rfl rfl 22 (by decide) tw_4_11 rfl dX10_clause_121 ?_
                refine lv_iload_n (pc := 124) hx hb dX10_clause_124 rfl (lv_at hl 1 rfl) ?_
                obtain ⟨t116, e116, hf⟩ := q_ob hf
                refine x_iast (pc := 125) (w' := (mw G h z_thrown z_s z_kept z_isKept z_moveMany z_moves z_hands z_troubles z_troubleSorts z_troubleNumbers z_asked z_paint z_leasts z_isSeen z_classMany z_types z_typeCounts z_typeMany z_text z_signs t112.2.1 t112.2.2 z_clauses z_at t115 t116 z_seconds z_aside z_sorts z_sizes z_items)) X E hI 15 rfl e116 rfl dX10_clause_125 (fun H locs hI => ?_)
                refine lv_aload_n (pc := 126) hx hb dX10_clause_126 rfl (lv_at hl 3 rfl) ?_
                refine x_get (pc := 127) X E hI inX10 0 rfl rfl 26 (by decide) tw_4_15 rfl dX10_clause_127 ?_
                refine lv_aload_n (pc := 130) hx hb dX10_clause_130 rfl (lv_at hl 3 rfl) ?_
                refine x_get (pc := 131) X E hI inX10 0 rfl rfl 22 (by decide) tw_4_11 rfl dX10_clause_131 ?_
                refine lv_iload_n (pc := 134) hx hb dX10_clause_134 rfl (lv_at hl 0 rfl) ?_
                obtain ⟨t117, e117, hf⟩ := q_ob hf
                refine x_iast (pc := 135) (w' := (mw G h z_thrown z_s z_kept z_isKept z_moveMany z_moves z_hands z_troubles z_troubleSorts z_troubleNumbers z_asked z_paint z_leasts z_isSeen z_classMany z_types z_typeCounts z_typeMany z_text z_signs t112.2.1 t112.2.2 z_clauses z_at t115 t116 t117 z_aside z_sorts z_sizes z_items)) X E hI 16 rfl e117 rfl dX10_clause_135 (fun H locs hI => ?_)
                refine lv_aload_n (pc := 136) hx hb dX10_clause_136 rfl (lv_at hl 3 rfl) ?_
                refine lv_dup (pc := 137) hx hb dX10_clause_137 rfl ?_
                refine x_get (pc := 138) X E hI inX10 0 rfl rfl 22 (by decide) tw_4_11 rfl dX10_clause_138 ?_
                refine lv_iconst (pc := 141) (v := 1) hx hb dX10_clause_141 (by decide) ?_
                refine lv_iadd (pc := 142) hx hb dX10_clause_142 ?_
                refine x_put (pc := 143) (w' := (mw G h z_thrown z_s z_kept z_isKept z_moveMany z_moves z_hands z_troubles z_troubleSorts z_troubleNumbers z_asked z_paint z_leasts z_isSeen z_classMany z_types z_typeCounts z_typeMany z_text z_signs t112.2.1 t112.2.2 (z_clauses + 1) z_at t115 t116 t117 z_aside z_sorts z_sizes z_items)) X E hI inX10 tyX10 tyX10_ok nmX10 0 rfl rfl 22 (by decide) tw_4_11 rfl rfl rfl (Nat.le_of_ble_eq_true rfl) rfl dX10_clause_143 (fun H locs hI => ?_)
                obtain rfl := Option.some.inj hf
                exact x_vret X hI dX10_clause_146
              · have hf := q_in c114 hf
                obtain rfl := Option.some.inj hf
                exact x_vret X hI dX10_clause_105
            · have hf := q_ip c113 hf
              refine lv_aload_n (pc := 88) hx hb dX10_clause_88 rfl (lv_at hl 2 rfl) ?_
              refine lv_iconst (pc := 89) (v := 1) hx hb dX10_clause_89 (by decide) ?_
              obtain ⟨t118, e118, hf⟩ := q_ob hf
              refine x_cVs (pc := 90) (st1 := [.int t118.1]) (w1 := (mw G h z_thrown z_s z_kept z_isKept z_moveMany z_moves z_hands z_troubles z_troubleSorts z_troubleNumbers z_asked z_paint z_leasts z_isSeen z_classMany z_types z_typeCounts z_typeMany z_text z_signs t118.2.1 t118.2.2 z_clauses z_at z_letters z_firsts z_seconds z_aside z_sorts z_sizes z_items)) X E hI (c_X10_digits l G h e118) kv_X10_286 hd_X10_digits ⟨rfl, rfl⟩ (by decide) 0 rfl rfl rfl rfl hl.1 rfl (Nat.le_of_ble_eq_true rfl) dX10_clause_90 ⟨Nat.le_of_ble_eq_true rfl, Nat.le_of_ble_eq_true rfl⟩ rfl (fun H locs hI => ?_)
              refine lv_goto (pc := 93) (tgt := 97) hx hb dX10_clause_93 (by decide) ?_
              refine lv_istore_n (pc := 97) (lv' := [(3, .int t118.1), (2, .int t112.1), (1, .int t1), (0, .ref (h 0))]) hx hb dX10_clause_97 rfl hl (by decide) rfl (fun ls hl => ?_)
              refine lv_aload_n (pc := 98) hx hb dX10_clause_98 rfl (lv_at hl 3 rfl) ?_
              refine x_get (pc := 99) X E hI inX10 0 rfl rfl 21 (by decide) tw_4_10 rfl dX10_clause_99 ?_
              refine lv_if_eq (pc := 102) (tgt := 106) hx hb dX10_clause_102 (by decide) (fun c119 => ?_) (fun c119 => ?_)
              · have hf := q_ip c119 hf
                refine lv_aload_n (pc := 106) hx hb dX10_clause_106 rfl (lv_at hl 3 rfl) ?_
                refine x_get (pc := 107) X E hI inX10 0 rfl rfl 24 (by decide) tw_4_13 rfl dX10_clause_107 ?_
                refine lv_aload_n (pc := 110) hx hb dX10_clause_110 rfl (lv_at hl 3 rfl) ?_
                refine x_get (pc := 111) X E hI inX10 0 rfl rfl 22 (by decide) tw_4_11 rfl dX10_clause_111 ?_
                refine lv_iload_n (pc := 114) hx hb dX10_clause_114 rfl (lv_at hl 2 rfl) ?_
                obtain ⟨t120, e120, hf⟩ := q_ob hf
                refine x_iast (pc := 115) (w' := (mw G h z_thrown z_s z_kept z_isKept z_moveMany z_moves z_hands z_troubles z_troubleSorts z_troubleNumbers z_asked z_paint z_leasts z_isSeen z_classMany z_types z_typeCounts z_typeMany z_text z_signs t118.2.1 t118.2.2 z_clauses z_at t120 z_firsts z_seconds z_aside z_sorts z_sizes z_items)) X E hI 14 rfl e120 rfl dX10_clause_115 (fun H locs hI => ?_)
                refine lv_aload_n (pc := 116) hx hb dX10_clause_116 rfl (lv_at hl 3 rfl) ?_
                refine x_get (pc := 117) X E hI inX10 0 rfl rfl 25 (by decide) tw_4_14 rfl dX10_clause_117 ?_
                refine lv_aload_n (pc := 120) hx hb dX10_clause_120 rfl (lv_at hl 3 rfl) ?_
                refine x_get (pc := 121) X E hI inX10 0 rfl rfl 22 (by decide) tw_4_11 rfl dX10_clause_121 ?_
                refine lv_iload_n (pc := 124) hx hb dX10_clause_124 rfl (lv_at hl 1 rfl) ?_
                obtain ⟨t121, e121, hf⟩ := q_ob hf
                refine x_iast (pc := 125) (w' := (mw G h z_thrown z_s z_kept z_isKept z_moveMany z_moves z_hands z_troubles z_troubleSorts z_troubleNumbers z_asked z_paint z_leasts z_isSeen z_classMany z_types z_typeCounts z_typeMany z_text z_signs t118.2.1 t118.2.2 z_clauses z_at t120 t121 z_seconds z_aside z_sorts z_sizes z_items)) X E hI 15 rfl e121 rfl dX10_clause_125 (fun H locs hI => ?_)
                refine lv_aload_n (pc := 126) hx hb dX10_clause_126 rfl (lv_at hl 3 rfl) ?_
                refine x_get (pc := 127) X E hI inX10 0 rfl rfl 26 (by decide) tw_4_15 rfl dX10_clause_127 ?_
                refine lv_aload_n (pc := 130) hx hb dX10_clause_130 rfl (lv_at hl 3 rfl) ?_
                refine x_get (pc := 131) X E hI inX10 0 rfl rfl 22 (by decide) tw_4_11 rfl dX10_clause_131 ?_
                refine lv_iload_n (pc := 134) hx hb dX10_clause_134 rfl (lv_at hl 0 rfl) ?_
                obtain ⟨t122, e122, hf⟩ := q_ob hf
                refine x_iast (pc := 135) (w' := (mw G h z_thrown z_s z_kept z_isKept z_moveMany z_moves z_hands z_troubles z_troubleSorts z_troubleNumbers z_asked z_paint z_leasts z_isSeen z_classMany z_types z_typeCounts z_typeMany z_text z_signs t118.2.1 t118.2.2 z_clauses z_at t120 t121 t122 z_aside z_sorts z_sizes z_items)) X E hI 16 rfl e122 rfl dX10_clause_135 (fun H locs hI => ?_)
                refine lv_aload_n (pc := 136) hx hb dX10_clause_136 rfl (lv_at hl 3 rfl) ?_
                refine lv_dup (pc := 137) hx hb dX10_clause_137 rfl ?_
                refine x_get (pc := 138) X E hI inX10 0 rfl rfl 22 (by decide) tw_4_11 rfl dX10_clause_138 ?_
                refine lv_iconst (pc := 141) (v := 1) hx hb dX10_clause_141 (by decide) ?_
                refine lv_iadd (pc := 142) hx hb dX10_clause_142 ?_
                refine x_put (pc := 143) (w' := (mw G h z_thrown z_s z_kept z_isKept z_moveMany z_moves z_hands z_troubles z_troubleSorts z_troubleNumbers z_asked z_paint z_leasts z_isSeen z_classMany z_types z_typeCounts z_typeMany z_text z_signs t118.2.1 t118.2.2 (z_clauses + 1) z_at t120 t121 t122 z_aside z_sorts z_sizes z_items)) X E hI inX10 tyX10 tyX10_ok nmX10 0 rfl rfl 22 (by decide) tw_4_11 rfl rfl rfl (Nat.le_of_ble_eq_true rfl) rfl dX10_clause_143 (fun H locs hI => ?_)
                obtain rfl := Option.some.inj hf
                exact x_vret X hI dX10_clause_146
              · have hf := q_in c119 hf
                obtain rfl := Option.some.inj hf
                exact x_vret X hI dX10_clause_105
          · have hf := q_in c111 hf
            refine lv_iload_n (pc := 66) hx hb dX10_clause_66 rfl (lv_at hl 0 rfl) ?_
            refine lv_bipush (pc := 67) (v := 109) hx hb dX10_clause_67 (by decide) ?_
            refine lv_icmp_ne (pc := 69) (tgt := 77) hx hb dX10_clause_69 (by decide) (fun c123 => ?_) (fun c123 => ?_)
            · have hf := q_in c123 hf
              refine lv_iconst (pc := 77) (v := 1) hx hb dX10_clause_77 (by decide) ?_
              obtain ⟨t124, e124, hf⟩ := q_ob hf
              refine x_cVs (pc := 78) (st1 := [.int t124.1]) (w1 := (mw G h z_thrown z_s z_kept z_isKept z_moveMany z_moves z_hands z_troubles z_troubleSorts z_troubleNumbers z_asked z_paint z_leasts z_isSeen z_classMany z_types z_typeCounts z_typeMany z_text z_signs t124.2.1 t124.2.2 z_clauses z_at z_letters z_firsts z_seconds z_aside z_sorts z_sizes z_items)) X E hI (c_X10_digits l G h e124) kv_X10_286 hd_X10_digits ⟨rfl, rfl⟩ (by decide) 0 rfl rfl rfl rfl hl.1 rfl (Nat.le_of_ble_eq_true rfl) dX10_clause_78 ⟨Nat.le_of_ble_eq_true rfl, Nat.le_of_ble_eq_true rfl⟩ rfl (fun H locs hI => ?_)
              refine lv_istore_n (pc := 81) (lv' := [(2, .int t124.1), (1, .int t1), (0, .ref (h 0))]) hx hb dX10_clause_81 rfl hl (by decide) rfl (fun ls hl => ?_)
              refine lv_iload_n (pc := 82) hx hb dX10_clause_82 rfl (lv_at hl 1 rfl) ?_
              refine lv_bipush (pc := 83) (v := 119) hx hb dX10_clause_83 (by decide) ?_
              refine lv_icmp_ne (pc := 85) (tgt := 96) hx hb dX10_clause_85 (by decide) (fun c125 => ?_) (fun c125 => ?_)
              · have hf := q_in c125 hf
                refine lv_iconst (pc := 96) (v := 0) hx hb dX10_clause_96 (by decide) ?_
                refine lv_istore_n (pc := 97) (lv' := [(3, .int 0), (2, .int t124.1), (1, .int t1), (0, .ref (h 0))]) hx hb dX10_clause_97 rfl hl (by decide) rfl (fun ls hl => ?_)
                refine lv_aload_n (pc := 98) hx hb dX10_clause_98 rfl (lv_at hl 3 rfl) ?_
                refine x_get (pc := 99) X E hI inX10 0 rfl rfl 21 (by decide) tw_4_10 rfl dX10_clause_99 ?_
                refine lv_if_eq (pc := 102) (tgt := 106) hx hb dX10_clause_102 (by decide) (fun c126 => ?_) (fun c126 => ?_)
                · have hf := q_ip c126 hf
                  refine lv_aload_n (pc := 106) hx hb dX10_clause_106 rfl (lv_at hl 3 rfl) ?_
                  refine x_get (pc := 107) X E hI inX10 0 rfl rfl 24 (by decide) tw_4_13 rfl dX10_clause_107 ?_
                  refine lv_aload_n (pc := 110) hx hb dX10_clause_110 rfl (lv_at hl 3 rfl) ?_
                  refine x_get (pc := 111) X E hI inX10 0 rfl rfl 22 (by decide) tw_4_11 rfl dX10_clause_111 ?_
                  refine lv_iload_n (pc := 114) hx hb dX10_clause_114 rfl (lv_at hl 2 rfl) ?_
                  obtain ⟨t127, e127, hf⟩ := q_ob hf
                  refine x_iast (pc := 115) (w' := (mw G h z_thrown z_s z_kept z_isKept z_moveMany z_moves z_hands z_troubles z_troubleSorts z_troubleNumbers z_asked z_paint z_leasts z_isSeen z_classMany z_types z_typeCounts z_typeMany z_text z_signs t124.2.1 t124.2.2 z_clauses z_at t127 z_firsts z_seconds z_aside z_sorts z_sizes z_items)) X E hI 14 rfl e127 rfl dX10_clause_115 (fun H locs hI => ?_)
                  refine lv_aload_n (pc := 116) hx hb dX10_clause_116 rfl (lv_at hl 3 rfl) ?_
                  refine x_get (pc := 117) X E hI inX10 0 rfl rfl 25 (by decide) tw_4_14 rfl dX10_clause_117 ?_
                  refine lv_aload_n (pc := 120) hx hb dX10_clause_120 rfl (lv_at hl 3 rfl) ?_
                  refine x_get (pc := 121) X E hI inX10 0 rfl rfl 22 (by decide) tw_4_11 rfl dX10_clause_121 ?_
                  refine lv_iload_n (pc := 124) hx hb dX10_clause_124 rfl (lv_at hl 1 rfl) ?_
                  obtain ⟨t128, e128, hf⟩ := q_ob hf
                  refine x_iast (pc := 125) (w' := (mw G h z_thrown z_s z_kept z_isKept z_moveMany z_moves z_hands z_troubles z_troubleSorts z_troubleNumbers z_asked z_paint z_leasts z_isSeen z_classMany z_types z_typeCounts z_typeMany z_text z_signs t124.2.1 t124.2.2 z_clauses z_at t127 t128 z_seconds z_aside z_sorts z_sizes z_items)) X E hI 15 rfl e128 rfl dX10_clause_125 (fun H locs hI => ?_)
                  refine lv_aload_n (pc := 126) hx hb dX10_clause_126 rfl (lv_at hl 3 rfl) ?_
                  refine x_get (pc := 127) X E hI inX10 0 rfl rfl 26 (by decide) tw_4_15 rfl dX10_clause_127 ?_
                  refine lv_aload_n (pc := 130) hx hb dX10_clause_130 rfl (lv_at hl 3 rfl) ?_
                  refine x_get (pc := 131) X E hI inX10 0 rfl rfl 22 (by decide) tw_4_11 rfl dX10_clause_131 ?_
                  refine lv_iload_n (pc := 134) hx hb dX10_clause_134 rfl (lv_at hl 0 rfl) ?_
                  obtain ⟨t129, e129, hf⟩ := q_ob hf
                  refine x_iast (pc := 135) (w' := (mw G h z_thrown z_s z_kept z_isKept z_moveMany z_moves z_hands z_troubles z_troubleSorts z_troubleNumbers z_asked z_paint z_leasts z_isSeen z_classMany z_types z_typeCounts z_typeMany z_text z_signs t124.2.1 t124.2.2 z_clauses z_at t127 t128 t129 z_aside z_sorts z_sizes z_items)) X E hI 16 rfl e129 rfl dX10_clause_135 (fun H locs hI => ?_)
                  refine lv_aload_n (pc := 136) hx hb dX10_clause_136 rfl (lv_at hl 3 rfl) ?_
                  refine lv_dup (pc := 137) hx hb dX10_clause_137 rfl ?_
                  refine x_get (pc := 138) X E hI inX10 0 rfl rfl 22 (by decide) tw_4_11 rfl dX10_clause_138 ?_
                  refine lv_iconst (pc := 141) (v := 1) hx hb dX10_clause_141 (by decide) ?_
                  refine lv_iadd (pc := 142) hx hb dX10_clause_142 ?_
                  refine x_put (pc := 143) (w' := (mw G h z_thrown z_s z_kept z_isKept z_moveMany z_moves z_hands z_troubles z_troubleSorts z_troubleNumbers z_asked z_paint z_leasts z_isSeen z_classMany z_types z_typeCounts z_typeMany z_text z_signs t124.2.1 t124.2.2 (z_clauses + 1) z_at t127 t128 t129 z_aside z_sorts z_sizes z_items)) X E hI inX10 tyX10 tyX10_ok nmX10 0 rfl rfl 22 (by decide) tw_4_11 rfl rfl rfl (Nat.le_of_ble_eq_true rfl) rfl dX10_clause_143 (fun H locs hI => ?_)
                  obtain rfl := Option.some.inj hf
                  exact x_vret X hI dX10_clause_146
                · have hf := q_in c126 hf
                  obtain rfl := Option.some.inj hf
                  exact x_vret X hI dX10_clause_105
              · have hf := q_ip c125 hf
                refine lv_aload_n (pc := 88) hx hb dX10_clause_88 rfl (lv_at hl 2 rfl) ?_
                refine lv_iconst (pc := 89) (v := 1) hx hb dX10_clause_89 (by decide) ?_
                obtain ⟨t130, e130, hf⟩ := q_ob hf
                refine x_cVs (pc := 90) (st1 := [.int t130.1]) (w1 := (mw G h z_thrown z_s z_kept z_isKept z_moveMany z_moves z_hands z_troubles z_troubleSorts z_troubleNumbers z_asked z_paint z_leasts z_isSeen z_classMany z_types z_typeCounts z_typeMany z_text z_signs t130.2.1 t130.2.2 z_clauses z_at z_letters z_firsts z_seconds z_aside z_sorts z_sizes z_items)) X E hI (c_X10_digits l G h e130) kv_X10_286 hd_X10_digits ⟨rfl, rfl⟩ (by decide) 0 rfl rfl rfl rfl hl.1 rfl (Nat.le_of_ble_eq_true rfl) dX10_clause_90 ⟨Nat.le_of_ble_eq_true rfl, Nat.le_of_ble_eq_true rfl⟩ rfl (fun H locs hI => ?_)
                refine lv_goto (pc := 93) (tgt := 97) hx hb dX10_clause_93 (by decide) ?_
                refine lv_istore_n (pc := 97) (lv' := [(3, .int t130.1), (2, .int t124.1), (1, .int t1), (0, .ref (h 0))]) hx hb dX10_clause_97 rfl hl (by decide) rfl (fun ls hl => ?_)
                refine lv_aload_n (pc := 98) hx hb dX10_clause_98 rfl (lv_at hl 3 rfl) ?_
                refine x_get (pc := 99) X E hI inX10 0 rfl rfl 21 (by decide) tw_4_10 rfl dX10_clause_99 ?_
                refine lv_if_eq (pc := 102) (tgt := 106) hx hb dX10_clause_102 (by decide) (fun c131 => ?_) (fun c131 => ?_)
                · have hf := q_ip c131 hf
                  refine lv_aload_n (pc := 106) hx hb dX10_clause_106 rfl (lv_at hl 3 rfl) ?_
                  refine x_get (pc := 107) X E hI inX10 0 rfl rfl 24 (by decide) tw_4_13 rfl dX10_clause_107 ?_
                  refine lv_aload_n (pc := 110) hx hb dX10_clause_110 rfl (lv_at hl 3 rfl) ?_
                  refine x_get (pc := 111) X E hI inX10 0 rfl rfl 22 (by decide) tw_4_11 rfl dX10_clause_111 ?_
                  refine lv_iload_n (pc := 114) hx hb dX10_clause_114 rfl (lv_at hl 2 rfl) ?_
                  obtain ⟨t132, e132, hf⟩ := q_ob hf
                  refine x_iast (pc := 115) (w' := (mw G h z_thrown z_s z_kept z_isKept z_moveMany z_moves z_hands z_troubles z_troubleSorts z_troubleNumbers z_asked z_paint z_leasts z_isSeen z_classMany z_types z_typeCounts z_typeMany z_text z_signs t130.2.1 t130.2.2 z_clauses z_at t132 z_firsts z_seconds z_aside z_sorts z_sizes z_items)) X E hI 14 rfl e132 rfl dX10_clause_115 (fun H locs hI => ?_)
                  refine lv_aload_n (pc := 116) hx hb dX10_clause_116 rfl (lv_at hl 3 rfl) ?_
                  refine x_get (pc := 117) X E hI inX10 0 rfl rfl 25 (by decide) tw_4_14 rfl dX10_clause_117 ?_
                  refine lv_aload_n (pc := 120) hx hb dX10_clause_120 rfl (lv_at hl 3 rfl) ?_
                  refine x_get (pc := 121) X E hI inX10 0 rfl rfl 22 (by decide) tw_4_11 rfl dX10_clause_121 ?_
                  refine lv_iload_n (pc := 124) hx hb dX10_clause_124 rfl (lv_at hl 1 rfl) ?_
                  obtain ⟨t133, e133, hf⟩ := q_ob hf
                  refine x_iast (pc := 125) (w' := (mw G h z_thrown z_s z_kept z_isKept z_moveMany z_moves z_hands z_troubles z_troubleSorts z_troubleNumbers z_asked z_paint z_leasts z_isSeen z_classMany z_types z_typeCounts z_typeMany z_text z_signs t130.2.1 t130.2.2 z_clauses z_at t132 t133 z_seconds z_aside z_sorts z_sizes z_items)) X E hI 15 rfl e133 rfl dX10_clause_125 (fun H locs hI => ?_)
                  refine lv_aload_n (pc := 126) hx hb dX10_clause_126 rfl (lv_at hl 3 rfl) ?_
                  refine x_get (pc := 127) X E hI inX10 0 rfl rfl 26 (by decide) tw_4_15 rfl dX10_clause_127 ?_
                  refine lv_aload_n (pc := 130) hx hb dX10_clause_130 rfl (lv_at hl 3 rfl) ?_
                  refine x_get (pc := 131) X E hI inX10 0 rfl rfl 22 (by decide) tw_4_11 rfl dX10_clause_131 ?_
                  refine lv_iload_n (pc := 134) hx hb dX10_clause_134 rfl (lv_at hl 0 rfl) ?_
                  obtain ⟨t134, e134, hf⟩ := q_ob hf
                  refine x_iast (pc := 135) (w' := (mw G h z_thrown z_s z_kept z_isKept z_moveMany z_moves z_hands z_troubles z_troubleSorts z_troubleNumbers z_asked z_paint z_leasts z_isSeen z_classMany z_types z_typeCounts z_typeMany z_text z_signs t130.2.1 t130.2.2 z_clauses z_at t132 t133 t134 z_aside z_sorts z_sizes z_items)) X E hI 16 rfl e134 rfl dX10_clause_135 (fun H locs hI => ?_)
                  refine lv_aload_n (pc := 136) hx hb dX10_clause_136 rfl (lv_at hl 3 rfl) ?_
                  refine lv_dup (pc := 137) hx hb dX10_clause_137 rfl ?_
                  refine x_get (pc := 138) X E hI inX10 0 rfl rfl 22 (by decide) tw_4_11 rfl dX10_clause_138 ?_
                  refine lv_iconst (pc := 141) (v := 1) hx hb dX10_clause_141 (by decide) ?_
                  refine lv_iadd (pc := 142) hx hb dX10_clause_142 ?_
                  refine x_put (pc := 143) (w' := (mw G h z_thrown z_s z_kept z_isKept z_moveMany z_moves z_hands z_troubles z_troubleSorts z_troubleNumbers z_asked z_paint z_leasts z_isSeen z_classMany z_types z_typeCounts z_typeMany z_text z_signs t130.2.1 t130.2.2 (z_clauses + 1) z_at t132 t133 t134 z_aside z_sorts z_sizes z_items)) X E hI inX10 tyX10 tyX10_ok nmX10 0 rfl rfl 22 (by decide) tw_4_11 rfl rfl rfl (Nat.le_of_ble_eq_true rfl) rfl dX10_clause_143 (fun H locs hI => ?_)
                  obtain rfl := Option.some.inj hf
                  exact x_vret X hI dX10_clause_146
                · have hf := q_in c131 hf
                  obtain rfl := Option.some.inj hf
                  exact x_vret X hI dX10_clause_105
            · have hf := q_ip c123 hf
              refine lv_bipush (pc := 72) (v := 6) hx hb dX10_clause_72 (by decide) ?_
              refine lv_goto (pc := 74) (tgt := 78) hx hb dX10_clause_74 (by decide) ?_
              obtain ⟨t135, e135, hf⟩ := q_ob hf
              refine x_cVs (pc := 78) (st1 := [.int t135.1]) (w1 := (mw G h z_thrown z_s z_kept z_isKept z_moveMany z_moves z_hands z_troubles z_troubleSorts z_troubleNumbers z_asked z_paint z_leasts z_isSeen z_classMany z_types z_typeCounts z_typeMany z_text z_signs t135.2.1 t135.2.2 z_clauses z_at z_letters z_firsts z_seconds z_aside z_sorts z_sizes z_items)) X E hI (c_X10_digits l G h e135) kv_X10_286 hd_X10_digits ⟨rfl, rfl⟩ (by decide) 0 rfl rfl rfl rfl hl.1 rfl (Nat.le_of_ble_eq_true rfl) dX10_clause_78 ⟨Nat.le_of_ble_eq_true rfl, Nat.le_of_ble_eq_true rfl⟩ rfl (fun H locs hI => ?_)
              refine lv_istore_n (pc := 81) (lv' := [(2, .int t135.1), (1, .int t1), (0, .ref (h 0))]) hx hb dX10_clause_81 rfl hl (by decide) rfl (fun ls hl => ?_)
              refine lv_iload_n (pc := 82) hx hb dX10_clause_82 rfl (lv_at hl 1 rfl) ?_
              refine lv_bipush (pc := 83) (v := 119) hx hb dX10_clause_83 (by decide) ?_
              refine lv_icmp_ne (pc := 85) (tgt := 96) hx hb dX10_clause_85 (by decide) (fun c136 => ?_) (fun c136 => ?_)
              · have hf := q_in c136 hf
                refine lv_iconst (pc := 96) (v := 0) hx hb dX10_clause_96 (by decide) ?_
                refine lv_istore_n (pc := 97) (lv' := [(3, .int 0), (2, .int t135.1), (1, .int t1), (0, .ref (h 0))]) hx hb dX10_clause_97 rfl hl (by decide) rfl (fun ls hl => ?_)
                refine lv_aload_n (pc := 98) hx hb dX10_clause_98 rfl (lv_at hl 3 rfl) ?_
                refine x_get (pc := 99) X E hI inX10 0 rfl rfl 21 (by decide) tw_4_10 rfl dX10_clause_99 ?_
                refine lv_if_eq (pc := 102) (tgt := 106) hx hb dX10_clause_102 (by decide) (fun c137 => ?_) (fun c137 => ?_)
                · have hf := q_ip c137 hf
                  refine lv_aload_n (pc := 106) hx hb dX10_clause_106 rfl (lv_at hl 3 rfl) ?_
                  refine x_get (pc := 107) X E hI inX10 0 rfl rfl 24 (by decide) tw_4_13 rfl dX10_clause_107 ?_
                  refine lv_aload_n (pc := 110) hx hb dX10_clause_110 rfl (lv_at hl 3 rfl) ?_
                  refine x_get (pc := 111) X E hI inX10 0 rfl rfl 22 (by decide) tw_4_11 rfl dX10_clause_111 ?_
                  refine lv_iload_n (pc := 114) hx hb dX10_clause_114 rfl (lv_at hl 2 rfl) ?_
                  obtain ⟨t138, e138, hf⟩ := q_ob hf
                  refine x_iast (pc := 115) (w' := (mw G h z_thrown z_s z_kept z_isKept z_moveMany z_moves z_hands z_troubles z_troubleSorts z_troubleNumbers z_asked z_paint z_leasts z_isSeen z_classMany z_types z_typeCounts z_typeMany z_text z_signs t135.2.1 t135.2.2 z_clauses z_at t138 z_firsts z_seconds z_aside z_sorts z_sizes z_items)) X E hI 14 rfl e138 rfl dX10_clause_115 (fun H locs hI => ?_)
                  refine lv_aload_n (pc := 116) hx hb dX10_clause_116 rfl (lv_at hl 3 rfl) ?_
                  refine x_get (pc := 117) X E hI inX10 0 rfl rfl 25 (by decide) tw_4_14 rfl dX10_clause_117 ?_
                  refine lv_aload_n (pc := 120) hx hb dX10_clause_120 rfl (lv_at hl 3 rfl) ?_
                  refine x_get (pc := 121) X E hI inX10 0 rfl rfl 22 (by decide) tw_4_11 rfl dX10_clause_121 ?_
                  refine lv_iload_n (pc := 124) hx hb dX10_clause_124 rfl (lv_at hl 1 rfl) ?_
                  obtain ⟨t139, e139, hf⟩ := q_ob hf
                  refine x_iast (pc := 125) (w' := (mw G h z_thrown z_s z_kept z_isKept z_moveMany z_moves z_hands z_troubles z_troubleSorts z_troubleNumbers z_asked z_paint z_leasts z_isSeen z_classMany z_types z_typeCounts z_typeMany z_text z_signs t135.2.1 t135.2.2 z_clauses z_at t138 t139 z_seconds z_aside z_sorts z_sizes z_items)) X E hI 15 rfl e139 rfl dX10_clause_125 (fun H locs hI => ?_)
                  refine lv_aload_n (pc := 126) hx hb dX10_clause_126 rfl (lv_at hl 3 rfl) ?_
                  refine x_get (pc := 127) X E hI inX10 0 rfl rfl 26 (by decide) tw_4_15 rfl dX10_clause_127 ?_
                  refine lv_aload_n (pc := 130) hx hb dX10_clause_130 rfl (lv_at hl 3 rfl) ?_
                  refine x_get (pc := 131) X E hI inX10 0 rfl rfl 22 (by decide) tw_4_11 rfl dX10_clause_131 ?_
                  refine lv_iload_n (pc := 134) hx hb dX10_clause_134 rfl (lv_at hl 0 rfl) ?_
                  obtain ⟨t140, e140, hf⟩ := q_ob hf
                  refine x_iast (pc := 135) (w' := (mw G h z_thrown z_s z_kept z_isKept z_moveMany z_moves z_hands z_troubles z_troubleSorts z_troubleNumbers z_asked z_paint z_leasts z_isSeen z_classMany z_types z_typeCounts z_typeMany z_text z_signs t135.2.1 t135.2.2 z_clauses z_at t138 t139 t140 z_aside z_sorts z_sizes z_items)) X E hI 16 rfl e140 rfl dX10_clause_135 (fun H locs hI => ?_)
                  refine lv_aload_n (pc := 136) hx hb dX10_clause_136 rfl (lv_at hl 3 rfl) ?_
                  refine lv_dup (pc := 137) hx hb dX10_clause_137 rfl ?_
                  refine x_get (pc := 138) X E hI inX10 0 rfl rfl 22 (by decide) tw_4_11 rfl dX10_clause_138 ?_
                  refine lv_iconst (pc := 141) (v := 1) hx hb dX10_clause_141 (by decide) ?_
                  refine lv_iadd (pc := 142) hx hb dX10_clause_142 ?_
                  refine x_put (pc := 143) (w' := (mw G h z_thrown z_s z_kept z_isKept z_moveMany z_moves z_hands z_troubles z_troubleSorts z_troubleNumbers z_asked z_paint z_leasts z_isSeen z_classMany z_types z_typeCounts z_typeMany z_text z_signs t135.2.1 t135.2.2 (z_clauses + 1) z_at t138 t139 t140 z_aside z_sorts z_sizes z_items)) X E hI inX10 tyX10 tyX10_ok nmX10 0 rfl rfl 22 (by decide) tw_4_11 rfl rfl rfl (Nat.le_of_ble_eq_true rfl) rfl dX10_clause_143 (fun H locs hI => ?_)
                  obtain rfl := Option.some.inj hf
                  exact x_vret X hI dX10_clause_146
                · have hf := q_in c137 hf
                  obtain rfl := Option.some.inj hf
                  exact x_vret X hI dX10_clause_105
              · have hf := q_ip c136 hf
                refine lv_aload_n (pc := 88) hx hb dX10_clause_88 rfl (lv_at hl 2 rfl) ?_
                refine lv_iconst (pc := 89) (v := 1) hx hb dX10_clause_89 (by decide) ?_
                obtain ⟨t141, e141, hf⟩ := q_ob hf
                refine x_cVs (pc := 90) (st1 := [.int t141.1]) (w1 := (mw G h z_thrown z_s z_kept z_isKept z_moveMany z_moves z_hands z_troubles z_troubleSorts z_troubleNumbers z_asked z_paint z_leasts z_isSeen z_classMany z_types z_typeCounts z_typeMany z_text z_signs t141.2.1 t141.2.2 z_clauses z_at z_letters z_firsts z_seconds z_aside z_sorts z_sizes z_items)) X E hI (c_X10_digits l G h e141) kv_X10_286 hd_X10_digits ⟨rfl, rfl⟩ (by decide) 0 rfl rfl rfl rfl hl.1 rfl (Nat.le_of_ble_eq_true rfl) dX10_clause_90 ⟨Nat.le_of_ble_eq_true rfl, Nat.le_of_ble_eq_true rfl⟩ rfl (fun H locs hI => ?_)
                refine lv_goto (pc := 93) (tgt := 97) hx hb dX10_clause_93 (by decide) ?_
                refine lv_istore_n (pc := 97) (lv' := [(3, .int t141.1), (2, .int t135.1), (1, .int t1), (0, .ref (h 0))]) hx hb dX10_clause_97 rfl hl (by decide) rfl (fun ls hl => ?_)
                refine lv_aload_n (pc := 98) hx hb dX10_clause_98 rfl (lv_at hl 3 rfl) ?_
                refine x_get (pc := 99) X E hI inX10 0 rfl rfl 21 (by decide) tw_4_10 rfl dX10_clause_99 ?_
                refine lv_if_eq (pc := 102) (tgt := 106) hx hb dX10_clause_102 (by decide) (fun c142 => ?_) (fun c142 => ?_)
                · have hf := q_ip c142 hf
                  refine lv_aload_n (pc := 106) hx hb dX10_clause_106 rfl (lv_at hl 3 rfl) ?_
                  refine x_get (pc := 107) X E hI inX10 0 rfl rfl 24 (by decide) tw_4_13 rfl dX10_clause_107 ?_
                  refine lv_aload_n (pc := 110) hx hb dX10_clause_110 rfl (lv_at hl 3 rfl) ?_
                  refine x_get (pc := 111) X E hI inX10 0 rfl rfl 22 (by decide) tw_4_11 rfl dX10_clause_111 ?_
                  refine lv_iload_n (pc := 114) hx hb dX10_clause_114 rfl (lv_at hl 2 rfl) ?_
                  obtain ⟨t143, e143, hf⟩ := q_ob hf
                  refine x_iast (pc := 115) (w' := (mw G h z_thrown z_s z_kept z_isKept z_moveMany z_moves z_hands z_troubles z_troubleSorts z_troubleNumbers z_asked z_paint z_leasts z_isSeen z_classMany z_types z_typeCounts z_typeMany z_text z_signs t141.2.1 t141.2.2 z_clauses z_at t143 z_firsts z_seconds z_aside z_sorts z_sizes z_items)) X E hI 14 rfl e143 rfl dX10_clause_115 (fun H locs hI => ?_)
                  refine lv_aload_n (pc := 116) hx hb dX10_clause_116 rfl (lv_at hl 3 rfl) ?_
                  refine x_get (pc := 117) X E hI inX10 0 rfl rfl 25 (by decide) tw_4_14 rfl dX10_clause_117 ?_
                  refine lv_aload_n (pc := 120) hx hb dX10_clause_120 rfl (lv_at hl 3 rfl) ?_
                  refine x_get (pc := 121) X E hI inX10 0 rfl rfl 22 (by decide) tw_4_11 rfl dX10_clause_121 ?_
                  refine lv_iload_n (pc := 124) hx hb dX10_clause_124 rfl (lv_at hl 1 rfl) ?_
                  obtain ⟨t144, e144, hf⟩ := q_ob hf
                  refine x_iast (pc := 125) (w' := (mw G h z_thrown z_s z_kept z_isKept z_moveMany z_moves z_hands z_troubles z_troubleSorts z_troubleNumbers z_asked z_paint z_leasts z_isSeen z_classMany z_types z_typeCounts z_typeMany z_text z_signs t141.2.1 t141.2.2 z_clauses z_at t143 t144 z_seconds z_aside z_sorts z_sizes z_items)) X E hI 15 rfl e144 rfl dX10_clause_125 (fun H locs hI => ?_)
                  refine lv_aload_n (pc := 126) hx hb dX10_clause_126 rfl (lv_at hl 3 rfl) ?_
                  refine x_get (pc := 127) X E hI inX10 0 rfl rfl 26 (by decide) tw_4_15 rfl dX10_clause_127 ?_
                  refine lv_aload_n (pc := 130) hx hb dX10_clause_130 rfl (lv_at hl 3 rfl) ?_
                  refine x_get (pc := 131) X E hI inX10 0 rfl rfl 22 (by decide) tw_4_11 rfl dX10_clause_131 ?_
                  refine lv_iload_n (pc := 134) hx hb dX10_clause_134 rfl (lv_at hl 0 rfl) ?_
                  obtain ⟨t145, e145, hf⟩ := q_ob hf
                  refine x_iast (pc := 135) (w' := (mw G h z_thrown z_s z_kept z_isKept z_moveMany z_moves z_hands z_troubles z_troubleSorts z_troubleNumbers z_asked z_paint z_leasts z_isSeen z_classMany z_types z_typeCounts z_typeMany z_text z_signs t141.2.1 t141.2.2 z_clauses z_at t143 t144 t145 z_aside z_sorts z_sizes z_items)) X E hI 16 rfl e145 rfl dX10_clause_135 (fun H locs hI => ?_)
                  refine lv_aload_n (pc := 136) hx hb dX10_clause_136 rfl (lv_at hl 3 rfl) ?_
                  refine lv_dup (pc := 137) hx hb dX10_clause_137 rfl ?_
                  refine x_get (pc := 138) X E hI inX10 0 rfl rfl 22 (by decide) tw_4_11 rfl dX10_clause_138 ?_
                  refine lv_iconst (pc := 141) (v := 1) hx hb dX10_clause_141 (by decide) ?_
                  refine lv_iadd (pc := 142) hx hb dX10_clause_142 ?_
                  refine x_put (pc := 143) (w' := (mw G h z_thrown z_s z_kept z_isKept z_moveMany z_moves z_hands z_troubles z_troubleSorts z_troubleNumbers z_asked z_paint z_leasts z_isSeen z_classMany z_types z_typeCounts z_typeMany z_text z_signs t141.2.1 t141.2.2 (z_clauses + 1) z_at t143 t144 t145 z_aside z_sorts z_sizes z_items)) X E hI inX10 tyX10 tyX10_ok nmX10 0 rfl rfl 22 (by decide) tw_4_11 rfl rfl rfl (Nat.le_of_ble_eq_true rfl) rfl dX10_clause_143 (fun H locs hI => ?_)
                  obtain rfl := Option.some.inj hf
                  exact x_vret X hI dX10_clause_146
                · have hf := q_in c142 hf
                  obtain rfl := Option.some.inj hf
                  exact x_vret X hI dX10_clause_105
        · have hf := q_in c110 hf
          refine lv_iload_n (pc := 37) hx hb dX10_clause_37 rfl (lv_at hl 0 rfl) ?_
          refine lv_bipush (pc := 38) (v := 109) hx hb dX10_clause_38 (by decide) ?_
          refine lv_icmp_eq (pc := 40) (tgt := 49) hx hb dX10_clause_40 (by decide) (fun c146 => ?_) (fun c146 => ?_)
          · have hf := q_ip c146 hf
            refine lv_aload_n (pc := 49) hx hb dX10_clause_49 rfl (lv_at hl 1 rfl) ?_
            refine lv_dup (pc := 50) hx hb dX10_clause_50 rfl ?_
            refine x_get (pc := 51) X E hI inX10 0 rfl rfl 20 (by decide) tw_4_9 rfl dX10_clause_51 ?_
            refine lv_iconst (pc := 54) (v := 1) hx hb dX10_clause_54 (by decide) ?_
            refine lv_iadd (pc := 55) hx hb dX10_clause_55 ?_
            refine x_put (pc := 56) (w' := (mw G h z_thrown z_s z_kept z_isKept z_moveMany z_moves z_hands z_troubles z_troubleSorts z_troubleNumbers z_asked z_paint z_leasts z_isSeen z_classMany z_types z_typeCounts z_typeMany z_text z_signs (z_at + 1) z_lacks z_clauses z_at z_letters z_firsts z_seconds z_aside z_sorts z_sizes z_items)) X E hI inX10 tyX10 tyX10_ok nmX10 0 rfl rfl 20 (by decide) tw_4_9 rfl rfl rfl (Nat.le_of_ble_eq_true rfl) rfl dX10_clause_56 (fun H locs hI => ?_)
            refine lv_aload_n (pc := 59) hx hb dX10_clause_59 rfl (lv_at hl 1 rfl) ?_
            refine lv_iload_n (pc := 60) hx hb dX10_clause_60 rfl (lv_at hl 0 rfl) ?_
            refine lv_bipush (pc := 61) (v := 116) hx hb dX10_clause_61 (by decide) ?_
            refine lv_icmp_eq (pc := 63) (tgt := 72) hx hb dX10_clause_63 (by decide) (fun c147 => ?_) (fun c147 => ?_)
            · have hf := q_ip c147 hf
              refine lv_bipush (pc := 72) (v := 6) hx hb dX10_clause_72 (by decide) ?_
              refine lv_goto (pc := 74) (tgt := 78) hx hb dX10_clause_74 (by decide) ?_
              obtain ⟨t148, e148, hf⟩ := q_ob hf
              refine x_cVs (pc := 78) (st1 := [.int t148.1]) (w1 := (mw G h z_thrown z_s z_kept z_isKept z_moveMany z_moves z_hands z_troubles z_troubleSorts z_troubleNumbers z_asked z_paint z_leasts z_isSeen z_classMany z_types z_typeCounts z_typeMany z_text z_signs t148.2.1 t148.2.2 z_clauses z_at z_letters z_firsts z_seconds z_aside z_sorts z_sizes z_items)) X E hI (c_X10_digits l G h e148) kv_X10_286 hd_X10_digits ⟨rfl, rfl⟩ (by decide) 0 rfl rfl rfl rfl hl.1 rfl (Nat.le_of_ble_eq_true rfl) dX10_clause_78 ⟨Nat.le_of_ble_eq_true rfl, Nat.le_of_ble_eq_true rfl⟩ rfl (fun H locs hI => ?_)
              refine lv_istore_n (pc := 81) (lv' := [(2, .int t148.1), (1, .int t1), (0, .ref (h 0))]) hx hb dX10_clause_81 rfl hl (by decide) rfl (fun ls hl => ?_)
              refine lv_iload_n (pc := 82) hx hb dX10_clause_82 rfl (lv_at hl 1 rfl) ?_
              refine lv_bipush (pc := 83) (v := 119) hx hb dX10_clause_83 (by decide) ?_
              refine lv_icmp_ne (pc := 85) (tgt := 96) hx hb dX10_clause_85 (by decide) (fun c149 => ?_) (fun c149 => ?_)
              · have hf := q_in c149 hf
                refine lv_iconst (pc := 96) (v := 0) hx hb dX10_clause_96 (by decide) ?_
                refine lv_istore_n (pc := 97) (lv' := [(3, .int 0), (2, .int t148.1), (1, .int t1), (0, .ref (h 0))]) hx hb dX10_clause_97 rfl hl (by decide) rfl (fun ls hl => ?_)
                refine lv_aload_n (pc := 98) hx hb dX10_clause_98 rfl (lv_at hl 3 rfl) ?_
                refine x_get (pc := 99) X E hI inX10 0 rfl rfl 21 (by decide) tw_4_10 rfl dX10_clause_99 ?_
                refine lv_if_eq (pc := 102) (tgt := 106) hx hb dX10_clause_102 (by decide) (fun c150 => ?_) (fun c150 => ?_)
                · have hf := q_ip c150 hf
                  refine lv_aload_n (pc := 106) hx hb dX10_clause_106 rfl (lv_at hl 3 rfl) ?_
                  refine x_get (pc := 107) X E hI inX10 0 rfl rfl 24 (by decide) tw_4_13 rfl dX10_clause_107 ?_
                  refine lv_aload_n (pc := 110) hx hb dX10_clause_110 rfl (lv_at hl 3 rfl) ?_
                  refine x_get (pc := 111) X E hI inX10 0 rfl rfl 22 (by decide) tw_4_11 rfl dX10_clause_111 ?_
                  refine lv_iload_n (pc := 114) hx hb dX10_clause_114 rfl (lv_at hl 2 rfl) ?_
                  obtain ⟨t151, e151, hf⟩ := q_ob hf
                  refine x_iast (pc := 115) (w' := (mw G h z_thrown z_s z_kept z_isKept z_moveMany z_moves z_hands z_troubles z_troubleSorts z_troubleNumbers z_asked z_paint z_leasts z_isSeen z_classMany z_types z_typeCounts z_typeMany z_text z_signs t148.2.1 t148.2.2 z_clauses z_at t151 z_firsts z_seconds z_aside z_sorts z_sizes z_items)) X E hI 14 rfl e151 rfl dX10_clause_115 (fun H locs hI => ?_)
                  refine lv_aload_n (pc := 116) hx hb dX10_clause_116 rfl (lv_at hl 3 rfl) ?_
                  refine x_get (pc := 117) X E hI inX10 0 rfl rfl 25 (by decide) tw_4_14 rfl dX10_clause_117 ?_
                  refine lv_aload_n (pc := 120) hx hb dX10_clause_120 rfl (lv_at hl 3 rfl) ?_
                  refine x_get (pc := 121) X E hI inX10 0 rfl rfl 22 (by decide) tw_4_11 rfl dX10_clause_121 ?_
                  refine lv_iload_n (pc := 124) hx hb dX10_clause_124 rfl (lv_at hl 1 rfl) ?_
                  obtain ⟨t152, e152, hf⟩ := q_ob hf
                  refine x_iast (pc := 125) (w' := (mw G h z_thrown z_s z_kept z_isKept z_moveMany z_moves z_hands z_troubles z_troubleSorts z_troubleNumbers z_asked z_paint z_leasts z_isSeen z_classMany z_types z_typeCounts z_typeMany z_text z_signs t148.2.1 t148.2.2 z_clauses z_at t151 t152 z_seconds z_aside z_sorts z_sizes z_items)) X E hI 15 rfl e152 rfl dX10_clause_125 (fun H locs hI => ?_)
                  refine lv_aload_n (pc := 126) hx hb dX10_clause_126 rfl (lv_at hl 3 rfl) ?_
                  refine x_get (pc := 127) X E hI inX10 0 rfl rfl 26 (by decide) tw_4_15 rfl dX10_clause_127 ?_
                  refine lv_aload_n (pc := 130) hx hb dX10_clause_130 rfl (lv_at hl 3 rfl) ?_
                  refine x_get (pc := 131) X E hI inX10 0 rfl rfl 22 (by decide) tw_4_11 rfl dX10_clause_131 ?_
                  refine lv_iload_n (pc := 134) hx hb dX10_clause_134 rfl (lv_at hl 0 rfl) ?_
                  obtain ⟨t153, e153, hf⟩ := q_ob hf
                  refine x_iast (pc := 135) (w' := (mw G h z_thrown z_s z_kept z_isKept z_moveMany z_moves z_hands z_troubles z_troubleSorts z_troubleNumbers z_asked z_paint z_leasts z_isSeen z_classMany z_types z_typeCounts z_typeMany z_text z_signs t148.2.1 t148.2.2 z_clauses z_at t151 t152 t153 z_aside z_sorts z_sizes z_items)) X E hI 16 rfl e153 rfl dX10_clause_135 (fun H locs hI => ?_)
                  refine lv_aload_n (pc := 136) hx hb dX10_clause_136 rfl (lv_at hl 3 rfl) ?_
                  refine lv_dup (pc := 137) hx hb dX10_clause_137 rfl ?_
                  refine x_get (pc := 138) X E hI inX10 0 rfl rfl 22 (by decide) tw_4_11 rfl dX10_clause_138 ?_
                  refine lv_iconst (pc := 141) (v := 1) hx hb dX10_clause_141 (by decide) ?_
                  refine lv_iadd (pc := 142) hx hb dX10_clause_142 ?_
                  refine x_put (pc := 143) (w' := (mw G h z_thrown z_s z_kept z_isKept z_moveMany z_moves z_hands z_troubles z_troubleSorts z_troubleNumbers z_asked z_paint z_leasts z_isSeen z_classMany z_types z_typeCounts z_typeMany z_text z_signs t148.2.1 t148.2.2 (z_clauses + 1) z_at t151 t152 t153 z_aside z_sorts z_sizes z_items)) X E hI inX10 tyX10 tyX10_ok nmX10 0 rfl rfl 22 (by decide) tw_4_11 rfl rfl rfl (Nat.le_of_ble_eq_true rfl) rfl dX10_clause_143 (fun H locs hI => ?_)
                  obtain rfl := Option.some.inj hf
                  exact x_vret X hI dX10_clause_146
                · have hf := q_in c150 hf
                  obtain rfl := Option.some.inj hf
                  exact x_vret X hI dX10_clause_105
              · have hf := q_ip c149 hf
                refine lv_aload_n (pc := 88) hx hb dX10_clause_88 rfl (lv_at hl 2 rfl) ?_
                refine lv_iconst (pc := 89) (v := 1) hx hb dX10_clause_89 (by decide) ?_
                obtain ⟨t154, e154, hf⟩ := q_ob hf
                refine x_cVs (pc := 90) (st1 := [.int t154.1]) (w1 := (mw G h z_thrown z_s z_kept z_isKept z_moveMany z_moves z_hands z_troubles z_troubleSorts z_troubleNumbers z_asked z_paint z_leasts z_isSeen z_classMany z_types z_typeCounts z_typeMany z_text z_signs t154.2.1 t154.2.2 z_clauses z_at z_letters z_firsts z_seconds z_aside z_sorts z_sizes z_items)) X E hI (c_X10_digits l G h e154) kv_X10_286 hd_X10_digits ⟨rfl, rfl⟩ (by decide) 0 rfl rfl rfl rfl hl.1 rfl (Nat.le_of_ble_eq_true rfl) dX10_clause_90 ⟨Nat.le_of_ble_eq_true rfl, Nat.le_of_ble_eq_true rfl⟩ rfl (fun H locs hI => ?_)
                refine lv_goto (pc := 93) (tgt := 97) hx hb dX10_clause_93 (by decide) ?_
                refine lv_istore_n (pc := 97) (lv' := [(3, .int t154.1), (2, .int t148.1), (1, .int t1), (0, .ref (h 0))]) hx hb dX10_clause_97 rfl hl (by decide) rfl (fun ls hl => ?_)
                refine lv_aload_n (pc := 98) hx hb dX10_clause_98 rfl (lv_at hl 3 rfl) ?_
                refine x_get (pc := 99) X E hI inX10 0 rfl rfl 21 (by decide) tw_4_10 rfl dX10_clause_99 ?_
                refine lv_if_eq (pc := 102) (tgt := 106) hx hb dX10_clause_102 (by decide) (fun c155 => ?_) (fun c155 => ?_)
                · have hf := q_ip c155 hf
                  refine lv_aload_n (pc := 106) hx hb dX10_clause_106 rfl (lv_at hl 3 rfl) ?_
                  refine x_get (pc := 107) X E hI inX10 0 rfl rfl 24 (by decide) tw_4_13 rfl dX10_clause_107 ?_
                  refine lv_aload_n (pc := 110) hx hb dX10_clause_110 rfl (lv_at hl 3 rfl) ?_
                  refine x_get (pc := 111) X E hI inX10 0 rfl rfl 22 (by decide) tw_4_11 rfl dX10_clause_111 ?_
                  refine lv_iload_n (pc := 114) hx hb dX10_clause_114 rfl (lv_at hl 2 rfl) ?_
                  obtain ⟨t156, e156, hf⟩ := q_ob hf
                  refine x_iast (pc := 115) (w' := (mw G h z_thrown z_s z_kept z_isKept z_moveMany z_moves z_hands z_troubles z_troubleSorts z_troubleNumbers z_asked z_paint z_leasts z_isSeen z_classMany z_types z_typeCounts z_typeMany z_text z_signs t154.2.1 t154.2.2 z_clauses z_at t156 z_firsts z_seconds z_aside z_sorts z_sizes z_items)) X E hI 14 rfl e156 rfl dX10_clause_115 (fun H locs hI => ?_)
                  refine lv_aload_n (pc := 116) hx hb dX10_clause_116 rfl (lv_at hl 3 rfl) ?_
                  refine x_get (pc := 117) X E hI inX10 0 rfl rfl 25 (by decide) tw_4_14 rfl dX10_clause_117 ?_
                  refine lv_aload_n (pc := 120) hx hb dX10_clause_120 rfl (lv_at hl 3 rfl) ?_
                  refine x_get (pc := 121) X E hI inX10 0 rfl rfl 22 (by decide) tw_4_11 rfl dX10_clause_121 ?_
                  refine lv_iload_n (pc := 124) hx hb dX10_clause_124 rfl (lv_at hl 1 rfl) ?_
                  obtain ⟨t157, e157, hf⟩ := q_ob hf
                  refine x_iast (pc := 125) (w' := (mw G h z_thrown z_s z_kept z_isKept z_moveMany z_moves z_hands z_troubles z_troubleSorts z_troubleNumbers z_asked z_paint z_leasts z_isSeen z_classMany z_types z_typeCounts z_typeMany z_text z_signs t154.2.1 t154.2.2 z_clauses z_at t156 t157 z_seconds z_aside z_sorts z_sizes z_items)) X E hI 15 rfl e157 rfl dX10_clause_125 (fun H locs hI => ?_)
                  refine lv_aload_n (pc := 126) hx hb dX10_clause_126 rfl (lv_at hl 3 rfl) ?_
                  refine x_get (pc := 127) X E hI inX10 0 rfl rfl 26 (by decide) tw_4_15 rfl dX10_clause_127 ?_
                  refine lv_aload_n (pc := 130) hx hb dX10_clause_130 rfl (lv_at hl 3 rfl) ?_
                  refine x_get (pc := 131) X E hI inX10 0 rfl rfl 22 (by decide) tw_4_11 rfl dX10_clause_131 ?_
                  refine lv_iload_n (pc := 134) hx hb dX10_clause_134 rfl (lv_at hl 0 rfl) ?_
                  obtain ⟨t158, e158, hf⟩ := q_ob hf
                  refine x_iast (pc := 135) (w' := (mw G h z_thrown z_s z_kept z_isKept z_moveMany z_moves z_hands z_troubles z_troubleSorts z_troubleNumbers z_asked z_paint z_leasts z_isSeen z_classMany z_types z_typeCounts z_typeMany z_text z_signs t154.2.1 t154.2.2 z_clauses z_at t156 t157 t158 z_aside z_sorts z_sizes z_items)) X E hI 16 rfl e158 rfl dX10_clause_135 (fun H locs hI => ?_)
                  refine lv_aload_n (pc := 136) hx hb dX10_clause_136 rfl (lv_at hl 3 rfl) ?_
                  refine lv_dup (pc := 137) hx hb dX10_clause_137 rfl ?_
                  refine x_get (pc := 138) X E hI inX10 0 rfl rfl 22 (by decide) tw_4_11 rfl dX10_clause_138 ?_
                  refine lv_iconst (pc := 141) (v := 1) hx hb dX10_clause_141 (by decide) ?_
                  refine lv_iadd (pc := 142) hx hb dX10_clause_142 ?_
                  refine x_put (pc := 143) (w' := (mw G h z_thrown z_s z_kept z_isKept z_moveMany z_moves z_hands z_troubles z_troubleSorts z_troubleNumbers z_asked z_paint z_leasts z_isSeen z_classMany z_types z_typeCounts z_typeMany z_text z_signs t154.2.1 t154.2.2 (z_clauses + 1) z_at t156 t157 t158 z_aside z_sorts z_sizes z_items)) X E hI inX10 tyX10 tyX10_ok nmX10 0 rfl rfl 22 (by decide) tw_4_11 rfl rfl rfl (Nat.le_of_ble_eq_true rfl) rfl dX10_clause_143 (fun H locs hI => ?_)
                  obtain rfl := Option.some.inj hf
                  exact x_vret X hI dX10_clause_146
                · have hf := q_in c155 hf
                  obtain rfl := Option.some.inj hf
                  exact x_vret X hI dX10_clause_105
            · have hf := q_in c147 hf
              refine lv_iload_n (pc := 66) hx hb dX10_clause_66 rfl (lv_at hl 0 rfl) ?_
              refine lv_bipush (pc := 67) (v := 109) hx hb dX10_clause_67 (by decide) ?_
              refine lv_icmp_ne (pc := 69) (tgt := 77) hx hb dX10_clause_69 (by decide) (fun c159 => ?_) (fun c159 => ?_)
              · have hf := q_in c159 hf
                refine lv_iconst (pc := 77) (v := 1) hx hb dX10_clause_77 (by decide) ?_
                obtain ⟨t160, e160, hf⟩ := q_ob hf
                refine x_cVs (pc := 78) (st1 := [.int t160.1]) (w1 := (mw G h z_thrown z_s z_kept z_isKept z_moveMany z_moves z_hands z_troubles z_troubleSorts z_troubleNumbers z_asked z_paint z_leasts z_isSeen z_classMany z_types z_typeCounts z_typeMany z_text z_signs t160.2.1 t160.2.2 z_clauses z_at z_letters z_firsts z_seconds z_aside z_sorts z_sizes z_items)) X E hI (c_X10_digits l G h e160) kv_X10_286 hd_X10_digits ⟨rfl, rfl⟩ (by decide) 0 rfl rfl rfl rfl hl.1 rfl (Nat.le_of_ble_eq_true rfl) dX10_clause_78 ⟨Nat.le_of_ble_eq_true rfl, Nat.le_of_ble_eq_true rfl⟩ rfl (fun H locs hI => ?_)
                refine lv_istore_n (pc := 81) (lv' := [(2, .int t160.1), (1, .int t1), (0, .ref (h 0))]) hx hb dX10_clause_81 rfl hl (by decide) rfl (fun ls hl => ?_)
                refine lv_iload_n (pc := 82) hx hb dX10_clause_82 rfl (lv_at hl 1 rfl) ?_
                refine lv_bipush (pc := 83) (v := 119) hx hb dX10_clause_83 (by decide) ?_
                refine lv_icmp_ne (pc := 85) (tgt := 96) hx hb dX10_clause_85 (by decide) (fun c161 => ?_) (fun c161 => ?_)
                · have hf := q_in c161 hf
                  refine lv_iconst (pc := 96) (v := 0) hx hb dX10_clause_96 (by decide) ?_
                  refine lv_istore_n (pc := 97) (lv' := [(3, .int 0), (2, .int t160.1), (1, .int t1), (0, .ref (h 0))]) hx hb dX10_clause_97 rfl hl (by decide) rfl (fun ls hl => ?_)
                  refine lv_aload_n (pc := 98) hx hb dX10_clause_98 rfl (lv_at hl 3 rfl) ?_
                  refine x_get (pc := 99) X E hI inX10 0 rfl rfl 21 (by decide) tw_4_10 rfl dX10_clause_99 ?_
                  refine lv_if_eq (pc := 102) (tgt := 106) hx hb dX10_clause_102 (by decide) (fun c162 => ?_) (fun c162 => ?_)
                  · have hf := q_ip c162 hf
                    refine lv_aload_n (pc := 106) hx hb dX10_clause_106 rfl (lv_at hl 3 rfl) ?_
                    refine x_get (pc := 107) X E hI inX10 0 rfl rfl 24 (by decide) tw_4_13 rfl dX10_clause_107 ?_
                    refine lv_aload_n (pc := 110) hx hb dX10_clause_110 rfl (lv_at hl 3 rfl) ?_
                    refine x_get (pc := 111) X E hI inX10 0 rfl rfl 22 (by decide) tw_4_11 rfl dX10_clause_111 ?_
                    refine lv_iload_n (pc := 114) hx hb dX10_clause_114 rfl (lv_at hl 2 rfl) ?_
                    obtain ⟨t163, e163, hf⟩ := q_ob hf
                    refine x_iast (pc := 115) (w' := (mw G h z_thrown z_s z_kept z_isKept z_moveMany z_moves z_hands z_troubles z_troubleSorts z_troubleNumbers z_asked z_paint z_leasts z_isSeen z_classMany z_types z_typeCounts z_typeMany z_text z_signs t160.2.1 t160.2.2 z_clauses z_at t163 z_firsts z_seconds z_aside z_sorts z_sizes z_items)) X E hI 14 rfl e163 rfl dX10_clause_115 (fun H locs hI => ?_)
                    refine lv_aload_n (pc := 116) hx hb dX10_clause_116 rfl (lv_at hl 3 rfl) ?_
                    refine x_get (pc := 117) X E hI inX10 0 rfl rfl 25 (by decide) tw_4_14 rfl dX10_clause_117 ?_
                    refine lv_aload_n (pc := 120) hx hb dX10_clause_120 rfl (lv_at hl 3 rfl) ?_
                    refine x_get (pc := 121) X E hI inX10 0 rfl rfl 22 (by decide) tw_4_11 rfl dX10_clause_121 ?_
                    refine lv_iload_n (pc := 124) hx hb dX10_clause_124 rfl (lv_at hl 1 rfl) ?_
                    obtain ⟨t164, e164, hf⟩ := q_ob hf
                    refine x_iast (pc := 125) (w' := (mw G h z_thrown z_s z_kept z_isKept z_moveMany z_moves z_hands z_troubles z_troubleSorts z_troubleNumbers z_asked z_paint z_leasts z_isSeen z_classMany z_types z_typeCounts z_typeMany z_text z_signs t160.2.1 t160.2.2 z_clauses z_at t163 t164 z_seconds z_aside z_sorts z_sizes z_items)) X E hI 15 rfl e164 rfl dX10_clause_125 (fun H locs hI => ?_)
                    refine lv_aload_n (pc := 126) hx hb dX10_clause_126 rfl (lv_at hl 3 rfl) ?_
                    refine x_get (pc := 127) X E hI inX10 0 rfl rfl 26 (by decide) tw_4_15 rfl dX10_clause_127 ?_
                    refine lv_aload_n (pc := 130) hx hb dX10_clause_130 rfl (lv_at hl 3 rfl) ?_
                    refine x_get (pc := 131) X E hI inX10 0 rfl rfl 22 (by decide) tw_4_11 rfl dX10_clause_131 ?_
                    refine lv_iload_n (pc := 134) hx hb dX10_clause_134 rfl (lv_at hl 0 rfl) ?_
                    obtain ⟨t165, e165, hf⟩ := q_ob hf
                    refine x_iast (pc := 135) (w' := (mw G h z_thrown z_s z_kept z_isKept z_moveMany z_moves z_hands z_troubles z_troubleSorts z_troubleNumbers z_asked z_paint z_leasts z_isSeen z_classMany z_types z_typeCounts z_typeMany z_text z_signs t160.2.1 t160.2.2 z_clauses z_at t163 t164 t165 z_aside z_sorts z_sizes z_items)) X E hI 16 rfl e165 rfl dX10_clause_135 (fun H locs hI => ?_)
                    refine lv_aload_n (pc := 136) hx hb dX10_clause_136 rfl (lv_at hl 3 rfl) ?_
                    refine lv_dup (pc := 137) hx hb dX10_clause_137 rfl ?_
                    refine x_get (pc := 138) X E hI inX10 0 rfl rfl 22 (by decide) tw_4_11 rfl dX10_clause_138 ?_
                    refine lv_iconst (pc := 141) (v := 1) hx hb dX10_clause_141 (by decide) ?_
                    refine lv_iadd (pc := 142) hx hb dX10_clause_142 ?_
                    refine x_put (pc := 143) (w' := (mw G h z_thrown z_s z_kept z_isKept z_moveMany z_moves z_hands z_troubles z_troubleSorts z_troubleNumbers z_asked z_paint z_leasts z_isSeen z_classMany z_types z_typeCounts z_typeMany z_text z_signs t160.2.1 t160.2.2 (z_clauses + 1) z_at t163 t164 t165 z_aside z_sorts z_sizes z_items)) X E hI inX10 tyX10 tyX10_ok nmX10 0 rfl rfl 22 (by decide) tw_4_11 rfl rfl rfl (Nat.le_of_ble_eq_true rfl) rfl dX10_clause_143 (fun H locs hI => ?_)
                    obtain rfl := Option.some.inj hf
                    exact x_vret X hI dX10_clause_146
                  · have hf := q_in c162 hf
                    obtain rfl := Option.some.inj hf
                    exact x_vret X hI dX10_clause_105
                · have hf := q_ip c161 hf
                  refine lv_aload_n (pc := 88) hx hb dX10_clause_88 rfl (lv_at hl 2 rfl) ?_
                  refine lv_iconst (pc := 89) (v := 1) hx hb dX10_clause_89 (by decide) ?_
                  obtain ⟨t166, e166, hf⟩ := q_ob hf
                  refine x_cVs (pc := 90) (st1 := [.int t166.1]) (w1 := (mw G h z_thrown z_s z_kept z_isKept z_moveMany z_moves z_hands z_troubles z_troubleSorts z_troubleNumbers z_asked z_paint z_leasts z_isSeen z_classMany z_types z_typeCounts z_typeMany z_text z_signs t166.2.1 t166.2.2 z_clauses z_at z_letters z_firsts z_seconds z_aside z_sorts z_sizes z_items)) X E hI (c_X10_digits l G h e166) kv_X10_286 hd_X10_digits ⟨rfl, rfl⟩ (by decide) 0 rfl rfl rfl rfl hl.1 rfl (Nat.le_of_ble_eq_true rfl) dX10_clause_90 ⟨Nat.le_of_ble_eq_true rfl, Nat.le_of_ble_eq_true rfl⟩ rfl (fun H locs hI => ?_)
                  refine lv_goto (pc := 93) (tgt := 97) hx hb dX10_clause_93 (by decide) ?_
                  refine lv_istore_n (pc := 97) (lv' := [(3, .int t166.1), (2, .int t160.1), (1, .int t1), (0, .ref (h 0))]) hx hb dX10_clause_97 rfl hl (by decide) rfl (fun ls hl => ?_)
                  refine lv_aload_n (pc := 98) hx hb dX10_clause_98 rfl (lv_at hl 3 rfl) ?_
                  refine x_get (pc := 99) X E hI inX10 0 rfl rfl 21 (by decide) tw_4_10 rfl dX10_clause_99 ?_
                  refine lv_if_eq (pc := 102) (tgt := 106) hx hb dX10_clause_102 (by decide) (fun c167 => ?_) (fun c167 => ?_)
                  · have hf := q_ip c167 hf
                    refine lv_aload_n (pc := 106) hx hb dX10_clause_106 rfl (lv_at hl 3 rfl) ?_
                    refine x_get (pc := 107) X E hI inX10 0 rfl rfl 24 (by decide) tw_4_13 rfl dX10_clause_107 ?_
                    refine lv_aload_n (pc := 110) hx hb dX10_clause_110 rfl (lv_at hl 3 rfl) ?_
                    refine x_get (pc := 111) X E hI inX10 0 rfl rfl 22 (by decide) tw_4_11 rfl dX10_clause_111 ?_
                    refine lv_iload_n (pc := 114) hx hb dX10_clause_114 rfl (lv_at hl 2 rfl) ?_
                    obtain ⟨t168, e168, hf⟩ := q_ob hf
                    refine x_iast (pc := 115) (w' := (mw G h z_thrown z_s z_kept z_isKept z_moveMany z_moves z_hands z_troubles z_troubleSorts z_troubleNumbers z_asked z_paint z_leasts z_isSeen z_classMany z_types z_typeCounts z_typeMany z_text z_signs t166.2.1 t166.2.2 z_clauses z_at t168 z_firsts z_seconds z_aside z_sorts z_sizes z_items)) X E hI 14 rfl e168 rfl dX10_clause_115 (fun H locs hI => ?_)
                    refine lv_aload_n (pc := 116) hx hb dX10_clause_116 rfl (lv_at hl 3 rfl) ?_
                    refine x_get (pc := 117) X E hI inX10 0 rfl rfl 25 (by decide) tw_4_14 rfl dX10_clause_117 ?_
                    refine lv_aload_n (pc := 120) hx hb dX10_clause_120 rfl (lv_at hl 3 rfl) ?_
                    refine x_get (pc := 121) X E hI inX10 0 rfl rfl 22 (by decide) tw_4_11 rfl dX10_clause_121 ?_
                    refine lv_iload_n (pc := 124) hx hb dX10_clause_124 rfl (lv_at hl 1 rfl) ?_
                    obtain ⟨t169, e169, hf⟩ := q_ob hf
                    refine x_iast (pc := 125) (w' := (mw G h z_thrown z_s z_kept z_isKept z_moveMany z_moves z_hands z_troubles z_troubleSorts z_troubleNumbers z_asked z_paint z_leasts z_isSeen z_classMany z_types z_typeCounts z_typeMany z_text z_signs t166.2.1 t166.2.2 z_clauses z_at t168 t169 z_seconds z_aside z_sorts z_sizes z_items)) X E hI 15 rfl e169 rfl dX10_clause_125 (fun H locs hI => ?_)
                    refine lv_aload_n (pc := 126) hx hb dX10_clause_126 rfl (lv_at hl 3 rfl) ?_
                    refine x_get (pc := 127) X E hI inX10 0 rfl rfl 26 (by decide) tw_4_15 rfl dX10_clause_127 ?_
                    refine lv_aload_n (pc := 130) hx hb dX10_clause_130 rfl (lv_at hl 3 rfl) ?_
                    refine x_get (pc := 131) X E hI inX10 0 rfl rfl 22 (by decide) tw_4_11 rfl dX10_clause_131 ?_
                    refine lv_iload_n (pc := 134) hx hb dX10_clause_134 rfl (lv_at hl 0 rfl) ?_
                    obtain ⟨t170, e170, hf⟩ := q_ob hf
                    refine x_iast (pc := 135) (w' := (mw G h z_thrown z_s z_kept z_isKept z_moveMany z_moves z_hands z_troubles z_troubleSorts z_troubleNumbers z_asked z_paint z_leasts z_isSeen z_classMany z_types z_typeCounts z_typeMany z_text z_signs t166.2.1 t166.2.2 z_clauses z_at t168 t169 t170 z_aside z_sorts z_sizes z_items)) X E hI 16 rfl e170 rfl dX10_clause_135 (fun H locs hI => ?_)
                    refine lv_aload_n (pc := 136) hx hb dX10_clause_136 rfl (lv_at hl 3 rfl) ?_
                    refine lv_dup (pc := 137) hx hb dX10_clause_137 rfl ?_
                    refine x_get (pc := 138) X E hI inX10 0 rfl rfl 22 (by decide) tw_4_11 rfl dX10_clause_138 ?_
                    refine lv_iconst (pc := 141) (v := 1) hx hb dX10_clause_141 (by decide) ?_
                    refine lv_iadd (pc := 142) hx hb dX10_clause_142 ?_
                    refine x_put (pc := 143) (w' := (mw G h z_thrown z_s z_kept z_isKept z_moveMany z_moves z_hands z_troubles z_troubleSorts z_troubleNumbers z_asked z_paint z_leasts z_isSeen z_classMany z_types z_typeCounts z_typeMany z_text z_signs t166.2.1 t166.2.2 (z_clauses + 1) z_at t168 t169 t170 z_aside z_sorts z_sizes z_items)) X E hI inX10 tyX10 tyX10_ok nmX10 0 rfl rfl 22 (by decide) tw_4_11 rfl rfl rfl (Nat.le_of_ble_eq_true rfl) rfl dX10_clause_143 (fun H locs hI => ?_)
                    obtain rfl := Option.some.inj hf
                    exact x_vret X hI dX10_clause_146
                  · have hf := q_in c167 hf
                    obtain rfl := Option.some.inj hf
                    exact x_vret X hI dX10_clause_105
              · have hf := q_ip c159 hf
                refine lv_bipush (pc := 72) (v := 6) hx hb dX10_clause_72 (by decide) ?_
                refine lv_goto (pc := 74) (tgt := 78) hx hb dX10_clause_74 (by decide) ?_
                obtain ⟨t171, e171, hf⟩ := q_ob hf
                refine x_cVs (pc := 78) (st1 := [.int t171.1]) (w1 := (mw G h z_thrown z_s z_kept z_isKept z_moveMany z_moves z_hands z_troubles z_troubleSorts z_troubleNumbers z_asked z_paint z_leasts z_isSeen z_classMany z_types z_typeCounts z_typeMany z_text z_signs t171.2.1 t171.2.2 z_clauses z_at z_letters z_firsts z_seconds z_aside z_sorts z_sizes z_items)) X E hI (c_X10_digits l G h e171) kv_X10_286 hd_X10_digits ⟨rfl, rfl⟩ (by decide) 0 rfl rfl rfl rfl hl.1 rfl (Nat.le_of_ble_eq_true rfl) dX10_clause_78 ⟨Nat.le_of_ble_eq_true rfl, Nat.le_of_ble_eq_true rfl⟩ rfl (fun H locs hI => ?_)
                refine lv_istore_n (pc := 81) (lv' := [(2, .int t171.1), (1, .int t1), (0, .ref (h 0))]) hx hb dX10_clause_81 rfl hl (by decide) rfl (fun ls hl => ?_)
                refine lv_iload_n (pc := 82) hx hb dX10_clause_82 rfl (lv_at hl 1 rfl) ?_
                refine lv_bipush (pc := 83) (v := 119) hx hb dX10_clause_83 (by decide) ?_
                refine lv_icmp_ne (pc := 85) (tgt := 96) hx hb dX10_clause_85 (by decide) (fun c172 => ?_) (fun c172 => ?_)
                · have hf := q_in c172 hf
                  refine lv_iconst (pc := 96) (v := 0) hx hb dX10_clause_96 (by decide) ?_
                  refine lv_istore_n (pc := 97) (lv' := [(3, .int 0), (2, .int t171.1), (1, .int t1), (0, .ref (h 0))]) hx hb dX10_clause_97 rfl hl (by decide) rfl (fun ls hl => ?_)
                  refine lv_aload_n (pc := 98) hx hb dX10_clause_98 rfl (lv_at hl 3 rfl) ?_
                  refine x_get (pc := 99) X E hI inX10 0 rfl rfl 21 (by decide) tw_4_10 rfl dX10_clause_99 ?_
                  refine lv_if_eq (pc := 102) (tgt := 106) hx hb dX10_clause_102 (by decide) (fun c173 => ?_) (fun c173 => ?_)
                  · have hf := q_ip c173 hf
                    refine lv_aload_n (pc := 106) hx hb dX10_clause_106 rfl (lv_at hl 3 rfl) ?_
                    refine x_get (pc := 107) X E hI inX10 0 rfl rfl 24 (by decide) tw_4_13 rfl dX10_clause_107 ?_
                    refine lv_aload_n (pc := 110) hx hb dX10_clause_110 rfl (lv_at hl 3 rfl) ?_
                    refine x_get (pc := 111) X E hI inX10 0 rfl rfl 22 (by decide) tw_4_11 rfl dX10_clause_111 ?_
                    refine lv_iload_n (pc := 114) hx hb dX10_clause_114 rfl (lv_at hl 2 rfl) ?_
                    obtain ⟨t174, e174, hf⟩ := q_ob hf
                    refine x_iast (pc := 115) (w' := (mw G h z_thrown z_s z_kept z_isKept z_moveMany z_moves z_hands z_troubles z_troubleSorts z_troubleNumbers z_asked z_paint z_leasts z_isSeen z_classMany z_types z_typeCounts z_typeMany z_text z_signs t171.2.1 t171.2.2 z_clauses z_at t174 z_firsts z_seconds z_aside z_sorts z_sizes z_items)) X E hI 14 rfl e174 rfl dX10_clause_115 (fun H locs hI => ?_)
                    refine lv_aload_n (pc := 116) hx hb dX10_clause_116 rfl (lv_at hl 3 rfl) ?_
                    refine x_get (pc := 117) X E hI inX10 0 rfl rfl 25 (by decide) tw_4_14 rfl dX10_clause_117 ?_
                    refine lv_aload_n (pc := 120) hx hb dX10_clause_120 rfl (lv_at hl 3 rfl) ?_
                    refine x_get (pc := 121) X E hI inX10 0 rfl rfl 22 (by decide) tw_4_11 rfl dX10_clause_121 ?_
                    refine lv_iload_n (pc := 124) hx hb dX10_clause_124 rfl (lv_at hl 1 rfl) ?_
                    obtain ⟨t175, e175, hf⟩ := q_ob hf
                    refine x_iast (pc := 125) (w' := (mw G h z_thrown z_s z_kept z_isKept z_moveMany z_moves z_hands z_troubles z_troubleSorts z_troubleNumbers z_asked z_paint z_leasts z_isSeen z_classMany z_types z_typeCounts z_typeMany z_text z_signs t171.2.1 t171.2.2 z_clauses z_at t174 t175 z_seconds z_aside z_sorts z_sizes z_items)) X E hI 15 rfl e175 rfl dX10_clause_125 (fun H locs hI => ?_)
                    refine lv_aload_n (pc := 126) hx hb dX10_clause_126 rfl (lv_at hl 3 rfl) ?_
                    refine x_get (pc := 127) X E hI inX10 0 rfl rfl 26 (by decide) tw_4_15 rfl dX10_clause_127 ?_
                    refine lv_aload_n (pc := 130) hx hb dX10_clause_130 rfl (lv_at hl 3 rfl) ?_
                    refine x_get (pc := 131) X E hI inX10 0 rfl rfl 22 (by decide) tw_4_11 rfl dX10_clause_131 ?_
                    refine lv_iload_n (pc := 134) hx hb dX10_clause_134 rfl (lv_at hl 0 rfl) ?_
                    obtain ⟨t176, e176, hf⟩ := q_ob hf
                    refine x_iast (pc := 135) (w' := (mw G h z_thrown z_s z_kept z_isKept z_moveMany z_moves z_hands z_troubles z_troubleSorts z_troubleNumbers z_asked z_paint z_leasts z_isSeen z_classMany z_types z_typeCounts z_typeMany z_text z_signs t171.2.1 t171.2.2 z_clauses z_at t174 t175 t176 z_aside z_sorts z_sizes z_items)) X E hI 16 rfl e176 rfl dX10_clause_135 (fun H locs hI => ?_)
                    refine lv_aload_n (pc := 136) hx hb dX10_clause_136 rfl (lv_at hl 3 rfl) ?_
                    refine lv_dup (pc := 137) hx hb dX10_clause_137 rfl ?_
                    refine x_get (pc := 138) X E hI inX10 0 rfl rfl 22 (by decide) tw_4_11 rfl dX10_clause_138 ?_
                    refine lv_iconst (pc := 141) (v := 1) hx hb dX10_clause_141 (by decide) ?_
                    refine lv_iadd (pc := 142) hx hb dX10_clause_142 ?_
                    refine x_put (pc := 143) (w' := (mw G h z_thrown z_s z_kept z_isKept z_moveMany z_moves z_hands z_troubles z_troubleSorts z_troubleNumbers z_asked z_paint z_leasts z_isSeen z_classMany z_types z_typeCounts z_typeMany z_text z_signs t171.2.1 t171.2.2 (z_clauses + 1) z_at t174 t175 t176 z_aside z_sorts z_sizes z_items)) X E hI inX10 tyX10 tyX10_ok nmX10 0 rfl rfl 22 (by decide) tw_4_11 rfl rfl rfl (Nat.le_of_ble_eq_true rfl) rfl dX10_clause_143 (fun H locs hI => ?_)
                    obtain rfl := Option.some.inj hf
                    exact x_vret X hI dX10_clause_146
                  · have hf := q_in c173 hf
                    obtain rfl := Option.some.inj hf
                    exact x_vret X hI dX10_clause_105
                · have hf := q_ip c172 hf
                  refine lv_aload_n (pc := 88) hx hb dX10_clause_88 rfl (lv_at hl 2 rfl) ?_
                  refine lv_iconst (pc := 89) (v := 1) hx hb dX10_clause_89 (by decide) ?_
                  obtain ⟨t177, e177, hf⟩ := q_ob hf
                  refine x_cVs (pc := 90) (st1 := [.int t177.1]) (w1 := (mw G h z_thrown z_s z_kept z_isKept z_moveMany z_moves z_hands z_troubles z_troubleSorts z_troubleNumbers z_asked z_paint z_leasts z_isSeen z_classMany z_types z_typeCounts z_typeMany z_text z_signs t177.2.1 t177.2.2 z_clauses z_at z_letters z_firsts z_seconds z_aside z_sorts z_sizes z_items)) X E hI (c_X10_digits l G h e177) kv_X10_286 hd_X10_digits ⟨rfl, rfl⟩ (by decide) 0 rfl rfl rfl rfl hl.1 rfl (Nat.le_of_ble_eq_true rfl) dX10_clause_90 ⟨Nat.le_of_ble_eq_true rfl, Nat.le_of_ble_eq_true rfl⟩ rfl (fun H locs hI => ?_)
                  refine lv_goto (pc := 93) (tgt := 97) hx hb dX10_clause_93 (by decide) ?_
                  refine lv_istore_n (pc := 97) (lv' := [(3, .int t177.1), (2, .int t171.1), (1, .int t1), (0, .ref (h 0))]) hx hb dX10_clause_97 rfl hl (by decide) rfl (fun ls hl => ?_)
                  refine lv_aload_n (pc := 98) hx hb dX10_clause_98 rfl (lv_at hl 3 rfl) ?_
                  refine x_get (pc := 99) X E hI inX10 0 rfl rfl 21 (by decide) tw_4_10 rfl dX10_clause_99 ?_
                  refine lv_if_eq (pc := 102) (tgt := 106) hx hb dX10_clause_102 (by decide) (fun c178 => ?_) (fun c178 => ?_)
                  · have hf := q_ip c178 hf
                    refine lv_aload_n (pc := 106) hx hb dX10_clause_106 rfl (lv_at hl 3 rfl) ?_
                    refine x_get (pc := 107) X E hI inX10 0 rfl rfl 24 (by decide) tw_4_13 rfl dX10_clause_107 ?_
                    refine lv_aload_n (pc := 110) hx hb dX10_clause_110 rfl (lv_at hl 3 rfl) ?_
                    refine x_get (pc := 111) X E hI inX10 0 rfl rfl 22 (by decide) tw_4_11 rfl dX10_clause_111 ?_
                    refine lv_iload_n (pc := 114) hx hb dX10_clause_114 rfl (lv_at hl 2 rfl) ?_
                    obtain ⟨t179, e179, hf⟩ := q_ob hf
                    refine x_iast (pc := 115) (w' := (mw G h z_thrown z_s z_kept z_isKept z_moveMany z_moves z_hands z_troubles z_troubleSorts z_troubleNumbers z_asked z_paint z_leasts z_isSeen z_classMany z_types z_typeCounts z_typeMany z_text z_signs t177.2.1 t177.2.2 z_clauses z_at t179 z_firsts z_seconds z_aside z_sorts z_sizes z_items)) X E hI 14 rfl e179 rfl dX10_clause_115 (fun H locs hI => ?_)
                    refine lv_aload_n (pc := 116) hx hb dX10_clause_116 rfl (lv_at hl 3 rfl) ?_
                    refine x_get (pc := 117) X E hI inX10 0 rfl rfl 25 (by decide) tw_4_14 rfl dX10_clause_117 ?_
                    refine lv_aload_n (pc := 120) hx hb dX10_clause_120 rfl (lv_at hl 3 rfl) ?_
                    refine x_get (pc := 121) X E hI inX10 0 rfl rfl 22 (by decide) tw_4_11 rfl dX10_clause_121 ?_
                    refine lv_iload_n (pc := 124) hx hb dX10_clause_124 rfl (lv_at hl 1 rfl) ?_
                    obtain ⟨t180, e180, hf⟩ := q_ob hf
                    refine x_iast (pc := 125) (w' := (mw G h z_thrown z_s z_kept z_isKept z_moveMany z_moves z_hands z_troubles z_troubleSorts z_troubleNumbers z_asked z_paint z_leasts z_isSeen z_classMany z_types z_typeCounts z_typeMany z_text z_signs t177.2.1 t177.2.2 z_clauses z_at t179 t180 z_seconds z_aside z_sorts z_sizes z_items)) X E hI 15 rfl e180 rfl dX10_clause_125 (fun H locs hI => ?_)
                    refine lv_aload_n (pc := 126) hx hb dX10_clause_126 rfl (lv_at hl 3 rfl) ?_
                    refine x_get (pc := 127) X E hI inX10 0 rfl rfl 26 (by decide) tw_4_15 rfl dX10_clause_127 ?_
                    refine lv_aload_n (pc := 130) hx hb dX10_clause_130 rfl (lv_at hl 3 rfl) ?_
                    refine x_get (pc := 131) X E hI inX10 0 rfl rfl 22 (by decide) tw_4_11 rfl dX10_clause_131 ?_
                    refine lv_iload_n (pc := 134) hx hb dX10_clause_134 rfl (lv_at hl 0 rfl) ?_
                    obtain ⟨t181, e181, hf⟩ := q_ob hf
                    refine x_iast (pc := 135) (w' := (mw G h z_thrown z_s z_kept z_isKept z_moveMany z_moves z_hands z_troubles z_troubleSorts z_troubleNumbers z_asked z_paint z_leasts z_isSeen z_classMany z_types z_typeCounts z_typeMany z_text z_signs t177.2.1 t177.2.2 z_clauses z_at t179 t180 t181 z_aside z_sorts z_sizes z_items)) X E hI 16 rfl e181 rfl dX10_clause_135 (fun H locs hI => ?_)
                    refine lv_aload_n (pc := 136) hx hb dX10_clause_136 rfl (lv_at hl 3 rfl) ?_
                    refine lv_dup (pc := 137) hx hb dX10_clause_137 rfl ?_
                    refine x_get (pc := 138) X E hI inX10 0 rfl rfl 22 (by decide) tw_4_11 rfl dX10_clause_138 ?_
                    refine lv_iconst (pc := 141) (v := 1) hx hb dX10_clause_141 (by decide) ?_
                    refine lv_iadd (pc := 142) hx hb dX10_clause_142 ?_
                    refine x_put (pc := 143) (w' := (mw G h z_thrown z_s z_kept z_isKept z_moveMany z_moves z_hands z_troubles z_troubleSorts z_troubleNumbers z_asked z_paint z_leasts z_isSeen z_classMany z_types z_typeCounts z_typeMany z_text z_signs t177.2.1 t177.2.2 (z_clauses + 1) z_at t179 t180 t181 z_aside z_sorts z_sizes z_items)) X E hI inX10 tyX10 tyX10_ok nmX10 0 rfl rfl 22 (by decide) tw_4_11 rfl rfl rfl (Nat.le_of_ble_eq_true rfl) rfl dX10_clause_143 (fun H locs hI => ?_)
                    obtain rfl := Option.some.inj hf
                    exact x_vret X hI dX10_clause_146
                  · have hf := q_in c178 hf
                    obtain rfl := Option.some.inj hf
                    exact x_vret X hI dX10_clause_105
          · have hf := q_in c146 hf
            refine lv_aload_n (pc := 43) hx hb dX10_clause_43 rfl (lv_at hl 1 rfl) ?_
            refine lv_iconst (pc := 44) (v := 4) hx hb dX10_clause_44 (by decide) ?_
            refine x_put (pc := 45) (w' := (mw G h z_thrown z_s z_kept z_isKept z_moveMany z_moves z_hands z_troubles z_troubleSorts z_troubleNumbers z_asked z_paint z_leasts z_isSeen z_classMany z_types z_typeCounts z_typeMany z_text z_signs z_at 4 z_clauses z_at z_letters z_firsts z_seconds z_aside z_sorts z_sizes z_items)) X E hI inX10 tyX10 tyX10_ok nmX10 0 rfl rfl 21 (by decide) tw_4_10 rfl rfl rfl (Nat.le_of_ble_eq_true rfl) rfl dX10_clause_45 (fun H locs hI => ?_)
            obtain rfl := Option.some.inj hf
            exact x_vret X hI dX10_clause_48

